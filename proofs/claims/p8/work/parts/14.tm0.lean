def tx_X7_anew : ev_X := fun _ _ => some none
noncomputable def tb_X7_anew (X : ev_E) : List (Nat × (ev_S → ev_N)) := [(0, i_al 0 1), (1, i_il 1 2), (2, i_pf 12 1 (.boolean) 5), (5, i_al 0 6), (6, i_il 2 7), (7, i_pf 12 2 (.int) 10), (10, i_al 0 11), (11, i_psh (.int (0)) 12), (12, i_pf 12 3 (.int) 15), (15, i_al 0 16), (16, i_psh (.int (-1)) 17), (17, i_pf 12 4 (.int) 20), (20, i_vr)]
theorem s_X7_anew_0 {X : ev_E} {l : Launch} (hG : ev_Good X) (hl : l.stackTraces = false) : ev_Snd X l ev_ms x_X7_anew tx_X7_anew 0 (i_al 0 1) := s_aload_n dX7_anew_0 rfl
theorem s_X7_anew_1 {X : ev_E} {l : Launch} (hG : ev_Good X) (hl : l.stackTraces = false) : ev_Snd X l ev_ms x_X7_anew tx_X7_anew 1 (i_il 1 2) := s_iload_n dX7_anew_1 rfl
theorem s_X7_anew_2 {X : ev_E} {l : Launch} (hG : ev_Good X) (hl : l.stackTraces = false) : ev_Snd X l ev_ms x_X7_anew tx_X7_anew 2 (i_pf 12 1 (.boolean) 5) := s_putfield hG (ci := 12) (r := (RX7, TX7, 9)) rfl cw_12 ap_12 (k := 1) (Nat.le_of_ble_eq_true rfl) rfl (by decide +kernel) w_1223 rfl (Or.inl rfl) dX7_anew_2
theorem s_X7_anew_5 {X : ev_E} {l : Launch} (hG : ev_Good X) (hl : l.stackTraces = false) : ev_Snd X l ev_ms x_X7_anew tx_X7_anew 5 (i_al 0 6) := s_aload_n dX7_anew_5 rfl
theorem s_X7_anew_6 {X : ev_E} {l : Launch} (hG : ev_Good X) (hl : l.stackTraces = false) : ev_Snd X l ev_ms x_X7_anew tx_X7_anew 6 (i_il 2 7) := s_iload_n dX7_anew_6 rfl
theorem s_X7_anew_7 {X : ev_E} {l : Launch} (hG : ev_Good X) (hl : l.stackTraces = false) : ev_Snd X l ev_ms x_X7_anew tx_X7_anew 7 (i_pf 12 2 (.int) 10) := s_putfield hG (ci := 12) (r := (RX7, TX7, 9)) rfl cw_12 ap_12 (k := 2) (Nat.le_of_ble_eq_true rfl) rfl (by decide +kernel) w_1225 rfl (Or.inl rfl) dX7_anew_7
theorem s_X7_anew_10 {X : ev_E} {l : Launch} (hG : ev_Good X) (hl : l.stackTraces = false) : ev_Snd X l ev_ms x_X7_anew tx_X7_anew 10 (i_al 0 11) := s_aload_n dX7_anew_10 rfl
theorem s_X7_anew_11 {X : ev_E} {l : Launch} (hG : ev_Good X) (hl : l.stackTraces = false) : ev_Snd X l ev_ms x_X7_anew tx_X7_anew 11 (i_psh (.int (0)) 12) := s_iconst dX7_anew_11 rfl
theorem s_X7_anew_12 {X : ev_E} {l : Launch} (hG : ev_Good X) (hl : l.stackTraces = false) : ev_Snd X l ev_ms x_X7_anew tx_X7_anew 12 (i_pf 12 3 (.int) 15) := s_putfield hG (ci := 12) (r := (RX7, TX7, 9)) rfl cw_12 ap_12 (k := 3) (Nat.le_of_ble_eq_true rfl) rfl (by decide +kernel) w_1227 rfl (Or.inl rfl) dX7_anew_12
theorem s_X7_anew_15 {X : ev_E} {l : Launch} (hG : ev_Good X) (hl : l.stackTraces = false) : ev_Snd X l ev_ms x_X7_anew tx_X7_anew 15 (i_al 0 16) := s_aload_n dX7_anew_15 rfl
theorem s_X7_anew_16 {X : ev_E} {l : Launch} (hG : ev_Good X) (hl : l.stackTraces = false) : ev_Snd X l ev_ms x_X7_anew tx_X7_anew 16 (i_psh (.int (-1)) 17) := s_iconst dX7_anew_16 rfl
theorem s_X7_anew_17 {X : ev_E} {l : Launch} (hG : ev_Good X) (hl : l.stackTraces = false) : ev_Snd X l ev_ms x_X7_anew tx_X7_anew 17 (i_pf 12 4 (.int) 20) := s_putfield hG (ci := 12) (r := (RX7, TX7, 9)) rfl cw_12 ap_12 (k := 4) (Nat.le_of_ble_eq_true rfl) rfl (by decide +kernel) w_1229 rfl (Or.inl rfl) dX7_anew_17
theorem s_X7_anew_20 {X : ev_E} {l : Launch} (hG : ev_Good X) (hl : l.stackTraces = false) : ev_Snd X l ev_ms x_X7_anew tx_X7_anew 20 (i_vr) := s_return rfl dX7_anew_20
theorem sa_X7_anew {X : ev_E} {l : Launch} (hG : ev_Good X) (hl : l.stackTraces = false) : ∀ q ∈ tb_X7_anew X, ev_Snd X l ev_ms x_X7_anew tx_X7_anew q.1 q.2 := by
  intro q hq
  unfold tb_X7_anew at hq
  simp only [List.mem_cons, List.not_mem_nil, or_false] at hq
  rcases hq with rfl | rfl | rfl | rfl | rfl | rfl | rfl | rfl | rfl | rfl | rfl | rfl | rfl
  · exact s_X7_anew_0 hG hl
  · exact s_X7_anew_1 hG hl
  · exact s_X7_anew_2 hG hl
  · exact s_X7_anew_5 hG hl
  · exact s_X7_anew_6 hG hl
  · exact s_X7_anew_7 hG hl
  · exact s_X7_anew_10 hG hl
  · exact s_X7_anew_11 hG hl
  · exact s_X7_anew_12 hG hl
  · exact s_X7_anew_15 hG hl
  · exact s_X7_anew_16 hG hl
  · exact s_X7_anew_17 hG hl
  · exact s_X7_anew_20 hG hl
def tx_X7_isOn : ev_X := fun _ _ => some none
noncomputable def tb_X7_isOn (X : ev_E) : List (Nat × (ev_S → ev_N)) := [(0, i_al 0 1), (1, i_gf X 12 5 4), (4, i_psh (.int (-1)) 5), (5, i_iceq 19 8), (8, i_al 0 9), (9, i_gf X 12 8 12), (12, i_ifne 19 15), (15, i_psh (.int (1)) 16), (16, i_goto 20), (19, i_psh (.int (0)) 20), (20, i_ir (.boolean))]
theorem s_X7_isOn_0 {X : ev_E} {l : Launch} (hG : ev_Good X) (hl : l.stackTraces = false) : ev_Snd X l ev_ms x_X7_isOn tx_X7_isOn 0 (i_al 0 1) := s_aload_n dX7_isOn_0 rfl
theorem s_X7_isOn_1 {X : ev_E} {l : Launch} (hG : ev_Good X) (hl : l.stackTraces = false) : ev_Snd X l ev_ms x_X7_isOn tx_X7_isOn 1 (i_gf X 12 5 4) := s_getfield hG (ci := 12) (r := (RX7, TX7, 9)) rfl cw_12 (k := 5) (Nat.le_of_ble_eq_true rfl) w_1231 rfl (Or.inl rfl) dX7_isOn_1
theorem s_X7_isOn_4 {X : ev_E} {l : Launch} (hG : ev_Good X) (hl : l.stackTraces = false) : ev_Snd X l ev_ms x_X7_isOn tx_X7_isOn 4 (i_psh (.int (-1)) 5) := s_iconst dX7_isOn_4 rfl
theorem s_X7_isOn_5 {X : ev_E} {l : Launch} (hG : ev_Good X) (hl : l.stackTraces = false) : ev_Snd X l ev_ms x_X7_isOn tx_X7_isOn 5 (i_iceq 19 8) := s_iceq dX7_isOn_5 rfl
theorem s_X7_isOn_8 {X : ev_E} {l : Launch} (hG : ev_Good X) (hl : l.stackTraces = false) : ev_Snd X l ev_ms x_X7_isOn tx_X7_isOn 8 (i_al 0 9) := s_aload_n dX7_isOn_8 rfl
theorem s_X7_isOn_9 {X : ev_E} {l : Launch} (hG : ev_Good X) (hl : l.stackTraces = false) : ev_Snd X l ev_ms x_X7_isOn tx_X7_isOn 9 (i_gf X 12 8 12) := s_getfield hG (ci := 12) (r := (RX7, TX7, 9)) rfl cw_12 (k := 8) (Nat.le_of_ble_eq_true rfl) w_1237 rfl (Or.inl rfl) dX7_isOn_9
theorem s_X7_isOn_12 {X : ev_E} {l : Launch} (hG : ev_Good X) (hl : l.stackTraces = false) : ev_Snd X l ev_ms x_X7_isOn tx_X7_isOn 12 (i_ifne 19 15) := s_ifne dX7_isOn_12 rfl
theorem s_X7_isOn_15 {X : ev_E} {l : Launch} (hG : ev_Good X) (hl : l.stackTraces = false) : ev_Snd X l ev_ms x_X7_isOn tx_X7_isOn 15 (i_psh (.int (1)) 16) := s_iconst dX7_isOn_15 rfl
theorem s_X7_isOn_16 {X : ev_E} {l : Launch} (hG : ev_Good X) (hl : l.stackTraces = false) : ev_Snd X l ev_ms x_X7_isOn tx_X7_isOn 16 (i_goto 20) := s_goto dX7_isOn_16 rfl
theorem s_X7_isOn_19 {X : ev_E} {l : Launch} (hG : ev_Good X) (hl : l.stackTraces = false) : ev_Snd X l ev_ms x_X7_isOn tx_X7_isOn 19 (i_psh (.int (0)) 20) := s_iconst dX7_isOn_19 rfl
theorem s_X7_isOn_20 {X : ev_E} {l : Launch} (hG : ev_Good X) (hl : l.stackTraces = false) : ev_Snd X l ev_ms x_X7_isOn tx_X7_isOn 20 (i_ir (.boolean)) := s_ireturn rfl dX7_isOn_20
theorem sa_X7_isOn {X : ev_E} {l : Launch} (hG : ev_Good X) (hl : l.stackTraces = false) : ∀ q ∈ tb_X7_isOn X, ev_Snd X l ev_ms x_X7_isOn tx_X7_isOn q.1 q.2 := by
  intro q hq
  unfold tb_X7_isOn at hq
  simp only [List.mem_cons, List.not_mem_nil, or_false] at hq
  rcases hq with rfl | rfl | rfl | rfl | rfl | rfl | rfl | rfl | rfl | rfl | rfl
  · exact s_X7_isOn_0 hG hl
  · exact s_X7_isOn_1 hG hl
  · exact s_X7_isOn_4 hG hl
  · exact s_X7_isOn_5 hG hl
  · exact s_X7_isOn_8 hG hl
  · exact s_X7_isOn_9 hG hl
  · exact s_X7_isOn_12 hG hl
  · exact s_X7_isOn_15 hG hl
  · exact s_X7_isOn_16 hG hl
  · exact s_X7_isOn_19 hG hl
  · exact s_X7_isOn_20 hG hl
def tx_X8_fails : ev_X := fun _ _ => some none
noncomputable def tb_X8_fails (X : ev_E) : List (Nat × (ev_S → ev_N)) := [(0, i_al 0 1), (1, i_il 1 2), (2, i_ifeq 9 5), (5, i_psh (.int (1)) 6), (6, i_goto 26), (9, i_il 2 10), (10, i_ifeq 17 13), (13, i_psh (.int (2)) 14), (14, i_goto 26), (17, i_il 3 18), (18, i_ifeq 25 21), (21, i_psh (.int (3)) 22), (22, i_goto 26), (25, i_psh (.int (0)) 26), (26, i_pf 13 0 (.int) 29), (29, i_al 0 30), (30, i_gf X 13 0 33), (33, i_ifle 40 36), (36, i_psh (.int (1)) 37), (37, i_goto 41), (40, i_psh (.int (0)) 41), (41, i_ir (.boolean))]
theorem s_X8_fails_0 {X : ev_E} {l : Launch} (hG : ev_Good X) (hl : l.stackTraces = false) : ev_Snd X l ev_ms x_X8_fails tx_X8_fails 0 (i_al 0 1) := s_aload_n dX8_fails_0 rfl
theorem s_X8_fails_1 {X : ev_E} {l : Launch} (hG : ev_Good X) (hl : l.stackTraces = false) : ev_Snd X l ev_ms x_X8_fails tx_X8_fails 1 (i_il 1 2) := s_iload_n dX8_fails_1 rfl
theorem s_X8_fails_2 {X : ev_E} {l : Launch} (hG : ev_Good X) (hl : l.stackTraces = false) : ev_Snd X l ev_ms x_X8_fails tx_X8_fails 2 (i_ifeq 9 5) := s_ifeq dX8_fails_2 rfl
theorem s_X8_fails_5 {X : ev_E} {l : Launch} (hG : ev_Good X) (hl : l.stackTraces = false) : ev_Snd X l ev_ms x_X8_fails tx_X8_fails 5 (i_psh (.int (1)) 6) := s_iconst dX8_fails_5 rfl
theorem s_X8_fails_6 {X : ev_E} {l : Launch} (hG : ev_Good X) (hl : l.stackTraces = false) : ev_Snd X l ev_ms x_X8_fails tx_X8_fails 6 (i_goto 26) := s_goto dX8_fails_6 rfl
theorem s_X8_fails_9 {X : ev_E} {l : Launch} (hG : ev_Good X) (hl : l.stackTraces = false) : ev_Snd X l ev_ms x_X8_fails tx_X8_fails 9 (i_il 2 10) := s_iload_n dX8_fails_9 rfl
theorem s_X8_fails_10 {X : ev_E} {l : Launch} (hG : ev_Good X) (hl : l.stackTraces = false) : ev_Snd X l ev_ms x_X8_fails tx_X8_fails 10 (i_ifeq 17 13) := s_ifeq dX8_fails_10 rfl
theorem s_X8_fails_13 {X : ev_E} {l : Launch} (hG : ev_Good X) (hl : l.stackTraces = false) : ev_Snd X l ev_ms x_X8_fails tx_X8_fails 13 (i_psh (.int (2)) 14) := s_iconst dX8_fails_13 rfl
theorem s_X8_fails_14 {X : ev_E} {l : Launch} (hG : ev_Good X) (hl : l.stackTraces = false) : ev_Snd X l ev_ms x_X8_fails tx_X8_fails 14 (i_goto 26) := s_goto dX8_fails_14 rfl
theorem s_X8_fails_17 {X : ev_E} {l : Launch} (hG : ev_Good X) (hl : l.stackTraces = false) : ev_Snd X l ev_ms x_X8_fails tx_X8_fails 17 (i_il 3 18) := s_iload_n dX8_fails_17 rfl
theorem s_X8_fails_18 {X : ev_E} {l : Launch} (hG : ev_Good X) (hl : l.stackTraces = false) : ev_Snd X l ev_ms x_X8_fails tx_X8_fails 18 (i_ifeq 25 21) := s_ifeq dX8_fails_18 rfl
theorem s_X8_fails_21 {X : ev_E} {l : Launch} (hG : ev_Good X) (hl : l.stackTraces = false) : ev_Snd X l ev_ms x_X8_fails tx_X8_fails 21 (i_psh (.int (3)) 22) := s_iconst dX8_fails_21 rfl
theorem s_X8_fails_22 {X : ev_E} {l : Launch} (hG : ev_Good X) (hl : l.stackTraces = false) : ev_Snd X l ev_ms x_X8_fails tx_X8_fails 22 (i_goto 26) := s_goto dX8_fails_22 rfl
theorem s_X8_fails_25 {X : ev_E} {l : Launch} (hG : ev_Good X) (hl : l.stackTraces = false) : ev_Snd X l ev_ms x_X8_fails tx_X8_fails 25 (i_psh (.int (0)) 26) := s_iconst dX8_fails_25 rfl
theorem s_X8_fails_26 {X : ev_E} {l : Launch} (hG : ev_Good X) (hl : l.stackTraces = false) : ev_Snd X l ev_ms x_X8_fails tx_X8_fails 26 (i_pf 13 0 (.int) 29) := s_putfield hG (ci := 13) (r := (RX8, TX8, 5)) rfl cw_13 ap_13 (k := 0) (Nat.le_of_ble_eq_true rfl) rfl (by decide +kernel) w_1260 rfl (Or.inl rfl) dX8_fails_26
theorem s_X8_fails_29 {X : ev_E} {l : Launch} (hG : ev_Good X) (hl : l.stackTraces = false) : ev_Snd X l ev_ms x_X8_fails tx_X8_fails 29 (i_al 0 30) := s_aload_n dX8_fails_29 rfl
theorem s_X8_fails_30 {X : ev_E} {l : Launch} (hG : ev_Good X) (hl : l.stackTraces = false) : ev_Snd X l ev_ms x_X8_fails tx_X8_fails 30 (i_gf X 13 0 33) := s_getfield hG (ci := 13) (r := (RX8, TX8, 5)) rfl cw_13 (k := 0) (Nat.le_of_ble_eq_true rfl) w_1260 rfl (Or.inl rfl) dX8_fails_30
theorem s_X8_fails_33 {X : ev_E} {l : Launch} (hG : ev_Good X) (hl : l.stackTraces = false) : ev_Snd X l ev_ms x_X8_fails tx_X8_fails 33 (i_ifle 40 36) := s_ifle dX8_fails_33 rfl
theorem s_X8_fails_36 {X : ev_E} {l : Launch} (hG : ev_Good X) (hl : l.stackTraces = false) : ev_Snd X l ev_ms x_X8_fails tx_X8_fails 36 (i_psh (.int (1)) 37) := s_iconst dX8_fails_36 rfl
theorem s_X8_fails_37 {X : ev_E} {l : Launch} (hG : ev_Good X) (hl : l.stackTraces = false) : ev_Snd X l ev_ms x_X8_fails tx_X8_fails 37 (i_goto 41) := s_goto dX8_fails_37 rfl
theorem s_X8_fails_40 {X : ev_E} {l : Launch} (hG : ev_Good X) (hl : l.stackTraces = false) : ev_Snd X l ev_ms x_X8_fails tx_X8_fails 40 (i_psh (.int (0)) 41) := s_iconst dX8_fails_40 rfl
theorem s_X8_fails_41 {X : ev_E} {l : Launch} (hG : ev_Good X) (hl : l.stackTraces = false) : ev_Snd X l ev_ms x_X8_fails tx_X8_fails 41 (i_ir (.boolean)) := s_ireturn rfl dX8_fails_41
theorem sa_X8_fails {X : ev_E} {l : Launch} (hG : ev_Good X) (hl : l.stackTraces = false) : ∀ q ∈ tb_X8_fails X, ev_Snd X l ev_ms x_X8_fails tx_X8_fails q.1 q.2 := by
  intro q hq
  unfold tb_X8_fails at hq
  simp only [List.mem_cons, List.not_mem_nil, or_false] at hq
  rcases hq with rfl | rfl | rfl | rfl | rfl | rfl | rfl | rfl | rfl | rfl | rfl | rfl | rfl | rfl | rfl | rfl | rfl | rfl | rfl | rfl | rfl | rfl
  · exact s_X8_fails_0 hG hl
  · exact s_X8_fails_1 hG hl
  · exact s_X8_fails_2 hG hl
  · exact s_X8_fails_5 hG hl
  · exact s_X8_fails_6 hG hl
  · exact s_X8_fails_9 hG hl
  · exact s_X8_fails_10 hG hl
  · exact s_X8_fails_13 hG hl
  · exact s_X8_fails_14 hG hl
  · exact s_X8_fails_17 hG hl
  · exact s_X8_fails_18 hG hl
  · exact s_X8_fails_21 hG hl
  · exact s_X8_fails_22 hG hl
  · exact s_X8_fails_25 hG hl
  · exact s_X8_fails_26 hG hl
  · exact s_X8_fails_29 hG hl
  · exact s_X8_fails_30 hG hl
  · exact s_X8_fails_33 hG hl
  · exact s_X8_fails_36 hG hl
  · exact s_X8_fails_37 hG hl
  · exact s_X8_fails_40 hG hl
  · exact s_X8_fails_41 hG hl
def tx_X8_hitsOf : ev_X := fun _ _ => some none
noncomputable def tb_X8_hitsOf (X : ev_E) : List (Nat × (ev_S → ev_N)) := [(0, i_il 1 1), (1, i_ifeq 10 4), (4, i_il 1 5), (5, i_psh (.int (6)) 7), (7, i_icle 14 10), (10, i_psh (.int (0)) 11), (11, i_goto 18), (14, i_psh (.int (7)) 16), (16, i_il 1 17), (17, i_ii (fun a b => a - b) 18), (18, i_ir (.int))]
theorem s_X8_hitsOf_0 {X : ev_E} {l : Launch} (hG : ev_Good X) (hl : l.stackTraces = false) : ev_Snd X l ev_ms x_X8_hitsOf tx_X8_hitsOf 0 (i_il 1 1) := s_iload_n dX8_hitsOf_0 rfl
theorem s_X8_hitsOf_1 {X : ev_E} {l : Launch} (hG : ev_Good X) (hl : l.stackTraces = false) : ev_Snd X l ev_ms x_X8_hitsOf tx_X8_hitsOf 1 (i_ifeq 10 4) := s_ifeq dX8_hitsOf_1 rfl
theorem s_X8_hitsOf_4 {X : ev_E} {l : Launch} (hG : ev_Good X) (hl : l.stackTraces = false) : ev_Snd X l ev_ms x_X8_hitsOf tx_X8_hitsOf 4 (i_il 1 5) := s_iload_n dX8_hitsOf_4 rfl
theorem s_X8_hitsOf_5 {X : ev_E} {l : Launch} (hG : ev_Good X) (hl : l.stackTraces = false) : ev_Snd X l ev_ms x_X8_hitsOf tx_X8_hitsOf 5 (i_psh (.int (6)) 7) := s_bipush dX8_hitsOf_5 rfl
theorem s_X8_hitsOf_7 {X : ev_E} {l : Launch} (hG : ev_Good X) (hl : l.stackTraces = false) : ev_Snd X l ev_ms x_X8_hitsOf tx_X8_hitsOf 7 (i_icle 14 10) := s_icle dX8_hitsOf_7 rfl
theorem s_X8_hitsOf_10 {X : ev_E} {l : Launch} (hG : ev_Good X) (hl : l.stackTraces = false) : ev_Snd X l ev_ms x_X8_hitsOf tx_X8_hitsOf 10 (i_psh (.int (0)) 11) := s_iconst dX8_hitsOf_10 rfl
theorem s_X8_hitsOf_11 {X : ev_E} {l : Launch} (hG : ev_Good X) (hl : l.stackTraces = false) : ev_Snd X l ev_ms x_X8_hitsOf tx_X8_hitsOf 11 (i_goto 18) := s_goto dX8_hitsOf_11 rfl
theorem s_X8_hitsOf_14 {X : ev_E} {l : Launch} (hG : ev_Good X) (hl : l.stackTraces = false) : ev_Snd X l ev_ms x_X8_hitsOf tx_X8_hitsOf 14 (i_psh (.int (7)) 16) := s_bipush dX8_hitsOf_14 rfl
theorem s_X8_hitsOf_16 {X : ev_E} {l : Launch} (hG : ev_Good X) (hl : l.stackTraces = false) : ev_Snd X l ev_ms x_X8_hitsOf tx_X8_hitsOf 16 (i_il 1 17) := s_iload_n dX8_hitsOf_16 rfl
theorem s_X8_hitsOf_17 {X : ev_E} {l : Launch} (hG : ev_Good X) (hl : l.stackTraces = false) : ev_Snd X l ev_ms x_X8_hitsOf tx_X8_hitsOf 17 (i_ii (fun a b => a - b) 18) := s_isub dX8_hitsOf_17
theorem s_X8_hitsOf_18 {X : ev_E} {l : Launch} (hG : ev_Good X) (hl : l.stackTraces = false) : ev_Snd X l ev_ms x_X8_hitsOf tx_X8_hitsOf 18 (i_ir (.int)) := s_ireturn rfl dX8_hitsOf_18
theorem sa_X8_hitsOf {X : ev_E} {l : Launch} (hG : ev_Good X) (hl : l.stackTraces = false) : ∀ q ∈ tb_X8_hitsOf X, ev_Snd X l ev_ms x_X8_hitsOf tx_X8_hitsOf q.1 q.2 := by
  intro q hq
  unfold tb_X8_hitsOf at hq
  simp only [List.mem_cons, List.not_mem_nil, or_false] at hq
  rcases hq with rfl | rfl | rfl | rfl | rfl | rfl | rfl | rfl | rfl | rfl | rfl
  · exact s_X8_hitsOf_0 hG hl
  · exact s_X8_hitsOf_1 hG hl
  · exact s_X8_hitsOf_4 hG hl
  · exact s_X8_hitsOf_5 hG hl
  · exact s_X8_hitsOf_7 hG hl
  · exact s_X8_hitsOf_10 hG hl
  · exact s_X8_hitsOf_11 hG hl
  · exact s_X8_hitsOf_14 hG hl
  · exact s_X8_hitsOf_16 hG hl
  · exact s_X8_hitsOf_17 hG hl
  · exact s_X8_hitsOf_18 hG hl
def tx_X8_isOut : ev_X := fun _ _ => some none
noncomputable def tb_X8_isOut (X : ev_E) : List (Nat × (ev_S → ev_N)) := [(0, i_il 0 1), (1, i_iflt 9 4), (4, i_il 0 5), (5, i_il 1 6), (6, i_iclt 13 9), (9, i_psh (.int (1)) 10), (10, i_goto 14), (13, i_psh (.int (0)) 14), (14, i_ir (.boolean))]
theorem s_X8_isOut_0 {X : ev_E} {l : Launch} (hG : ev_Good X) (hl : l.stackTraces = false) : ev_Snd X l ev_ms x_X8_isOut tx_X8_isOut 0 (i_il 0 1) := s_iload_n dX8_isOut_0 rfl
theorem s_X8_isOut_1 {X : ev_E} {l : Launch} (hG : ev_Good X) (hl : l.stackTraces = false) : ev_Snd X l ev_ms x_X8_isOut tx_X8_isOut 1 (i_iflt 9 4) := s_iflt dX8_isOut_1 rfl
theorem s_X8_isOut_4 {X : ev_E} {l : Launch} (hG : ev_Good X) (hl : l.stackTraces = false) : ev_Snd X l ev_ms x_X8_isOut tx_X8_isOut 4 (i_il 0 5) := s_iload_n dX8_isOut_4 rfl
theorem s_X8_isOut_5 {X : ev_E} {l : Launch} (hG : ev_Good X) (hl : l.stackTraces = false) : ev_Snd X l ev_ms x_X8_isOut tx_X8_isOut 5 (i_il 1 6) := s_iload_n dX8_isOut_5 rfl
theorem s_X8_isOut_6 {X : ev_E} {l : Launch} (hG : ev_Good X) (hl : l.stackTraces = false) : ev_Snd X l ev_ms x_X8_isOut tx_X8_isOut 6 (i_iclt 13 9) := s_iclt dX8_isOut_6 rfl
theorem s_X8_isOut_9 {X : ev_E} {l : Launch} (hG : ev_Good X) (hl : l.stackTraces = false) : ev_Snd X l ev_ms x_X8_isOut tx_X8_isOut 9 (i_psh (.int (1)) 10) := s_iconst dX8_isOut_9 rfl
theorem s_X8_isOut_10 {X : ev_E} {l : Launch} (hG : ev_Good X) (hl : l.stackTraces = false) : ev_Snd X l ev_ms x_X8_isOut tx_X8_isOut 10 (i_goto 14) := s_goto dX8_isOut_10 rfl
theorem s_X8_isOut_13 {X : ev_E} {l : Launch} (hG : ev_Good X) (hl : l.stackTraces = false) : ev_Snd X l ev_ms x_X8_isOut tx_X8_isOut 13 (i_psh (.int (0)) 14) := s_iconst dX8_isOut_13 rfl
theorem s_X8_isOut_14 {X : ev_E} {l : Launch} (hG : ev_Good X) (hl : l.stackTraces = false) : ev_Snd X l ev_ms x_X8_isOut tx_X8_isOut 14 (i_ir (.boolean)) := s_ireturn rfl dX8_isOut_14
theorem sa_X8_isOut {X : ev_E} {l : Launch} (hG : ev_Good X) (hl : l.stackTraces = false) : ∀ q ∈ tb_X8_isOut X, ev_Snd X l ev_ms x_X8_isOut tx_X8_isOut q.1 q.2 := by
  intro q hq
  unfold tb_X8_isOut at hq
  simp only [List.mem_cons, List.not_mem_nil, or_false] at hq
  rcases hq with rfl | rfl | rfl | rfl | rfl | rfl | rfl | rfl | rfl
  · exact s_X8_isOut_0 hG hl
  · exact s_X8_isOut_1 hG hl
  · exact s_X8_isOut_4 hG hl
  · exact s_X8_isOut_5 hG hl
  · exact s_X8_isOut_6 hG hl
  · exact s_X8_isOut_9 hG hl
  · exact s_X8_isOut_10 hG hl
  · exact s_X8_isOut_13 hG hl
  · exact s_X8_isOut_14 hG hl
def tx_X8_isSound : ev_X := fun _ _ => some none
noncomputable def tb_X8_isSound (X : ev_E) : List (Nat × (ev_S → ev_N)) := [(0, i_al 0 1), (1, i_psh (.int (0)) 2), (2, i_pf 13 0 (.int) 5), (5, i_psh (.int (1)) 6), (6, i_ir (.boolean))]
theorem s_X8_isSound_0 {X : ev_E} {l : Launch} (hG : ev_Good X) (hl : l.stackTraces = false) : ev_Snd X l ev_ms x_X8_isSound tx_X8_isSound 0 (i_al 0 1) := s_aload_n dX8_isSound_0 rfl
theorem s_X8_isSound_1 {X : ev_E} {l : Launch} (hG : ev_Good X) (hl : l.stackTraces = false) : ev_Snd X l ev_ms x_X8_isSound tx_X8_isSound 1 (i_psh (.int (0)) 2) := s_iconst dX8_isSound_1 rfl
theorem s_X8_isSound_2 {X : ev_E} {l : Launch} (hG : ev_Good X) (hl : l.stackTraces = false) : ev_Snd X l ev_ms x_X8_isSound tx_X8_isSound 2 (i_pf 13 0 (.int) 5) := s_putfield hG (ci := 13) (r := (RX8, TX8, 5)) rfl cw_13 ap_13 (k := 0) (Nat.le_of_ble_eq_true rfl) rfl (by decide +kernel) w_1260 rfl (Or.inl rfl) dX8_isSound_2
theorem s_X8_isSound_5 {X : ev_E} {l : Launch} (hG : ev_Good X) (hl : l.stackTraces = false) : ev_Snd X l ev_ms x_X8_isSound tx_X8_isSound 5 (i_psh (.int (1)) 6) := s_iconst dX8_isSound_5 rfl
theorem s_X8_isSound_6 {X : ev_E} {l : Launch} (hG : ev_Good X) (hl : l.stackTraces = false) : ev_Snd X l ev_ms x_X8_isSound tx_X8_isSound 6 (i_ir (.boolean)) := s_ireturn rfl dX8_isSound_6
theorem sa_X8_isSound {X : ev_E} {l : Launch} (hG : ev_Good X) (hl : l.stackTraces = false) : ∀ q ∈ tb_X8_isSound X, ev_Snd X l ev_ms x_X8_isSound tx_X8_isSound q.1 q.2 := by
  intro q hq
  unfold tb_X8_isSound at hq
  simp only [List.mem_cons, List.not_mem_nil, or_false] at hq
  rcases hq with rfl | rfl | rfl | rfl | rfl
  · exact s_X8_isSound_0 hG hl
  · exact s_X8_isSound_1 hG hl
  · exact s_X8_isSound_2 hG hl
  · exact s_X8_isSound_5 hG hl
  · exact s_X8_isSound_6 hG hl
def tx_X8_isStaleNow : ev_X := fun _ _ => some none
noncomputable def tb_X8_isStaleNow (X : ev_E) : List (Nat × (ev_S → ev_N)) := [(0, i_al 0 1), (1, i_gf X 13 3 4), (4, i_il 1 5), (5, i_ald X FieldType.isReference 6), (6, i_gf X 12 5 9), (9, i_psh (.int (-1)) 10), (10, i_iceq 29 13), (13, i_al 0 14), (14, i_gf X 13 3 17), (17, i_il 1 18), (18, i_ald X FieldType.isReference 19), (19, i_gf X 12 8 22), (22, i_ifeq 29 25), (25, i_psh (.int (1)) 26), (26, i_goto 30), (29, i_psh (.int (0)) 30), (30, i_ir (.boolean))]
theorem s_X8_isStaleNow_0 {X : ev_E} {l : Launch} (hG : ev_Good X) (hl : l.stackTraces = false) : ev_Snd X l ev_ms x_X8_isStaleNow tx_X8_isStaleNow 0 (i_al 0 1) := s_aload_n dX8_isStaleNow_0 rfl
theorem s_X8_isStaleNow_1 {X : ev_E} {l : Launch} (hG : ev_Good X) (hl : l.stackTraces = false) : ev_Snd X l ev_ms x_X8_isStaleNow tx_X8_isStaleNow 1 (i_gf X 13 3 4) := s_getfield hG (ci := 13) (r := (RX8, TX8, 5)) rfl cw_13 (k := 3) (Nat.le_of_ble_eq_true rfl) w_1263 rfl (Or.inl rfl) dX8_isStaleNow_1
theorem s_X8_isStaleNow_4 {X : ev_E} {l : Launch} (hG : ev_Good X) (hl : l.stackTraces = false) : ev_Snd X l ev_ms x_X8_isStaleNow tx_X8_isStaleNow 4 (i_il 1 5) := s_iload_n dX8_isStaleNow_4 rfl
theorem s_X8_isStaleNow_5 {X : ev_E} {l : Launch} (hG : ev_Good X) (hl : l.stackTraces = false) : ev_Snd X l ev_ms x_X8_isStaleNow tx_X8_isStaleNow 5 (i_ald X FieldType.isReference 6) := s_aaload hG dX8_isStaleNow_5
theorem s_X8_isStaleNow_6 {X : ev_E} {l : Launch} (hG : ev_Good X) (hl : l.stackTraces = false) : ev_Snd X l ev_ms x_X8_isStaleNow tx_X8_isStaleNow 6 (i_gf X 12 5 9) := s_getfield hG (ci := 12) (r := (RX7, TX7, 9)) rfl cw_12 (k := 5) (Nat.le_of_ble_eq_true rfl) w_1232 rfl (Or.inl rfl) dX8_isStaleNow_6
theorem s_X8_isStaleNow_9 {X : ev_E} {l : Launch} (hG : ev_Good X) (hl : l.stackTraces = false) : ev_Snd X l ev_ms x_X8_isStaleNow tx_X8_isStaleNow 9 (i_psh (.int (-1)) 10) := s_iconst dX8_isStaleNow_9 rfl
theorem s_X8_isStaleNow_10 {X : ev_E} {l : Launch} (hG : ev_Good X) (hl : l.stackTraces = false) : ev_Snd X l ev_ms x_X8_isStaleNow tx_X8_isStaleNow 10 (i_iceq 29 13) := s_iceq dX8_isStaleNow_10 rfl
theorem s_X8_isStaleNow_13 {X : ev_E} {l : Launch} (hG : ev_Good X) (hl : l.stackTraces = false) : ev_Snd X l ev_ms x_X8_isStaleNow tx_X8_isStaleNow 13 (i_al 0 14) := s_aload_n dX8_isStaleNow_13 rfl
theorem s_X8_isStaleNow_14 {X : ev_E} {l : Launch} (hG : ev_Good X) (hl : l.stackTraces = false) : ev_Snd X l ev_ms x_X8_isStaleNow tx_X8_isStaleNow 14 (i_gf X 13 3 17) := s_getfield hG (ci := 13) (r := (RX8, TX8, 5)) rfl cw_13 (k := 3) (Nat.le_of_ble_eq_true rfl) w_1263 rfl (Or.inl rfl) dX8_isStaleNow_14
theorem s_X8_isStaleNow_17 {X : ev_E} {l : Launch} (hG : ev_Good X) (hl : l.stackTraces = false) : ev_Snd X l ev_ms x_X8_isStaleNow tx_X8_isStaleNow 17 (i_il 1 18) := s_iload_n dX8_isStaleNow_17 rfl
theorem s_X8_isStaleNow_18 {X : ev_E} {l : Launch} (hG : ev_Good X) (hl : l.stackTraces = false) : ev_Snd X l ev_ms x_X8_isStaleNow tx_X8_isStaleNow 18 (i_ald X FieldType.isReference 19) := s_aaload hG dX8_isStaleNow_18
theorem s_X8_isStaleNow_19 {X : ev_E} {l : Launch} (hG : ev_Good X) (hl : l.stackTraces = false) : ev_Snd X l ev_ms x_X8_isStaleNow tx_X8_isStaleNow 19 (i_gf X 12 8 22) := s_getfield hG (ci := 12) (r := (RX7, TX7, 9)) rfl cw_12 (k := 8) (Nat.le_of_ble_eq_true rfl) w_1238 rfl (Or.inl rfl) dX8_isStaleNow_19
theorem s_X8_isStaleNow_22 {X : ev_E} {l : Launch} (hG : ev_Good X) (hl : l.stackTraces = false) : ev_Snd X l ev_ms x_X8_isStaleNow tx_X8_isStaleNow 22 (i_ifeq 29 25) := s_ifeq dX8_isStaleNow_22 rfl
theorem s_X8_isStaleNow_25 {X : ev_E} {l : Launch} (hG : ev_Good X) (hl : l.stackTraces = false) : ev_Snd X l ev_ms x_X8_isStaleNow tx_X8_isStaleNow 25 (i_psh (.int (1)) 26) := s_iconst dX8_isStaleNow_25 rfl
theorem s_X8_isStaleNow_26 {X : ev_E} {l : Launch} (hG : ev_Good X) (hl : l.stackTraces = false) : ev_Snd X l ev_ms x_X8_isStaleNow tx_X8_isStaleNow 26 (i_goto 30) := s_goto dX8_isStaleNow_26 rfl
theorem s_X8_isStaleNow_29 {X : ev_E} {l : Launch} (hG : ev_Good X) (hl : l.stackTraces = false) : ev_Snd X l ev_ms x_X8_isStaleNow tx_X8_isStaleNow 29 (i_psh (.int (0)) 30) := s_iconst dX8_isStaleNow_29 rfl
theorem s_X8_isStaleNow_30 {X : ev_E} {l : Launch} (hG : ev_Good X) (hl : l.stackTraces = false) : ev_Snd X l ev_ms x_X8_isStaleNow tx_X8_isStaleNow 30 (i_ir (.boolean)) := s_ireturn rfl dX8_isStaleNow_30
theorem sa_X8_isStaleNow {X : ev_E} {l : Launch} (hG : ev_Good X) (hl : l.stackTraces = false) : ∀ q ∈ tb_X8_isStaleNow X, ev_Snd X l ev_ms x_X8_isStaleNow tx_X8_isStaleNow q.1 q.2 := by
  intro q hq
  unfold tb_X8_isStaleNow at hq
  simp only [List.mem_cons, List.not_mem_nil, or_false] at hq
  rcases hq with rfl | rfl | rfl | rfl | rfl | rfl | rfl | rfl | rfl | rfl | rfl | rfl | rfl | rfl | rfl | rfl | rfl
  · exact s_X8_isStaleNow_0 hG hl
  · exact s_X8_isStaleNow_1 hG hl
  · exact s_X8_isStaleNow_4 hG hl
  · exact s_X8_isStaleNow_5 hG hl
  · exact s_X8_isStaleNow_6 hG hl
  · exact s_X8_isStaleNow_9 hG hl
  · exact s_X8_isStaleNow_10 hG hl
  · exact s_X8_isStaleNow_13 hG hl
  · exact s_X8_isStaleNow_14 hG hl
  · exact s_X8_isStaleNow_17 hG hl
  · exact s_X8_isStaleNow_18 hG hl
  · exact s_X8_isStaleNow_19 hG hl
  · exact s_X8_isStaleNow_22 hG hl
  · exact s_X8_isStaleNow_25 hG hl
  · exact s_X8_isStaleNow_26 hG hl
  · exact s_X8_isStaleNow_29 hG hl
  · exact s_X8_isStaleNow_30 hG hl
def tx_X8_knock : ev_X := fun _ _ => some none
noncomputable def tb_X8_knock (X : ev_E) : List (Nat × (ev_S → ev_N)) := [(0, i_al 0 1), (1, i_psh (.int (0)) 2), (2, i_pf 13 0 (.int) 5), (5, i_al 0 6), (6, i_dup 7), (7, i_gf X 13 2 10), (10, i_psh (.int (1)) 11), (11, i_ii (fun a b => a + b) 12), (12, i_pf 13 2 (.int) 15), (15, i_al 0 16), (16, i_gf X 13 2 19), (19, i_ir (.int))]
theorem s_X8_knock_0 {X : ev_E} {l : Launch} (hG : ev_Good X) (hl : l.stackTraces = false) : ev_Snd X l ev_ms x_X8_knock tx_X8_knock 0 (i_al 0 1) := s_aload_n dX8_knock_0 rfl
theorem s_X8_knock_1 {X : ev_E} {l : Launch} (hG : ev_Good X) (hl : l.stackTraces = false) : ev_Snd X l ev_ms x_X8_knock tx_X8_knock 1 (i_psh (.int (0)) 2) := s_iconst dX8_knock_1 rfl
theorem s_X8_knock_2 {X : ev_E} {l : Launch} (hG : ev_Good X) (hl : l.stackTraces = false) : ev_Snd X l ev_ms x_X8_knock tx_X8_knock 2 (i_pf 13 0 (.int) 5) := s_putfield hG (ci := 13) (r := (RX8, TX8, 5)) rfl cw_13 ap_13 (k := 0) (Nat.le_of_ble_eq_true rfl) rfl (by decide +kernel) w_1260 rfl (Or.inl rfl) dX8_knock_2
theorem s_X8_knock_5 {X : ev_E} {l : Launch} (hG : ev_Good X) (hl : l.stackTraces = false) : ev_Snd X l ev_ms x_X8_knock tx_X8_knock 5 (i_al 0 6) := s_aload_n dX8_knock_5 rfl
theorem s_X8_knock_6 {X : ev_E} {l : Launch} (hG : ev_Good X) (hl : l.stackTraces = false) : ev_Snd X l ev_ms x_X8_knock tx_X8_knock 6 (i_dup 7) := s_dup dX8_knock_6
theorem s_X8_knock_7 {X : ev_E} {l : Launch} (hG : ev_Good X) (hl : l.stackTraces = false) : ev_Snd X l ev_ms x_X8_knock tx_X8_knock 7 (i_gf X 13 2 10) := s_getfield hG (ci := 13) (r := (RX8, TX8, 5)) rfl cw_13 (k := 2) (Nat.le_of_ble_eq_true rfl) w_1262 rfl (Or.inl rfl) dX8_knock_7
theorem s_X8_knock_10 {X : ev_E} {l : Launch} (hG : ev_Good X) (hl : l.stackTraces = false) : ev_Snd X l ev_ms x_X8_knock tx_X8_knock 10 (i_psh (.int (1)) 11) := s_iconst dX8_knock_10 rfl
theorem s_X8_knock_11 {X : ev_E} {l : Launch} (hG : ev_Good X) (hl : l.stackTraces = false) : ev_Snd X l ev_ms x_X8_knock tx_X8_knock 11 (i_ii (fun a b => a + b) 12) := s_iadd dX8_knock_11
theorem s_X8_knock_12 {X : ev_E} {l : Launch} (hG : ev_Good X) (hl : l.stackTraces = false) : ev_Snd X l ev_ms x_X8_knock tx_X8_knock 12 (i_pf 13 2 (.int) 15) := s_putfield hG (ci := 13) (r := (RX8, TX8, 5)) rfl cw_13 ap_13 (k := 2) (Nat.le_of_ble_eq_true rfl) rfl (by decide +kernel) w_1262 rfl (Or.inl rfl) dX8_knock_12
theorem s_X8_knock_15 {X : ev_E} {l : Launch} (hG : ev_Good X) (hl : l.stackTraces = false) : ev_Snd X l ev_ms x_X8_knock tx_X8_knock 15 (i_al 0 16) := s_aload_n dX8_knock_15 rfl
theorem s_X8_knock_16 {X : ev_E} {l : Launch} (hG : ev_Good X) (hl : l.stackTraces = false) : ev_Snd X l ev_ms x_X8_knock tx_X8_knock 16 (i_gf X 13 2 19) := s_getfield hG (ci := 13) (r := (RX8, TX8, 5)) rfl cw_13 (k := 2) (Nat.le_of_ble_eq_true rfl) w_1262 rfl (Or.inl rfl) dX8_knock_16
theorem s_X8_knock_19 {X : ev_E} {l : Launch} (hG : ev_Good X) (hl : l.stackTraces = false) : ev_Snd X l ev_ms x_X8_knock tx_X8_knock 19 (i_ir (.int)) := s_ireturn rfl dX8_knock_19
theorem sa_X8_knock {X : ev_E} {l : Launch} (hG : ev_Good X) (hl : l.stackTraces = false) : ∀ q ∈ tb_X8_knock X, ev_Snd X l ev_ms x_X8_knock tx_X8_knock q.1 q.2 := by
  intro q hq
  unfold tb_X8_knock at hq
  simp only [List.mem_cons, List.not_mem_nil, or_false] at hq
  rcases hq with rfl | rfl | rfl | rfl | rfl | rfl | rfl | rfl | rfl | rfl | rfl | rfl
  · exact s_X8_knock_0 hG hl
  · exact s_X8_knock_1 hG hl
  · exact s_X8_knock_2 hG hl
  · exact s_X8_knock_5 hG hl
  · exact s_X8_knock_6 hG hl
  · exact s_X8_knock_7 hG hl
  · exact s_X8_knock_10 hG hl
  · exact s_X8_knock_11 hG hl
  · exact s_X8_knock_12 hG hl
  · exact s_X8_knock_15 hG hl
  · exact s_X8_knock_16 hG hl
  · exact s_X8_knock_19 hG hl
def tx_X8_no : ev_X := fun _ _ => some none
noncomputable def tb_X8_no (X : ev_E) : List (Nat × (ev_S → ev_N)) := [(0, i_al 0 1), (1, i_dup 2), (2, i_gf X 13 1 5), (5, i_psh (.int (1)) 6), (6, i_ii (fun a b => a + b) 7), (7, i_pf 13 1 (.int) 10), (10, i_psh (.int (-9)) 12), (12, i_ir (.int))]
theorem s_X8_no_0 {X : ev_E} {l : Launch} (hG : ev_Good X) (hl : l.stackTraces = false) : ev_Snd X l ev_ms x_X8_no tx_X8_no 0 (i_al 0 1) := s_aload_n dX8_no_0 rfl
theorem s_X8_no_1 {X : ev_E} {l : Launch} (hG : ev_Good X) (hl : l.stackTraces = false) : ev_Snd X l ev_ms x_X8_no tx_X8_no 1 (i_dup 2) := s_dup dX8_no_1
theorem s_X8_no_2 {X : ev_E} {l : Launch} (hG : ev_Good X) (hl : l.stackTraces = false) : ev_Snd X l ev_ms x_X8_no tx_X8_no 2 (i_gf X 13 1 5) := s_getfield hG (ci := 13) (r := (RX8, TX8, 5)) rfl cw_13 (k := 1) (Nat.le_of_ble_eq_true rfl) w_1261 rfl (Or.inl rfl) dX8_no_2
theorem s_X8_no_5 {X : ev_E} {l : Launch} (hG : ev_Good X) (hl : l.stackTraces = false) : ev_Snd X l ev_ms x_X8_no tx_X8_no 5 (i_psh (.int (1)) 6) := s_iconst dX8_no_5 rfl
theorem s_X8_no_6 {X : ev_E} {l : Launch} (hG : ev_Good X) (hl : l.stackTraces = false) : ev_Snd X l ev_ms x_X8_no tx_X8_no 6 (i_ii (fun a b => a + b) 7) := s_iadd dX8_no_6
theorem s_X8_no_7 {X : ev_E} {l : Launch} (hG : ev_Good X) (hl : l.stackTraces = false) : ev_Snd X l ev_ms x_X8_no tx_X8_no 7 (i_pf 13 1 (.int) 10) := s_putfield hG (ci := 13) (r := (RX8, TX8, 5)) rfl cw_13 ap_13 (k := 1) (Nat.le_of_ble_eq_true rfl) rfl (by decide +kernel) w_1261 rfl (Or.inl rfl) dX8_no_7
theorem s_X8_no_10 {X : ev_E} {l : Launch} (hG : ev_Good X) (hl : l.stackTraces = false) : ev_Snd X l ev_ms x_X8_no tx_X8_no 10 (i_psh (.int (-9)) 12) := s_bipush dX8_no_10 rfl
theorem s_X8_no_12 {X : ev_E} {l : Launch} (hG : ev_Good X) (hl : l.stackTraces = false) : ev_Snd X l ev_ms x_X8_no tx_X8_no 12 (i_ir (.int)) := s_ireturn rfl dX8_no_12
theorem sa_X8_no {X : ev_E} {l : Launch} (hG : ev_Good X) (hl : l.stackTraces = false) : ∀ q ∈ tb_X8_no X, ev_Snd X l ev_ms x_X8_no tx_X8_no q.1 q.2 := by
  intro q hq
  unfold tb_X8_no at hq
  simp only [List.mem_cons, List.not_mem_nil, or_false] at hq
  rcases hq with rfl | rfl | rfl | rfl | rfl | rfl | rfl | rfl
  · exact s_X8_no_0 hG hl
  · exact s_X8_no_1 hG hl
  · exact s_X8_no_2 hG hl
  · exact s_X8_no_5 hG hl
  · exact s_X8_no_6 hG hl
  · exact s_X8_no_7 hG hl
  · exact s_X8_no_10 hG hl
  · exact s_X8_no_12 hG hl
def tx_X8_one : ev_X := fun _ _ => some none
noncomputable def tb_X8_one (X : ev_E) : List (Nat × (ev_S → ev_N)) := [(0, i_il 0 1), (1, i_ifeq 8 4), (4, i_psh (.int (1)) 5), (5, i_goto 9), (8, i_psh (.int (0)) 9), (9, i_ir (.int))]
theorem s_X8_one_0 {X : ev_E} {l : Launch} (hG : ev_Good X) (hl : l.stackTraces = false) : ev_Snd X l ev_ms x_X8_one tx_X8_one 0 (i_il 0 1) := s_iload_n dX8_one_0 rfl
theorem s_X8_one_1 {X : ev_E} {l : Launch} (hG : ev_Good X) (hl : l.stackTraces = false) : ev_Snd X l ev_ms x_X8_one tx_X8_one 1 (i_ifeq 8 4) := s_ifeq dX8_one_1 rfl
theorem s_X8_one_4 {X : ev_E} {l : Launch} (hG : ev_Good X) (hl : l.stackTraces = false) : ev_Snd X l ev_ms x_X8_one tx_X8_one 4 (i_psh (.int (1)) 5) := s_iconst dX8_one_4 rfl
theorem s_X8_one_5 {X : ev_E} {l : Launch} (hG : ev_Good X) (hl : l.stackTraces = false) : ev_Snd X l ev_ms x_X8_one tx_X8_one 5 (i_goto 9) := s_goto dX8_one_5 rfl
theorem s_X8_one_8 {X : ev_E} {l : Launch} (hG : ev_Good X) (hl : l.stackTraces = false) : ev_Snd X l ev_ms x_X8_one tx_X8_one 8 (i_psh (.int (0)) 9) := s_iconst dX8_one_8 rfl
theorem s_X8_one_9 {X : ev_E} {l : Launch} (hG : ev_Good X) (hl : l.stackTraces = false) : ev_Snd X l ev_ms x_X8_one tx_X8_one 9 (i_ir (.int)) := s_ireturn rfl dX8_one_9
theorem sa_X8_one {X : ev_E} {l : Launch} (hG : ev_Good X) (hl : l.stackTraces = false) : ∀ q ∈ tb_X8_one X, ev_Snd X l ev_ms x_X8_one tx_X8_one q.1 q.2 := by
  intro q hq
  unfold tb_X8_one at hq
  simp only [List.mem_cons, List.not_mem_nil, or_false] at hq
  rcases hq with rfl | rfl | rfl | rfl | rfl | rfl
  · exact s_X8_one_0 hG hl
  · exact s_X8_one_1 hG hl
  · exact s_X8_one_4 hG hl
  · exact s_X8_one_5 hG hl
  · exact s_X8_one_8 hG hl
  · exact s_X8_one_9 hG hl
def tx_X8_thrown : ev_X := fun _ _ => some none
noncomputable def tb_X8_thrown (X : ev_E) : List (Nat × (ev_S → ev_N)) := [(0, i_al 0 1), (1, i_gf X 13 0 4), (4, i_ir (.int))]
theorem s_X8_thrown_0 {X : ev_E} {l : Launch} (hG : ev_Good X) (hl : l.stackTraces = false) : ev_Snd X l ev_ms x_X8_thrown tx_X8_thrown 0 (i_al 0 1) := s_aload_n dX8_thrown_0 rfl
theorem s_X8_thrown_1 {X : ev_E} {l : Launch} (hG : ev_Good X) (hl : l.stackTraces = false) : ev_Snd X l ev_ms x_X8_thrown tx_X8_thrown 1 (i_gf X 13 0 4) := s_getfield hG (ci := 13) (r := (RX8, TX8, 5)) rfl cw_13 (k := 0) (Nat.le_of_ble_eq_true rfl) w_1260 rfl (Or.inl rfl) dX8_thrown_1
theorem s_X8_thrown_4 {X : ev_E} {l : Launch} (hG : ev_Good X) (hl : l.stackTraces = false) : ev_Snd X l ev_ms x_X8_thrown tx_X8_thrown 4 (i_ir (.int)) := s_ireturn rfl dX8_thrown_4
theorem sa_X8_thrown {X : ev_E} {l : Launch} (hG : ev_Good X) (hl : l.stackTraces = false) : ∀ q ∈ tb_X8_thrown X, ev_Snd X l ev_ms x_X8_thrown tx_X8_thrown q.1 q.2 := by
  intro q hq
  unfold tb_X8_thrown at hq
  simp only [List.mem_cons, List.not_mem_nil, or_false] at hq
  rcases hq with rfl | rfl | rfl
  · exact s_X8_thrown_0 hG hl
  · exact s_X8_thrown_1 hG hl
  · exact s_X8_thrown_4 hG hl
def tx_X7_hasMore : ev_X := fun _ _ => some none
noncomputable def tb_X7_hasMore (X : ev_E) : List (Nat × (ev_S → ev_N)) := [(0, i_al 0 1), (1, i_cV X 62 0 12 1 4), (4, i_ifeq 25 7), (7, i_al 0 8), (8, i_gf X 12 6 11), (11, i_al 0 12), (12, i_gf X 12 0 15), (15, i_cV X 24 0 4 1 18), (18, i_icge 25 21), (21, i_psh (.int (1)) 22), (22, i_goto 26), (25, i_psh (.int (0)) 26), (26, i_ir (.boolean))]
theorem s_X7_hasMore_0 {X : ev_E} {l : Launch} (hG : ev_Good X) (hl : l.stackTraces = false) : ev_Snd X l ev_ms x_X7_hasMore tx_X7_hasMore 0 (i_al 0 1) := s_aload_n dX7_hasMore_0 rfl
theorem s_X7_hasMore_1 {X : ev_E} {l : Launch} (hG : ev_Good X) (hl : l.stackTraces = false) : ev_Snd X l ev_ms x_X7_hasMore tx_X7_hasMore 1 (i_cV X 62 0 12 1 4) := s_invokevirtual hG (mi := 62) (n := 0) (ci := 12) (r := (RX7, TX7, 9)) rfl (cal_X7_isOn (Nat.le_of_ble_eq_true rfl)) w_1554 w_1547 w_1548 dX7_hasMore_1
theorem s_X7_hasMore_4 {X : ev_E} {l : Launch} (hG : ev_Good X) (hl : l.stackTraces = false) : ev_Snd X l ev_ms x_X7_hasMore tx_X7_hasMore 4 (i_ifeq 25 7) := s_ifeq dX7_hasMore_4 rfl
theorem s_X7_hasMore_7 {X : ev_E} {l : Launch} (hG : ev_Good X) (hl : l.stackTraces = false) : ev_Snd X l ev_ms x_X7_hasMore tx_X7_hasMore 7 (i_al 0 8) := s_aload_n dX7_hasMore_7 rfl
theorem s_X7_hasMore_8 {X : ev_E} {l : Launch} (hG : ev_Good X) (hl : l.stackTraces = false) : ev_Snd X l ev_ms x_X7_hasMore tx_X7_hasMore 8 (i_gf X 12 6 11) := s_getfield hG (ci := 12) (r := (RX7, TX7, 9)) rfl cw_12 (k := 6) (Nat.le_of_ble_eq_true rfl) w_1233 rfl (Or.inl rfl) dX7_hasMore_8
theorem s_X7_hasMore_11 {X : ev_E} {l : Launch} (hG : ev_Good X) (hl : l.stackTraces = false) : ev_Snd X l ev_ms x_X7_hasMore tx_X7_hasMore 11 (i_al 0 12) := s_aload_n dX7_hasMore_11 rfl
theorem s_X7_hasMore_12 {X : ev_E} {l : Launch} (hG : ev_Good X) (hl : l.stackTraces = false) : ev_Snd X l ev_ms x_X7_hasMore tx_X7_hasMore 12 (i_gf X 12 0 15) := s_getfield hG (ci := 12) (r := (RX7, TX7, 9)) rfl cw_12 (k := 0) (Nat.le_of_ble_eq_true rfl) w_1221 rfl (Or.inl rfl) dX7_hasMore_12
theorem s_X7_hasMore_15 {X : ev_E} {l : Launch} (hG : ev_Good X) (hl : l.stackTraces = false) : ev_Snd X l ev_ms x_X7_hasMore tx_X7_hasMore 15 (i_cV X 24 0 4 1 18) := s_invokevirtual hG (mi := 24) (n := 0) (ci := 4) (r := (RJx4a65c, TJx4a65c, 3)) rfl (cal_Jx4a65c_size_8abf5 (Nat.le_of_ble_eq_true rfl)) w_1314 w_1295 w_1296 dX7_hasMore_15
theorem s_X7_hasMore_18 {X : ev_E} {l : Launch} (hG : ev_Good X) (hl : l.stackTraces = false) : ev_Snd X l ev_ms x_X7_hasMore tx_X7_hasMore 18 (i_icge 25 21) := s_icge dX7_hasMore_18 rfl
theorem s_X7_hasMore_21 {X : ev_E} {l : Launch} (hG : ev_Good X) (hl : l.stackTraces = false) : ev_Snd X l ev_ms x_X7_hasMore tx_X7_hasMore 21 (i_psh (.int (1)) 22) := s_iconst dX7_hasMore_21 rfl
theorem s_X7_hasMore_22 {X : ev_E} {l : Launch} (hG : ev_Good X) (hl : l.stackTraces = false) : ev_Snd X l ev_ms x_X7_hasMore tx_X7_hasMore 22 (i_goto 26) := s_goto dX7_hasMore_22 rfl
theorem s_X7_hasMore_25 {X : ev_E} {l : Launch} (hG : ev_Good X) (hl : l.stackTraces = false) : ev_Snd X l ev_ms x_X7_hasMore tx_X7_hasMore 25 (i_psh (.int (0)) 26) := s_iconst dX7_hasMore_25 rfl
theorem s_X7_hasMore_26 {X : ev_E} {l : Launch} (hG : ev_Good X) (hl : l.stackTraces = false) : ev_Snd X l ev_ms x_X7_hasMore tx_X7_hasMore 26 (i_ir (.boolean)) := s_ireturn rfl dX7_hasMore_26
theorem sa_X7_hasMore {X : ev_E} {l : Launch} (hG : ev_Good X) (hl : l.stackTraces = false) : ∀ q ∈ tb_X7_hasMore X, ev_Snd X l ev_ms x_X7_hasMore tx_X7_hasMore q.1 q.2 := by
  intro q hq
  unfold tb_X7_hasMore at hq
  simp only [List.mem_cons, List.not_mem_nil, or_false] at hq
  rcases hq with rfl | rfl | rfl | rfl | rfl | rfl | rfl | rfl | rfl | rfl | rfl | rfl | rfl
  · exact s_X7_hasMore_0 hG hl
  · exact s_X7_hasMore_1 hG hl
  · exact s_X7_hasMore_4 hG hl
  · exact s_X7_hasMore_7 hG hl
  · exact s_X7_hasMore_8 hG hl
  · exact s_X7_hasMore_11 hG hl
  · exact s_X7_hasMore_12 hG hl
  · exact s_X7_hasMore_15 hG hl
  · exact s_X7_hasMore_18 hG hl
  · exact s_X7_hasMore_21 hG hl
  · exact s_X7_hasMore_22 hG hl
  · exact s_X7_hasMore_25 hG hl
  · exact s_X7_hasMore_26 hG hl
def tx_X8_asked : ev_X := fun _ _ => some none
noncomputable def tb_X8_asked (X : ev_E) : List (Nat × (ev_S → ev_N)) := [(0, i_al 0 1), (1, i_psh (.int (0)) 2), (2, i_pf 13 0 (.int) 5), (5, i_al 0 6), (6, i_gf X 13 4 9), (9, i_cV X 24 0 4 1 12), (12, i_ir (.int))]
theorem s_X8_asked_0 {X : ev_E} {l : Launch} (hG : ev_Good X) (hl : l.stackTraces = false) : ev_Snd X l ev_ms x_X8_asked tx_X8_asked 0 (i_al 0 1) := s_aload_n dX8_asked_0 rfl
theorem s_X8_asked_1 {X : ev_E} {l : Launch} (hG : ev_Good X) (hl : l.stackTraces = false) : ev_Snd X l ev_ms x_X8_asked tx_X8_asked 1 (i_psh (.int (0)) 2) := s_iconst dX8_asked_1 rfl
theorem s_X8_asked_2 {X : ev_E} {l : Launch} (hG : ev_Good X) (hl : l.stackTraces = false) : ev_Snd X l ev_ms x_X8_asked tx_X8_asked 2 (i_pf 13 0 (.int) 5) := s_putfield hG (ci := 13) (r := (RX8, TX8, 5)) rfl cw_13 ap_13 (k := 0) (Nat.le_of_ble_eq_true rfl) rfl (by decide +kernel) w_1260 rfl (Or.inl rfl) dX8_asked_2
theorem s_X8_asked_5 {X : ev_E} {l : Launch} (hG : ev_Good X) (hl : l.stackTraces = false) : ev_Snd X l ev_ms x_X8_asked tx_X8_asked 5 (i_al 0 6) := s_aload_n dX8_asked_5 rfl
theorem s_X8_asked_6 {X : ev_E} {l : Launch} (hG : ev_Good X) (hl : l.stackTraces = false) : ev_Snd X l ev_ms x_X8_asked tx_X8_asked 6 (i_gf X 13 4 9) := s_getfield hG (ci := 13) (r := (RX8, TX8, 5)) rfl cw_13 (k := 4) (Nat.le_of_ble_eq_true rfl) w_1264 rfl (Or.inl rfl) dX8_asked_6
theorem s_X8_asked_9 {X : ev_E} {l : Launch} (hG : ev_Good X) (hl : l.stackTraces = false) : ev_Snd X l ev_ms x_X8_asked tx_X8_asked 9 (i_cV X 24 0 4 1 12) := s_invokevirtual hG (mi := 24) (n := 0) (ci := 4) (r := (RJx4a65c, TJx4a65c, 3)) rfl (cal_Jx4a65c_size_8abf5 (Nat.le_of_ble_eq_true rfl)) w_1294 w_1295 w_1296 dX8_asked_9
theorem s_X8_asked_12 {X : ev_E} {l : Launch} (hG : ev_Good X) (hl : l.stackTraces = false) : ev_Snd X l ev_ms x_X8_asked tx_X8_asked 12 (i_ir (.int)) := s_ireturn rfl dX8_asked_12
theorem sa_X8_asked {X : ev_E} {l : Launch} (hG : ev_Good X) (hl : l.stackTraces = false) : ∀ q ∈ tb_X8_asked X, ev_Snd X l ev_ms x_X8_asked tx_X8_asked q.1 q.2 := by
  intro q hq
  unfold tb_X8_asked at hq
  simp only [List.mem_cons, List.not_mem_nil, or_false] at hq
  rcases hq with rfl | rfl | rfl | rfl | rfl | rfl | rfl
  · exact s_X8_asked_0 hG hl
  · exact s_X8_asked_1 hG hl
  · exact s_X8_asked_2 hG hl
  · exact s_X8_asked_5 hG hl
  · exact s_X8_asked_6 hG hl
  · exact s_X8_asked_9 hG hl
  · exact s_X8_asked_12 hG hl
def tx_X8_forget : ev_X := fun _ _ => some none
noncomputable def tb_X8_forget (X : ev_E) : List (Nat × (ev_S → ev_N)) := [(0, i_al 0 1), (1, i_psh (.int (0)) 2), (2, i_pf 13 0 (.int) 5), (5, i_al 0 6), (6, i_gf X 13 4 9), (9, i_cV X 24 0 4 1 12), (12, i_is 1 13), (13, i_al 0 14), (14, i_gf X 13 4 17), (17, i_cV X 21 0 4 4 20), (20, i_il 1 21), (21, i_ir (.int))]
theorem s_X8_forget_0 {X : ev_E} {l : Launch} (hG : ev_Good X) (hl : l.stackTraces = false) : ev_Snd X l ev_ms x_X8_forget tx_X8_forget 0 (i_al 0 1) := s_aload_n dX8_forget_0 rfl
theorem s_X8_forget_1 {X : ev_E} {l : Launch} (hG : ev_Good X) (hl : l.stackTraces = false) : ev_Snd X l ev_ms x_X8_forget tx_X8_forget 1 (i_psh (.int (0)) 2) := s_iconst dX8_forget_1 rfl
theorem s_X8_forget_2 {X : ev_E} {l : Launch} (hG : ev_Good X) (hl : l.stackTraces = false) : ev_Snd X l ev_ms x_X8_forget tx_X8_forget 2 (i_pf 13 0 (.int) 5) := s_putfield hG (ci := 13) (r := (RX8, TX8, 5)) rfl cw_13 ap_13 (k := 0) (Nat.le_of_ble_eq_true rfl) rfl (by decide +kernel) w_1260 rfl (Or.inl rfl) dX8_forget_2
theorem s_X8_forget_5 {X : ev_E} {l : Launch} (hG : ev_Good X) (hl : l.stackTraces = false) : ev_Snd X l ev_ms x_X8_forget tx_X8_forget 5 (i_al 0 6) := s_aload_n dX8_forget_5 rfl
theorem s_X8_forget_6 {X : ev_E} {l : Launch} (hG : ev_Good X) (hl : l.stackTraces = false) : ev_Snd X l ev_ms x_X8_forget tx_X8_forget 6 (i_gf X 13 4 9) := s_getfield hG (ci := 13) (r := (RX8, TX8, 5)) rfl cw_13 (k := 4) (Nat.le_of_ble_eq_true rfl) w_1264 rfl (Or.inl rfl) dX8_forget_6
theorem s_X8_forget_9 {X : ev_E} {l : Launch} (hG : ev_Good X) (hl : l.stackTraces = false) : ev_Snd X l ev_ms x_X8_forget tx_X8_forget 9 (i_cV X 24 0 4 1 12) := s_invokevirtual hG (mi := 24) (n := 0) (ci := 4) (r := (RJx4a65c, TJx4a65c, 3)) rfl (cal_Jx4a65c_size_8abf5 (Nat.le_of_ble_eq_true rfl)) w_1294 w_1295 w_1296 dX8_forget_9
theorem s_X8_forget_12 {X : ev_E} {l : Launch} (hG : ev_Good X) (hl : l.stackTraces = false) : ev_Snd X l ev_ms x_X8_forget tx_X8_forget 12 (i_is 1 13) := s_istore_n dX8_forget_12 rfl (Nat.le_of_ble_eq_true rfl)
theorem s_X8_forget_13 {X : ev_E} {l : Launch} (hG : ev_Good X) (hl : l.stackTraces = false) : ev_Snd X l ev_ms x_X8_forget tx_X8_forget 13 (i_al 0 14) := s_aload_n dX8_forget_13 rfl
theorem s_X8_forget_14 {X : ev_E} {l : Launch} (hG : ev_Good X) (hl : l.stackTraces = false) : ev_Snd X l ev_ms x_X8_forget tx_X8_forget 14 (i_gf X 13 4 17) := s_getfield hG (ci := 13) (r := (RX8, TX8, 5)) rfl cw_13 (k := 4) (Nat.le_of_ble_eq_true rfl) w_1264 rfl (Or.inl rfl) dX8_forget_14
theorem s_X8_forget_17 {X : ev_E} {l : Launch} (hG : ev_Good X) (hl : l.stackTraces = false) : ev_Snd X l ev_ms x_X8_forget tx_X8_forget 17 (i_cV X 21 0 4 4 20) := s_invokevirtual hG (mi := 21) (n := 0) (ci := 4) (r := (RJx4a65c, TJx4a65c, 3)) rfl (cal_Jx4a65c_clear_da8c8 (Nat.le_of_ble_eq_true rfl)) w_1298 w_1299 w_1300 dX8_forget_17
theorem s_X8_forget_20 {X : ev_E} {l : Launch} (hG : ev_Good X) (hl : l.stackTraces = false) : ev_Snd X l ev_ms x_X8_forget tx_X8_forget 20 (i_il 1 21) := s_iload_n dX8_forget_20 rfl
theorem s_X8_forget_21 {X : ev_E} {l : Launch} (hG : ev_Good X) (hl : l.stackTraces = false) : ev_Snd X l ev_ms x_X8_forget tx_X8_forget 21 (i_ir (.int)) := s_ireturn rfl dX8_forget_21
theorem sa_X8_forget {X : ev_E} {l : Launch} (hG : ev_Good X) (hl : l.stackTraces = false) : ∀ q ∈ tb_X8_forget X, ev_Snd X l ev_ms x_X8_forget tx_X8_forget q.1 q.2 := by
  intro q hq
  unfold tb_X8_forget at hq
  simp only [List.mem_cons, List.not_mem_nil, or_false] at hq
  rcases hq with rfl | rfl | rfl | rfl | rfl | rfl | rfl | rfl | rfl | rfl | rfl | rfl
  · exact s_X8_forget_0 hG hl
  · exact s_X8_forget_1 hG hl
  · exact s_X8_forget_2 hG hl
  · exact s_X8_forget_5 hG hl
  · exact s_X8_forget_6 hG hl
  · exact s_X8_forget_9 hG hl
  · exact s_X8_forget_12 hG hl
  · exact s_X8_forget_13 hG hl
  · exact s_X8_forget_14 hG hl
  · exact s_X8_forget_17 hG hl
  · exact s_X8_forget_20 hG hl
  · exact s_X8_forget_21 hG hl
def tx_X8_isNo : ev_X := fun _ _ => some none
noncomputable def tb_X8_isNo (X : ev_E) : List (Nat × (ev_S → ev_N)) := [(0, i_il 0 1), (1, i_psh (.int (4)) 2), (2, i_cS 65 2 2 5), (5, i_ir (.boolean))]
theorem s_X8_isNo_0 {X : ev_E} {l : Launch} (hG : ev_Good X) (hl : l.stackTraces = false) : ev_Snd X l ev_ms x_X8_isNo tx_X8_isNo 0 (i_il 0 1) := s_iload_n dX8_isNo_0 rfl
theorem s_X8_isNo_1 {X : ev_E} {l : Launch} (hG : ev_Good X) (hl : l.stackTraces = false) : ev_Snd X l ev_ms x_X8_isNo tx_X8_isNo 1 (i_psh (.int (4)) 2) := s_iconst dX8_isNo_1 rfl
theorem s_X8_isNo_2 {X : ev_E} {l : Launch} (hG : ev_Good X) (hl : l.stackTraces = false) : ev_Snd X l ev_ms x_X8_isNo tx_X8_isNo 2 (i_cS 65 2 2 5) := s_invokestatic hG (mi := 65) (n := 2) (cal_X8_isOut (Nat.le_of_ble_eq_true rfl)) w_1287 w_1288 dX8_isNo_2
theorem s_X8_isNo_5 {X : ev_E} {l : Launch} (hG : ev_Good X) (hl : l.stackTraces = false) : ev_Snd X l ev_ms x_X8_isNo tx_X8_isNo 5 (i_ir (.boolean)) := s_ireturn rfl dX8_isNo_5
theorem sa_X8_isNo {X : ev_E} {l : Launch} (hG : ev_Good X) (hl : l.stackTraces = false) : ∀ q ∈ tb_X8_isNo X, ev_Snd X l ev_ms x_X8_isNo tx_X8_isNo q.1 q.2 := by
  intro q hq
  unfold tb_X8_isNo at hq
  simp only [List.mem_cons, List.not_mem_nil, or_false] at hq
  rcases hq with rfl | rfl | rfl | rfl
  · exact s_X8_isNo_0 hG hl
  · exact s_X8_isNo_1 hG hl
  · exact s_X8_isNo_2 hG hl
  · exact s_X8_isNo_5 hG hl
def tx_X8_isNoSize : ev_X := fun _ _ => some none
noncomputable def tb_X8_isNoSize (X : ev_E) : List (Nat × (ev_S → ev_N)) := [(0, i_il 0 1), (1, i_psh (.int (1)) 2), (2, i_ii (fun a b => a - b) 3), (3, i_psh (.int (6)) 5), (5, i_cS 65 2 2 8), (8, i_ir (.boolean))]
theorem s_X8_isNoSize_0 {X : ev_E} {l : Launch} (hG : ev_Good X) (hl : l.stackTraces = false) : ev_Snd X l ev_ms x_X8_isNoSize tx_X8_isNoSize 0 (i_il 0 1) := s_iload_n dX8_isNoSize_0 rfl
theorem s_X8_isNoSize_1 {X : ev_E} {l : Launch} (hG : ev_Good X) (hl : l.stackTraces = false) : ev_Snd X l ev_ms x_X8_isNoSize tx_X8_isNoSize 1 (i_psh (.int (1)) 2) := s_iconst dX8_isNoSize_1 rfl
theorem s_X8_isNoSize_2 {X : ev_E} {l : Launch} (hG : ev_Good X) (hl : l.stackTraces = false) : ev_Snd X l ev_ms x_X8_isNoSize tx_X8_isNoSize 2 (i_ii (fun a b => a - b) 3) := s_isub dX8_isNoSize_2
theorem s_X8_isNoSize_3 {X : ev_E} {l : Launch} (hG : ev_Good X) (hl : l.stackTraces = false) : ev_Snd X l ev_ms x_X8_isNoSize tx_X8_isNoSize 3 (i_psh (.int (6)) 5) := s_bipush dX8_isNoSize_3 rfl
theorem s_X8_isNoSize_5 {X : ev_E} {l : Launch} (hG : ev_Good X) (hl : l.stackTraces = false) : ev_Snd X l ev_ms x_X8_isNoSize tx_X8_isNoSize 5 (i_cS 65 2 2 8) := s_invokestatic hG (mi := 65) (n := 2) (cal_X8_isOut (Nat.le_of_ble_eq_true rfl)) w_1287 w_1288 dX8_isNoSize_5
theorem s_X8_isNoSize_8 {X : ev_E} {l : Launch} (hG : ev_Good X) (hl : l.stackTraces = false) : ev_Snd X l ev_ms x_X8_isNoSize tx_X8_isNoSize 8 (i_ir (.boolean)) := s_ireturn rfl dX8_isNoSize_8
theorem sa_X8_isNoSize {X : ev_E} {l : Launch} (hG : ev_Good X) (hl : l.stackTraces = false) : ∀ q ∈ tb_X8_isNoSize X, ev_Snd X l ev_ms x_X8_isNoSize tx_X8_isNoSize q.1 q.2 := by
  intro q hq
  unfold tb_X8_isNoSize at hq
  simp only [List.mem_cons, List.not_mem_nil, or_false] at hq
  rcases hq with rfl | rfl | rfl | rfl | rfl | rfl
  · exact s_X8_isNoSize_0 hG hl
  · exact s_X8_isNoSize_1 hG hl
  · exact s_X8_isNoSize_2 hG hl
  · exact s_X8_isNoSize_3 hG hl
  · exact s_X8_isNoSize_5 hG hl
  · exact s_X8_isNoSize_8 hG hl
def tx_X8_clear : ev_X := fun _ _ => some none
noncomputable def tb_X8_clear (X : ev_E) : List (Nat × (ev_S → ev_N)) := [(0, i_al 0 1), (1, i_il 1 2), (2, i_cS 118 1 1 5), (5, i_psh (.int (0)) 6), (6, i_psh (.int (0)) 7), (7, i_cV X 63 3 13 4 10), (10, i_ifeq 15 13), (13, i_psh (.int (0)) 14), (14, i_ir (.int)), (15, i_al 0 16), (16, i_gf X 13 3 19), (19, i_il 1 20), (20, i_ald X FieldType.isReference 21), (21, i_gf X 12 0 24), (24, i_cV X 24 0 4 1 27), (27, i_is 2 28), (28, i_al 0 29), (29, i_gf X 13 3 32), (32, i_il 1 33), (33, i_ald X FieldType.isReference 34), (34, i_gf X 12 0 37), (37, i_cV X 21 0 4 4 40), (40, i_al 0 41), (41, i_gf X 13 3 44), (44, i_il 1 45), (45, i_ald X FieldType.isReference 46), (46, i_psh (.int (1)) 47), (47, i_pf 12 8 (.boolean) 50), (50, i_il 2 51), (51, i_ir (.int))]
theorem s_X8_clear_0 {X : ev_E} {l : Launch} (hG : ev_Good X) (hl : l.stackTraces = false) : ev_Snd X l ev_ms x_X8_clear tx_X8_clear 0 (i_al 0 1) := s_aload_n dX8_clear_0 rfl
theorem s_X8_clear_1 {X : ev_E} {l : Launch} (hG : ev_Good X) (hl : l.stackTraces = false) : ev_Snd X l ev_ms x_X8_clear tx_X8_clear 1 (i_il 1 2) := s_iload_n dX8_clear_1 rfl
theorem s_X8_clear_2 {X : ev_E} {l : Launch} (hG : ev_Good X) (hl : l.stackTraces = false) : ev_Snd X l ev_ms x_X8_clear tx_X8_clear 2 (i_cS 118 1 1 5) := s_invokestatic hG (mi := 118) (n := 1) (cal_X8_isNo (Nat.le_of_ble_eq_true rfl)) w_1284 w_1285 dX8_clear_2
theorem s_X8_clear_5 {X : ev_E} {l : Launch} (hG : ev_Good X) (hl : l.stackTraces = false) : ev_Snd X l ev_ms x_X8_clear tx_X8_clear 5 (i_psh (.int (0)) 6) := s_iconst dX8_clear_5 rfl
theorem s_X8_clear_6 {X : ev_E} {l : Launch} (hG : ev_Good X) (hl : l.stackTraces = false) : ev_Snd X l ev_ms x_X8_clear tx_X8_clear 6 (i_psh (.int (0)) 7) := s_iconst dX8_clear_6 rfl
theorem s_X8_clear_7 {X : ev_E} {l : Launch} (hG : ev_Good X) (hl : l.stackTraces = false) : ev_Snd X l ev_ms x_X8_clear tx_X8_clear 7 (i_cV X 63 3 13 4 10) := s_invokevirtual hG (mi := 63) (n := 3) (ci := 13) (r := (RX8, TX8, 5)) rfl (cal_X8_fails (Nat.le_of_ble_eq_true rfl)) w_1290 w_1292 w_22 dX8_clear_7
theorem s_X8_clear_10 {X : ev_E} {l : Launch} (hG : ev_Good X) (hl : l.stackTraces = false) : ev_Snd X l ev_ms x_X8_clear tx_X8_clear 10 (i_ifeq 15 13) := s_ifeq dX8_clear_10 rfl
theorem s_X8_clear_13 {X : ev_E} {l : Launch} (hG : ev_Good X) (hl : l.stackTraces = false) : ev_Snd X l ev_ms x_X8_clear tx_X8_clear 13 (i_psh (.int (0)) 14) := s_iconst dX8_clear_13 rfl
theorem s_X8_clear_14 {X : ev_E} {l : Launch} (hG : ev_Good X) (hl : l.stackTraces = false) : ev_Snd X l ev_ms x_X8_clear tx_X8_clear 14 (i_ir (.int)) := s_ireturn rfl dX8_clear_14
theorem s_X8_clear_15 {X : ev_E} {l : Launch} (hG : ev_Good X) (hl : l.stackTraces = false) : ev_Snd X l ev_ms x_X8_clear tx_X8_clear 15 (i_al 0 16) := s_aload_n dX8_clear_15 rfl
theorem s_X8_clear_16 {X : ev_E} {l : Launch} (hG : ev_Good X) (hl : l.stackTraces = false) : ev_Snd X l ev_ms x_X8_clear tx_X8_clear 16 (i_gf X 13 3 19) := s_getfield hG (ci := 13) (r := (RX8, TX8, 5)) rfl cw_13 (k := 3) (Nat.le_of_ble_eq_true rfl) w_1263 rfl (Or.inl rfl) dX8_clear_16
theorem s_X8_clear_19 {X : ev_E} {l : Launch} (hG : ev_Good X) (hl : l.stackTraces = false) : ev_Snd X l ev_ms x_X8_clear tx_X8_clear 19 (i_il 1 20) := s_iload_n dX8_clear_19 rfl
theorem s_X8_clear_20 {X : ev_E} {l : Launch} (hG : ev_Good X) (hl : l.stackTraces = false) : ev_Snd X l ev_ms x_X8_clear tx_X8_clear 20 (i_ald X FieldType.isReference 21) := s_aaload hG dX8_clear_20
theorem s_X8_clear_21 {X : ev_E} {l : Launch} (hG : ev_Good X) (hl : l.stackTraces = false) : ev_Snd X l ev_ms x_X8_clear tx_X8_clear 21 (i_gf X 12 0 24) := s_getfield hG (ci := 12) (r := (RX7, TX7, 9)) rfl cw_12 (k := 0) (Nat.le_of_ble_eq_true rfl) w_1222 rfl (Or.inl rfl) dX8_clear_21
theorem s_X8_clear_24 {X : ev_E} {l : Launch} (hG : ev_Good X) (hl : l.stackTraces = false) : ev_Snd X l ev_ms x_X8_clear tx_X8_clear 24 (i_cV X 24 0 4 1 27) := s_invokevirtual hG (mi := 24) (n := 0) (ci := 4) (r := (RJx4a65c, TJx4a65c, 3)) rfl (cal_Jx4a65c_size_8abf5 (Nat.le_of_ble_eq_true rfl)) w_1294 w_1295 w_1296 dX8_clear_24
theorem s_X8_clear_27 {X : ev_E} {l : Launch} (hG : ev_Good X) (hl : l.stackTraces = false) : ev_Snd X l ev_ms x_X8_clear tx_X8_clear 27 (i_is 2 28) := s_istore_n dX8_clear_27 rfl (Nat.le_of_ble_eq_true rfl)
theorem s_X8_clear_28 {X : ev_E} {l : Launch} (hG : ev_Good X) (hl : l.stackTraces = false) : ev_Snd X l ev_ms x_X8_clear tx_X8_clear 28 (i_al 0 29) := s_aload_n dX8_clear_28 rfl
theorem s_X8_clear_29 {X : ev_E} {l : Launch} (hG : ev_Good X) (hl : l.stackTraces = false) : ev_Snd X l ev_ms x_X8_clear tx_X8_clear 29 (i_gf X 13 3 32) := s_getfield hG (ci := 13) (r := (RX8, TX8, 5)) rfl cw_13 (k := 3) (Nat.le_of_ble_eq_true rfl) w_1263 rfl (Or.inl rfl) dX8_clear_29
theorem s_X8_clear_32 {X : ev_E} {l : Launch} (hG : ev_Good X) (hl : l.stackTraces = false) : ev_Snd X l ev_ms x_X8_clear tx_X8_clear 32 (i_il 1 33) := s_iload_n dX8_clear_32 rfl
theorem s_X8_clear_33 {X : ev_E} {l : Launch} (hG : ev_Good X) (hl : l.stackTraces = false) : ev_Snd X l ev_ms x_X8_clear tx_X8_clear 33 (i_ald X FieldType.isReference 34) := s_aaload hG dX8_clear_33
theorem s_X8_clear_34 {X : ev_E} {l : Launch} (hG : ev_Good X) (hl : l.stackTraces = false) : ev_Snd X l ev_ms x_X8_clear tx_X8_clear 34 (i_gf X 12 0 37) := s_getfield hG (ci := 12) (r := (RX7, TX7, 9)) rfl cw_12 (k := 0) (Nat.le_of_ble_eq_true rfl) w_1222 rfl (Or.inl rfl) dX8_clear_34
theorem s_X8_clear_37 {X : ev_E} {l : Launch} (hG : ev_Good X) (hl : l.stackTraces = false) : ev_Snd X l ev_ms x_X8_clear tx_X8_clear 37 (i_cV X 21 0 4 4 40) := s_invokevirtual hG (mi := 21) (n := 0) (ci := 4) (r := (RJx4a65c, TJx4a65c, 3)) rfl (cal_Jx4a65c_clear_da8c8 (Nat.le_of_ble_eq_true rfl)) w_1298 w_1299 w_1300 dX8_clear_37
theorem s_X8_clear_40 {X : ev_E} {l : Launch} (hG : ev_Good X) (hl : l.stackTraces = false) : ev_Snd X l ev_ms x_X8_clear tx_X8_clear 40 (i_al 0 41) := s_aload_n dX8_clear_40 rfl
theorem s_X8_clear_41 {X : ev_E} {l : Launch} (hG : ev_Good X) (hl : l.stackTraces = false) : ev_Snd X l ev_ms x_X8_clear tx_X8_clear 41 (i_gf X 13 3 44) := s_getfield hG (ci := 13) (r := (RX8, TX8, 5)) rfl cw_13 (k := 3) (Nat.le_of_ble_eq_true rfl) w_1263 rfl (Or.inl rfl) dX8_clear_41
theorem s_X8_clear_44 {X : ev_E} {l : Launch} (hG : ev_Good X) (hl : l.stackTraces = false) : ev_Snd X l ev_ms x_X8_clear tx_X8_clear 44 (i_il 1 45) := s_iload_n dX8_clear_44 rfl
theorem s_X8_clear_45 {X : ev_E} {l : Launch} (hG : ev_Good X) (hl : l.stackTraces = false) : ev_Snd X l ev_ms x_X8_clear tx_X8_clear 45 (i_ald X FieldType.isReference 46) := s_aaload hG dX8_clear_45
theorem s_X8_clear_46 {X : ev_E} {l : Launch} (hG : ev_Good X) (hl : l.stackTraces = false) : ev_Snd X l ev_ms x_X8_clear tx_X8_clear 46 (i_psh (.int (1)) 47) := s_iconst dX8_clear_46 rfl
theorem s_X8_clear_47 {X : ev_E} {l : Launch} (hG : ev_Good X) (hl : l.stackTraces = false) : ev_Snd X l ev_ms x_X8_clear tx_X8_clear 47 (i_pf 12 8 (.boolean) 50) := s_putfield hG (ci := 12) (r := (RX7, TX7, 9)) rfl cw_12 ap_12 (k := 8) (Nat.le_of_ble_eq_true rfl) rfl (by decide +kernel) w_1238 rfl (Or.inl rfl) dX8_clear_47
theorem s_X8_clear_50 {X : ev_E} {l : Launch} (hG : ev_Good X) (hl : l.stackTraces = false) : ev_Snd X l ev_ms x_X8_clear tx_X8_clear 50 (i_il 2 51) := s_iload_n dX8_clear_50 rfl
theorem s_X8_clear_51 {X : ev_E} {l : Launch} (hG : ev_Good X) (hl : l.stackTraces = false) : ev_Snd X l ev_ms x_X8_clear tx_X8_clear 51 (i_ir (.int)) := s_ireturn rfl dX8_clear_51
theorem sa_X8_clear {X : ev_E} {l : Launch} (hG : ev_Good X) (hl : l.stackTraces = false) : ∀ q ∈ tb_X8_clear X, ev_Snd X l ev_ms x_X8_clear tx_X8_clear q.1 q.2 := by
  intro q hq
  unfold tb_X8_clear at hq
  simp only [List.mem_cons, List.not_mem_nil, or_false] at hq
  rcases hq with rfl | rfl | rfl | rfl | rfl | rfl | rfl | rfl | rfl | rfl | rfl | rfl | rfl | rfl | rfl | rfl | rfl | rfl | rfl | rfl | rfl | rfl | rfl | rfl | rfl | rfl | rfl | rfl | rfl | rfl
  · exact s_X8_clear_0 hG hl
  · exact s_X8_clear_1 hG hl
  · exact s_X8_clear_2 hG hl
  · exact s_X8_clear_5 hG hl
  · exact s_X8_clear_6 hG hl
  · exact s_X8_clear_7 hG hl
  · exact s_X8_clear_10 hG hl
  · exact s_X8_clear_13 hG hl
  · exact s_X8_clear_14 hG hl
  · exact s_X8_clear_15 hG hl
  · exact s_X8_clear_16 hG hl
  · exact s_X8_clear_19 hG hl
  · exact s_X8_clear_20 hG hl
  · exact s_X8_clear_21 hG hl
  · exact s_X8_clear_24 hG hl
  · exact s_X8_clear_27 hG hl
  · exact s_X8_clear_28 hG hl
  · exact s_X8_clear_29 hG hl
  · exact s_X8_clear_32 hG hl
  · exact s_X8_clear_33 hG hl
  · exact s_X8_clear_34 hG hl
  · exact s_X8_clear_37 hG hl
  · exact s_X8_clear_40 hG hl
  · exact s_X8_clear_41 hG hl
  · exact s_X8_clear_44 hG hl
  · exact s_X8_clear_45 hG hl
  · exact s_X8_clear_46 hG hl
  · exact s_X8_clear_47 hG hl
  · exact s_X8_clear_50 hG hl
  · exact s_X8_clear_51 hG hl
def tx_X8_hasMore : ev_X := fun _ _ => some none
noncomputable def tb_X8_hasMore (X : ev_E) : List (Nat × (ev_S → ev_N)) := [(0, i_al 0 1), (1, i_il 1 2), (2, i_cS 118 1 1 5), (5, i_psh (.int (0)) 6), (6, i_psh (.int (0)) 7), (7, i_cV X 63 3 13 4 10), (10, i_ifne 29 13), (13, i_al 0 14), (14, i_gf X 13 3 17), (17, i_il 1 18), (18, i_ald X FieldType.isReference 19), (19, i_cV X 115 0 12 1 22), (22, i_ifeq 29 25), (25, i_psh (.int (1)) 26), (26, i_goto 30), (29, i_psh (.int (0)) 30), (30, i_ir (.boolean))]
theorem s_X8_hasMore_0 {X : ev_E} {l : Launch} (hG : ev_Good X) (hl : l.stackTraces = false) : ev_Snd X l ev_ms x_X8_hasMore tx_X8_hasMore 0 (i_al 0 1) := s_aload_n dX8_hasMore_0 rfl
theorem s_X8_hasMore_1 {X : ev_E} {l : Launch} (hG : ev_Good X) (hl : l.stackTraces = false) : ev_Snd X l ev_ms x_X8_hasMore tx_X8_hasMore 1 (i_il 1 2) := s_iload_n dX8_hasMore_1 rfl
theorem s_X8_hasMore_2 {X : ev_E} {l : Launch} (hG : ev_Good X) (hl : l.stackTraces = false) : ev_Snd X l ev_ms x_X8_hasMore tx_X8_hasMore 2 (i_cS 118 1 1 5) := s_invokestatic hG (mi := 118) (n := 1) (cal_X8_isNo (Nat.le_of_ble_eq_true rfl)) w_1284 w_1285 dX8_hasMore_2
theorem s_X8_hasMore_5 {X : ev_E} {l : Launch} (hG : ev_Good X) (hl : l.stackTraces = false) : ev_Snd X l ev_ms x_X8_hasMore tx_X8_hasMore 5 (i_psh (.int (0)) 6) := s_iconst dX8_hasMore_5 rfl
theorem s_X8_hasMore_6 {X : ev_E} {l : Launch} (hG : ev_Good X) (hl : l.stackTraces = false) : ev_Snd X l ev_ms x_X8_hasMore tx_X8_hasMore 6 (i_psh (.int (0)) 7) := s_iconst dX8_hasMore_6 rfl
theorem s_X8_hasMore_7 {X : ev_E} {l : Launch} (hG : ev_Good X) (hl : l.stackTraces = false) : ev_Snd X l ev_ms x_X8_hasMore tx_X8_hasMore 7 (i_cV X 63 3 13 4 10) := s_invokevirtual hG (mi := 63) (n := 3) (ci := 13) (r := (RX8, TX8, 5)) rfl (cal_X8_fails (Nat.le_of_ble_eq_true rfl)) w_1290 w_1292 w_22 dX8_hasMore_7
theorem s_X8_hasMore_10 {X : ev_E} {l : Launch} (hG : ev_Good X) (hl : l.stackTraces = false) : ev_Snd X l ev_ms x_X8_hasMore tx_X8_hasMore 10 (i_ifne 29 13) := s_ifne dX8_hasMore_10 rfl
theorem s_X8_hasMore_13 {X : ev_E} {l : Launch} (hG : ev_Good X) (hl : l.stackTraces = false) : ev_Snd X l ev_ms x_X8_hasMore tx_X8_hasMore 13 (i_al 0 14) := s_aload_n dX8_hasMore_13 rfl
theorem s_X8_hasMore_14 {X : ev_E} {l : Launch} (hG : ev_Good X) (hl : l.stackTraces = false) : ev_Snd X l ev_ms x_X8_hasMore tx_X8_hasMore 14 (i_gf X 13 3 17) := s_getfield hG (ci := 13) (r := (RX8, TX8, 5)) rfl cw_13 (k := 3) (Nat.le_of_ble_eq_true rfl) w_1263 rfl (Or.inl rfl) dX8_hasMore_14
theorem s_X8_hasMore_17 {X : ev_E} {l : Launch} (hG : ev_Good X) (hl : l.stackTraces = false) : ev_Snd X l ev_ms x_X8_hasMore tx_X8_hasMore 17 (i_il 1 18) := s_iload_n dX8_hasMore_17 rfl
theorem s_X8_hasMore_18 {X : ev_E} {l : Launch} (hG : ev_Good X) (hl : l.stackTraces = false) : ev_Snd X l ev_ms x_X8_hasMore tx_X8_hasMore 18 (i_ald X FieldType.isReference 19) := s_aaload hG dX8_hasMore_18
theorem s_X8_hasMore_19 {X : ev_E} {l : Launch} (hG : ev_Good X) (hl : l.stackTraces = false) : ev_Snd X l ev_ms x_X8_hasMore tx_X8_hasMore 19 (i_cV X 115 0 12 1 22) := s_invokevirtual hG (mi := 115) (n := 0) (ci := 12) (r := (RX7, TX7, 9)) rfl (cal_X7_hasMore (Nat.le_of_ble_eq_true rfl)) w_1550 w_1551 w_1552 dX8_hasMore_19
theorem s_X8_hasMore_22 {X : ev_E} {l : Launch} (hG : ev_Good X) (hl : l.stackTraces = false) : ev_Snd X l ev_ms x_X8_hasMore tx_X8_hasMore 22 (i_ifeq 29 25) := s_ifeq dX8_hasMore_22 rfl
theorem s_X8_hasMore_25 {X : ev_E} {l : Launch} (hG : ev_Good X) (hl : l.stackTraces = false) : ev_Snd X l ev_ms x_X8_hasMore tx_X8_hasMore 25 (i_psh (.int (1)) 26) := s_iconst dX8_hasMore_25 rfl
theorem s_X8_hasMore_26 {X : ev_E} {l : Launch} (hG : ev_Good X) (hl : l.stackTraces = false) : ev_Snd X l ev_ms x_X8_hasMore tx_X8_hasMore 26 (i_goto 30) := s_goto dX8_hasMore_26 rfl
theorem s_X8_hasMore_29 {X : ev_E} {l : Launch} (hG : ev_Good X) (hl : l.stackTraces = false) : ev_Snd X l ev_ms x_X8_hasMore tx_X8_hasMore 29 (i_psh (.int (0)) 30) := s_iconst dX8_hasMore_29 rfl
theorem s_X8_hasMore_30 {X : ev_E} {l : Launch} (hG : ev_Good X) (hl : l.stackTraces = false) : ev_Snd X l ev_ms x_X8_hasMore tx_X8_hasMore 30 (i_ir (.boolean)) := s_ireturn rfl dX8_hasMore_30
theorem sa_X8_hasMore {X : ev_E} {l : Launch} (hG : ev_Good X) (hl : l.stackTraces = false) : ∀ q ∈ tb_X8_hasMore X, ev_Snd X l ev_ms x_X8_hasMore tx_X8_hasMore q.1 q.2 := by
  intro q hq
  unfold tb_X8_hasMore at hq
  simp only [List.mem_cons, List.not_mem_nil, or_false] at hq
  rcases hq with rfl | rfl | rfl | rfl | rfl | rfl | rfl | rfl | rfl | rfl | rfl | rfl | rfl | rfl | rfl | rfl | rfl
  · exact s_X8_hasMore_0 hG hl
  · exact s_X8_hasMore_1 hG hl
  · exact s_X8_hasMore_2 hG hl
  · exact s_X8_hasMore_5 hG hl
  · exact s_X8_hasMore_6 hG hl
  · exact s_X8_hasMore_7 hG hl
  · exact s_X8_hasMore_10 hG hl
  · exact s_X8_hasMore_13 hG hl
  · exact s_X8_hasMore_14 hG hl
  · exact s_X8_hasMore_17 hG hl
  · exact s_X8_hasMore_18 hG hl
  · exact s_X8_hasMore_19 hG hl
  · exact s_X8_hasMore_22 hG hl
  · exact s_X8_hasMore_25 hG hl
  · exact s_X8_hasMore_26 hG hl
  · exact s_X8_hasMore_29 hG hl
  · exact s_X8_hasMore_30 hG hl
def tx_X8_isNoKey : ev_X := fun _ _ => some none
noncomputable def tb_X8_isNoKey (X : ev_E) : List (Nat × (ev_S → ev_N)) := [(0, i_al 0 1), (1, i_il 1 2), (2, i_cS 118 1 1 5), (5, i_il 2 6), (6, i_psh (.int (20)) 8), (8, i_cS 65 2 2 11), (11, i_psh (.int (0)) 12), (12, i_cV X 63 3 13 4 15), (15, i_ir (.boolean))]
theorem s_X8_isNoKey_0 {X : ev_E} {l : Launch} (hG : ev_Good X) (hl : l.stackTraces = false) : ev_Snd X l ev_ms x_X8_isNoKey tx_X8_isNoKey 0 (i_al 0 1) := s_aload_n dX8_isNoKey_0 rfl
theorem s_X8_isNoKey_1 {X : ev_E} {l : Launch} (hG : ev_Good X) (hl : l.stackTraces = false) : ev_Snd X l ev_ms x_X8_isNoKey tx_X8_isNoKey 1 (i_il 1 2) := s_iload_n dX8_isNoKey_1 rfl
theorem s_X8_isNoKey_2 {X : ev_E} {l : Launch} (hG : ev_Good X) (hl : l.stackTraces = false) : ev_Snd X l ev_ms x_X8_isNoKey tx_X8_isNoKey 2 (i_cS 118 1 1 5) := s_invokestatic hG (mi := 118) (n := 1) (cal_X8_isNo (Nat.le_of_ble_eq_true rfl)) w_1284 w_1285 dX8_isNoKey_2
theorem s_X8_isNoKey_5 {X : ev_E} {l : Launch} (hG : ev_Good X) (hl : l.stackTraces = false) : ev_Snd X l ev_ms x_X8_isNoKey tx_X8_isNoKey 5 (i_il 2 6) := s_iload_n dX8_isNoKey_5 rfl
theorem s_X8_isNoKey_6 {X : ev_E} {l : Launch} (hG : ev_Good X) (hl : l.stackTraces = false) : ev_Snd X l ev_ms x_X8_isNoKey tx_X8_isNoKey 6 (i_psh (.int (20)) 8) := s_bipush dX8_isNoKey_6 rfl
theorem s_X8_isNoKey_8 {X : ev_E} {l : Launch} (hG : ev_Good X) (hl : l.stackTraces = false) : ev_Snd X l ev_ms x_X8_isNoKey tx_X8_isNoKey 8 (i_cS 65 2 2 11) := s_invokestatic hG (mi := 65) (n := 2) (cal_X8_isOut (Nat.le_of_ble_eq_true rfl)) w_1287 w_1288 dX8_isNoKey_8
theorem s_X8_isNoKey_11 {X : ev_E} {l : Launch} (hG : ev_Good X) (hl : l.stackTraces = false) : ev_Snd X l ev_ms x_X8_isNoKey tx_X8_isNoKey 11 (i_psh (.int (0)) 12) := s_iconst dX8_isNoKey_11 rfl
theorem s_X8_isNoKey_12 {X : ev_E} {l : Launch} (hG : ev_Good X) (hl : l.stackTraces = false) : ev_Snd X l ev_ms x_X8_isNoKey tx_X8_isNoKey 12 (i_cV X 63 3 13 4 15) := s_invokevirtual hG (mi := 63) (n := 3) (ci := 13) (r := (RX8, TX8, 5)) rfl (cal_X8_fails (Nat.le_of_ble_eq_true rfl)) w_1290 w_1292 w_22 dX8_isNoKey_12
theorem s_X8_isNoKey_15 {X : ev_E} {l : Launch} (hG : ev_Good X) (hl : l.stackTraces = false) : ev_Snd X l ev_ms x_X8_isNoKey tx_X8_isNoKey 15 (i_ir (.boolean)) := s_ireturn rfl dX8_isNoKey_15
theorem sa_X8_isNoKey {X : ev_E} {l : Launch} (hG : ev_Good X) (hl : l.stackTraces = false) : ∀ q ∈ tb_X8_isNoKey X, ev_Snd X l ev_ms x_X8_isNoKey tx_X8_isNoKey q.1 q.2 := by
  intro q hq
  unfold tb_X8_isNoKey at hq
  simp only [List.mem_cons, List.not_mem_nil, or_false] at hq
  rcases hq with rfl | rfl | rfl | rfl | rfl | rfl | rfl | rfl | rfl
  · exact s_X8_isNoKey_0 hG hl
  · exact s_X8_isNoKey_1 hG hl
  · exact s_X8_isNoKey_2 hG hl
  · exact s_X8_isNoKey_5 hG hl
  · exact s_X8_isNoKey_6 hG hl
  · exact s_X8_isNoKey_8 hG hl
  · exact s_X8_isNoKey_11 hG hl
  · exact s_X8_isNoKey_12 hG hl
  · exact s_X8_isNoKey_15 hG hl
def tx_X8_isStale : ev_X := fun _ _ => some none
noncomputable def tb_X8_isStale (X : ev_E) : List (Nat × (ev_S → ev_N)) := [(0, i_al 0 1), (1, i_il 1 2), (2, i_cS 118 1 1 5), (5, i_psh (.int (0)) 6), (6, i_psh (.int (0)) 7), (7, i_cV X 63 3 13 4 10), (10, i_ifne 25 13), (13, i_al 0 14), (14, i_il 1 15), (15, i_cV X 67 1 13 2 18), (18, i_ifeq 25 21), (21, i_psh (.int (1)) 22), (22, i_goto 26), (25, i_psh (.int (0)) 26), (26, i_ir (.boolean))]
theorem s_X8_isStale_0 {X : ev_E} {l : Launch} (hG : ev_Good X) (hl : l.stackTraces = false) : ev_Snd X l ev_ms x_X8_isStale tx_X8_isStale 0 (i_al 0 1) := s_aload_n dX8_isStale_0 rfl
theorem s_X8_isStale_1 {X : ev_E} {l : Launch} (hG : ev_Good X) (hl : l.stackTraces = false) : ev_Snd X l ev_ms x_X8_isStale tx_X8_isStale 1 (i_il 1 2) := s_iload_n dX8_isStale_1 rfl
theorem s_X8_isStale_2 {X : ev_E} {l : Launch} (hG : ev_Good X) (hl : l.stackTraces = false) : ev_Snd X l ev_ms x_X8_isStale tx_X8_isStale 2 (i_cS 118 1 1 5) := s_invokestatic hG (mi := 118) (n := 1) (cal_X8_isNo (Nat.le_of_ble_eq_true rfl)) w_1284 w_1285 dX8_isStale_2
theorem s_X8_isStale_5 {X : ev_E} {l : Launch} (hG : ev_Good X) (hl : l.stackTraces = false) : ev_Snd X l ev_ms x_X8_isStale tx_X8_isStale 5 (i_psh (.int (0)) 6) := s_iconst dX8_isStale_5 rfl
theorem s_X8_isStale_6 {X : ev_E} {l : Launch} (hG : ev_Good X) (hl : l.stackTraces = false) : ev_Snd X l ev_ms x_X8_isStale tx_X8_isStale 6 (i_psh (.int (0)) 7) := s_iconst dX8_isStale_6 rfl
theorem s_X8_isStale_7 {X : ev_E} {l : Launch} (hG : ev_Good X) (hl : l.stackTraces = false) : ev_Snd X l ev_ms x_X8_isStale tx_X8_isStale 7 (i_cV X 63 3 13 4 10) := s_invokevirtual hG (mi := 63) (n := 3) (ci := 13) (r := (RX8, TX8, 5)) rfl (cal_X8_fails (Nat.le_of_ble_eq_true rfl)) w_1290 w_1292 w_22 dX8_isStale_7
theorem s_X8_isStale_10 {X : ev_E} {l : Launch} (hG : ev_Good X) (hl : l.stackTraces = false) : ev_Snd X l ev_ms x_X8_isStale tx_X8_isStale 10 (i_ifne 25 13) := s_ifne dX8_isStale_10 rfl
theorem s_X8_isStale_13 {X : ev_E} {l : Launch} (hG : ev_Good X) (hl : l.stackTraces = false) : ev_Snd X l ev_ms x_X8_isStale tx_X8_isStale 13 (i_al 0 14) := s_aload_n dX8_isStale_13 rfl
theorem s_X8_isStale_14 {X : ev_E} {l : Launch} (hG : ev_Good X) (hl : l.stackTraces = false) : ev_Snd X l ev_ms x_X8_isStale tx_X8_isStale 14 (i_il 1 15) := s_iload_n dX8_isStale_14 rfl
theorem s_X8_isStale_15 {X : ev_E} {l : Launch} (hG : ev_Good X) (hl : l.stackTraces = false) : ev_Snd X l ev_ms x_X8_isStale tx_X8_isStale 15 (i_cV X 67 1 13 2 18) := s_invokevirtual hG (mi := 67) (n := 1) (ci := 13) (r := (RX8, TX8, 5)) rfl (cal_X8_isStaleNow (Nat.le_of_ble_eq_true rfl)) w_1571 w_1573 w_32 dX8_isStale_15
theorem s_X8_isStale_18 {X : ev_E} {l : Launch} (hG : ev_Good X) (hl : l.stackTraces = false) : ev_Snd X l ev_ms x_X8_isStale tx_X8_isStale 18 (i_ifeq 25 21) := s_ifeq dX8_isStale_18 rfl
theorem s_X8_isStale_21 {X : ev_E} {l : Launch} (hG : ev_Good X) (hl : l.stackTraces = false) : ev_Snd X l ev_ms x_X8_isStale tx_X8_isStale 21 (i_psh (.int (1)) 22) := s_iconst dX8_isStale_21 rfl
theorem s_X8_isStale_22 {X : ev_E} {l : Launch} (hG : ev_Good X) (hl : l.stackTraces = false) : ev_Snd X l ev_ms x_X8_isStale tx_X8_isStale 22 (i_goto 26) := s_goto dX8_isStale_22 rfl
theorem s_X8_isStale_25 {X : ev_E} {l : Launch} (hG : ev_Good X) (hl : l.stackTraces = false) : ev_Snd X l ev_ms x_X8_isStale tx_X8_isStale 25 (i_psh (.int (0)) 26) := s_iconst dX8_isStale_25 rfl
theorem s_X8_isStale_26 {X : ev_E} {l : Launch} (hG : ev_Good X) (hl : l.stackTraces = false) : ev_Snd X l ev_ms x_X8_isStale tx_X8_isStale 26 (i_ir (.boolean)) := s_ireturn rfl dX8_isStale_26
theorem sa_X8_isStale {X : ev_E} {l : Launch} (hG : ev_Good X) (hl : l.stackTraces = false) : ∀ q ∈ tb_X8_isStale X, ev_Snd X l ev_ms x_X8_isStale tx_X8_isStale q.1 q.2 := by
  intro q hq
  unfold tb_X8_isStale at hq
  simp only [List.mem_cons, List.not_mem_nil, or_false] at hq
  rcases hq with rfl | rfl | rfl | rfl | rfl | rfl | rfl | rfl | rfl | rfl | rfl | rfl | rfl | rfl | rfl
  · exact s_X8_isStale_0 hG hl
  · exact s_X8_isStale_1 hG hl
  · exact s_X8_isStale_2 hG hl
  · exact s_X8_isStale_5 hG hl
  · exact s_X8_isStale_6 hG hl
  · exact s_X8_isStale_7 hG hl
  · exact s_X8_isStale_10 hG hl
  · exact s_X8_isStale_13 hG hl
  · exact s_X8_isStale_14 hG hl
  · exact s_X8_isStale_15 hG hl
  · exact s_X8_isStale_18 hG hl
  · exact s_X8_isStale_21 hG hl
  · exact s_X8_isStale_22 hG hl
  · exact s_X8_isStale_25 hG hl
  · exact s_X8_isStale_26 hG hl
def tx_X8_make : ev_X := fun _ _ => some none
noncomputable def tb_X8_make (X : ev_E) : List (Nat × (ev_S → ev_N)) := [(0, i_al 0 1), (1, i_il 1 2), (2, i_cS 118 1 1 5), (5, i_il 3 6), (6, i_psh (.int (-1)) 7), (7, i_iceq 25 10), (10, i_il 3 11), (11, i_psh (.int (1)) 12), (12, i_ii (fun a b => a - b) 13), (13, i_psh (.int (12)) 15), (15, i_cS 65 2 2 18), (18, i_ifeq 25 21), (21, i_psh (.int (1)) 22), (22, i_goto 26), (25, i_psh (.int (0)) 26), (26, i_psh (.int (0)) 27), (27, i_cV X 63 3 13 4 30), (30, i_ifeq 35 33), (33, i_psh (.int (0)) 34), (34, i_ir (.int)), (35, i_al 0 36), (36, i_gf X 13 3 39), (39, i_il 1 40), (40, i_ald X FieldType.isReference 41), (41, i_as 4 43), (43, i_al 4 45), (45, i_gf X 12 0 48), (48, i_cV X 24 0 4 1 51), (51, i_is 5 53), (53, i_al 4 55), (55, i_gf X 12 0 58), (58, i_cV X 21 0 4 4 61), (61, i_al 4 63), (63, i_il 2 64), (64, i_il 3 65), (65, i_cV X 61 2 12 3 68), (68, i_al 4 70), (70, i_psh (.int (1)) 71), (71, i_pf 12 8 (.boolean) 74), (74, i_il 5 76), (76, i_ir (.int))]
theorem s_X8_make_0 {X : ev_E} {l : Launch} (hG : ev_Good X) (hl : l.stackTraces = false) : ev_Snd X l ev_ms x_X8_make tx_X8_make 0 (i_al 0 1) := s_aload_n dX8_make_0 rfl
theorem s_X8_make_1 {X : ev_E} {l : Launch} (hG : ev_Good X) (hl : l.stackTraces = false) : ev_Snd X l ev_ms x_X8_make tx_X8_make 1 (i_il 1 2) := s_iload_n dX8_make_1 rfl
theorem s_X8_make_2 {X : ev_E} {l : Launch} (hG : ev_Good X) (hl : l.stackTraces = false) : ev_Snd X l ev_ms x_X8_make tx_X8_make 2 (i_cS 118 1 1 5) := s_invokestatic hG (mi := 118) (n := 1) (cal_X8_isNo (Nat.le_of_ble_eq_true rfl)) w_1284 w_1285 dX8_make_2
theorem s_X8_make_5 {X : ev_E} {l : Launch} (hG : ev_Good X) (hl : l.stackTraces = false) : ev_Snd X l ev_ms x_X8_make tx_X8_make 5 (i_il 3 6) := s_iload_n dX8_make_5 rfl
theorem s_X8_make_6 {X : ev_E} {l : Launch} (hG : ev_Good X) (hl : l.stackTraces = false) : ev_Snd X l ev_ms x_X8_make tx_X8_make 6 (i_psh (.int (-1)) 7) := s_iconst dX8_make_6 rfl
theorem s_X8_make_7 {X : ev_E} {l : Launch} (hG : ev_Good X) (hl : l.stackTraces = false) : ev_Snd X l ev_ms x_X8_make tx_X8_make 7 (i_iceq 25 10) := s_iceq dX8_make_7 rfl
theorem s_X8_make_10 {X : ev_E} {l : Launch} (hG : ev_Good X) (hl : l.stackTraces = false) : ev_Snd X l ev_ms x_X8_make tx_X8_make 10 (i_il 3 11) := s_iload_n dX8_make_10 rfl
theorem s_X8_make_11 {X : ev_E} {l : Launch} (hG : ev_Good X) (hl : l.stackTraces = false) : ev_Snd X l ev_ms x_X8_make tx_X8_make 11 (i_psh (.int (1)) 12) := s_iconst dX8_make_11 rfl
theorem s_X8_make_12 {X : ev_E} {l : Launch} (hG : ev_Good X) (hl : l.stackTraces = false) : ev_Snd X l ev_ms x_X8_make tx_X8_make 12 (i_ii (fun a b => a - b) 13) := s_isub dX8_make_12
theorem s_X8_make_13 {X : ev_E} {l : Launch} (hG : ev_Good X) (hl : l.stackTraces = false) : ev_Snd X l ev_ms x_X8_make tx_X8_make 13 (i_psh (.int (12)) 15) := s_bipush dX8_make_13 rfl
theorem s_X8_make_15 {X : ev_E} {l : Launch} (hG : ev_Good X) (hl : l.stackTraces = false) : ev_Snd X l ev_ms x_X8_make tx_X8_make 15 (i_cS 65 2 2 18) := s_invokestatic hG (mi := 65) (n := 2) (cal_X8_isOut (Nat.le_of_ble_eq_true rfl)) w_1287 w_1288 dX8_make_15
theorem s_X8_make_18 {X : ev_E} {l : Launch} (hG : ev_Good X) (hl : l.stackTraces = false) : ev_Snd X l ev_ms x_X8_make tx_X8_make 18 (i_ifeq 25 21) := s_ifeq dX8_make_18 rfl
theorem s_X8_make_21 {X : ev_E} {l : Launch} (hG : ev_Good X) (hl : l.stackTraces = false) : ev_Snd X l ev_ms x_X8_make tx_X8_make 21 (i_psh (.int (1)) 22) := s_iconst dX8_make_21 rfl
theorem s_X8_make_22 {X : ev_E} {l : Launch} (hG : ev_Good X) (hl : l.stackTraces = false) : ev_Snd X l ev_ms x_X8_make tx_X8_make 22 (i_goto 26) := s_goto dX8_make_22 rfl
theorem s_X8_make_25 {X : ev_E} {l : Launch} (hG : ev_Good X) (hl : l.stackTraces = false) : ev_Snd X l ev_ms x_X8_make tx_X8_make 25 (i_psh (.int (0)) 26) := s_iconst dX8_make_25 rfl
theorem s_X8_make_26 {X : ev_E} {l : Launch} (hG : ev_Good X) (hl : l.stackTraces = false) : ev_Snd X l ev_ms x_X8_make tx_X8_make 26 (i_psh (.int (0)) 27) := s_iconst dX8_make_26 rfl
theorem s_X8_make_27 {X : ev_E} {l : Launch} (hG : ev_Good X) (hl : l.stackTraces = false) : ev_Snd X l ev_ms x_X8_make tx_X8_make 27 (i_cV X 63 3 13 4 30) := s_invokevirtual hG (mi := 63) (n := 3) (ci := 13) (r := (RX8, TX8, 5)) rfl (cal_X8_fails (Nat.le_of_ble_eq_true rfl)) w_1290 w_1292 w_22 dX8_make_27
theorem s_X8_make_30 {X : ev_E} {l : Launch} (hG : ev_Good X) (hl : l.stackTraces = false) : ev_Snd X l ev_ms x_X8_make tx_X8_make 30 (i_ifeq 35 33) := s_ifeq dX8_make_30 rfl
theorem s_X8_make_33 {X : ev_E} {l : Launch} (hG : ev_Good X) (hl : l.stackTraces = false) : ev_Snd X l ev_ms x_X8_make tx_X8_make 33 (i_psh (.int (0)) 34) := s_iconst dX8_make_33 rfl
theorem s_X8_make_34 {X : ev_E} {l : Launch} (hG : ev_Good X) (hl : l.stackTraces = false) : ev_Snd X l ev_ms x_X8_make tx_X8_make 34 (i_ir (.int)) := s_ireturn rfl dX8_make_34
theorem s_X8_make_35 {X : ev_E} {l : Launch} (hG : ev_Good X) (hl : l.stackTraces = false) : ev_Snd X l ev_ms x_X8_make tx_X8_make 35 (i_al 0 36) := s_aload_n dX8_make_35 rfl
theorem s_X8_make_36 {X : ev_E} {l : Launch} (hG : ev_Good X) (hl : l.stackTraces = false) : ev_Snd X l ev_ms x_X8_make tx_X8_make 36 (i_gf X 13 3 39) := s_getfield hG (ci := 13) (r := (RX8, TX8, 5)) rfl cw_13 (k := 3) (Nat.le_of_ble_eq_true rfl) w_1263 rfl (Or.inl rfl) dX8_make_36
theorem s_X8_make_39 {X : ev_E} {l : Launch} (hG : ev_Good X) (hl : l.stackTraces = false) : ev_Snd X l ev_ms x_X8_make tx_X8_make 39 (i_il 1 40) := s_iload_n dX8_make_39 rfl
theorem s_X8_make_40 {X : ev_E} {l : Launch} (hG : ev_Good X) (hl : l.stackTraces = false) : ev_Snd X l ev_ms x_X8_make tx_X8_make 40 (i_ald X FieldType.isReference 41) := s_aaload hG dX8_make_40
theorem s_X8_make_41 {X : ev_E} {l : Launch} (hG : ev_Good X) (hl : l.stackTraces = false) : ev_Snd X l ev_ms x_X8_make tx_X8_make 41 (i_as 4 43) := s_astore dX8_make_41 (Nat.le_of_ble_eq_true rfl)
theorem s_X8_make_43 {X : ev_E} {l : Launch} (hG : ev_Good X) (hl : l.stackTraces = false) : ev_Snd X l ev_ms x_X8_make tx_X8_make 43 (i_al 4 45) := s_aload dX8_make_43
theorem s_X8_make_45 {X : ev_E} {l : Launch} (hG : ev_Good X) (hl : l.stackTraces = false) : ev_Snd X l ev_ms x_X8_make tx_X8_make 45 (i_gf X 12 0 48) := s_getfield hG (ci := 12) (r := (RX7, TX7, 9)) rfl cw_12 (k := 0) (Nat.le_of_ble_eq_true rfl) w_1222 rfl (Or.inl rfl) dX8_make_45
theorem s_X8_make_48 {X : ev_E} {l : Launch} (hG : ev_Good X) (hl : l.stackTraces = false) : ev_Snd X l ev_ms x_X8_make tx_X8_make 48 (i_cV X 24 0 4 1 51) := s_invokevirtual hG (mi := 24) (n := 0) (ci := 4) (r := (RJx4a65c, TJx4a65c, 3)) rfl (cal_Jx4a65c_size_8abf5 (Nat.le_of_ble_eq_true rfl)) w_1294 w_1295 w_1296 dX8_make_48
theorem s_X8_make_51 {X : ev_E} {l : Launch} (hG : ev_Good X) (hl : l.stackTraces = false) : ev_Snd X l ev_ms x_X8_make tx_X8_make 51 (i_is 5 53) := s_istore dX8_make_51 (Nat.le_of_ble_eq_true rfl)
theorem s_X8_make_53 {X : ev_E} {l : Launch} (hG : ev_Good X) (hl : l.stackTraces = false) : ev_Snd X l ev_ms x_X8_make tx_X8_make 53 (i_al 4 55) := s_aload dX8_make_53
theorem s_X8_make_55 {X : ev_E} {l : Launch} (hG : ev_Good X) (hl : l.stackTraces = false) : ev_Snd X l ev_ms x_X8_make tx_X8_make 55 (i_gf X 12 0 58) := s_getfield hG (ci := 12) (r := (RX7, TX7, 9)) rfl cw_12 (k := 0) (Nat.le_of_ble_eq_true rfl) w_1222 rfl (Or.inl rfl) dX8_make_55
theorem s_X8_make_58 {X : ev_E} {l : Launch} (hG : ev_Good X) (hl : l.stackTraces = false) : ev_Snd X l ev_ms x_X8_make tx_X8_make 58 (i_cV X 21 0 4 4 61) := s_invokevirtual hG (mi := 21) (n := 0) (ci := 4) (r := (RJx4a65c, TJx4a65c, 3)) rfl (cal_Jx4a65c_clear_da8c8 (Nat.le_of_ble_eq_true rfl)) w_1298 w_1299 w_1300 dX8_make_58
theorem s_X8_make_61 {X : ev_E} {l : Launch} (hG : ev_Good X) (hl : l.stackTraces = false) : ev_Snd X l ev_ms x_X8_make tx_X8_make 61 (i_al 4 63) := s_aload dX8_make_61
theorem s_X8_make_63 {X : ev_E} {l : Launch} (hG : ev_Good X) (hl : l.stackTraces = false) : ev_Snd X l ev_ms x_X8_make tx_X8_make 63 (i_il 2 64) := s_iload_n dX8_make_63 rfl
theorem s_X8_make_64 {X : ev_E} {l : Launch} (hG : ev_Good X) (hl : l.stackTraces = false) : ev_Snd X l ev_ms x_X8_make tx_X8_make 64 (i_il 3 65) := s_iload_n dX8_make_64 rfl
theorem s_X8_make_65 {X : ev_E} {l : Launch} (hG : ev_Good X) (hl : l.stackTraces = false) : ev_Snd X l ev_ms x_X8_make tx_X8_make 65 (i_cV X 61 2 12 3 68) := s_invokevirtual hG (mi := 61) (n := 2) (ci := 12) (r := (RX7, TX7, 9)) rfl (cal_X7_anew (Nat.le_of_ble_eq_true rfl)) w_1302 w_1303 w_1304 dX8_make_65
theorem s_X8_make_68 {X : ev_E} {l : Launch} (hG : ev_Good X) (hl : l.stackTraces = false) : ev_Snd X l ev_ms x_X8_make tx_X8_make 68 (i_al 4 70) := s_aload dX8_make_68
theorem s_X8_make_70 {X : ev_E} {l : Launch} (hG : ev_Good X) (hl : l.stackTraces = false) : ev_Snd X l ev_ms x_X8_make tx_X8_make 70 (i_psh (.int (1)) 71) := s_iconst dX8_make_70 rfl
theorem s_X8_make_71 {X : ev_E} {l : Launch} (hG : ev_Good X) (hl : l.stackTraces = false) : ev_Snd X l ev_ms x_X8_make tx_X8_make 71 (i_pf 12 8 (.boolean) 74) := s_putfield hG (ci := 12) (r := (RX7, TX7, 9)) rfl cw_12 ap_12 (k := 8) (Nat.le_of_ble_eq_true rfl) rfl (by decide +kernel) w_1238 rfl (Or.inl rfl) dX8_make_71
theorem s_X8_make_74 {X : ev_E} {l : Launch} (hG : ev_Good X) (hl : l.stackTraces = false) : ev_Snd X l ev_ms x_X8_make tx_X8_make 74 (i_il 5 76) := s_iload dX8_make_74
theorem s_X8_make_76 {X : ev_E} {l : Launch} (hG : ev_Good X) (hl : l.stackTraces = false) : ev_Snd X l ev_ms x_X8_make tx_X8_make 76 (i_ir (.int)) := s_ireturn rfl dX8_make_76
theorem sa_X8_make {X : ev_E} {l : Launch} (hG : ev_Good X) (hl : l.stackTraces = false) : ∀ q ∈ tb_X8_make X, ev_Snd X l ev_ms x_X8_make tx_X8_make q.1 q.2 := by
  intro q hq
  unfold tb_X8_make at hq
  simp only [List.mem_cons, List.not_mem_nil, or_false] at hq
  rcases hq with rfl | rfl | rfl | rfl | rfl | rfl | rfl | rfl | rfl | rfl | rfl | rfl | rfl | rfl | rfl | rfl | rfl | rfl | rfl | rfl | rfl | rfl | rfl | rfl | rfl | rfl | rfl | rfl | rfl | rfl | rfl | rfl | rfl | rfl | rfl | rfl | rfl | rfl | rfl | rfl | rfl
  · exact s_X8_make_0 hG hl
  · exact s_X8_make_1 hG hl
  · exact s_X8_make_2 hG hl
  · exact s_X8_make_5 hG hl
  · exact s_X8_make_6 hG hl
  · exact s_X8_make_7 hG hl
  · exact s_X8_make_10 hG hl
  · exact s_X8_make_11 hG hl
  · exact s_X8_make_12 hG hl
  · exact s_X8_make_13 hG hl
  · exact s_X8_make_15 hG hl
  · exact s_X8_make_18 hG hl
  · exact s_X8_make_21 hG hl
  · exact s_X8_make_22 hG hl
  · exact s_X8_make_25 hG hl
  · exact s_X8_make_26 hG hl
  · exact s_X8_make_27 hG hl
  · exact s_X8_make_30 hG hl
  · exact s_X8_make_33 hG hl
  · exact s_X8_make_34 hG hl
  · exact s_X8_make_35 hG hl
  · exact s_X8_make_36 hG hl
  · exact s_X8_make_39 hG hl
  · exact s_X8_make_40 hG hl
  · exact s_X8_make_41 hG hl
  · exact s_X8_make_43 hG hl
  · exact s_X8_make_45 hG hl
  · exact s_X8_make_48 hG hl
  · exact s_X8_make_51 hG hl
  · exact s_X8_make_53 hG hl
  · exact s_X8_make_55 hG hl
  · exact s_X8_make_58 hG hl
  · exact s_X8_make_61 hG hl
  · exact s_X8_make_63 hG hl
  · exact s_X8_make_64 hG hl
  · exact s_X8_make_65 hG hl
  · exact s_X8_make_68 hG hl
  · exact s_X8_make_70 hG hl
  · exact s_X8_make_71 hG hl
  · exact s_X8_make_74 hG hl
  · exact s_X8_make_76 hG hl
def tx_X8_size : ev_X := fun _ _ => some none
noncomputable def tb_X8_size (X : ev_E) : List (Nat × (ev_S → ev_N)) := [(0, i_al 0 1), (1, i_il 1 2), (2, i_cS 118 1 1 5), (5, i_psh (.int (0)) 6), (6, i_psh (.int (0)) 7), (7, i_cV X 63 3 13 4 10), (10, i_ifeq 17 13), (13, i_psh (.int (0)) 14), (14, i_goto 29), (17, i_al 0 18), (18, i_gf X 13 3 21), (21, i_il 1 22), (22, i_ald X FieldType.isReference 23), (23, i_gf X 12 0 26), (26, i_cV X 24 0 4 1 29), (29, i_ir (.int))]
theorem s_X8_size_0 {X : ev_E} {l : Launch} (hG : ev_Good X) (hl : l.stackTraces = false) : ev_Snd X l ev_ms x_X8_size tx_X8_size 0 (i_al 0 1) := s_aload_n dX8_size_0 rfl
theorem s_X8_size_1 {X : ev_E} {l : Launch} (hG : ev_Good X) (hl : l.stackTraces = false) : ev_Snd X l ev_ms x_X8_size tx_X8_size 1 (i_il 1 2) := s_iload_n dX8_size_1 rfl
theorem s_X8_size_2 {X : ev_E} {l : Launch} (hG : ev_Good X) (hl : l.stackTraces = false) : ev_Snd X l ev_ms x_X8_size tx_X8_size 2 (i_cS 118 1 1 5) := s_invokestatic hG (mi := 118) (n := 1) (cal_X8_isNo (Nat.le_of_ble_eq_true rfl)) w_1284 w_1285 dX8_size_2
theorem s_X8_size_5 {X : ev_E} {l : Launch} (hG : ev_Good X) (hl : l.stackTraces = false) : ev_Snd X l ev_ms x_X8_size tx_X8_size 5 (i_psh (.int (0)) 6) := s_iconst dX8_size_5 rfl
theorem s_X8_size_6 {X : ev_E} {l : Launch} (hG : ev_Good X) (hl : l.stackTraces = false) : ev_Snd X l ev_ms x_X8_size tx_X8_size 6 (i_psh (.int (0)) 7) := s_iconst dX8_size_6 rfl
theorem s_X8_size_7 {X : ev_E} {l : Launch} (hG : ev_Good X) (hl : l.stackTraces = false) : ev_Snd X l ev_ms x_X8_size tx_X8_size 7 (i_cV X 63 3 13 4 10) := s_invokevirtual hG (mi := 63) (n := 3) (ci := 13) (r := (RX8, TX8, 5)) rfl (cal_X8_fails (Nat.le_of_ble_eq_true rfl)) w_1290 w_1292 w_22 dX8_size_7
theorem s_X8_size_10 {X : ev_E} {l : Launch} (hG : ev_Good X) (hl : l.stackTraces = false) : ev_Snd X l ev_ms x_X8_size tx_X8_size 10 (i_ifeq 17 13) := s_ifeq dX8_size_10 rfl
theorem s_X8_size_13 {X : ev_E} {l : Launch} (hG : ev_Good X) (hl : l.stackTraces = false) : ev_Snd X l ev_ms x_X8_size tx_X8_size 13 (i_psh (.int (0)) 14) := s_iconst dX8_size_13 rfl
theorem s_X8_size_14 {X : ev_E} {l : Launch} (hG : ev_Good X) (hl : l.stackTraces = false) : ev_Snd X l ev_ms x_X8_size tx_X8_size 14 (i_goto 29) := s_goto dX8_size_14 rfl
theorem s_X8_size_17 {X : ev_E} {l : Launch} (hG : ev_Good X) (hl : l.stackTraces = false) : ev_Snd X l ev_ms x_X8_size tx_X8_size 17 (i_al 0 18) := s_aload_n dX8_size_17 rfl
theorem s_X8_size_18 {X : ev_E} {l : Launch} (hG : ev_Good X) (hl : l.stackTraces = false) : ev_Snd X l ev_ms x_X8_size tx_X8_size 18 (i_gf X 13 3 21) := s_getfield hG (ci := 13) (r := (RX8, TX8, 5)) rfl cw_13 (k := 3) (Nat.le_of_ble_eq_true rfl) w_1263 rfl (Or.inl rfl) dX8_size_18
theorem s_X8_size_21 {X : ev_E} {l : Launch} (hG : ev_Good X) (hl : l.stackTraces = false) : ev_Snd X l ev_ms x_X8_size tx_X8_size 21 (i_il 1 22) := s_iload_n dX8_size_21 rfl
theorem s_X8_size_22 {X : ev_E} {l : Launch} (hG : ev_Good X) (hl : l.stackTraces = false) : ev_Snd X l ev_ms x_X8_size tx_X8_size 22 (i_ald X FieldType.isReference 23) := s_aaload hG dX8_size_22
theorem s_X8_size_23 {X : ev_E} {l : Launch} (hG : ev_Good X) (hl : l.stackTraces = false) : ev_Snd X l ev_ms x_X8_size tx_X8_size 23 (i_gf X 12 0 26) := s_getfield hG (ci := 12) (r := (RX7, TX7, 9)) rfl cw_12 (k := 0) (Nat.le_of_ble_eq_true rfl) w_1222 rfl (Or.inl rfl) dX8_size_23
theorem s_X8_size_26 {X : ev_E} {l : Launch} (hG : ev_Good X) (hl : l.stackTraces = false) : ev_Snd X l ev_ms x_X8_size tx_X8_size 26 (i_cV X 24 0 4 1 29) := s_invokevirtual hG (mi := 24) (n := 0) (ci := 4) (r := (RJx4a65c, TJx4a65c, 3)) rfl (cal_Jx4a65c_size_8abf5 (Nat.le_of_ble_eq_true rfl)) w_1294 w_1295 w_1296 dX8_size_26
theorem s_X8_size_29 {X : ev_E} {l : Launch} (hG : ev_Good X) (hl : l.stackTraces = false) : ev_Snd X l ev_ms x_X8_size tx_X8_size 29 (i_ir (.int)) := s_ireturn rfl dX8_size_29
theorem sa_X8_size {X : ev_E} {l : Launch} (hG : ev_Good X) (hl : l.stackTraces = false) : ∀ q ∈ tb_X8_size X, ev_Snd X l ev_ms x_X8_size tx_X8_size q.1 q.2 := by
  intro q hq
  unfold tb_X8_size at hq
  simp only [List.mem_cons, List.not_mem_nil, or_false] at hq
  rcases hq with rfl | rfl | rfl | rfl | rfl | rfl | rfl | rfl | rfl | rfl | rfl | rfl | rfl | rfl | rfl | rfl
  · exact s_X8_size_0 hG hl
  · exact s_X8_size_1 hG hl
  · exact s_X8_size_2 hG hl
  · exact s_X8_size_5 hG hl
  · exact s_X8_size_6 hG hl
  · exact s_X8_size_7 hG hl
  · exact s_X8_size_10 hG hl
  · exact s_X8_size_13 hG hl
  · exact s_X8_size_14 hG hl
  · exact s_X8_size_17 hG hl
  · exact s_X8_size_18 hG hl
  · exact s_X8_size_21 hG hl
  · exact s_X8_size_22 hG hl
  · exact s_X8_size_23 hG hl
  · exact s_X8_size_26 hG hl
  · exact s_X8_size_29 hG hl
def tx_X8_tableNow : ev_X := fun pc _ => bif List.elem pc [21, 31] then none else some none
noncomputable def tb_X8_tableNow (X : ev_E) : List (Nat × (ev_S → ev_N)) := [(0, i_al 0 1), (1, i_gf X 13 3 4), (4, i_il 1 5), (5, i_ald X FieldType.isReference 6), (6, i_as 3 7), (7, i_psh (.int (0)) 8), (8, i_is 4 10), (10, i_al 3 11), (11, i_gf X 12 0 14), (14, i_cV X 87 0 4 1 17), (17, i_as 5 19), (19, i_al 5 21), (21, i_cV X 19 0 3 1 26), (26, i_ifeq 53 29), (29, i_al 5 31), (31, i_cV X 86 0 3 3 36), (36, i_cca 0 39), (39, i_as 6 41), (41, i_il 4 43), (43, i_al 6 45), (45, i_psh (.int (1)) 46), (46, i_ald X ev_tI 47), (47, i_ii (fun a b => a + b) 48), (48, i_is 4 50), (50, i_goto 19), (53, i_psh (.int (5)) 54), (54, i_na 0 (.int 0) 56), (56, i_dup 57), (57, i_psh (.int (0)) 58), (58, i_al 3 59), (59, i_gf X 12 1 62), (62, i_cS 70 1 1 65), (65, i_ast ev_tI (fun v => v) 66), (66, i_dup 67), (67, i_psh (.int (1)) 68), (68, i_al 3 69), (69, i_gf X 12 2 72), (72, i_ast ev_tI (fun v => v) 73), (73, i_dup 74), (74, i_psh (.int (2)) 75), (75, i_al 3 76), (76, i_gf X 12 3 79), (79, i_ast ev_tI (fun v => v) 80), (80, i_dup 81), (81, i_psh (.int (3)) 82), (82, i_al 3 83), (83, i_gf X 12 4 86), (86, i_ast ev_tI (fun v => v) 87), (87, i_dup 88), (88, i_psh (.int (4)) 89), (89, i_il 4 91), (91, i_ast ev_tI (fun v => v) 92), (92, i_as 5 94), (94, i_al 5 96), (96, i_il 2 97), (97, i_ald X ev_tI 98), (98, i_ir (.int))]
theorem s_X8_tableNow_0 {X : ev_E} {l : Launch} (hG : ev_Good X) (hl : l.stackTraces = false) : ev_Snd X l ev_ms x_X8_tableNow tx_X8_tableNow 0 (i_al 0 1) := s_aload_n dX8_tableNow_0 rfl
theorem s_X8_tableNow_1 {X : ev_E} {l : Launch} (hG : ev_Good X) (hl : l.stackTraces = false) : ev_Snd X l ev_ms x_X8_tableNow tx_X8_tableNow 1 (i_gf X 13 3 4) := s_getfield hG (ci := 13) (r := (RX8, TX8, 5)) rfl cw_13 (k := 3) (Nat.le_of_ble_eq_true rfl) w_1263 rfl (Or.inl rfl) dX8_tableNow_1
theorem s_X8_tableNow_4 {X : ev_E} {l : Launch} (hG : ev_Good X) (hl : l.stackTraces = false) : ev_Snd X l ev_ms x_X8_tableNow tx_X8_tableNow 4 (i_il 1 5) := s_iload_n dX8_tableNow_4 rfl
theorem s_X8_tableNow_5 {X : ev_E} {l : Launch} (hG : ev_Good X) (hl : l.stackTraces = false) : ev_Snd X l ev_ms x_X8_tableNow tx_X8_tableNow 5 (i_ald X FieldType.isReference 6) := s_aaload hG dX8_tableNow_5
theorem s_X8_tableNow_6 {X : ev_E} {l : Launch} (hG : ev_Good X) (hl : l.stackTraces = false) : ev_Snd X l ev_ms x_X8_tableNow tx_X8_tableNow 6 (i_as 3 7) := s_astore_n dX8_tableNow_6 rfl (Nat.le_of_ble_eq_true rfl)
theorem s_X8_tableNow_7 {X : ev_E} {l : Launch} (hG : ev_Good X) (hl : l.stackTraces = false) : ev_Snd X l ev_ms x_X8_tableNow tx_X8_tableNow 7 (i_psh (.int (0)) 8) := s_iconst dX8_tableNow_7 rfl
theorem s_X8_tableNow_8 {X : ev_E} {l : Launch} (hG : ev_Good X) (hl : l.stackTraces = false) : ev_Snd X l ev_ms x_X8_tableNow tx_X8_tableNow 8 (i_is 4 10) := s_istore dX8_tableNow_8 (Nat.le_of_ble_eq_true rfl)
theorem s_X8_tableNow_10 {X : ev_E} {l : Launch} (hG : ev_Good X) (hl : l.stackTraces = false) : ev_Snd X l ev_ms x_X8_tableNow tx_X8_tableNow 10 (i_al 3 11) := s_aload_n dX8_tableNow_10 rfl
theorem s_X8_tableNow_11 {X : ev_E} {l : Launch} (hG : ev_Good X) (hl : l.stackTraces = false) : ev_Snd X l ev_ms x_X8_tableNow tx_X8_tableNow 11 (i_gf X 12 0 14) := s_getfield hG (ci := 12) (r := (RX7, TX7, 9)) rfl cw_12 (k := 0) (Nat.le_of_ble_eq_true rfl) w_1222 rfl (Or.inl rfl) dX8_tableNow_11
theorem s_X8_tableNow_14 {X : ev_E} {l : Launch} (hG : ev_Good X) (hl : l.stackTraces = false) : ev_Snd X l ev_ms x_X8_tableNow tx_X8_tableNow 14 (i_cV X 87 0 4 1 17) := s_invokevirtual hG (mi := 87) (n := 0) (ci := 4) (r := (RJx4a65c, TJx4a65c, 3)) rfl (cal_Jx4a65c_iterator_32c93 (Nat.le_of_ble_eq_true rfl)) w_1434 w_1435 w_1436 dX8_tableNow_14
theorem s_X8_tableNow_17 {X : ev_E} {l : Launch} (hG : ev_Good X) (hl : l.stackTraces = false) : ev_Snd X l ev_ms x_X8_tableNow tx_X8_tableNow 17 (i_as 5 19) := s_astore dX8_tableNow_17 (Nat.le_of_ble_eq_true rfl)
theorem s_X8_tableNow_19 {X : ev_E} {l : Launch} (hG : ev_Good X) (hl : l.stackTraces = false) : ev_Snd X l ev_ms x_X8_tableNow tx_X8_tableNow 19 (i_al 5 21) := s_aload dX8_tableNow_19
theorem s_X8_tableNow_21 {X : ev_E} {l : Launch} (hG : ev_Good X) (hl : l.stackTraces = false) : ev_Snd X l ev_ms x_X8_tableNow tx_X8_tableNow 21 (i_cV X 19 0 3 1 26) := s_invokeif hG (mi := 19) (n := 0) (ci := 3) (r := (RJx35411, TJx35411, 4)) rfl (cal_Jx35411_hasNext_aae02 (Nat.le_of_ble_eq_true rfl)) (y := ⟨"java/util/Iterator", "hasNext", "()Z"⟩) w_1458 w_1460 w_1459 w_1462 w_1464 w_1465 w_1463 w_1461 (by decide +kernel) rfl (fun _ => rfl) dX8_tableNow_21
theorem s_X8_tableNow_26 {X : ev_E} {l : Launch} (hG : ev_Good X) (hl : l.stackTraces = false) : ev_Snd X l ev_ms x_X8_tableNow tx_X8_tableNow 26 (i_ifeq 53 29) := s_ifeq dX8_tableNow_26 rfl
theorem s_X8_tableNow_29 {X : ev_E} {l : Launch} (hG : ev_Good X) (hl : l.stackTraces = false) : ev_Snd X l ev_ms x_X8_tableNow tx_X8_tableNow 29 (i_al 5 31) := s_aload dX8_tableNow_29
theorem s_X8_tableNow_31 {X : ev_E} {l : Launch} (hG : ev_Good X) (hl : l.stackTraces = false) : ev_Snd X l ev_ms x_X8_tableNow tx_X8_tableNow 31 (i_cV X 86 0 3 3 36) := s_invokeif hG (mi := 86) (n := 0) (ci := 3) (r := (RJx35411, TJx35411, 4)) rfl (cal_Jx35411_next_0502b (Nat.le_of_ble_eq_true rfl)) (y := ⟨"java/util/Iterator", "next", "()Ljava/lang/Object;"⟩) w_1468 w_1470 w_1469 w_1471 w_1473 w_1474 w_1472 w_1461 (by decide +kernel) rfl (fun _ => rfl) dX8_tableNow_31
theorem s_X8_tableNow_36 {X : ev_E} {l : Launch} (hG : ev_Good X) (hl : l.stackTraces = false) : ev_Snd X l ev_ms x_X8_tableNow tx_X8_tableNow 36 (i_cca 0 39) := s_castA hG (kd := 0) (Nat.le_of_ble_eq_true rfl) (by decide +kernel) w_1329 dX8_tableNow_36
theorem s_X8_tableNow_39 {X : ev_E} {l : Launch} (hG : ev_Good X) (hl : l.stackTraces = false) : ev_Snd X l ev_ms x_X8_tableNow tx_X8_tableNow 39 (i_as 6 41) := s_astore dX8_tableNow_39 (Nat.le_of_ble_eq_true rfl)
theorem s_X8_tableNow_41 {X : ev_E} {l : Launch} (hG : ev_Good X) (hl : l.stackTraces = false) : ev_Snd X l ev_ms x_X8_tableNow tx_X8_tableNow 41 (i_il 4 43) := s_iload dX8_tableNow_41
theorem s_X8_tableNow_43 {X : ev_E} {l : Launch} (hG : ev_Good X) (hl : l.stackTraces = false) : ev_Snd X l ev_ms x_X8_tableNow tx_X8_tableNow 43 (i_al 6 45) := s_aload dX8_tableNow_43
theorem s_X8_tableNow_45 {X : ev_E} {l : Launch} (hG : ev_Good X) (hl : l.stackTraces = false) : ev_Snd X l ev_ms x_X8_tableNow tx_X8_tableNow 45 (i_psh (.int (1)) 46) := s_iconst dX8_tableNow_45 rfl
theorem s_X8_tableNow_46 {X : ev_E} {l : Launch} (hG : ev_Good X) (hl : l.stackTraces = false) : ev_Snd X l ev_ms x_X8_tableNow tx_X8_tableNow 46 (i_ald X ev_tI 47) := s_iaload hG dX8_tableNow_46
theorem s_X8_tableNow_47 {X : ev_E} {l : Launch} (hG : ev_Good X) (hl : l.stackTraces = false) : ev_Snd X l ev_ms x_X8_tableNow tx_X8_tableNow 47 (i_ii (fun a b => a + b) 48) := s_iadd dX8_tableNow_47
theorem s_X8_tableNow_48 {X : ev_E} {l : Launch} (hG : ev_Good X) (hl : l.stackTraces = false) : ev_Snd X l ev_ms x_X8_tableNow tx_X8_tableNow 48 (i_is 4 50) := s_istore dX8_tableNow_48 (Nat.le_of_ble_eq_true rfl)
theorem s_X8_tableNow_50 {X : ev_E} {l : Launch} (hG : ev_Good X) (hl : l.stackTraces = false) : ev_Snd X l ev_ms x_X8_tableNow tx_X8_tableNow 50 (i_goto 19) := s_goto dX8_tableNow_50 rfl
theorem s_X8_tableNow_53 {X : ev_E} {l : Launch} (hG : ev_Good X) (hl : l.stackTraces = false) : ev_Snd X l ev_ms x_X8_tableNow tx_X8_tableNow 53 (i_psh (.int (5)) 54) := s_iconst dX8_tableNow_53 rfl
theorem s_X8_tableNow_54 {X : ev_E} {l : Launch} (hG : ev_Good X) (hl : l.stackTraces = false) : ev_Snd X l ev_ms x_X8_tableNow tx_X8_tableNow 54 (i_na 0 (.int 0) 56) := s_newarray hG (kd := 0) (at' := .int) (Nat.le_of_ble_eq_true rfl) rfl (by decide) rfl dX8_tableNow_54 w_120
theorem s_X8_tableNow_56 {X : ev_E} {l : Launch} (hG : ev_Good X) (hl : l.stackTraces = false) : ev_Snd X l ev_ms x_X8_tableNow tx_X8_tableNow 56 (i_dup 57) := s_dup dX8_tableNow_56
theorem s_X8_tableNow_57 {X : ev_E} {l : Launch} (hG : ev_Good X) (hl : l.stackTraces = false) : ev_Snd X l ev_ms x_X8_tableNow tx_X8_tableNow 57 (i_psh (.int (0)) 58) := s_iconst dX8_tableNow_57 rfl
theorem s_X8_tableNow_58 {X : ev_E} {l : Launch} (hG : ev_Good X) (hl : l.stackTraces = false) : ev_Snd X l ev_ms x_X8_tableNow tx_X8_tableNow 58 (i_al 3 59) := s_aload_n dX8_tableNow_58 rfl
theorem s_X8_tableNow_59 {X : ev_E} {l : Launch} (hG : ev_Good X) (hl : l.stackTraces = false) : ev_Snd X l ev_ms x_X8_tableNow tx_X8_tableNow 59 (i_gf X 12 1 62) := s_getfield hG (ci := 12) (r := (RX7, TX7, 9)) rfl cw_12 (k := 1) (Nat.le_of_ble_eq_true rfl) w_1224 rfl (Or.inl rfl) dX8_tableNow_59
theorem s_X8_tableNow_62 {X : ev_E} {l : Launch} (hG : ev_Good X) (hl : l.stackTraces = false) : ev_Snd X l ev_ms x_X8_tableNow tx_X8_tableNow 62 (i_cS 70 1 1 65) := s_invokestatic hG (mi := 70) (n := 1) (cal_X8_one (Nat.le_of_ble_eq_true rfl)) w_1535 w_1536 dX8_tableNow_62
theorem s_X8_tableNow_65 {X : ev_E} {l : Launch} (hG : ev_Good X) (hl : l.stackTraces = false) : ev_Snd X l ev_ms x_X8_tableNow tx_X8_tableNow 65 (i_ast ev_tI (fun v => v) 66) := s_iastore hG dX8_tableNow_65
theorem s_X8_tableNow_66 {X : ev_E} {l : Launch} (hG : ev_Good X) (hl : l.stackTraces = false) : ev_Snd X l ev_ms x_X8_tableNow tx_X8_tableNow 66 (i_dup 67) := s_dup dX8_tableNow_66
theorem s_X8_tableNow_67 {X : ev_E} {l : Launch} (hG : ev_Good X) (hl : l.stackTraces = false) : ev_Snd X l ev_ms x_X8_tableNow tx_X8_tableNow 67 (i_psh (.int (1)) 68) := s_iconst dX8_tableNow_67 rfl
theorem s_X8_tableNow_68 {X : ev_E} {l : Launch} (hG : ev_Good X) (hl : l.stackTraces = false) : ev_Snd X l ev_ms x_X8_tableNow tx_X8_tableNow 68 (i_al 3 69) := s_aload_n dX8_tableNow_68 rfl
theorem s_X8_tableNow_69 {X : ev_E} {l : Launch} (hG : ev_Good X) (hl : l.stackTraces = false) : ev_Snd X l ev_ms x_X8_tableNow tx_X8_tableNow 69 (i_gf X 12 2 72) := s_getfield hG (ci := 12) (r := (RX7, TX7, 9)) rfl cw_12 (k := 2) (Nat.le_of_ble_eq_true rfl) w_1226 rfl (Or.inl rfl) dX8_tableNow_69
theorem s_X8_tableNow_72 {X : ev_E} {l : Launch} (hG : ev_Good X) (hl : l.stackTraces = false) : ev_Snd X l ev_ms x_X8_tableNow tx_X8_tableNow 72 (i_ast ev_tI (fun v => v) 73) := s_iastore hG dX8_tableNow_72
theorem s_X8_tableNow_73 {X : ev_E} {l : Launch} (hG : ev_Good X) (hl : l.stackTraces = false) : ev_Snd X l ev_ms x_X8_tableNow tx_X8_tableNow 73 (i_dup 74) := s_dup dX8_tableNow_73
theorem s_X8_tableNow_74 {X : ev_E} {l : Launch} (hG : ev_Good X) (hl : l.stackTraces = false) : ev_Snd X l ev_ms x_X8_tableNow tx_X8_tableNow 74 (i_psh (.int (2)) 75) := s_iconst dX8_tableNow_74 rfl
theorem s_X8_tableNow_75 {X : ev_E} {l : Launch} (hG : ev_Good X) (hl : l.stackTraces = false) : ev_Snd X l ev_ms x_X8_tableNow tx_X8_tableNow 75 (i_al 3 76) := s_aload_n dX8_tableNow_75 rfl
theorem s_X8_tableNow_76 {X : ev_E} {l : Launch} (hG : ev_Good X) (hl : l.stackTraces = false) : ev_Snd X l ev_ms x_X8_tableNow tx_X8_tableNow 76 (i_gf X 12 3 79) := s_getfield hG (ci := 12) (r := (RX7, TX7, 9)) rfl cw_12 (k := 3) (Nat.le_of_ble_eq_true rfl) w_1228 rfl (Or.inl rfl) dX8_tableNow_76
theorem s_X8_tableNow_79 {X : ev_E} {l : Launch} (hG : ev_Good X) (hl : l.stackTraces = false) : ev_Snd X l ev_ms x_X8_tableNow tx_X8_tableNow 79 (i_ast ev_tI (fun v => v) 80) := s_iastore hG dX8_tableNow_79
theorem s_X8_tableNow_80 {X : ev_E} {l : Launch} (hG : ev_Good X) (hl : l.stackTraces = false) : ev_Snd X l ev_ms x_X8_tableNow tx_X8_tableNow 80 (i_dup 81) := s_dup dX8_tableNow_80
theorem s_X8_tableNow_81 {X : ev_E} {l : Launch} (hG : ev_Good X) (hl : l.stackTraces = false) : ev_Snd X l ev_ms x_X8_tableNow tx_X8_tableNow 81 (i_psh (.int (3)) 82) := s_iconst dX8_tableNow_81 rfl
theorem s_X8_tableNow_82 {X : ev_E} {l : Launch} (hG : ev_Good X) (hl : l.stackTraces = false) : ev_Snd X l ev_ms x_X8_tableNow tx_X8_tableNow 82 (i_al 3 83) := s_aload_n dX8_tableNow_82 rfl
theorem s_X8_tableNow_83 {X : ev_E} {l : Launch} (hG : ev_Good X) (hl : l.stackTraces = false) : ev_Snd X l ev_ms x_X8_tableNow tx_X8_tableNow 83 (i_gf X 12 4 86) := s_getfield hG (ci := 12) (r := (RX7, TX7, 9)) rfl cw_12 (k := 4) (Nat.le_of_ble_eq_true rfl) w_1230 rfl (Or.inl rfl) dX8_tableNow_83
theorem s_X8_tableNow_86 {X : ev_E} {l : Launch} (hG : ev_Good X) (hl : l.stackTraces = false) : ev_Snd X l ev_ms x_X8_tableNow tx_X8_tableNow 86 (i_ast ev_tI (fun v => v) 87) := s_iastore hG dX8_tableNow_86
theorem s_X8_tableNow_87 {X : ev_E} {l : Launch} (hG : ev_Good X) (hl : l.stackTraces = false) : ev_Snd X l ev_ms x_X8_tableNow tx_X8_tableNow 87 (i_dup 88) := s_dup dX8_tableNow_87
theorem s_X8_tableNow_88 {X : ev_E} {l : Launch} (hG : ev_Good X) (hl : l.stackTraces = false) : ev_Snd X l ev_ms x_X8_tableNow tx_X8_tableNow 88 (i_psh (.int (4)) 89) := s_iconst dX8_tableNow_88 rfl
theorem s_X8_tableNow_89 {X : ev_E} {l : Launch} (hG : ev_Good X) (hl : l.stackTraces = false) : ev_Snd X l ev_ms x_X8_tableNow tx_X8_tableNow 89 (i_il 4 91) := s_iload dX8_tableNow_89
theorem s_X8_tableNow_91 {X : ev_E} {l : Launch} (hG : ev_Good X) (hl : l.stackTraces = false) : ev_Snd X l ev_ms x_X8_tableNow tx_X8_tableNow 91 (i_ast ev_tI (fun v => v) 92) := s_iastore hG dX8_tableNow_91
theorem s_X8_tableNow_92 {X : ev_E} {l : Launch} (hG : ev_Good X) (hl : l.stackTraces = false) : ev_Snd X l ev_ms x_X8_tableNow tx_X8_tableNow 92 (i_as 5 94) := s_astore dX8_tableNow_92 (Nat.le_of_ble_eq_true rfl)
theorem s_X8_tableNow_94 {X : ev_E} {l : Launch} (hG : ev_Good X) (hl : l.stackTraces = false) : ev_Snd X l ev_ms x_X8_tableNow tx_X8_tableNow 94 (i_al 5 96) := s_aload dX8_tableNow_94
theorem s_X8_tableNow_96 {X : ev_E} {l : Launch} (hG : ev_Good X) (hl : l.stackTraces = false) : ev_Snd X l ev_ms x_X8_tableNow tx_X8_tableNow 96 (i_il 2 97) := s_iload_n dX8_tableNow_96 rfl
theorem s_X8_tableNow_97 {X : ev_E} {l : Launch} (hG : ev_Good X) (hl : l.stackTraces = false) : ev_Snd X l ev_ms x_X8_tableNow tx_X8_tableNow 97 (i_ald X ev_tI 98) := s_iaload hG dX8_tableNow_97
theorem s_X8_tableNow_98 {X : ev_E} {l : Launch} (hG : ev_Good X) (hl : l.stackTraces = false) : ev_Snd X l ev_ms x_X8_tableNow tx_X8_tableNow 98 (i_ir (.int)) := s_ireturn rfl dX8_tableNow_98
theorem sa_X8_tableNow {X : ev_E} {l : Launch} (hG : ev_Good X) (hl : l.stackTraces = false) : ∀ q ∈ tb_X8_tableNow X, ev_Snd X l ev_ms x_X8_tableNow tx_X8_tableNow q.1 q.2 := by
  intro q hq
  unfold tb_X8_tableNow at hq
  simp only [List.mem_cons, List.not_mem_nil, or_false] at hq
  rcases hq with rfl | rfl | rfl | rfl | rfl | rfl | rfl | rfl | rfl | rfl | rfl | rfl | rfl | rfl | rfl | rfl | rfl | rfl | rfl | rfl | rfl | rfl | rfl | rfl | rfl | rfl | rfl | rfl | rfl | rfl | rfl | rfl | rfl | rfl | rfl | rfl | rfl | rfl | rfl | rfl | rfl | rfl | rfl | rfl | rfl | rfl | rfl | rfl | rfl | rfl | rfl | rfl | rfl | rfl | rfl | rfl | rfl
  · exact s_X8_tableNow_0 hG hl
  · exact s_X8_tableNow_1 hG hl
  · exact s_X8_tableNow_4 hG hl
  · exact s_X8_tableNow_5 hG hl
  · exact s_X8_tableNow_6 hG hl
  · exact s_X8_tableNow_7 hG hl
  · exact s_X8_tableNow_8 hG hl
  · exact s_X8_tableNow_10 hG hl
  · exact s_X8_tableNow_11 hG hl
  · exact s_X8_tableNow_14 hG hl
  · exact s_X8_tableNow_17 hG hl
  · exact s_X8_tableNow_19 hG hl
  · exact s_X8_tableNow_21 hG hl
  · exact s_X8_tableNow_26 hG hl
  · exact s_X8_tableNow_29 hG hl
  · exact s_X8_tableNow_31 hG hl
  · exact s_X8_tableNow_36 hG hl
  · exact s_X8_tableNow_39 hG hl
  · exact s_X8_tableNow_41 hG hl
  · exact s_X8_tableNow_43 hG hl
  · exact s_X8_tableNow_45 hG hl
  · exact s_X8_tableNow_46 hG hl
  · exact s_X8_tableNow_47 hG hl
  · exact s_X8_tableNow_48 hG hl
  · exact s_X8_tableNow_50 hG hl
  · exact s_X8_tableNow_53 hG hl
  · exact s_X8_tableNow_54 hG hl
  · exact s_X8_tableNow_56 hG hl
  · exact s_X8_tableNow_57 hG hl
  · exact s_X8_tableNow_58 hG hl
  · exact s_X8_tableNow_59 hG hl
  · exact s_X8_tableNow_62 hG hl
  · exact s_X8_tableNow_65 hG hl
  · exact s_X8_tableNow_66 hG hl
  · exact s_X8_tableNow_67 hG hl
  · exact s_X8_tableNow_68 hG hl
  · exact s_X8_tableNow_69 hG hl
  · exact s_X8_tableNow_72 hG hl
  · exact s_X8_tableNow_73 hG hl
  · exact s_X8_tableNow_74 hG hl
  · exact s_X8_tableNow_75 hG hl
  · exact s_X8_tableNow_76 hG hl
  · exact s_X8_tableNow_79 hG hl
  · exact s_X8_tableNow_80 hG hl
  · exact s_X8_tableNow_81 hG hl
  · exact s_X8_tableNow_82 hG hl
  · exact s_X8_tableNow_83 hG hl
  · exact s_X8_tableNow_86 hG hl
  · exact s_X8_tableNow_87 hG hl
  · exact s_X8_tableNow_88 hG hl
  · exact s_X8_tableNow_89 hG hl
  · exact s_X8_tableNow_91 hG hl
  · exact s_X8_tableNow_92 hG hl
  · exact s_X8_tableNow_94 hG hl
  · exact s_X8_tableNow_96 hG hl
  · exact s_X8_tableNow_97 hG hl
  · exact s_X8_tableNow_98 hG hl
def tx_X8_walk : ev_X := fun _ _ => some none
noncomputable def tb_X8_walk (X : ev_E) : List (Nat × (ev_S → ev_N)) := [(0, i_al 0 1), (1, i_il 1 2), (2, i_cS 118 1 1 5), (5, i_il 2 6), (6, i_psh (.int (3)) 7), (7, i_cS 65 2 2 10), (10, i_psh (.int (0)) 11), (11, i_cV X 63 3 13 4 14), (14, i_ifeq 19 17), (17, i_psh (.int (0)) 18), (18, i_ir (.int)), (19, i_al 0 20), (20, i_gf X 13 3 23), (23, i_il 1 24), (24, i_ald X FieldType.isReference 25), (25, i_as 3 26), (26, i_al 3 27), (27, i_il 2 28), (28, i_pf 12 5 (.int) 31), (31, i_al 3 32), (32, i_psh (.int (0)) 33), (33, i_pf 12 6 (.int) 36), (36, i_al 3 37), (37, i_psh (.int (0)) 38), (38, i_pf 12 7 (.boolean) 41), (41, i_al 3 42), (42, i_psh (.int (0)) 43), (43, i_pf 12 8 (.boolean) 46), (46, i_al 3 47), (47, i_gf X 12 0 50), (50, i_cV X 24 0 4 1 53), (53, i_ir (.int))]
theorem s_X8_walk_0 {X : ev_E} {l : Launch} (hG : ev_Good X) (hl : l.stackTraces = false) : ev_Snd X l ev_ms x_X8_walk tx_X8_walk 0 (i_al 0 1) := s_aload_n dX8_walk_0 rfl
theorem s_X8_walk_1 {X : ev_E} {l : Launch} (hG : ev_Good X) (hl : l.stackTraces = false) : ev_Snd X l ev_ms x_X8_walk tx_X8_walk 1 (i_il 1 2) := s_iload_n dX8_walk_1 rfl
theorem s_X8_walk_2 {X : ev_E} {l : Launch} (hG : ev_Good X) (hl : l.stackTraces = false) : ev_Snd X l ev_ms x_X8_walk tx_X8_walk 2 (i_cS 118 1 1 5) := s_invokestatic hG (mi := 118) (n := 1) (cal_X8_isNo (Nat.le_of_ble_eq_true rfl)) w_1284 w_1285 dX8_walk_2
theorem s_X8_walk_5 {X : ev_E} {l : Launch} (hG : ev_Good X) (hl : l.stackTraces = false) : ev_Snd X l ev_ms x_X8_walk tx_X8_walk 5 (i_il 2 6) := s_iload_n dX8_walk_5 rfl
theorem s_X8_walk_6 {X : ev_E} {l : Launch} (hG : ev_Good X) (hl : l.stackTraces = false) : ev_Snd X l ev_ms x_X8_walk tx_X8_walk 6 (i_psh (.int (3)) 7) := s_iconst dX8_walk_6 rfl
theorem s_X8_walk_7 {X : ev_E} {l : Launch} (hG : ev_Good X) (hl : l.stackTraces = false) : ev_Snd X l ev_ms x_X8_walk tx_X8_walk 7 (i_cS 65 2 2 10) := s_invokestatic hG (mi := 65) (n := 2) (cal_X8_isOut (Nat.le_of_ble_eq_true rfl)) w_1287 w_1288 dX8_walk_7
theorem s_X8_walk_10 {X : ev_E} {l : Launch} (hG : ev_Good X) (hl : l.stackTraces = false) : ev_Snd X l ev_ms x_X8_walk tx_X8_walk 10 (i_psh (.int (0)) 11) := s_iconst dX8_walk_10 rfl
theorem s_X8_walk_11 {X : ev_E} {l : Launch} (hG : ev_Good X) (hl : l.stackTraces = false) : ev_Snd X l ev_ms x_X8_walk tx_X8_walk 11 (i_cV X 63 3 13 4 14) := s_invokevirtual hG (mi := 63) (n := 3) (ci := 13) (r := (RX8, TX8, 5)) rfl (cal_X8_fails (Nat.le_of_ble_eq_true rfl)) w_1290 w_1292 w_22 dX8_walk_11
theorem s_X8_walk_14 {X : ev_E} {l : Launch} (hG : ev_Good X) (hl : l.stackTraces = false) : ev_Snd X l ev_ms x_X8_walk tx_X8_walk 14 (i_ifeq 19 17) := s_ifeq dX8_walk_14 rfl
theorem s_X8_walk_17 {X : ev_E} {l : Launch} (hG : ev_Good X) (hl : l.stackTraces = false) : ev_Snd X l ev_ms x_X8_walk tx_X8_walk 17 (i_psh (.int (0)) 18) := s_iconst dX8_walk_17 rfl
theorem s_X8_walk_18 {X : ev_E} {l : Launch} (hG : ev_Good X) (hl : l.stackTraces = false) : ev_Snd X l ev_ms x_X8_walk tx_X8_walk 18 (i_ir (.int)) := s_ireturn rfl dX8_walk_18
theorem s_X8_walk_19 {X : ev_E} {l : Launch} (hG : ev_Good X) (hl : l.stackTraces = false) : ev_Snd X l ev_ms x_X8_walk tx_X8_walk 19 (i_al 0 20) := s_aload_n dX8_walk_19 rfl
theorem s_X8_walk_20 {X : ev_E} {l : Launch} (hG : ev_Good X) (hl : l.stackTraces = false) : ev_Snd X l ev_ms x_X8_walk tx_X8_walk 20 (i_gf X 13 3 23) := s_getfield hG (ci := 13) (r := (RX8, TX8, 5)) rfl cw_13 (k := 3) (Nat.le_of_ble_eq_true rfl) w_1263 rfl (Or.inl rfl) dX8_walk_20
theorem s_X8_walk_23 {X : ev_E} {l : Launch} (hG : ev_Good X) (hl : l.stackTraces = false) : ev_Snd X l ev_ms x_X8_walk tx_X8_walk 23 (i_il 1 24) := s_iload_n dX8_walk_23 rfl
theorem s_X8_walk_24 {X : ev_E} {l : Launch} (hG : ev_Good X) (hl : l.stackTraces = false) : ev_Snd X l ev_ms x_X8_walk tx_X8_walk 24 (i_ald X FieldType.isReference 25) := s_aaload hG dX8_walk_24
theorem s_X8_walk_25 {X : ev_E} {l : Launch} (hG : ev_Good X) (hl : l.stackTraces = false) : ev_Snd X l ev_ms x_X8_walk tx_X8_walk 25 (i_as 3 26) := s_astore_n dX8_walk_25 rfl (Nat.le_of_ble_eq_true rfl)
theorem s_X8_walk_26 {X : ev_E} {l : Launch} (hG : ev_Good X) (hl : l.stackTraces = false) : ev_Snd X l ev_ms x_X8_walk tx_X8_walk 26 (i_al 3 27) := s_aload_n dX8_walk_26 rfl
theorem s_X8_walk_27 {X : ev_E} {l : Launch} (hG : ev_Good X) (hl : l.stackTraces = false) : ev_Snd X l ev_ms x_X8_walk tx_X8_walk 27 (i_il 2 28) := s_iload_n dX8_walk_27 rfl
theorem s_X8_walk_28 {X : ev_E} {l : Launch} (hG : ev_Good X) (hl : l.stackTraces = false) : ev_Snd X l ev_ms x_X8_walk tx_X8_walk 28 (i_pf 12 5 (.int) 31) := s_putfield hG (ci := 12) (r := (RX7, TX7, 9)) rfl cw_12 ap_12 (k := 5) (Nat.le_of_ble_eq_true rfl) rfl (by decide +kernel) w_1232 rfl (Or.inl rfl) dX8_walk_28
theorem s_X8_walk_31 {X : ev_E} {l : Launch} (hG : ev_Good X) (hl : l.stackTraces = false) : ev_Snd X l ev_ms x_X8_walk tx_X8_walk 31 (i_al 3 32) := s_aload_n dX8_walk_31 rfl
theorem s_X8_walk_32 {X : ev_E} {l : Launch} (hG : ev_Good X) (hl : l.stackTraces = false) : ev_Snd X l ev_ms x_X8_walk tx_X8_walk 32 (i_psh (.int (0)) 33) := s_iconst dX8_walk_32 rfl
theorem s_X8_walk_33 {X : ev_E} {l : Launch} (hG : ev_Good X) (hl : l.stackTraces = false) : ev_Snd X l ev_ms x_X8_walk tx_X8_walk 33 (i_pf 12 6 (.int) 36) := s_putfield hG (ci := 12) (r := (RX7, TX7, 9)) rfl cw_12 ap_12 (k := 6) (Nat.le_of_ble_eq_true rfl) rfl (by decide +kernel) w_1234 rfl (Or.inl rfl) dX8_walk_33
theorem s_X8_walk_36 {X : ev_E} {l : Launch} (hG : ev_Good X) (hl : l.stackTraces = false) : ev_Snd X l ev_ms x_X8_walk tx_X8_walk 36 (i_al 3 37) := s_aload_n dX8_walk_36 rfl
theorem s_X8_walk_37 {X : ev_E} {l : Launch} (hG : ev_Good X) (hl : l.stackTraces = false) : ev_Snd X l ev_ms x_X8_walk tx_X8_walk 37 (i_psh (.int (0)) 38) := s_iconst dX8_walk_37 rfl
theorem s_X8_walk_38 {X : ev_E} {l : Launch} (hG : ev_Good X) (hl : l.stackTraces = false) : ev_Snd X l ev_ms x_X8_walk tx_X8_walk 38 (i_pf 12 7 (.boolean) 41) := s_putfield hG (ci := 12) (r := (RX7, TX7, 9)) rfl cw_12 ap_12 (k := 7) (Nat.le_of_ble_eq_true rfl) rfl (by decide +kernel) w_1236 rfl (Or.inl rfl) dX8_walk_38
theorem s_X8_walk_41 {X : ev_E} {l : Launch} (hG : ev_Good X) (hl : l.stackTraces = false) : ev_Snd X l ev_ms x_X8_walk tx_X8_walk 41 (i_al 3 42) := s_aload_n dX8_walk_41 rfl
theorem s_X8_walk_42 {X : ev_E} {l : Launch} (hG : ev_Good X) (hl : l.stackTraces = false) : ev_Snd X l ev_ms x_X8_walk tx_X8_walk 42 (i_psh (.int (0)) 43) := s_iconst dX8_walk_42 rfl
theorem s_X8_walk_43 {X : ev_E} {l : Launch} (hG : ev_Good X) (hl : l.stackTraces = false) : ev_Snd X l ev_ms x_X8_walk tx_X8_walk 43 (i_pf 12 8 (.boolean) 46) := s_putfield hG (ci := 12) (r := (RX7, TX7, 9)) rfl cw_12 ap_12 (k := 8) (Nat.le_of_ble_eq_true rfl) rfl (by decide +kernel) w_1238 rfl (Or.inl rfl) dX8_walk_43
theorem s_X8_walk_46 {X : ev_E} {l : Launch} (hG : ev_Good X) (hl : l.stackTraces = false) : ev_Snd X l ev_ms x_X8_walk tx_X8_walk 46 (i_al 3 47) := s_aload_n dX8_walk_46 rfl
theorem s_X8_walk_47 {X : ev_E} {l : Launch} (hG : ev_Good X) (hl : l.stackTraces = false) : ev_Snd X l ev_ms x_X8_walk tx_X8_walk 47 (i_gf X 12 0 50) := s_getfield hG (ci := 12) (r := (RX7, TX7, 9)) rfl cw_12 (k := 0) (Nat.le_of_ble_eq_true rfl) w_1222 rfl (Or.inl rfl) dX8_walk_47
theorem s_X8_walk_50 {X : ev_E} {l : Launch} (hG : ev_Good X) (hl : l.stackTraces = false) : ev_Snd X l ev_ms x_X8_walk tx_X8_walk 50 (i_cV X 24 0 4 1 53) := s_invokevirtual hG (mi := 24) (n := 0) (ci := 4) (r := (RJx4a65c, TJx4a65c, 3)) rfl (cal_Jx4a65c_size_8abf5 (Nat.le_of_ble_eq_true rfl)) w_1294 w_1295 w_1296 dX8_walk_50
theorem s_X8_walk_53 {X : ev_E} {l : Launch} (hG : ev_Good X) (hl : l.stackTraces = false) : ev_Snd X l ev_ms x_X8_walk tx_X8_walk 53 (i_ir (.int)) := s_ireturn rfl dX8_walk_53
theorem sa_X8_walk {X : ev_E} {l : Launch} (hG : ev_Good X) (hl : l.stackTraces = false) : ∀ q ∈ tb_X8_walk X, ev_Snd X l ev_ms x_X8_walk tx_X8_walk q.1 q.2 := by
  intro q hq
  unfold tb_X8_walk at hq
  simp only [List.mem_cons, List.not_mem_nil, or_false] at hq
  rcases hq with rfl | rfl | rfl | rfl | rfl | rfl | rfl | rfl | rfl | rfl | rfl | rfl | rfl | rfl | rfl | rfl | rfl | rfl | rfl | rfl | rfl | rfl | rfl | rfl | rfl | rfl | rfl | rfl | rfl | rfl | rfl | rfl
  · exact s_X8_walk_0 hG hl
  · exact s_X8_walk_1 hG hl
  · exact s_X8_walk_2 hG hl
  · exact s_X8_walk_5 hG hl
  · exact s_X8_walk_6 hG hl
  · exact s_X8_walk_7 hG hl
  · exact s_X8_walk_10 hG hl
  · exact s_X8_walk_11 hG hl
  · exact s_X8_walk_14 hG hl
  · exact s_X8_walk_17 hG hl
  · exact s_X8_walk_18 hG hl
  · exact s_X8_walk_19 hG hl
  · exact s_X8_walk_20 hG hl
  · exact s_X8_walk_23 hG hl
  · exact s_X8_walk_24 hG hl
  · exact s_X8_walk_25 hG hl
  · exact s_X8_walk_26 hG hl
  · exact s_X8_walk_27 hG hl
  · exact s_X8_walk_28 hG hl
  · exact s_X8_walk_31 hG hl
  · exact s_X8_walk_32 hG hl
  · exact s_X8_walk_33 hG hl
  · exact s_X8_walk_36 hG hl
  · exact s_X8_walk_37 hG hl
  · exact s_X8_walk_38 hG hl
  · exact s_X8_walk_41 hG hl
  · exact s_X8_walk_42 hG hl
  · exact s_X8_walk_43 hG hl
  · exact s_X8_walk_46 hG hl
  · exact s_X8_walk_47 hG hl
  · exact s_X8_walk_50 hG hl
  · exact s_X8_walk_53 hG hl
def tx_X7_init : ev_X := fun pc _ => bif List.elem pc [9] then none else some none
noncomputable def tb_X7_init (X : ev_E) : List (Nat × (ev_S → ev_N)) := [(0, i_al 0 1), (1, i_oi 4), (4, i_al 0 5), (5, i_nw 4 3 [.int 0, .null, .int 0] 8), (8, i_dup 9), (9, i_cI 130 0 1 12), (12, i_pf 12 0 (.object "java/util/ArrayList") 15), (15, i_al 0 16), (16, i_psh (.int (-1)) 17), (17, i_pf 12 2 (.int) 20), (20, i_al 0 21), (21, i_psh (.int (-1)) 22), (22, i_pf 12 4 (.int) 25), (25, i_al 0 26), (26, i_psh (.int (-1)) 27), (27, i_pf 12 5 (.int) 30), (30, i_vr)]
theorem s_X7_init_0 {X : ev_E} {l : Launch} (hG : ev_Good X) (hl : l.stackTraces = false) : ev_Snd X l ev_ms x_X7_init tx_X7_init 0 (i_al 0 1) := s_aload_n dX7_init_0 rfl
theorem s_X7_init_1 {X : ev_E} {l : Launch} (hG : ev_Good X) (hl : l.stackTraces = false) : ev_Snd X l ev_ms x_X7_init tx_X7_init 1 (i_oi 4) := s_objinit hG w_1191 w_88 w_89 dX7_init_1
theorem s_X7_init_4 {X : ev_E} {l : Launch} (hG : ev_Good X) (hl : l.stackTraces = false) : ev_Snd X l ev_ms x_X7_init tx_X7_init 4 (i_al 0 5) := s_aload_n dX7_init_4 rfl
theorem s_X7_init_5 {X : ev_E} {l : Launch} (hG : ev_Good X) (hl : l.stackTraces = false) : ev_Snd X l ev_ms x_X7_init tx_X7_init 5 (i_nw 4 3 [.int 0, .null, .int 0] 8) := s_new hG (ci := 4) (r := (RJx4a65c, TJx4a65c, 3)) rfl cw_4 tyJx4a65c tyJx4a65c_ok (fun j hj => nw_4 j hj) w_1192 rfl w_1193 rfl w_59 rfl dX7_init_5
theorem s_X7_init_8 {X : ev_E} {l : Launch} (hG : ev_Good X) (hl : l.stackTraces = false) : ev_Snd X l ev_ms x_X7_init tx_X7_init 8 (i_dup 9) := s_dup dX7_init_8
theorem s_X7_init_9 {X : ev_E} {l : Launch} (hG : ev_Good X) (hl : l.stackTraces = false) : ev_Snd X l ev_ms x_X7_init tx_X7_init 9 (i_cI 130 0 1 12) := s_invokeinit hG (mi := 130) (n := 0) (cal_Jx4a65c_init_da8c8 (Nat.le_of_ble_eq_true rfl)) rfl w_1194 w_1195 rfl (fun _ => rfl) dX7_init_9
theorem s_X7_init_12 {X : ev_E} {l : Launch} (hG : ev_Good X) (hl : l.stackTraces = false) : ev_Snd X l ev_ms x_X7_init tx_X7_init 12 (i_pf 12 0 (.object "java/util/ArrayList") 15) := s_putfieldF hG (ci := 12) (r := (RX7, TX7, 9)) rfl cw_12 ap_12 (k := 0) (Nat.le_of_ble_eq_true rfl) rfl rfl rfl (by decide +kernel) w_1221 rfl dX7_init_12
theorem s_X7_init_15 {X : ev_E} {l : Launch} (hG : ev_Good X) (hl : l.stackTraces = false) : ev_Snd X l ev_ms x_X7_init tx_X7_init 15 (i_al 0 16) := s_aload_n dX7_init_15 rfl
theorem s_X7_init_16 {X : ev_E} {l : Launch} (hG : ev_Good X) (hl : l.stackTraces = false) : ev_Snd X l ev_ms x_X7_init tx_X7_init 16 (i_psh (.int (-1)) 17) := s_iconst dX7_init_16 rfl
theorem s_X7_init_17 {X : ev_E} {l : Launch} (hG : ev_Good X) (hl : l.stackTraces = false) : ev_Snd X l ev_ms x_X7_init tx_X7_init 17 (i_pf 12 2 (.int) 20) := s_putfield hG (ci := 12) (r := (RX7, TX7, 9)) rfl cw_12 ap_12 (k := 2) (Nat.le_of_ble_eq_true rfl) rfl (by decide +kernel) w_1225 rfl (Or.inl rfl) dX7_init_17
theorem s_X7_init_20 {X : ev_E} {l : Launch} (hG : ev_Good X) (hl : l.stackTraces = false) : ev_Snd X l ev_ms x_X7_init tx_X7_init 20 (i_al 0 21) := s_aload_n dX7_init_20 rfl
theorem s_X7_init_21 {X : ev_E} {l : Launch} (hG : ev_Good X) (hl : l.stackTraces = false) : ev_Snd X l ev_ms x_X7_init tx_X7_init 21 (i_psh (.int (-1)) 22) := s_iconst dX7_init_21 rfl
theorem s_X7_init_22 {X : ev_E} {l : Launch} (hG : ev_Good X) (hl : l.stackTraces = false) : ev_Snd X l ev_ms x_X7_init tx_X7_init 22 (i_pf 12 4 (.int) 25) := s_putfield hG (ci := 12) (r := (RX7, TX7, 9)) rfl cw_12 ap_12 (k := 4) (Nat.le_of_ble_eq_true rfl) rfl (by decide +kernel) w_1229 rfl (Or.inl rfl) dX7_init_22
theorem s_X7_init_25 {X : ev_E} {l : Launch} (hG : ev_Good X) (hl : l.stackTraces = false) : ev_Snd X l ev_ms x_X7_init tx_X7_init 25 (i_al 0 26) := s_aload_n dX7_init_25 rfl
theorem s_X7_init_26 {X : ev_E} {l : Launch} (hG : ev_Good X) (hl : l.stackTraces = false) : ev_Snd X l ev_ms x_X7_init tx_X7_init 26 (i_psh (.int (-1)) 27) := s_iconst dX7_init_26 rfl
theorem s_X7_init_27 {X : ev_E} {l : Launch} (hG : ev_Good X) (hl : l.stackTraces = false) : ev_Snd X l ev_ms x_X7_init tx_X7_init 27 (i_pf 12 5 (.int) 30) := s_putfield hG (ci := 12) (r := (RX7, TX7, 9)) rfl cw_12 ap_12 (k := 5) (Nat.le_of_ble_eq_true rfl) rfl (by decide +kernel) w_1231 rfl (Or.inl rfl) dX7_init_27
theorem s_X7_init_30 {X : ev_E} {l : Launch} (hG : ev_Good X) (hl : l.stackTraces = false) : ev_Snd X l ev_ms x_X7_init tx_X7_init 30 (i_vr) := s_return rfl dX7_init_30
theorem sa_X7_init {X : ev_E} {l : Launch} (hG : ev_Good X) (hl : l.stackTraces = false) : ∀ q ∈ tb_X7_init X, ev_Snd X l ev_ms x_X7_init tx_X7_init q.1 q.2 := by
  intro q hq
  unfold tb_X7_init at hq
  simp only [List.mem_cons, List.not_mem_nil, or_false] at hq
  rcases hq with rfl | rfl | rfl | rfl | rfl | rfl | rfl | rfl | rfl | rfl | rfl | rfl | rfl | rfl | rfl | rfl | rfl
  · exact s_X7_init_0 hG hl
  · exact s_X7_init_1 hG hl
  · exact s_X7_init_4 hG hl
  · exact s_X7_init_5 hG hl
  · exact s_X7_init_8 hG hl
  · exact s_X7_init_9 hG hl
  · exact s_X7_init_12 hG hl
  · exact s_X7_init_15 hG hl
  · exact s_X7_init_16 hG hl
  · exact s_X7_init_17 hG hl
  · exact s_X7_init_20 hG hl
  · exact s_X7_init_21 hG hl
  · exact s_X7_init_22 hG hl
  · exact s_X7_init_25 hG hl
  · exact s_X7_init_26 hG hl
  · exact s_X7_init_27 hG hl
  · exact s_X7_init_30 hG hl
def tx_X7_place : ev_X := fun _ _ => some none
noncomputable def tb_X7_place (X : ev_E) : List (Nat × (ev_S → ev_N)) := [(0, i_psh (.int (0)) 1), (1, i_is 2 2), (2, i_il 2 3), (3, i_al 0 4), (4, i_gf X 12 0 7), (7, i_cV X 24 0 4 1 10), (10, i_icge 38 13), (13, i_al 0 14), (14, i_gf X 12 0 17), (17, i_il 2 18), (18, i_cV X 129 1 4 2 21), (21, i_cca 0 24), (24, i_psh (.int (0)) 25), (25, i_ald X ev_tI 26), (26, i_il 1 27), (27, i_icne 32 30), (30, i_il 2 31), (31, i_ir (.int)), (32, i_inc 2 (1) 35), (35, i_goto 2), (38, i_psh (.int (-1)) 39), (39, i_ir (.int))]
theorem s_X7_place_0 {X : ev_E} {l : Launch} (hG : ev_Good X) (hl : l.stackTraces = false) : ev_Snd X l ev_ms x_X7_place tx_X7_place 0 (i_psh (.int (0)) 1) := s_iconst dX7_place_0 rfl
theorem s_X7_place_1 {X : ev_E} {l : Launch} (hG : ev_Good X) (hl : l.stackTraces = false) : ev_Snd X l ev_ms x_X7_place tx_X7_place 1 (i_is 2 2) := s_istore_n dX7_place_1 rfl (Nat.le_of_ble_eq_true rfl)
theorem s_X7_place_2 {X : ev_E} {l : Launch} (hG : ev_Good X) (hl : l.stackTraces = false) : ev_Snd X l ev_ms x_X7_place tx_X7_place 2 (i_il 2 3) := s_iload_n dX7_place_2 rfl
theorem s_X7_place_3 {X : ev_E} {l : Launch} (hG : ev_Good X) (hl : l.stackTraces = false) : ev_Snd X l ev_ms x_X7_place tx_X7_place 3 (i_al 0 4) := s_aload_n dX7_place_3 rfl
theorem s_X7_place_4 {X : ev_E} {l : Launch} (hG : ev_Good X) (hl : l.stackTraces = false) : ev_Snd X l ev_ms x_X7_place tx_X7_place 4 (i_gf X 12 0 7) := s_getfield hG (ci := 12) (r := (RX7, TX7, 9)) rfl cw_12 (k := 0) (Nat.le_of_ble_eq_true rfl) w_1221 rfl (Or.inl rfl) dX7_place_4
theorem s_X7_place_7 {X : ev_E} {l : Launch} (hG : ev_Good X) (hl : l.stackTraces = false) : ev_Snd X l ev_ms x_X7_place tx_X7_place 7 (i_cV X 24 0 4 1 10) := s_invokevirtual hG (mi := 24) (n := 0) (ci := 4) (r := (RJx4a65c, TJx4a65c, 3)) rfl (cal_Jx4a65c_size_8abf5 (Nat.le_of_ble_eq_true rfl)) w_1314 w_1295 w_1296 dX7_place_7
theorem s_X7_place_10 {X : ev_E} {l : Launch} (hG : ev_Good X) (hl : l.stackTraces = false) : ev_Snd X l ev_ms x_X7_place tx_X7_place 10 (i_icge 38 13) := s_icge dX7_place_10 rfl
theorem s_X7_place_13 {X : ev_E} {l : Launch} (hG : ev_Good X) (hl : l.stackTraces = false) : ev_Snd X l ev_ms x_X7_place tx_X7_place 13 (i_al 0 14) := s_aload_n dX7_place_13 rfl
theorem s_X7_place_14 {X : ev_E} {l : Launch} (hG : ev_Good X) (hl : l.stackTraces = false) : ev_Snd X l ev_ms x_X7_place tx_X7_place 14 (i_gf X 12 0 17) := s_getfield hG (ci := 12) (r := (RX7, TX7, 9)) rfl cw_12 (k := 0) (Nat.le_of_ble_eq_true rfl) w_1221 rfl (Or.inl rfl) dX7_place_14
theorem s_X7_place_17 {X : ev_E} {l : Launch} (hG : ev_Good X) (hl : l.stackTraces = false) : ev_Snd X l ev_ms x_X7_place tx_X7_place 17 (i_il 2 18) := s_iload_n dX7_place_17 rfl
theorem s_X7_place_18 {X : ev_E} {l : Launch} (hG : ev_Good X) (hl : l.stackTraces = false) : ev_Snd X l ev_ms x_X7_place tx_X7_place 18 (i_cV X 129 1 4 2 21) := s_invokevirtual hG (mi := 129) (n := 1) (ci := 4) (r := (RJx4a65c, TJx4a65c, 3)) rfl (cal_Jx4a65c_get_915e3 (Nat.le_of_ble_eq_true rfl)) w_1315 w_1316 w_1317 dX7_place_18
theorem s_X7_place_21 {X : ev_E} {l : Launch} (hG : ev_Good X) (hl : l.stackTraces = false) : ev_Snd X l ev_ms x_X7_place tx_X7_place 21 (i_cca 0 24) := s_castA hG (kd := 0) (Nat.le_of_ble_eq_true rfl) (by decide +kernel) w_1327 dX7_place_21
theorem s_X7_place_24 {X : ev_E} {l : Launch} (hG : ev_Good X) (hl : l.stackTraces = false) : ev_Snd X l ev_ms x_X7_place tx_X7_place 24 (i_psh (.int (0)) 25) := s_iconst dX7_place_24 rfl
theorem s_X7_place_25 {X : ev_E} {l : Launch} (hG : ev_Good X) (hl : l.stackTraces = false) : ev_Snd X l ev_ms x_X7_place tx_X7_place 25 (i_ald X ev_tI 26) := s_iaload hG dX7_place_25
theorem s_X7_place_26 {X : ev_E} {l : Launch} (hG : ev_Good X) (hl : l.stackTraces = false) : ev_Snd X l ev_ms x_X7_place tx_X7_place 26 (i_il 1 27) := s_iload_n dX7_place_26 rfl
theorem s_X7_place_27 {X : ev_E} {l : Launch} (hG : ev_Good X) (hl : l.stackTraces = false) : ev_Snd X l ev_ms x_X7_place tx_X7_place 27 (i_icne 32 30) := s_icne dX7_place_27 rfl
theorem s_X7_place_30 {X : ev_E} {l : Launch} (hG : ev_Good X) (hl : l.stackTraces = false) : ev_Snd X l ev_ms x_X7_place tx_X7_place 30 (i_il 2 31) := s_iload_n dX7_place_30 rfl
theorem s_X7_place_31 {X : ev_E} {l : Launch} (hG : ev_Good X) (hl : l.stackTraces = false) : ev_Snd X l ev_ms x_X7_place tx_X7_place 31 (i_ir (.int)) := s_ireturn rfl dX7_place_31
theorem s_X7_place_32 {X : ev_E} {l : Launch} (hG : ev_Good X) (hl : l.stackTraces = false) : ev_Snd X l ev_ms x_X7_place tx_X7_place 32 (i_inc 2 (1) 35) := s_iinc dX7_place_32 rfl (Nat.le_of_ble_eq_true rfl)
theorem s_X7_place_35 {X : ev_E} {l : Launch} (hG : ev_Good X) (hl : l.stackTraces = false) : ev_Snd X l ev_ms x_X7_place tx_X7_place 35 (i_goto 2) := s_goto dX7_place_35 rfl
theorem s_X7_place_38 {X : ev_E} {l : Launch} (hG : ev_Good X) (hl : l.stackTraces = false) : ev_Snd X l ev_ms x_X7_place tx_X7_place 38 (i_psh (.int (-1)) 39) := s_iconst dX7_place_38 rfl
theorem s_X7_place_39 {X : ev_E} {l : Launch} (hG : ev_Good X) (hl : l.stackTraces = false) : ev_Snd X l ev_ms x_X7_place tx_X7_place 39 (i_ir (.int)) := s_ireturn rfl dX7_place_39
theorem sa_X7_place {X : ev_E} {l : Launch} (hG : ev_Good X) (hl : l.stackTraces = false) : ∀ q ∈ tb_X7_place X, ev_Snd X l ev_ms x_X7_place tx_X7_place q.1 q.2 := by
  intro q hq
  unfold tb_X7_place at hq
  simp only [List.mem_cons, List.not_mem_nil, or_false] at hq
  rcases hq with rfl | rfl | rfl | rfl | rfl | rfl | rfl | rfl | rfl | rfl | rfl | rfl | rfl | rfl | rfl | rfl | rfl | rfl | rfl | rfl | rfl | rfl
  · exact s_X7_place_0 hG hl
  · exact s_X7_place_1 hG hl
  · exact s_X7_place_2 hG hl
  · exact s_X7_place_3 hG hl
  · exact s_X7_place_4 hG hl
  · exact s_X7_place_7 hG hl
  · exact s_X7_place_10 hG hl
  · exact s_X7_place_13 hG hl
  · exact s_X7_place_14 hG hl
  · exact s_X7_place_17 hG hl
  · exact s_X7_place_18 hG hl
  · exact s_X7_place_21 hG hl
  · exact s_X7_place_24 hG hl
  · exact s_X7_place_25 hG hl
  · exact s_X7_place_26 hG hl
  · exact s_X7_place_27 hG hl
  · exact s_X7_place_30 hG hl
  · exact s_X7_place_31 hG hl
  · exact s_X7_place_32 hG hl
  · exact s_X7_place_35 hG hl
  · exact s_X7_place_38 hG hl
  · exact s_X7_place_39 hG hl
def tx_X7_step : ev_X := fun _ _ => some none
noncomputable def tb_X7_step (X : ev_E) : List (Nat × (ev_S → ev_N)) := [(0, i_al 0 1), (1, i_gf X 12 0 4), (4, i_al 0 5), (5, i_gf X 12 6 8), (8, i_cV X 129 1 4 2 11), (11, i_cca 0 14), (14, i_as 1 15), (15, i_al 0 16), (16, i_dup 17), (17, i_gf X 12 6 20), (20, i_psh (.int (1)) 21), (21, i_ii (fun a b => a + b) 22), (22, i_pf 12 6 (.int) 25), (25, i_al 0 26), (26, i_psh (.int (1)) 27), (27, i_pf 12 7 (.boolean) 30), (30, i_al 0 31), (31, i_gf X 12 5 34), (34, i_ifne 43 37), (37, i_al 1 38), (38, i_psh (.int (0)) 39), (39, i_ald X ev_tI 40), (40, i_goto 67), (43, i_al 0 44), (44, i_gf X 12 5 47), (47, i_psh (.int (1)) 48), (48, i_icne 57 51), (51, i_al 1 52), (52, i_psh (.int (1)) 53), (53, i_ald X ev_tI 54), (54, i_goto 67), (57, i_al 1 58), (58, i_psh (.int (0)) 59), (59, i_ald X ev_tI 60), (60, i_psh (.int (100)) 62), (62, i_ii (fun a b => a * b) 63), (63, i_al 1 64), (64, i_psh (.int (1)) 65), (65, i_ald X ev_tI 66), (66, i_ii (fun a b => a + b) 67), (67, i_ir (.int))]
theorem s_X7_step_0 {X : ev_E} {l : Launch} (hG : ev_Good X) (hl : l.stackTraces = false) : ev_Snd X l ev_ms x_X7_step tx_X7_step 0 (i_al 0 1) := s_aload_n dX7_step_0 rfl
theorem s_X7_step_1 {X : ev_E} {l : Launch} (hG : ev_Good X) (hl : l.stackTraces = false) : ev_Snd X l ev_ms x_X7_step tx_X7_step 1 (i_gf X 12 0 4) := s_getfield hG (ci := 12) (r := (RX7, TX7, 9)) rfl cw_12 (k := 0) (Nat.le_of_ble_eq_true rfl) w_1221 rfl (Or.inl rfl) dX7_step_1
theorem s_X7_step_4 {X : ev_E} {l : Launch} (hG : ev_Good X) (hl : l.stackTraces = false) : ev_Snd X l ev_ms x_X7_step tx_X7_step 4 (i_al 0 5) := s_aload_n dX7_step_4 rfl
theorem s_X7_step_5 {X : ev_E} {l : Launch} (hG : ev_Good X) (hl : l.stackTraces = false) : ev_Snd X l ev_ms x_X7_step tx_X7_step 5 (i_gf X 12 6 8) := s_getfield hG (ci := 12) (r := (RX7, TX7, 9)) rfl cw_12 (k := 6) (Nat.le_of_ble_eq_true rfl) w_1233 rfl (Or.inl rfl) dX7_step_5
theorem s_X7_step_8 {X : ev_E} {l : Launch} (hG : ev_Good X) (hl : l.stackTraces = false) : ev_Snd X l ev_ms x_X7_step tx_X7_step 8 (i_cV X 129 1 4 2 11) := s_invokevirtual hG (mi := 129) (n := 1) (ci := 4) (r := (RJx4a65c, TJx4a65c, 3)) rfl (cal_Jx4a65c_get_915e3 (Nat.le_of_ble_eq_true rfl)) w_1315 w_1316 w_1317 dX7_step_8
theorem s_X7_step_11 {X : ev_E} {l : Launch} (hG : ev_Good X) (hl : l.stackTraces = false) : ev_Snd X l ev_ms x_X7_step tx_X7_step 11 (i_cca 0 14) := s_castA hG (kd := 0) (Nat.le_of_ble_eq_true rfl) (by decide +kernel) w_1327 dX7_step_11
theorem s_X7_step_14 {X : ev_E} {l : Launch} (hG : ev_Good X) (hl : l.stackTraces = false) : ev_Snd X l ev_ms x_X7_step tx_X7_step 14 (i_as 1 15) := s_astore_n dX7_step_14 rfl (Nat.le_of_ble_eq_true rfl)
theorem s_X7_step_15 {X : ev_E} {l : Launch} (hG : ev_Good X) (hl : l.stackTraces = false) : ev_Snd X l ev_ms x_X7_step tx_X7_step 15 (i_al 0 16) := s_aload_n dX7_step_15 rfl
theorem s_X7_step_16 {X : ev_E} {l : Launch} (hG : ev_Good X) (hl : l.stackTraces = false) : ev_Snd X l ev_ms x_X7_step tx_X7_step 16 (i_dup 17) := s_dup dX7_step_16
theorem s_X7_step_17 {X : ev_E} {l : Launch} (hG : ev_Good X) (hl : l.stackTraces = false) : ev_Snd X l ev_ms x_X7_step tx_X7_step 17 (i_gf X 12 6 20) := s_getfield hG (ci := 12) (r := (RX7, TX7, 9)) rfl cw_12 (k := 6) (Nat.le_of_ble_eq_true rfl) w_1233 rfl (Or.inl rfl) dX7_step_17
theorem s_X7_step_20 {X : ev_E} {l : Launch} (hG : ev_Good X) (hl : l.stackTraces = false) : ev_Snd X l ev_ms x_X7_step tx_X7_step 20 (i_psh (.int (1)) 21) := s_iconst dX7_step_20 rfl
theorem s_X7_step_21 {X : ev_E} {l : Launch} (hG : ev_Good X) (hl : l.stackTraces = false) : ev_Snd X l ev_ms x_X7_step tx_X7_step 21 (i_ii (fun a b => a + b) 22) := s_iadd dX7_step_21
theorem s_X7_step_22 {X : ev_E} {l : Launch} (hG : ev_Good X) (hl : l.stackTraces = false) : ev_Snd X l ev_ms x_X7_step tx_X7_step 22 (i_pf 12 6 (.int) 25) := s_putfield hG (ci := 12) (r := (RX7, TX7, 9)) rfl cw_12 ap_12 (k := 6) (Nat.le_of_ble_eq_true rfl) rfl (by decide +kernel) w_1233 rfl (Or.inl rfl) dX7_step_22
theorem s_X7_step_25 {X : ev_E} {l : Launch} (hG : ev_Good X) (hl : l.stackTraces = false) : ev_Snd X l ev_ms x_X7_step tx_X7_step 25 (i_al 0 26) := s_aload_n dX7_step_25 rfl
theorem s_X7_step_26 {X : ev_E} {l : Launch} (hG : ev_Good X) (hl : l.stackTraces = false) : ev_Snd X l ev_ms x_X7_step tx_X7_step 26 (i_psh (.int (1)) 27) := s_iconst dX7_step_26 rfl
theorem s_X7_step_27 {X : ev_E} {l : Launch} (hG : ev_Good X) (hl : l.stackTraces = false) : ev_Snd X l ev_ms x_X7_step tx_X7_step 27 (i_pf 12 7 (.boolean) 30) := s_putfield hG (ci := 12) (r := (RX7, TX7, 9)) rfl cw_12 ap_12 (k := 7) (Nat.le_of_ble_eq_true rfl) rfl (by decide +kernel) w_1235 rfl (Or.inl rfl) dX7_step_27
theorem s_X7_step_30 {X : ev_E} {l : Launch} (hG : ev_Good X) (hl : l.stackTraces = false) : ev_Snd X l ev_ms x_X7_step tx_X7_step 30 (i_al 0 31) := s_aload_n dX7_step_30 rfl
theorem s_X7_step_31 {X : ev_E} {l : Launch} (hG : ev_Good X) (hl : l.stackTraces = false) : ev_Snd X l ev_ms x_X7_step tx_X7_step 31 (i_gf X 12 5 34) := s_getfield hG (ci := 12) (r := (RX7, TX7, 9)) rfl cw_12 (k := 5) (Nat.le_of_ble_eq_true rfl) w_1231 rfl (Or.inl rfl) dX7_step_31
theorem s_X7_step_34 {X : ev_E} {l : Launch} (hG : ev_Good X) (hl : l.stackTraces = false) : ev_Snd X l ev_ms x_X7_step tx_X7_step 34 (i_ifne 43 37) := s_ifne dX7_step_34 rfl
theorem s_X7_step_37 {X : ev_E} {l : Launch} (hG : ev_Good X) (hl : l.stackTraces = false) : ev_Snd X l ev_ms x_X7_step tx_X7_step 37 (i_al 1 38) := s_aload_n dX7_step_37 rfl
theorem s_X7_step_38 {X : ev_E} {l : Launch} (hG : ev_Good X) (hl : l.stackTraces = false) : ev_Snd X l ev_ms x_X7_step tx_X7_step 38 (i_psh (.int (0)) 39) := s_iconst dX7_step_38 rfl
theorem s_X7_step_39 {X : ev_E} {l : Launch} (hG : ev_Good X) (hl : l.stackTraces = false) : ev_Snd X l ev_ms x_X7_step tx_X7_step 39 (i_ald X ev_tI 40) := s_iaload hG dX7_step_39
theorem s_X7_step_40 {X : ev_E} {l : Launch} (hG : ev_Good X) (hl : l.stackTraces = false) : ev_Snd X l ev_ms x_X7_step tx_X7_step 40 (i_goto 67) := s_goto dX7_step_40 rfl
theorem s_X7_step_43 {X : ev_E} {l : Launch} (hG : ev_Good X) (hl : l.stackTraces = false) : ev_Snd X l ev_ms x_X7_step tx_X7_step 43 (i_al 0 44) := s_aload_n dX7_step_43 rfl
theorem s_X7_step_44 {X : ev_E} {l : Launch} (hG : ev_Good X) (hl : l.stackTraces = false) : ev_Snd X l ev_ms x_X7_step tx_X7_step 44 (i_gf X 12 5 47) := s_getfield hG (ci := 12) (r := (RX7, TX7, 9)) rfl cw_12 (k := 5) (Nat.le_of_ble_eq_true rfl) w_1231 rfl (Or.inl rfl) dX7_step_44
theorem s_X7_step_47 {X : ev_E} {l : Launch} (hG : ev_Good X) (hl : l.stackTraces = false) : ev_Snd X l ev_ms x_X7_step tx_X7_step 47 (i_psh (.int (1)) 48) := s_iconst dX7_step_47 rfl
theorem s_X7_step_48 {X : ev_E} {l : Launch} (hG : ev_Good X) (hl : l.stackTraces = false) : ev_Snd X l ev_ms x_X7_step tx_X7_step 48 (i_icne 57 51) := s_icne dX7_step_48 rfl
theorem s_X7_step_51 {X : ev_E} {l : Launch} (hG : ev_Good X) (hl : l.stackTraces = false) : ev_Snd X l ev_ms x_X7_step tx_X7_step 51 (i_al 1 52) := s_aload_n dX7_step_51 rfl
theorem s_X7_step_52 {X : ev_E} {l : Launch} (hG : ev_Good X) (hl : l.stackTraces = false) : ev_Snd X l ev_ms x_X7_step tx_X7_step 52 (i_psh (.int (1)) 53) := s_iconst dX7_step_52 rfl
theorem s_X7_step_53 {X : ev_E} {l : Launch} (hG : ev_Good X) (hl : l.stackTraces = false) : ev_Snd X l ev_ms x_X7_step tx_X7_step 53 (i_ald X ev_tI 54) := s_iaload hG dX7_step_53
theorem s_X7_step_54 {X : ev_E} {l : Launch} (hG : ev_Good X) (hl : l.stackTraces = false) : ev_Snd X l ev_ms x_X7_step tx_X7_step 54 (i_goto 67) := s_goto dX7_step_54 rfl
theorem s_X7_step_57 {X : ev_E} {l : Launch} (hG : ev_Good X) (hl : l.stackTraces = false) : ev_Snd X l ev_ms x_X7_step tx_X7_step 57 (i_al 1 58) := s_aload_n dX7_step_57 rfl
theorem s_X7_step_58 {X : ev_E} {l : Launch} (hG : ev_Good X) (hl : l.stackTraces = false) : ev_Snd X l ev_ms x_X7_step tx_X7_step 58 (i_psh (.int (0)) 59) := s_iconst dX7_step_58 rfl
theorem s_X7_step_59 {X : ev_E} {l : Launch} (hG : ev_Good X) (hl : l.stackTraces = false) : ev_Snd X l ev_ms x_X7_step tx_X7_step 59 (i_ald X ev_tI 60) := s_iaload hG dX7_step_59
theorem s_X7_step_60 {X : ev_E} {l : Launch} (hG : ev_Good X) (hl : l.stackTraces = false) : ev_Snd X l ev_ms x_X7_step tx_X7_step 60 (i_psh (.int (100)) 62) := s_bipush dX7_step_60 rfl
theorem s_X7_step_62 {X : ev_E} {l : Launch} (hG : ev_Good X) (hl : l.stackTraces = false) : ev_Snd X l ev_ms x_X7_step tx_X7_step 62 (i_ii (fun a b => a * b) 63) := s_imul dX7_step_62
theorem s_X7_step_63 {X : ev_E} {l : Launch} (hG : ev_Good X) (hl : l.stackTraces = false) : ev_Snd X l ev_ms x_X7_step tx_X7_step 63 (i_al 1 64) := s_aload_n dX7_step_63 rfl
theorem s_X7_step_64 {X : ev_E} {l : Launch} (hG : ev_Good X) (hl : l.stackTraces = false) : ev_Snd X l ev_ms x_X7_step tx_X7_step 64 (i_psh (.int (1)) 65) := s_iconst dX7_step_64 rfl
theorem s_X7_step_65 {X : ev_E} {l : Launch} (hG : ev_Good X) (hl : l.stackTraces = false) : ev_Snd X l ev_ms x_X7_step tx_X7_step 65 (i_ald X ev_tI 66) := s_iaload hG dX7_step_65
theorem s_X7_step_66 {X : ev_E} {l : Launch} (hG : ev_Good X) (hl : l.stackTraces = false) : ev_Snd X l ev_ms x_X7_step tx_X7_step 66 (i_ii (fun a b => a + b) 67) := s_iadd dX7_step_66
theorem s_X7_step_67 {X : ev_E} {l : Launch} (hG : ev_Good X) (hl : l.stackTraces = false) : ev_Snd X l ev_ms x_X7_step tx_X7_step 67 (i_ir (.int)) := s_ireturn rfl dX7_step_67
theorem sa_X7_step {X : ev_E} {l : Launch} (hG : ev_Good X) (hl : l.stackTraces = false) : ∀ q ∈ tb_X7_step X, ev_Snd X l ev_ms x_X7_step tx_X7_step q.1 q.2 := by
  intro q hq
  unfold tb_X7_step at hq
  simp only [List.mem_cons, List.not_mem_nil, or_false] at hq
  rcases hq with rfl | rfl | rfl | rfl | rfl | rfl | rfl | rfl | rfl | rfl | rfl | rfl | rfl | rfl | rfl | rfl | rfl | rfl | rfl | rfl | rfl | rfl | rfl | rfl | rfl | rfl | rfl | rfl | rfl | rfl | rfl | rfl | rfl | rfl | rfl | rfl | rfl | rfl | rfl | rfl | rfl
  · exact s_X7_step_0 hG hl
  · exact s_X7_step_1 hG hl
  · exact s_X7_step_4 hG hl
  · exact s_X7_step_5 hG hl
  · exact s_X7_step_8 hG hl
  · exact s_X7_step_11 hG hl
  · exact s_X7_step_14 hG hl
  · exact s_X7_step_15 hG hl
  · exact s_X7_step_16 hG hl
  · exact s_X7_step_17 hG hl
  · exact s_X7_step_20 hG hl
  · exact s_X7_step_21 hG hl
  · exact s_X7_step_22 hG hl
  · exact s_X7_step_25 hG hl
  · exact s_X7_step_26 hG hl
  · exact s_X7_step_27 hG hl
  · exact s_X7_step_30 hG hl
  · exact s_X7_step_31 hG hl
  · exact s_X7_step_34 hG hl
  · exact s_X7_step_37 hG hl
  · exact s_X7_step_38 hG hl
  · exact s_X7_step_39 hG hl
  · exact s_X7_step_40 hG hl
  · exact s_X7_step_43 hG hl
  · exact s_X7_step_44 hG hl
  · exact s_X7_step_47 hG hl
  · exact s_X7_step_48 hG hl
  · exact s_X7_step_51 hG hl
  · exact s_X7_step_52 hG hl
  · exact s_X7_step_53 hG hl
  · exact s_X7_step_54 hG hl
  · exact s_X7_step_57 hG hl
  · exact s_X7_step_58 hG hl
  · exact s_X7_step_59 hG hl
  · exact s_X7_step_60 hG hl
  · exact s_X7_step_62 hG hl
  · exact s_X7_step_63 hG hl
  · exact s_X7_step_64 hG hl
  · exact s_X7_step_65 hG hl
  · exact s_X7_step_66 hG hl
  · exact s_X7_step_67 hG hl
def tx_X8_askedAt : ev_X := fun _ _ => some none
noncomputable def tb_X8_askedAt (X : ev_E) : List (Nat × (ev_S → ev_N)) := [(0, i_al 0 1), (1, i_psh (.int (0)) 2), (2, i_pf 13 0 (.int) 5), (5, i_il 1 6), (6, i_al 0 7), (7, i_gf X 13 4 10), (10, i_cV X 24 0 4 1 13), (13, i_cS 65 2 2 16), (16, i_ifeq 23 19), (19, i_psh (.int (-1)) 20), (20, i_goto 37), (23, i_al 0 24), (24, i_gf X 13 4 27), (27, i_il 1 28), (28, i_cV X 129 1 4 2 31), (31, i_cco X 2 34), (34, i_cV X 12 0 2 1 37), (37, i_ir (.int))]
theorem s_X8_askedAt_0 {X : ev_E} {l : Launch} (hG : ev_Good X) (hl : l.stackTraces = false) : ev_Snd X l ev_ms x_X8_askedAt tx_X8_askedAt 0 (i_al 0 1) := s_aload_n dX8_askedAt_0 rfl
theorem s_X8_askedAt_1 {X : ev_E} {l : Launch} (hG : ev_Good X) (hl : l.stackTraces = false) : ev_Snd X l ev_ms x_X8_askedAt tx_X8_askedAt 1 (i_psh (.int (0)) 2) := s_iconst dX8_askedAt_1 rfl
theorem s_X8_askedAt_2 {X : ev_E} {l : Launch} (hG : ev_Good X) (hl : l.stackTraces = false) : ev_Snd X l ev_ms x_X8_askedAt tx_X8_askedAt 2 (i_pf 13 0 (.int) 5) := s_putfield hG (ci := 13) (r := (RX8, TX8, 5)) rfl cw_13 ap_13 (k := 0) (Nat.le_of_ble_eq_true rfl) rfl (by decide +kernel) w_1260 rfl (Or.inl rfl) dX8_askedAt_2
theorem s_X8_askedAt_5 {X : ev_E} {l : Launch} (hG : ev_Good X) (hl : l.stackTraces = false) : ev_Snd X l ev_ms x_X8_askedAt tx_X8_askedAt 5 (i_il 1 6) := s_iload_n dX8_askedAt_5 rfl
theorem s_X8_askedAt_6 {X : ev_E} {l : Launch} (hG : ev_Good X) (hl : l.stackTraces = false) : ev_Snd X l ev_ms x_X8_askedAt tx_X8_askedAt 6 (i_al 0 7) := s_aload_n dX8_askedAt_6 rfl
theorem s_X8_askedAt_7 {X : ev_E} {l : Launch} (hG : ev_Good X) (hl : l.stackTraces = false) : ev_Snd X l ev_ms x_X8_askedAt tx_X8_askedAt 7 (i_gf X 13 4 10) := s_getfield hG (ci := 13) (r := (RX8, TX8, 5)) rfl cw_13 (k := 4) (Nat.le_of_ble_eq_true rfl) w_1264 rfl (Or.inl rfl) dX8_askedAt_7
theorem s_X8_askedAt_10 {X : ev_E} {l : Launch} (hG : ev_Good X) (hl : l.stackTraces = false) : ev_Snd X l ev_ms x_X8_askedAt tx_X8_askedAt 10 (i_cV X 24 0 4 1 13) := s_invokevirtual hG (mi := 24) (n := 0) (ci := 4) (r := (RJx4a65c, TJx4a65c, 3)) rfl (cal_Jx4a65c_size_8abf5 (Nat.le_of_ble_eq_true rfl)) w_1294 w_1295 w_1296 dX8_askedAt_10
theorem s_X8_askedAt_13 {X : ev_E} {l : Launch} (hG : ev_Good X) (hl : l.stackTraces = false) : ev_Snd X l ev_ms x_X8_askedAt tx_X8_askedAt 13 (i_cS 65 2 2 16) := s_invokestatic hG (mi := 65) (n := 2) (cal_X8_isOut (Nat.le_of_ble_eq_true rfl)) w_1287 w_1288 dX8_askedAt_13
theorem s_X8_askedAt_16 {X : ev_E} {l : Launch} (hG : ev_Good X) (hl : l.stackTraces = false) : ev_Snd X l ev_ms x_X8_askedAt tx_X8_askedAt 16 (i_ifeq 23 19) := s_ifeq dX8_askedAt_16 rfl
theorem s_X8_askedAt_19 {X : ev_E} {l : Launch} (hG : ev_Good X) (hl : l.stackTraces = false) : ev_Snd X l ev_ms x_X8_askedAt tx_X8_askedAt 19 (i_psh (.int (-1)) 20) := s_iconst dX8_askedAt_19 rfl
theorem s_X8_askedAt_20 {X : ev_E} {l : Launch} (hG : ev_Good X) (hl : l.stackTraces = false) : ev_Snd X l ev_ms x_X8_askedAt tx_X8_askedAt 20 (i_goto 37) := s_goto dX8_askedAt_20 rfl
theorem s_X8_askedAt_23 {X : ev_E} {l : Launch} (hG : ev_Good X) (hl : l.stackTraces = false) : ev_Snd X l ev_ms x_X8_askedAt tx_X8_askedAt 23 (i_al 0 24) := s_aload_n dX8_askedAt_23 rfl
theorem s_X8_askedAt_24 {X : ev_E} {l : Launch} (hG : ev_Good X) (hl : l.stackTraces = false) : ev_Snd X l ev_ms x_X8_askedAt tx_X8_askedAt 24 (i_gf X 13 4 27) := s_getfield hG (ci := 13) (r := (RX8, TX8, 5)) rfl cw_13 (k := 4) (Nat.le_of_ble_eq_true rfl) w_1264 rfl (Or.inl rfl) dX8_askedAt_24
theorem s_X8_askedAt_27 {X : ev_E} {l : Launch} (hG : ev_Good X) (hl : l.stackTraces = false) : ev_Snd X l ev_ms x_X8_askedAt tx_X8_askedAt 27 (i_il 1 28) := s_iload_n dX8_askedAt_27 rfl
theorem s_X8_askedAt_28 {X : ev_E} {l : Launch} (hG : ev_Good X) (hl : l.stackTraces = false) : ev_Snd X l ev_ms x_X8_askedAt tx_X8_askedAt 28 (i_cV X 129 1 4 2 31) := s_invokevirtual hG (mi := 129) (n := 1) (ci := 4) (r := (RJx4a65c, TJx4a65c, 3)) rfl (cal_Jx4a65c_get_915e3 (Nat.le_of_ble_eq_true rfl)) w_1328 w_1316 w_1317 dX8_askedAt_28
theorem s_X8_askedAt_31 {X : ev_E} {l : Launch} (hG : ev_Good X) (hl : l.stackTraces = false) : ev_Snd X l ev_ms x_X8_askedAt tx_X8_askedAt 31 (i_cco X 2 34) := s_castO hG (ci := 2) (r := (RJ6, TJ6, 1)) rfl w_1595 dX8_askedAt_31
theorem s_X8_askedAt_34 {X : ev_E} {l : Launch} (hG : ev_Good X) (hl : l.stackTraces = false) : ev_Snd X l ev_ms x_X8_askedAt tx_X8_askedAt 34 (i_cV X 12 0 2 1 37) := s_invokevirtual hG (mi := 12) (n := 0) (ci := 2) (r := (RJ6, TJ6, 1)) rfl (cal_J6_intValue_8abf5 (Nat.le_of_ble_eq_true rfl)) w_1596 w_1597 w_1598 dX8_askedAt_34
theorem s_X8_askedAt_37 {X : ev_E} {l : Launch} (hG : ev_Good X) (hl : l.stackTraces = false) : ev_Snd X l ev_ms x_X8_askedAt tx_X8_askedAt 37 (i_ir (.int)) := s_ireturn rfl dX8_askedAt_37
theorem sa_X8_askedAt {X : ev_E} {l : Launch} (hG : ev_Good X) (hl : l.stackTraces = false) : ∀ q ∈ tb_X8_askedAt X, ev_Snd X l ev_ms x_X8_askedAt tx_X8_askedAt q.1 q.2 := by
  intro q hq
  unfold tb_X8_askedAt at hq
  simp only [List.mem_cons, List.not_mem_nil, or_false] at hq
  rcases hq with rfl | rfl | rfl | rfl | rfl | rfl | rfl | rfl | rfl | rfl | rfl | rfl | rfl | rfl | rfl | rfl | rfl | rfl
  · exact s_X8_askedAt_0 hG hl
  · exact s_X8_askedAt_1 hG hl
  · exact s_X8_askedAt_2 hG hl
  · exact s_X8_askedAt_5 hG hl
  · exact s_X8_askedAt_6 hG hl
  · exact s_X8_askedAt_7 hG hl
  · exact s_X8_askedAt_10 hG hl
  · exact s_X8_askedAt_13 hG hl
  · exact s_X8_askedAt_16 hG hl
  · exact s_X8_askedAt_19 hG hl
  · exact s_X8_askedAt_20 hG hl
  · exact s_X8_askedAt_23 hG hl
  · exact s_X8_askedAt_24 hG hl
  · exact s_X8_askedAt_27 hG hl
  · exact s_X8_askedAt_28 hG hl
  · exact s_X8_askedAt_31 hG hl
  · exact s_X8_askedAt_34 hG hl
  · exact s_X8_askedAt_37 hG hl
def tx_X8_before : ev_X := fun _ _ => some none
noncomputable def tb_X8_before (X : ev_E) : List (Nat × (ev_S → ev_N)) := [(0, i_il 2 1), (1, i_psh (.int (1)) 2), (2, i_ii (fun a b => a - b) 3), (3, i_is 3 4), (4, i_il 3 5), (5, i_iflt 34 8), (8, i_al 0 9), (9, i_gf X 13 4 12), (12, i_il 3 13), (13, i_cV X 129 1 4 2 16), (16, i_cco X 2 19), (19, i_cV X 12 0 2 1 22), (22, i_il 1 23), (23, i_icne 28 26), (26, i_il 3 27), (27, i_ir (.int)), (28, i_inc 3 (-1) 31), (31, i_goto 4), (34, i_psh (.int (-1)) 35), (35, i_ir (.int))]
theorem s_X8_before_0 {X : ev_E} {l : Launch} (hG : ev_Good X) (hl : l.stackTraces = false) : ev_Snd X l ev_ms x_X8_before tx_X8_before 0 (i_il 2 1) := s_iload_n dX8_before_0 rfl
theorem s_X8_before_1 {X : ev_E} {l : Launch} (hG : ev_Good X) (hl : l.stackTraces = false) : ev_Snd X l ev_ms x_X8_before tx_X8_before 1 (i_psh (.int (1)) 2) := s_iconst dX8_before_1 rfl
theorem s_X8_before_2 {X : ev_E} {l : Launch} (hG : ev_Good X) (hl : l.stackTraces = false) : ev_Snd X l ev_ms x_X8_before tx_X8_before 2 (i_ii (fun a b => a - b) 3) := s_isub dX8_before_2
theorem s_X8_before_3 {X : ev_E} {l : Launch} (hG : ev_Good X) (hl : l.stackTraces = false) : ev_Snd X l ev_ms x_X8_before tx_X8_before 3 (i_is 3 4) := s_istore_n dX8_before_3 rfl (Nat.le_of_ble_eq_true rfl)
theorem s_X8_before_4 {X : ev_E} {l : Launch} (hG : ev_Good X) (hl : l.stackTraces = false) : ev_Snd X l ev_ms x_X8_before tx_X8_before 4 (i_il 3 5) := s_iload_n dX8_before_4 rfl
theorem s_X8_before_5 {X : ev_E} {l : Launch} (hG : ev_Good X) (hl : l.stackTraces = false) : ev_Snd X l ev_ms x_X8_before tx_X8_before 5 (i_iflt 34 8) := s_iflt dX8_before_5 rfl
theorem s_X8_before_8 {X : ev_E} {l : Launch} (hG : ev_Good X) (hl : l.stackTraces = false) : ev_Snd X l ev_ms x_X8_before tx_X8_before 8 (i_al 0 9) := s_aload_n dX8_before_8 rfl
theorem s_X8_before_9 {X : ev_E} {l : Launch} (hG : ev_Good X) (hl : l.stackTraces = false) : ev_Snd X l ev_ms x_X8_before tx_X8_before 9 (i_gf X 13 4 12) := s_getfield hG (ci := 13) (r := (RX8, TX8, 5)) rfl cw_13 (k := 4) (Nat.le_of_ble_eq_true rfl) w_1264 rfl (Or.inl rfl) dX8_before_9
theorem s_X8_before_12 {X : ev_E} {l : Launch} (hG : ev_Good X) (hl : l.stackTraces = false) : ev_Snd X l ev_ms x_X8_before tx_X8_before 12 (i_il 3 13) := s_iload_n dX8_before_12 rfl
theorem s_X8_before_13 {X : ev_E} {l : Launch} (hG : ev_Good X) (hl : l.stackTraces = false) : ev_Snd X l ev_ms x_X8_before tx_X8_before 13 (i_cV X 129 1 4 2 16) := s_invokevirtual hG (mi := 129) (n := 1) (ci := 4) (r := (RJx4a65c, TJx4a65c, 3)) rfl (cal_Jx4a65c_get_915e3 (Nat.le_of_ble_eq_true rfl)) w_1328 w_1316 w_1317 dX8_before_13
theorem s_X8_before_16 {X : ev_E} {l : Launch} (hG : ev_Good X) (hl : l.stackTraces = false) : ev_Snd X l ev_ms x_X8_before tx_X8_before 16 (i_cco X 2 19) := s_castO hG (ci := 2) (r := (RJ6, TJ6, 1)) rfl w_1595 dX8_before_16
theorem s_X8_before_19 {X : ev_E} {l : Launch} (hG : ev_Good X) (hl : l.stackTraces = false) : ev_Snd X l ev_ms x_X8_before tx_X8_before 19 (i_cV X 12 0 2 1 22) := s_invokevirtual hG (mi := 12) (n := 0) (ci := 2) (r := (RJ6, TJ6, 1)) rfl (cal_J6_intValue_8abf5 (Nat.le_of_ble_eq_true rfl)) w_1596 w_1597 w_1598 dX8_before_19
theorem s_X8_before_22 {X : ev_E} {l : Launch} (hG : ev_Good X) (hl : l.stackTraces = false) : ev_Snd X l ev_ms x_X8_before tx_X8_before 22 (i_il 1 23) := s_iload_n dX8_before_22 rfl
theorem s_X8_before_23 {X : ev_E} {l : Launch} (hG : ev_Good X) (hl : l.stackTraces = false) : ev_Snd X l ev_ms x_X8_before tx_X8_before 23 (i_icne 28 26) := s_icne dX8_before_23 rfl
theorem s_X8_before_26 {X : ev_E} {l : Launch} (hG : ev_Good X) (hl : l.stackTraces = false) : ev_Snd X l ev_ms x_X8_before tx_X8_before 26 (i_il 3 27) := s_iload_n dX8_before_26 rfl
theorem s_X8_before_27 {X : ev_E} {l : Launch} (hG : ev_Good X) (hl : l.stackTraces = false) : ev_Snd X l ev_ms x_X8_before tx_X8_before 27 (i_ir (.int)) := s_ireturn rfl dX8_before_27
theorem s_X8_before_28 {X : ev_E} {l : Launch} (hG : ev_Good X) (hl : l.stackTraces = false) : ev_Snd X l ev_ms x_X8_before tx_X8_before 28 (i_inc 3 (-1) 31) := s_iinc dX8_before_28 rfl (Nat.le_of_ble_eq_true rfl)
theorem s_X8_before_31 {X : ev_E} {l : Launch} (hG : ev_Good X) (hl : l.stackTraces = false) : ev_Snd X l ev_ms x_X8_before tx_X8_before 31 (i_goto 4) := s_goto dX8_before_31 rfl
theorem s_X8_before_34 {X : ev_E} {l : Launch} (hG : ev_Good X) (hl : l.stackTraces = false) : ev_Snd X l ev_ms x_X8_before tx_X8_before 34 (i_psh (.int (-1)) 35) := s_iconst dX8_before_34 rfl
theorem s_X8_before_35 {X : ev_E} {l : Launch} (hG : ev_Good X) (hl : l.stackTraces = false) : ev_Snd X l ev_ms x_X8_before tx_X8_before 35 (i_ir (.int)) := s_ireturn rfl dX8_before_35
theorem sa_X8_before {X : ev_E} {l : Launch} (hG : ev_Good X) (hl : l.stackTraces = false) : ∀ q ∈ tb_X8_before X, ev_Snd X l ev_ms x_X8_before tx_X8_before q.1 q.2 := by
  intro q hq
  unfold tb_X8_before at hq
  simp only [List.mem_cons, List.not_mem_nil, or_false] at hq
  rcases hq with rfl | rfl | rfl | rfl | rfl | rfl | rfl | rfl | rfl | rfl | rfl | rfl | rfl | rfl | rfl | rfl | rfl | rfl | rfl | rfl
  · exact s_X8_before_0 hG hl
  · exact s_X8_before_1 hG hl
  · exact s_X8_before_2 hG hl
  · exact s_X8_before_3 hG hl
  · exact s_X8_before_4 hG hl
  · exact s_X8_before_5 hG hl
  · exact s_X8_before_8 hG hl
  · exact s_X8_before_9 hG hl
  · exact s_X8_before_12 hG hl
  · exact s_X8_before_13 hG hl
  · exact s_X8_before_16 hG hl
  · exact s_X8_before_19 hG hl
  · exact s_X8_before_22 hG hl
  · exact s_X8_before_23 hG hl
  · exact s_X8_before_26 hG hl
  · exact s_X8_before_27 hG hl
  · exact s_X8_before_28 hG hl
  · exact s_X8_before_31 hG hl
  · exact s_X8_before_34 hG hl
  · exact s_X8_before_35 hG hl
def tx_X8_cut : ev_X := fun _ _ => some none
noncomputable def tb_X8_cut (X : ev_E) : List (Nat × (ev_S → ev_N)) := [(0, i_al 0 1), (1, i_il 1 2), (2, i_cS 118 1 1 5), (5, i_psh (.int (0)) 6), (6, i_psh (.int (0)) 7), (7, i_cV X 63 3 13 4 10), (10, i_ifeq 15 13), (13, i_psh (.int (0)) 14), (14, i_ir (.int)), (15, i_al 0 16), (16, i_gf X 13 3 19), (19, i_il 1 20), (20, i_ald X FieldType.isReference 21), (21, i_as 2 22), (22, i_al 2 23), (23, i_cV X 62 0 12 1 26), (26, i_ifeq 36 29), (29, i_al 2 30), (30, i_gf X 12 7 33), (33, i_ifne 41 36), (36, i_al 0 37), (37, i_cV X 69 0 13 1 40), (40, i_ir (.int)), (41, i_al 2 42), (42, i_psh (.int (0)) 43), (43, i_pf 12 7 (.boolean) 46), (46, i_al 2 47), (47, i_dup 48), (48, i_gf X 12 6 51), (51, i_psh (.int (1)) 52), (52, i_ii (fun a b => a - b) 53), (53, i_pf 12 6 (.int) 56), (56, i_al 2 57), (57, i_gf X 12 0 60), (60, i_al 2 61), (61, i_gf X 12 6 64), (64, i_cV X 131 1 4 4 67), (67, i_pop 68), (68, i_al 2 69), (69, i_gf X 12 0 72), (72, i_cV X 24 0 4 1 75), (75, i_ir (.int))]
theorem s_X8_cut_0 {X : ev_E} {l : Launch} (hG : ev_Good X) (hl : l.stackTraces = false) : ev_Snd X l ev_ms x_X8_cut tx_X8_cut 0 (i_al 0 1) := s_aload_n dX8_cut_0 rfl
theorem s_X8_cut_1 {X : ev_E} {l : Launch} (hG : ev_Good X) (hl : l.stackTraces = false) : ev_Snd X l ev_ms x_X8_cut tx_X8_cut 1 (i_il 1 2) := s_iload_n dX8_cut_1 rfl
theorem s_X8_cut_2 {X : ev_E} {l : Launch} (hG : ev_Good X) (hl : l.stackTraces = false) : ev_Snd X l ev_ms x_X8_cut tx_X8_cut 2 (i_cS 118 1 1 5) := s_invokestatic hG (mi := 118) (n := 1) (cal_X8_isNo (Nat.le_of_ble_eq_true rfl)) w_1284 w_1285 dX8_cut_2
theorem s_X8_cut_5 {X : ev_E} {l : Launch} (hG : ev_Good X) (hl : l.stackTraces = false) : ev_Snd X l ev_ms x_X8_cut tx_X8_cut 5 (i_psh (.int (0)) 6) := s_iconst dX8_cut_5 rfl
theorem s_X8_cut_6 {X : ev_E} {l : Launch} (hG : ev_Good X) (hl : l.stackTraces = false) : ev_Snd X l ev_ms x_X8_cut tx_X8_cut 6 (i_psh (.int (0)) 7) := s_iconst dX8_cut_6 rfl
theorem s_X8_cut_7 {X : ev_E} {l : Launch} (hG : ev_Good X) (hl : l.stackTraces = false) : ev_Snd X l ev_ms x_X8_cut tx_X8_cut 7 (i_cV X 63 3 13 4 10) := s_invokevirtual hG (mi := 63) (n := 3) (ci := 13) (r := (RX8, TX8, 5)) rfl (cal_X8_fails (Nat.le_of_ble_eq_true rfl)) w_1290 w_1292 w_22 dX8_cut_7
theorem s_X8_cut_10 {X : ev_E} {l : Launch} (hG : ev_Good X) (hl : l.stackTraces = false) : ev_Snd X l ev_ms x_X8_cut tx_X8_cut 10 (i_ifeq 15 13) := s_ifeq dX8_cut_10 rfl
theorem s_X8_cut_13 {X : ev_E} {l : Launch} (hG : ev_Good X) (hl : l.stackTraces = false) : ev_Snd X l ev_ms x_X8_cut tx_X8_cut 13 (i_psh (.int (0)) 14) := s_iconst dX8_cut_13 rfl
theorem s_X8_cut_14 {X : ev_E} {l : Launch} (hG : ev_Good X) (hl : l.stackTraces = false) : ev_Snd X l ev_ms x_X8_cut tx_X8_cut 14 (i_ir (.int)) := s_ireturn rfl dX8_cut_14
theorem s_X8_cut_15 {X : ev_E} {l : Launch} (hG : ev_Good X) (hl : l.stackTraces = false) : ev_Snd X l ev_ms x_X8_cut tx_X8_cut 15 (i_al 0 16) := s_aload_n dX8_cut_15 rfl
theorem s_X8_cut_16 {X : ev_E} {l : Launch} (hG : ev_Good X) (hl : l.stackTraces = false) : ev_Snd X l ev_ms x_X8_cut tx_X8_cut 16 (i_gf X 13 3 19) := s_getfield hG (ci := 13) (r := (RX8, TX8, 5)) rfl cw_13 (k := 3) (Nat.le_of_ble_eq_true rfl) w_1263 rfl (Or.inl rfl) dX8_cut_16
theorem s_X8_cut_19 {X : ev_E} {l : Launch} (hG : ev_Good X) (hl : l.stackTraces = false) : ev_Snd X l ev_ms x_X8_cut tx_X8_cut 19 (i_il 1 20) := s_iload_n dX8_cut_19 rfl
theorem s_X8_cut_20 {X : ev_E} {l : Launch} (hG : ev_Good X) (hl : l.stackTraces = false) : ev_Snd X l ev_ms x_X8_cut tx_X8_cut 20 (i_ald X FieldType.isReference 21) := s_aaload hG dX8_cut_20
theorem s_X8_cut_21 {X : ev_E} {l : Launch} (hG : ev_Good X) (hl : l.stackTraces = false) : ev_Snd X l ev_ms x_X8_cut tx_X8_cut 21 (i_as 2 22) := s_astore_n dX8_cut_21 rfl (Nat.le_of_ble_eq_true rfl)
theorem s_X8_cut_22 {X : ev_E} {l : Launch} (hG : ev_Good X) (hl : l.stackTraces = false) : ev_Snd X l ev_ms x_X8_cut tx_X8_cut 22 (i_al 2 23) := s_aload_n dX8_cut_22 rfl
theorem s_X8_cut_23 {X : ev_E} {l : Launch} (hG : ev_Good X) (hl : l.stackTraces = false) : ev_Snd X l ev_ms x_X8_cut tx_X8_cut 23 (i_cV X 62 0 12 1 26) := s_invokevirtual hG (mi := 62) (n := 0) (ci := 12) (r := (RX7, TX7, 9)) rfl (cal_X7_isOn (Nat.le_of_ble_eq_true rfl)) w_1546 w_1547 w_1548 dX8_cut_23
theorem s_X8_cut_26 {X : ev_E} {l : Launch} (hG : ev_Good X) (hl : l.stackTraces = false) : ev_Snd X l ev_ms x_X8_cut tx_X8_cut 26 (i_ifeq 36 29) := s_ifeq dX8_cut_26 rfl
theorem s_X8_cut_29 {X : ev_E} {l : Launch} (hG : ev_Good X) (hl : l.stackTraces = false) : ev_Snd X l ev_ms x_X8_cut tx_X8_cut 29 (i_al 2 30) := s_aload_n dX8_cut_29 rfl
theorem s_X8_cut_30 {X : ev_E} {l : Launch} (hG : ev_Good X) (hl : l.stackTraces = false) : ev_Snd X l ev_ms x_X8_cut tx_X8_cut 30 (i_gf X 12 7 33) := s_getfield hG (ci := 12) (r := (RX7, TX7, 9)) rfl cw_12 (k := 7) (Nat.le_of_ble_eq_true rfl) w_1236 rfl (Or.inl rfl) dX8_cut_30
theorem s_X8_cut_33 {X : ev_E} {l : Launch} (hG : ev_Good X) (hl : l.stackTraces = false) : ev_Snd X l ev_ms x_X8_cut tx_X8_cut 33 (i_ifne 41 36) := s_ifne dX8_cut_33 rfl
theorem s_X8_cut_36 {X : ev_E} {l : Launch} (hG : ev_Good X) (hl : l.stackTraces = false) : ev_Snd X l ev_ms x_X8_cut tx_X8_cut 36 (i_al 0 37) := s_aload_n dX8_cut_36 rfl
theorem s_X8_cut_37 {X : ev_E} {l : Launch} (hG : ev_Good X) (hl : l.stackTraces = false) : ev_Snd X l ev_ms x_X8_cut tx_X8_cut 37 (i_cV X 69 0 13 1 40) := s_invokevirtual hG (mi := 69) (n := 0) (ci := 13) (r := (RX8, TX8, 5)) rfl (cal_X8_no (Nat.le_of_ble_eq_true rfl)) w_1426 w_1428 w_29 dX8_cut_37
theorem s_X8_cut_40 {X : ev_E} {l : Launch} (hG : ev_Good X) (hl : l.stackTraces = false) : ev_Snd X l ev_ms x_X8_cut tx_X8_cut 40 (i_ir (.int)) := s_ireturn rfl dX8_cut_40
theorem s_X8_cut_41 {X : ev_E} {l : Launch} (hG : ev_Good X) (hl : l.stackTraces = false) : ev_Snd X l ev_ms x_X8_cut tx_X8_cut 41 (i_al 2 42) := s_aload_n dX8_cut_41 rfl
theorem s_X8_cut_42 {X : ev_E} {l : Launch} (hG : ev_Good X) (hl : l.stackTraces = false) : ev_Snd X l ev_ms x_X8_cut tx_X8_cut 42 (i_psh (.int (0)) 43) := s_iconst dX8_cut_42 rfl
theorem s_X8_cut_43 {X : ev_E} {l : Launch} (hG : ev_Good X) (hl : l.stackTraces = false) : ev_Snd X l ev_ms x_X8_cut tx_X8_cut 43 (i_pf 12 7 (.boolean) 46) := s_putfield hG (ci := 12) (r := (RX7, TX7, 9)) rfl cw_12 ap_12 (k := 7) (Nat.le_of_ble_eq_true rfl) rfl (by decide +kernel) w_1236 rfl (Or.inl rfl) dX8_cut_43
theorem s_X8_cut_46 {X : ev_E} {l : Launch} (hG : ev_Good X) (hl : l.stackTraces = false) : ev_Snd X l ev_ms x_X8_cut tx_X8_cut 46 (i_al 2 47) := s_aload_n dX8_cut_46 rfl
theorem s_X8_cut_47 {X : ev_E} {l : Launch} (hG : ev_Good X) (hl : l.stackTraces = false) : ev_Snd X l ev_ms x_X8_cut tx_X8_cut 47 (i_dup 48) := s_dup dX8_cut_47
theorem s_X8_cut_48 {X : ev_E} {l : Launch} (hG : ev_Good X) (hl : l.stackTraces = false) : ev_Snd X l ev_ms x_X8_cut tx_X8_cut 48 (i_gf X 12 6 51) := s_getfield hG (ci := 12) (r := (RX7, TX7, 9)) rfl cw_12 (k := 6) (Nat.le_of_ble_eq_true rfl) w_1234 rfl (Or.inl rfl) dX8_cut_48
theorem s_X8_cut_51 {X : ev_E} {l : Launch} (hG : ev_Good X) (hl : l.stackTraces = false) : ev_Snd X l ev_ms x_X8_cut tx_X8_cut 51 (i_psh (.int (1)) 52) := s_iconst dX8_cut_51 rfl
theorem s_X8_cut_52 {X : ev_E} {l : Launch} (hG : ev_Good X) (hl : l.stackTraces = false) : ev_Snd X l ev_ms x_X8_cut tx_X8_cut 52 (i_ii (fun a b => a - b) 53) := s_isub dX8_cut_52
theorem s_X8_cut_53 {X : ev_E} {l : Launch} (hG : ev_Good X) (hl : l.stackTraces = false) : ev_Snd X l ev_ms x_X8_cut tx_X8_cut 53 (i_pf 12 6 (.int) 56) := s_putfield hG (ci := 12) (r := (RX7, TX7, 9)) rfl cw_12 ap_12 (k := 6) (Nat.le_of_ble_eq_true rfl) rfl (by decide +kernel) w_1234 rfl (Or.inl rfl) dX8_cut_53
theorem s_X8_cut_56 {X : ev_E} {l : Launch} (hG : ev_Good X) (hl : l.stackTraces = false) : ev_Snd X l ev_ms x_X8_cut tx_X8_cut 56 (i_al 2 57) := s_aload_n dX8_cut_56 rfl
theorem s_X8_cut_57 {X : ev_E} {l : Launch} (hG : ev_Good X) (hl : l.stackTraces = false) : ev_Snd X l ev_ms x_X8_cut tx_X8_cut 57 (i_gf X 12 0 60) := s_getfield hG (ci := 12) (r := (RX7, TX7, 9)) rfl cw_12 (k := 0) (Nat.le_of_ble_eq_true rfl) w_1222 rfl (Or.inl rfl) dX8_cut_57
theorem s_X8_cut_60 {X : ev_E} {l : Launch} (hG : ev_Good X) (hl : l.stackTraces = false) : ev_Snd X l ev_ms x_X8_cut tx_X8_cut 60 (i_al 2 61) := s_aload_n dX8_cut_60 rfl
theorem s_X8_cut_61 {X : ev_E} {l : Launch} (hG : ev_Good X) (hl : l.stackTraces = false) : ev_Snd X l ev_ms x_X8_cut tx_X8_cut 61 (i_gf X 12 6 64) := s_getfield hG (ci := 12) (r := (RX7, TX7, 9)) rfl cw_12 (k := 6) (Nat.le_of_ble_eq_true rfl) w_1234 rfl (Or.inl rfl) dX8_cut_61
theorem s_X8_cut_64 {X : ev_E} {l : Launch} (hG : ev_Good X) (hl : l.stackTraces = false) : ev_Snd X l ev_ms x_X8_cut tx_X8_cut 64 (i_cV X 131 1 4 4 67) := s_invokevirtual hG (mi := 131) (n := 1) (ci := 4) (r := (RJx4a65c, TJx4a65c, 3)) rfl (cal_Jx4a65c_remove_915e3 (Nat.le_of_ble_eq_true rfl)) w_1393 w_1335 w_1336 dX8_cut_64
theorem s_X8_cut_67 {X : ev_E} {l : Launch} (hG : ev_Good X) (hl : l.stackTraces = false) : ev_Snd X l ev_ms x_X8_cut tx_X8_cut 67 (i_pop 68) := s_pop dX8_cut_67
theorem s_X8_cut_68 {X : ev_E} {l : Launch} (hG : ev_Good X) (hl : l.stackTraces = false) : ev_Snd X l ev_ms x_X8_cut tx_X8_cut 68 (i_al 2 69) := s_aload_n dX8_cut_68 rfl
theorem s_X8_cut_69 {X : ev_E} {l : Launch} (hG : ev_Good X) (hl : l.stackTraces = false) : ev_Snd X l ev_ms x_X8_cut tx_X8_cut 69 (i_gf X 12 0 72) := s_getfield hG (ci := 12) (r := (RX7, TX7, 9)) rfl cw_12 (k := 0) (Nat.le_of_ble_eq_true rfl) w_1222 rfl (Or.inl rfl) dX8_cut_69
theorem s_X8_cut_72 {X : ev_E} {l : Launch} (hG : ev_Good X) (hl : l.stackTraces = false) : ev_Snd X l ev_ms x_X8_cut tx_X8_cut 72 (i_cV X 24 0 4 1 75) := s_invokevirtual hG (mi := 24) (n := 0) (ci := 4) (r := (RJx4a65c, TJx4a65c, 3)) rfl (cal_Jx4a65c_size_8abf5 (Nat.le_of_ble_eq_true rfl)) w_1294 w_1295 w_1296 dX8_cut_72
theorem s_X8_cut_75 {X : ev_E} {l : Launch} (hG : ev_Good X) (hl : l.stackTraces = false) : ev_Snd X l ev_ms x_X8_cut tx_X8_cut 75 (i_ir (.int)) := s_ireturn rfl dX8_cut_75
theorem sa_X8_cut {X : ev_E} {l : Launch} (hG : ev_Good X) (hl : l.stackTraces = false) : ∀ q ∈ tb_X8_cut X, ev_Snd X l ev_ms x_X8_cut tx_X8_cut q.1 q.2 := by
  intro q hq
  unfold tb_X8_cut at hq
  simp only [List.mem_cons, List.not_mem_nil, or_false] at hq
  rcases hq with rfl | rfl | rfl | rfl | rfl | rfl | rfl | rfl | rfl | rfl | rfl | rfl | rfl | rfl | rfl | rfl | rfl | rfl | rfl | rfl | rfl | rfl | rfl | rfl | rfl | rfl | rfl | rfl | rfl | rfl | rfl | rfl | rfl | rfl | rfl | rfl | rfl | rfl | rfl | rfl | rfl | rfl
  · exact s_X8_cut_0 hG hl
  · exact s_X8_cut_1 hG hl
  · exact s_X8_cut_2 hG hl
  · exact s_X8_cut_5 hG hl
  · exact s_X8_cut_6 hG hl
  · exact s_X8_cut_7 hG hl
  · exact s_X8_cut_10 hG hl
  · exact s_X8_cut_13 hG hl
  · exact s_X8_cut_14 hG hl
  · exact s_X8_cut_15 hG hl
  · exact s_X8_cut_16 hG hl
  · exact s_X8_cut_19 hG hl
  · exact s_X8_cut_20 hG hl
  · exact s_X8_cut_21 hG hl
  · exact s_X8_cut_22 hG hl
  · exact s_X8_cut_23 hG hl
  · exact s_X8_cut_26 hG hl
  · exact s_X8_cut_29 hG hl
  · exact s_X8_cut_30 hG hl
  · exact s_X8_cut_33 hG hl
  · exact s_X8_cut_36 hG hl
  · exact s_X8_cut_37 hG hl
  · exact s_X8_cut_40 hG hl
  · exact s_X8_cut_41 hG hl
  · exact s_X8_cut_42 hG hl
  · exact s_X8_cut_43 hG hl
  · exact s_X8_cut_46 hG hl
  · exact s_X8_cut_47 hG hl
  · exact s_X8_cut_48 hG hl
  · exact s_X8_cut_51 hG hl
  · exact s_X8_cut_52 hG hl
  · exact s_X8_cut_53 hG hl
  · exact s_X8_cut_56 hG hl
  · exact s_X8_cut_57 hG hl
  · exact s_X8_cut_60 hG hl
  · exact s_X8_cut_61 hG hl
  · exact s_X8_cut_64 hG hl
  · exact s_X8_cut_67 hG hl
  · exact s_X8_cut_68 hG hl
  · exact s_X8_cut_69 hG hl
  · exact s_X8_cut_72 hG hl
  · exact s_X8_cut_75 hG hl
def tx_X8_ofTable : ev_X := fun _ _ => some none
noncomputable def tb_X8_ofTable (X : ev_E) : List (Nat × (ev_S → ev_N)) := [(0, i_al 0 1), (1, i_il 1 2), (2, i_cS 118 1 1 5), (5, i_il 2 6), (6, i_psh (.int (5)) 7), (7, i_cS 65 2 2 10), (10, i_psh (.int (0)) 11), (11, i_cV X 63 3 13 4 14), (14, i_ifeq 21 17), (17, i_psh (.int (0)) 18), (18, i_goto 27), (21, i_al 0 22), (22, i_il 1 23), (23, i_il 2 24), (24, i_cV X 170 2 13 7 27), (27, i_ir (.int))]
theorem s_X8_ofTable_0 {X : ev_E} {l : Launch} (hG : ev_Good X) (hl : l.stackTraces = false) : ev_Snd X l ev_ms x_X8_ofTable tx_X8_ofTable 0 (i_al 0 1) := s_aload_n dX8_ofTable_0 rfl
theorem s_X8_ofTable_1 {X : ev_E} {l : Launch} (hG : ev_Good X) (hl : l.stackTraces = false) : ev_Snd X l ev_ms x_X8_ofTable tx_X8_ofTable 1 (i_il 1 2) := s_iload_n dX8_ofTable_1 rfl
theorem s_X8_ofTable_2 {X : ev_E} {l : Launch} (hG : ev_Good X) (hl : l.stackTraces = false) : ev_Snd X l ev_ms x_X8_ofTable tx_X8_ofTable 2 (i_cS 118 1 1 5) := s_invokestatic hG (mi := 118) (n := 1) (cal_X8_isNo (Nat.le_of_ble_eq_true rfl)) w_1284 w_1285 dX8_ofTable_2
theorem s_X8_ofTable_5 {X : ev_E} {l : Launch} (hG : ev_Good X) (hl : l.stackTraces = false) : ev_Snd X l ev_ms x_X8_ofTable tx_X8_ofTable 5 (i_il 2 6) := s_iload_n dX8_ofTable_5 rfl
theorem s_X8_ofTable_6 {X : ev_E} {l : Launch} (hG : ev_Good X) (hl : l.stackTraces = false) : ev_Snd X l ev_ms x_X8_ofTable tx_X8_ofTable 6 (i_psh (.int (5)) 7) := s_iconst dX8_ofTable_6 rfl
theorem s_X8_ofTable_7 {X : ev_E} {l : Launch} (hG : ev_Good X) (hl : l.stackTraces = false) : ev_Snd X l ev_ms x_X8_ofTable tx_X8_ofTable 7 (i_cS 65 2 2 10) := s_invokestatic hG (mi := 65) (n := 2) (cal_X8_isOut (Nat.le_of_ble_eq_true rfl)) w_1287 w_1288 dX8_ofTable_7
theorem s_X8_ofTable_10 {X : ev_E} {l : Launch} (hG : ev_Good X) (hl : l.stackTraces = false) : ev_Snd X l ev_ms x_X8_ofTable tx_X8_ofTable 10 (i_psh (.int (0)) 11) := s_iconst dX8_ofTable_10 rfl
theorem s_X8_ofTable_11 {X : ev_E} {l : Launch} (hG : ev_Good X) (hl : l.stackTraces = false) : ev_Snd X l ev_ms x_X8_ofTable tx_X8_ofTable 11 (i_cV X 63 3 13 4 14) := s_invokevirtual hG (mi := 63) (n := 3) (ci := 13) (r := (RX8, TX8, 5)) rfl (cal_X8_fails (Nat.le_of_ble_eq_true rfl)) w_1290 w_1292 w_22 dX8_ofTable_11
theorem s_X8_ofTable_14 {X : ev_E} {l : Launch} (hG : ev_Good X) (hl : l.stackTraces = false) : ev_Snd X l ev_ms x_X8_ofTable tx_X8_ofTable 14 (i_ifeq 21 17) := s_ifeq dX8_ofTable_14 rfl
theorem s_X8_ofTable_17 {X : ev_E} {l : Launch} (hG : ev_Good X) (hl : l.stackTraces = false) : ev_Snd X l ev_ms x_X8_ofTable tx_X8_ofTable 17 (i_psh (.int (0)) 18) := s_iconst dX8_ofTable_17 rfl
theorem s_X8_ofTable_18 {X : ev_E} {l : Launch} (hG : ev_Good X) (hl : l.stackTraces = false) : ev_Snd X l ev_ms x_X8_ofTable tx_X8_ofTable 18 (i_goto 27) := s_goto dX8_ofTable_18 rfl
theorem s_X8_ofTable_21 {X : ev_E} {l : Launch} (hG : ev_Good X) (hl : l.stackTraces = false) : ev_Snd X l ev_ms x_X8_ofTable tx_X8_ofTable 21 (i_al 0 22) := s_aload_n dX8_ofTable_21 rfl
theorem s_X8_ofTable_22 {X : ev_E} {l : Launch} (hG : ev_Good X) (hl : l.stackTraces = false) : ev_Snd X l ev_ms x_X8_ofTable tx_X8_ofTable 22 (i_il 1 23) := s_iload_n dX8_ofTable_22 rfl
theorem s_X8_ofTable_23 {X : ev_E} {l : Launch} (hG : ev_Good X) (hl : l.stackTraces = false) : ev_Snd X l ev_ms x_X8_ofTable tx_X8_ofTable 23 (i_il 2 24) := s_iload_n dX8_ofTable_23 rfl
theorem s_X8_ofTable_24 {X : ev_E} {l : Launch} (hG : ev_Good X) (hl : l.stackTraces = false) : ev_Snd X l ev_ms x_X8_ofTable tx_X8_ofTable 24 (i_cV X 170 2 13 7 27) := s_invokevirtual hG (mi := 170) (n := 2) (ci := 13) (r := (RX8, TX8, 5)) rfl (cal_X8_tableNow (Nat.le_of_ble_eq_true rfl)) w_1531 w_1533 w_31 dX8_ofTable_24
theorem s_X8_ofTable_27 {X : ev_E} {l : Launch} (hG : ev_Good X) (hl : l.stackTraces = false) : ev_Snd X l ev_ms x_X8_ofTable tx_X8_ofTable 27 (i_ir (.int)) := s_ireturn rfl dX8_ofTable_27
theorem sa_X8_ofTable {X : ev_E} {l : Launch} (hG : ev_Good X) (hl : l.stackTraces = false) : ∀ q ∈ tb_X8_ofTable X, ev_Snd X l ev_ms x_X8_ofTable tx_X8_ofTable q.1 q.2 := by
  intro q hq
  unfold tb_X8_ofTable at hq
  simp only [List.mem_cons, List.not_mem_nil, or_false] at hq
  rcases hq with rfl | rfl | rfl | rfl | rfl | rfl | rfl | rfl | rfl | rfl | rfl | rfl | rfl | rfl | rfl | rfl
  · exact s_X8_ofTable_0 hG hl
  · exact s_X8_ofTable_1 hG hl
  · exact s_X8_ofTable_2 hG hl
  · exact s_X8_ofTable_5 hG hl
  · exact s_X8_ofTable_6 hG hl
  · exact s_X8_ofTable_7 hG hl
  · exact s_X8_ofTable_10 hG hl
  · exact s_X8_ofTable_11 hG hl
  · exact s_X8_ofTable_14 hG hl
  · exact s_X8_ofTable_17 hG hl
  · exact s_X8_ofTable_18 hG hl
  · exact s_X8_ofTable_21 hG hl
  · exact s_X8_ofTable_22 hG hl
  · exact s_X8_ofTable_23 hG hl
  · exact s_X8_ofTable_24 hG hl
  · exact s_X8_ofTable_27 hG hl
def tx_X8_set : ev_X := fun _ _ => some none
noncomputable def tb_X8_set (X : ev_E) : List (Nat × (ev_S → ev_N)) := [(0, i_al 0 1), (1, i_il 1 2), (2, i_cS 118 1 1 5), (5, i_il 3 6), (6, i_psh (.int (100)) 8), (8, i_cS 65 2 2 11), (11, i_psh (.int (0)) 12), (12, i_cV X 63 3 13 4 15), (15, i_ifeq 20 18), (18, i_psh (.int (0)) 19), (19, i_ir (.int)), (20, i_il 2 21), (21, i_al 0 22), (22, i_gf X 13 3 25), (25, i_il 1 26), (26, i_ald X FieldType.isReference 27), (27, i_gf X 12 0 30), (30, i_cV X 24 0 4 1 33), (33, i_cS 65 2 2 36), (36, i_ifeq 44 39), (39, i_al 0 40), (40, i_cV X 69 0 13 1 43), (43, i_ir (.int)), (44, i_al 0 45), (45, i_gf X 13 3 48), (48, i_il 1 49), (49, i_ald X FieldType.isReference 50), (50, i_gf X 12 0 53), (53, i_il 2 54), (54, i_cV X 129 1 4 2 57), (57, i_cca 0 60), (60, i_psh (.int (1)) 61), (61, i_ald X ev_tI 62), (62, i_is 4 64), (64, i_al 0 65), (65, i_gf X 13 3 68), (68, i_il 1 69), (69, i_ald X FieldType.isReference 70), (70, i_gf X 12 0 73), (73, i_il 2 74), (74, i_cV X 129 1 4 2 77), (77, i_cca 0 80), (80, i_psh (.int (1)) 81), (81, i_il 3 82), (82, i_ast ev_tI (fun v => v) 83), (83, i_il 4 85), (85, i_ir (.int))]
theorem s_X8_set_0 {X : ev_E} {l : Launch} (hG : ev_Good X) (hl : l.stackTraces = false) : ev_Snd X l ev_ms x_X8_set tx_X8_set 0 (i_al 0 1) := s_aload_n dX8_set_0 rfl
theorem s_X8_set_1 {X : ev_E} {l : Launch} (hG : ev_Good X) (hl : l.stackTraces = false) : ev_Snd X l ev_ms x_X8_set tx_X8_set 1 (i_il 1 2) := s_iload_n dX8_set_1 rfl
theorem s_X8_set_2 {X : ev_E} {l : Launch} (hG : ev_Good X) (hl : l.stackTraces = false) : ev_Snd X l ev_ms x_X8_set tx_X8_set 2 (i_cS 118 1 1 5) := s_invokestatic hG (mi := 118) (n := 1) (cal_X8_isNo (Nat.le_of_ble_eq_true rfl)) w_1284 w_1285 dX8_set_2
theorem s_X8_set_5 {X : ev_E} {l : Launch} (hG : ev_Good X) (hl : l.stackTraces = false) : ev_Snd X l ev_ms x_X8_set tx_X8_set 5 (i_il 3 6) := s_iload_n dX8_set_5 rfl
theorem s_X8_set_6 {X : ev_E} {l : Launch} (hG : ev_Good X) (hl : l.stackTraces = false) : ev_Snd X l ev_ms x_X8_set tx_X8_set 6 (i_psh (.int (100)) 8) := s_bipush dX8_set_6 rfl
theorem s_X8_set_8 {X : ev_E} {l : Launch} (hG : ev_Good X) (hl : l.stackTraces = false) : ev_Snd X l ev_ms x_X8_set tx_X8_set 8 (i_cS 65 2 2 11) := s_invokestatic hG (mi := 65) (n := 2) (cal_X8_isOut (Nat.le_of_ble_eq_true rfl)) w_1287 w_1288 dX8_set_8
theorem s_X8_set_11 {X : ev_E} {l : Launch} (hG : ev_Good X) (hl : l.stackTraces = false) : ev_Snd X l ev_ms x_X8_set tx_X8_set 11 (i_psh (.int (0)) 12) := s_iconst dX8_set_11 rfl
theorem s_X8_set_12 {X : ev_E} {l : Launch} (hG : ev_Good X) (hl : l.stackTraces = false) : ev_Snd X l ev_ms x_X8_set tx_X8_set 12 (i_cV X 63 3 13 4 15) := s_invokevirtual hG (mi := 63) (n := 3) (ci := 13) (r := (RX8, TX8, 5)) rfl (cal_X8_fails (Nat.le_of_ble_eq_true rfl)) w_1290 w_1292 w_22 dX8_set_12
theorem s_X8_set_15 {X : ev_E} {l : Launch} (hG : ev_Good X) (hl : l.stackTraces = false) : ev_Snd X l ev_ms x_X8_set tx_X8_set 15 (i_ifeq 20 18) := s_ifeq dX8_set_15 rfl
theorem s_X8_set_18 {X : ev_E} {l : Launch} (hG : ev_Good X) (hl : l.stackTraces = false) : ev_Snd X l ev_ms x_X8_set tx_X8_set 18 (i_psh (.int (0)) 19) := s_iconst dX8_set_18 rfl
theorem s_X8_set_19 {X : ev_E} {l : Launch} (hG : ev_Good X) (hl : l.stackTraces = false) : ev_Snd X l ev_ms x_X8_set tx_X8_set 19 (i_ir (.int)) := s_ireturn rfl dX8_set_19
theorem s_X8_set_20 {X : ev_E} {l : Launch} (hG : ev_Good X) (hl : l.stackTraces = false) : ev_Snd X l ev_ms x_X8_set tx_X8_set 20 (i_il 2 21) := s_iload_n dX8_set_20 rfl
theorem s_X8_set_21 {X : ev_E} {l : Launch} (hG : ev_Good X) (hl : l.stackTraces = false) : ev_Snd X l ev_ms x_X8_set tx_X8_set 21 (i_al 0 22) := s_aload_n dX8_set_21 rfl
theorem s_X8_set_22 {X : ev_E} {l : Launch} (hG : ev_Good X) (hl : l.stackTraces = false) : ev_Snd X l ev_ms x_X8_set tx_X8_set 22 (i_gf X 13 3 25) := s_getfield hG (ci := 13) (r := (RX8, TX8, 5)) rfl cw_13 (k := 3) (Nat.le_of_ble_eq_true rfl) w_1263 rfl (Or.inl rfl) dX8_set_22
theorem s_X8_set_25 {X : ev_E} {l : Launch} (hG : ev_Good X) (hl : l.stackTraces = false) : ev_Snd X l ev_ms x_X8_set tx_X8_set 25 (i_il 1 26) := s_iload_n dX8_set_25 rfl
theorem s_X8_set_26 {X : ev_E} {l : Launch} (hG : ev_Good X) (hl : l.stackTraces = false) : ev_Snd X l ev_ms x_X8_set tx_X8_set 26 (i_ald X FieldType.isReference 27) := s_aaload hG dX8_set_26
theorem s_X8_set_27 {X : ev_E} {l : Launch} (hG : ev_Good X) (hl : l.stackTraces = false) : ev_Snd X l ev_ms x_X8_set tx_X8_set 27 (i_gf X 12 0 30) := s_getfield hG (ci := 12) (r := (RX7, TX7, 9)) rfl cw_12 (k := 0) (Nat.le_of_ble_eq_true rfl) w_1222 rfl (Or.inl rfl) dX8_set_27
theorem s_X8_set_30 {X : ev_E} {l : Launch} (hG : ev_Good X) (hl : l.stackTraces = false) : ev_Snd X l ev_ms x_X8_set tx_X8_set 30 (i_cV X 24 0 4 1 33) := s_invokevirtual hG (mi := 24) (n := 0) (ci := 4) (r := (RJx4a65c, TJx4a65c, 3)) rfl (cal_Jx4a65c_size_8abf5 (Nat.le_of_ble_eq_true rfl)) w_1294 w_1295 w_1296 dX8_set_30
theorem s_X8_set_33 {X : ev_E} {l : Launch} (hG : ev_Good X) (hl : l.stackTraces = false) : ev_Snd X l ev_ms x_X8_set tx_X8_set 33 (i_cS 65 2 2 36) := s_invokestatic hG (mi := 65) (n := 2) (cal_X8_isOut (Nat.le_of_ble_eq_true rfl)) w_1287 w_1288 dX8_set_33
theorem s_X8_set_36 {X : ev_E} {l : Launch} (hG : ev_Good X) (hl : l.stackTraces = false) : ev_Snd X l ev_ms x_X8_set tx_X8_set 36 (i_ifeq 44 39) := s_ifeq dX8_set_36 rfl
theorem s_X8_set_39 {X : ev_E} {l : Launch} (hG : ev_Good X) (hl : l.stackTraces = false) : ev_Snd X l ev_ms x_X8_set tx_X8_set 39 (i_al 0 40) := s_aload_n dX8_set_39 rfl
theorem s_X8_set_40 {X : ev_E} {l : Launch} (hG : ev_Good X) (hl : l.stackTraces = false) : ev_Snd X l ev_ms x_X8_set tx_X8_set 40 (i_cV X 69 0 13 1 43) := s_invokevirtual hG (mi := 69) (n := 0) (ci := 13) (r := (RX8, TX8, 5)) rfl (cal_X8_no (Nat.le_of_ble_eq_true rfl)) w_1426 w_1428 w_29 dX8_set_40
theorem s_X8_set_43 {X : ev_E} {l : Launch} (hG : ev_Good X) (hl : l.stackTraces = false) : ev_Snd X l ev_ms x_X8_set tx_X8_set 43 (i_ir (.int)) := s_ireturn rfl dX8_set_43
theorem s_X8_set_44 {X : ev_E} {l : Launch} (hG : ev_Good X) (hl : l.stackTraces = false) : ev_Snd X l ev_ms x_X8_set tx_X8_set 44 (i_al 0 45) := s_aload_n dX8_set_44 rfl
theorem s_X8_set_45 {X : ev_E} {l : Launch} (hG : ev_Good X) (hl : l.stackTraces = false) : ev_Snd X l ev_ms x_X8_set tx_X8_set 45 (i_gf X 13 3 48) := s_getfield hG (ci := 13) (r := (RX8, TX8, 5)) rfl cw_13 (k := 3) (Nat.le_of_ble_eq_true rfl) w_1263 rfl (Or.inl rfl) dX8_set_45
theorem s_X8_set_48 {X : ev_E} {l : Launch} (hG : ev_Good X) (hl : l.stackTraces = false) : ev_Snd X l ev_ms x_X8_set tx_X8_set 48 (i_il 1 49) := s_iload_n dX8_set_48 rfl
theorem s_X8_set_49 {X : ev_E} {l : Launch} (hG : ev_Good X) (hl : l.stackTraces = false) : ev_Snd X l ev_ms x_X8_set tx_X8_set 49 (i_ald X FieldType.isReference 50) := s_aaload hG dX8_set_49
theorem s_X8_set_50 {X : ev_E} {l : Launch} (hG : ev_Good X) (hl : l.stackTraces = false) : ev_Snd X l ev_ms x_X8_set tx_X8_set 50 (i_gf X 12 0 53) := s_getfield hG (ci := 12) (r := (RX7, TX7, 9)) rfl cw_12 (k := 0) (Nat.le_of_ble_eq_true rfl) w_1222 rfl (Or.inl rfl) dX8_set_50
theorem s_X8_set_53 {X : ev_E} {l : Launch} (hG : ev_Good X) (hl : l.stackTraces = false) : ev_Snd X l ev_ms x_X8_set tx_X8_set 53 (i_il 2 54) := s_iload_n dX8_set_53 rfl
theorem s_X8_set_54 {X : ev_E} {l : Launch} (hG : ev_Good X) (hl : l.stackTraces = false) : ev_Snd X l ev_ms x_X8_set tx_X8_set 54 (i_cV X 129 1 4 2 57) := s_invokevirtual hG (mi := 129) (n := 1) (ci := 4) (r := (RJx4a65c, TJx4a65c, 3)) rfl (cal_Jx4a65c_get_915e3 (Nat.le_of_ble_eq_true rfl)) w_1328 w_1316 w_1317 dX8_set_54
theorem s_X8_set_57 {X : ev_E} {l : Launch} (hG : ev_Good X) (hl : l.stackTraces = false) : ev_Snd X l ev_ms x_X8_set tx_X8_set 57 (i_cca 0 60) := s_castA hG (kd := 0) (Nat.le_of_ble_eq_true rfl) (by decide +kernel) w_1329 dX8_set_57
theorem s_X8_set_60 {X : ev_E} {l : Launch} (hG : ev_Good X) (hl : l.stackTraces = false) : ev_Snd X l ev_ms x_X8_set tx_X8_set 60 (i_psh (.int (1)) 61) := s_iconst dX8_set_60 rfl
theorem s_X8_set_61 {X : ev_E} {l : Launch} (hG : ev_Good X) (hl : l.stackTraces = false) : ev_Snd X l ev_ms x_X8_set tx_X8_set 61 (i_ald X ev_tI 62) := s_iaload hG dX8_set_61
theorem s_X8_set_62 {X : ev_E} {l : Launch} (hG : ev_Good X) (hl : l.stackTraces = false) : ev_Snd X l ev_ms x_X8_set tx_X8_set 62 (i_is 4 64) := s_istore dX8_set_62 (Nat.le_of_ble_eq_true rfl)
theorem s_X8_set_64 {X : ev_E} {l : Launch} (hG : ev_Good X) (hl : l.stackTraces = false) : ev_Snd X l ev_ms x_X8_set tx_X8_set 64 (i_al 0 65) := s_aload_n dX8_set_64 rfl
theorem s_X8_set_65 {X : ev_E} {l : Launch} (hG : ev_Good X) (hl : l.stackTraces = false) : ev_Snd X l ev_ms x_X8_set tx_X8_set 65 (i_gf X 13 3 68) := s_getfield hG (ci := 13) (r := (RX8, TX8, 5)) rfl cw_13 (k := 3) (Nat.le_of_ble_eq_true rfl) w_1263 rfl (Or.inl rfl) dX8_set_65
theorem s_X8_set_68 {X : ev_E} {l : Launch} (hG : ev_Good X) (hl : l.stackTraces = false) : ev_Snd X l ev_ms x_X8_set tx_X8_set 68 (i_il 1 69) := s_iload_n dX8_set_68 rfl
theorem s_X8_set_69 {X : ev_E} {l : Launch} (hG : ev_Good X) (hl : l.stackTraces = false) : ev_Snd X l ev_ms x_X8_set tx_X8_set 69 (i_ald X FieldType.isReference 70) := s_aaload hG dX8_set_69
theorem s_X8_set_70 {X : ev_E} {l : Launch} (hG : ev_Good X) (hl : l.stackTraces = false) : ev_Snd X l ev_ms x_X8_set tx_X8_set 70 (i_gf X 12 0 73) := s_getfield hG (ci := 12) (r := (RX7, TX7, 9)) rfl cw_12 (k := 0) (Nat.le_of_ble_eq_true rfl) w_1222 rfl (Or.inl rfl) dX8_set_70
theorem s_X8_set_73 {X : ev_E} {l : Launch} (hG : ev_Good X) (hl : l.stackTraces = false) : ev_Snd X l ev_ms x_X8_set tx_X8_set 73 (i_il 2 74) := s_iload_n dX8_set_73 rfl
theorem s_X8_set_74 {X : ev_E} {l : Launch} (hG : ev_Good X) (hl : l.stackTraces = false) : ev_Snd X l ev_ms x_X8_set tx_X8_set 74 (i_cV X 129 1 4 2 77) := s_invokevirtual hG (mi := 129) (n := 1) (ci := 4) (r := (RJx4a65c, TJx4a65c, 3)) rfl (cal_Jx4a65c_get_915e3 (Nat.le_of_ble_eq_true rfl)) w_1328 w_1316 w_1317 dX8_set_74
theorem s_X8_set_77 {X : ev_E} {l : Launch} (hG : ev_Good X) (hl : l.stackTraces = false) : ev_Snd X l ev_ms x_X8_set tx_X8_set 77 (i_cca 0 80) := s_castA hG (kd := 0) (Nat.le_of_ble_eq_true rfl) (by decide +kernel) w_1329 dX8_set_77
theorem s_X8_set_80 {X : ev_E} {l : Launch} (hG : ev_Good X) (hl : l.stackTraces = false) : ev_Snd X l ev_ms x_X8_set tx_X8_set 80 (i_psh (.int (1)) 81) := s_iconst dX8_set_80 rfl
theorem s_X8_set_81 {X : ev_E} {l : Launch} (hG : ev_Good X) (hl : l.stackTraces = false) : ev_Snd X l ev_ms x_X8_set tx_X8_set 81 (i_il 3 82) := s_iload_n dX8_set_81 rfl
theorem s_X8_set_82 {X : ev_E} {l : Launch} (hG : ev_Good X) (hl : l.stackTraces = false) : ev_Snd X l ev_ms x_X8_set tx_X8_set 82 (i_ast ev_tI (fun v => v) 83) := s_iastore hG dX8_set_82
theorem s_X8_set_83 {X : ev_E} {l : Launch} (hG : ev_Good X) (hl : l.stackTraces = false) : ev_Snd X l ev_ms x_X8_set tx_X8_set 83 (i_il 4 85) := s_iload dX8_set_83
theorem s_X8_set_85 {X : ev_E} {l : Launch} (hG : ev_Good X) (hl : l.stackTraces = false) : ev_Snd X l ev_ms x_X8_set tx_X8_set 85 (i_ir (.int)) := s_ireturn rfl dX8_set_85
theorem sa_X8_set {X : ev_E} {l : Launch} (hG : ev_Good X) (hl : l.stackTraces = false) : ∀ q ∈ tb_X8_set X, ev_Snd X l ev_ms x_X8_set tx_X8_set q.1 q.2 := by
  intro q hq
  unfold tb_X8_set at hq
  simp only [List.mem_cons, List.not_mem_nil, or_false] at hq
  rcases hq with rfl | rfl | rfl | rfl | rfl | rfl | rfl | rfl | rfl | rfl | rfl | rfl | rfl | rfl | rfl | rfl | rfl | rfl | rfl | rfl | rfl | rfl | rfl | rfl | rfl | rfl | rfl | rfl | rfl | rfl | rfl | rfl | rfl | rfl | rfl | rfl | rfl | rfl | rfl | rfl | rfl | rfl | rfl | rfl | rfl | rfl | rfl
  · exact s_X8_set_0 hG hl
  · exact s_X8_set_1 hG hl
  · exact s_X8_set_2 hG hl
  · exact s_X8_set_5 hG hl
  · exact s_X8_set_6 hG hl
  · exact s_X8_set_8 hG hl
  · exact s_X8_set_11 hG hl
  · exact s_X8_set_12 hG hl
  · exact s_X8_set_15 hG hl
  · exact s_X8_set_18 hG hl
  · exact s_X8_set_19 hG hl
  · exact s_X8_set_20 hG hl
  · exact s_X8_set_21 hG hl
  · exact s_X8_set_22 hG hl
  · exact s_X8_set_25 hG hl
  · exact s_X8_set_26 hG hl
  · exact s_X8_set_27 hG hl
  · exact s_X8_set_30 hG hl
  · exact s_X8_set_33 hG hl
  · exact s_X8_set_36 hG hl
  · exact s_X8_set_39 hG hl
  · exact s_X8_set_40 hG hl
  · exact s_X8_set_43 hG hl
  · exact s_X8_set_44 hG hl
  · exact s_X8_set_45 hG hl
  · exact s_X8_set_48 hG hl
  · exact s_X8_set_49 hG hl
  · exact s_X8_set_50 hG hl
  · exact s_X8_set_53 hG hl
  · exact s_X8_set_54 hG hl
  · exact s_X8_set_57 hG hl
  · exact s_X8_set_60 hG hl
  · exact s_X8_set_61 hG hl
  · exact s_X8_set_62 hG hl
  · exact s_X8_set_64 hG hl
  · exact s_X8_set_65 hG hl
  · exact s_X8_set_68 hG hl
  · exact s_X8_set_69 hG hl
  · exact s_X8_set_70 hG hl
  · exact s_X8_set_73 hG hl
  · exact s_X8_set_74 hG hl
  · exact s_X8_set_77 hG hl
  · exact s_X8_set_80 hG hl
  · exact s_X8_set_81 hG hl
  · exact s_X8_set_82 hG hl
  · exact s_X8_set_83 hG hl
  · exact s_X8_set_85 hG hl
def tx_X8_told : ev_X := fun _ _ => some none
noncomputable def tb_X8_told (X : ev_E) : List (Nat × (ev_S → ev_N)) := [(0, i_il 2 1), (1, i_al 0 2), (2, i_gf X 13 3 5), (5, i_il 1 6), (6, i_ald X FieldType.isReference 7), (7, i_gf X 12 0 10), (10, i_cV X 24 0 4 1 13), (13, i_cS 65 2 2 16), (16, i_ifeq 21 19), (19, i_psh (.int (-1)) 20), (20, i_ir (.int)), (21, i_al 0 22), (22, i_gf X 13 3 25), (25, i_il 1 26), (26, i_ald X FieldType.isReference 27), (27, i_gf X 12 0 30), (30, i_il 2 31), (31, i_cV X 129 1 4 2 34), (34, i_cca 0 37), (37, i_as 4 39), (39, i_il 3 40), (40, i_ifne 50 43), (43, i_al 4 45), (45, i_psh (.int (0)) 46), (46, i_ald X ev_tI 47), (47, i_goto 74), (50, i_il 3 51), (51, i_psh (.int (1)) 52), (52, i_icne 62 55), (55, i_al 4 57), (57, i_psh (.int (1)) 58), (58, i_ald X ev_tI 59), (59, i_goto 74), (62, i_al 4 64), (64, i_psh (.int (0)) 65), (65, i_ald X ev_tI 66), (66, i_psh (.int (100)) 68), (68, i_ii (fun a b => a * b) 69), (69, i_al 4 71), (71, i_psh (.int (1)) 72), (72, i_ald X ev_tI 73), (73, i_ii (fun a b => a + b) 74), (74, i_ir (.int))]
theorem s_X8_told_0 {X : ev_E} {l : Launch} (hG : ev_Good X) (hl : l.stackTraces = false) : ev_Snd X l ev_ms x_X8_told tx_X8_told 0 (i_il 2 1) := s_iload_n dX8_told_0 rfl
theorem s_X8_told_1 {X : ev_E} {l : Launch} (hG : ev_Good X) (hl : l.stackTraces = false) : ev_Snd X l ev_ms x_X8_told tx_X8_told 1 (i_al 0 2) := s_aload_n dX8_told_1 rfl
theorem s_X8_told_2 {X : ev_E} {l : Launch} (hG : ev_Good X) (hl : l.stackTraces = false) : ev_Snd X l ev_ms x_X8_told tx_X8_told 2 (i_gf X 13 3 5) := s_getfield hG (ci := 13) (r := (RX8, TX8, 5)) rfl cw_13 (k := 3) (Nat.le_of_ble_eq_true rfl) w_1263 rfl (Or.inl rfl) dX8_told_2
theorem s_X8_told_5 {X : ev_E} {l : Launch} (hG : ev_Good X) (hl : l.stackTraces = false) : ev_Snd X l ev_ms x_X8_told tx_X8_told 5 (i_il 1 6) := s_iload_n dX8_told_5 rfl
theorem s_X8_told_6 {X : ev_E} {l : Launch} (hG : ev_Good X) (hl : l.stackTraces = false) : ev_Snd X l ev_ms x_X8_told tx_X8_told 6 (i_ald X FieldType.isReference 7) := s_aaload hG dX8_told_6
theorem s_X8_told_7 {X : ev_E} {l : Launch} (hG : ev_Good X) (hl : l.stackTraces = false) : ev_Snd X l ev_ms x_X8_told tx_X8_told 7 (i_gf X 12 0 10) := s_getfield hG (ci := 12) (r := (RX7, TX7, 9)) rfl cw_12 (k := 0) (Nat.le_of_ble_eq_true rfl) w_1222 rfl (Or.inl rfl) dX8_told_7
theorem s_X8_told_10 {X : ev_E} {l : Launch} (hG : ev_Good X) (hl : l.stackTraces = false) : ev_Snd X l ev_ms x_X8_told tx_X8_told 10 (i_cV X 24 0 4 1 13) := s_invokevirtual hG (mi := 24) (n := 0) (ci := 4) (r := (RJx4a65c, TJx4a65c, 3)) rfl (cal_Jx4a65c_size_8abf5 (Nat.le_of_ble_eq_true rfl)) w_1294 w_1295 w_1296 dX8_told_10
theorem s_X8_told_13 {X : ev_E} {l : Launch} (hG : ev_Good X) (hl : l.stackTraces = false) : ev_Snd X l ev_ms x_X8_told tx_X8_told 13 (i_cS 65 2 2 16) := s_invokestatic hG (mi := 65) (n := 2) (cal_X8_isOut (Nat.le_of_ble_eq_true rfl)) w_1287 w_1288 dX8_told_13
theorem s_X8_told_16 {X : ev_E} {l : Launch} (hG : ev_Good X) (hl : l.stackTraces = false) : ev_Snd X l ev_ms x_X8_told tx_X8_told 16 (i_ifeq 21 19) := s_ifeq dX8_told_16 rfl
theorem s_X8_told_19 {X : ev_E} {l : Launch} (hG : ev_Good X) (hl : l.stackTraces = false) : ev_Snd X l ev_ms x_X8_told tx_X8_told 19 (i_psh (.int (-1)) 20) := s_iconst dX8_told_19 rfl
theorem s_X8_told_20 {X : ev_E} {l : Launch} (hG : ev_Good X) (hl : l.stackTraces = false) : ev_Snd X l ev_ms x_X8_told tx_X8_told 20 (i_ir (.int)) := s_ireturn rfl dX8_told_20
theorem s_X8_told_21 {X : ev_E} {l : Launch} (hG : ev_Good X) (hl : l.stackTraces = false) : ev_Snd X l ev_ms x_X8_told tx_X8_told 21 (i_al 0 22) := s_aload_n dX8_told_21 rfl
theorem s_X8_told_22 {X : ev_E} {l : Launch} (hG : ev_Good X) (hl : l.stackTraces = false) : ev_Snd X l ev_ms x_X8_told tx_X8_told 22 (i_gf X 13 3 25) := s_getfield hG (ci := 13) (r := (RX8, TX8, 5)) rfl cw_13 (k := 3) (Nat.le_of_ble_eq_true rfl) w_1263 rfl (Or.inl rfl) dX8_told_22
theorem s_X8_told_25 {X : ev_E} {l : Launch} (hG : ev_Good X) (hl : l.stackTraces = false) : ev_Snd X l ev_ms x_X8_told tx_X8_told 25 (i_il 1 26) := s_iload_n dX8_told_25 rfl
theorem s_X8_told_26 {X : ev_E} {l : Launch} (hG : ev_Good X) (hl : l.stackTraces = false) : ev_Snd X l ev_ms x_X8_told tx_X8_told 26 (i_ald X FieldType.isReference 27) := s_aaload hG dX8_told_26
theorem s_X8_told_27 {X : ev_E} {l : Launch} (hG : ev_Good X) (hl : l.stackTraces = false) : ev_Snd X l ev_ms x_X8_told tx_X8_told 27 (i_gf X 12 0 30) := s_getfield hG (ci := 12) (r := (RX7, TX7, 9)) rfl cw_12 (k := 0) (Nat.le_of_ble_eq_true rfl) w_1222 rfl (Or.inl rfl) dX8_told_27
theorem s_X8_told_30 {X : ev_E} {l : Launch} (hG : ev_Good X) (hl : l.stackTraces = false) : ev_Snd X l ev_ms x_X8_told tx_X8_told 30 (i_il 2 31) := s_iload_n dX8_told_30 rfl
theorem s_X8_told_31 {X : ev_E} {l : Launch} (hG : ev_Good X) (hl : l.stackTraces = false) : ev_Snd X l ev_ms x_X8_told tx_X8_told 31 (i_cV X 129 1 4 2 34) := s_invokevirtual hG (mi := 129) (n := 1) (ci := 4) (r := (RJx4a65c, TJx4a65c, 3)) rfl (cal_Jx4a65c_get_915e3 (Nat.le_of_ble_eq_true rfl)) w_1328 w_1316 w_1317 dX8_told_31
theorem s_X8_told_34 {X : ev_E} {l : Launch} (hG : ev_Good X) (hl : l.stackTraces = false) : ev_Snd X l ev_ms x_X8_told tx_X8_told 34 (i_cca 0 37) := s_castA hG (kd := 0) (Nat.le_of_ble_eq_true rfl) (by decide +kernel) w_1329 dX8_told_34
theorem s_X8_told_37 {X : ev_E} {l : Launch} (hG : ev_Good X) (hl : l.stackTraces = false) : ev_Snd X l ev_ms x_X8_told tx_X8_told 37 (i_as 4 39) := s_astore dX8_told_37 (Nat.le_of_ble_eq_true rfl)
theorem s_X8_told_39 {X : ev_E} {l : Launch} (hG : ev_Good X) (hl : l.stackTraces = false) : ev_Snd X l ev_ms x_X8_told tx_X8_told 39 (i_il 3 40) := s_iload_n dX8_told_39 rfl
theorem s_X8_told_40 {X : ev_E} {l : Launch} (hG : ev_Good X) (hl : l.stackTraces = false) : ev_Snd X l ev_ms x_X8_told tx_X8_told 40 (i_ifne 50 43) := s_ifne dX8_told_40 rfl
theorem s_X8_told_43 {X : ev_E} {l : Launch} (hG : ev_Good X) (hl : l.stackTraces = false) : ev_Snd X l ev_ms x_X8_told tx_X8_told 43 (i_al 4 45) := s_aload dX8_told_43
theorem s_X8_told_45 {X : ev_E} {l : Launch} (hG : ev_Good X) (hl : l.stackTraces = false) : ev_Snd X l ev_ms x_X8_told tx_X8_told 45 (i_psh (.int (0)) 46) := s_iconst dX8_told_45 rfl
theorem s_X8_told_46 {X : ev_E} {l : Launch} (hG : ev_Good X) (hl : l.stackTraces = false) : ev_Snd X l ev_ms x_X8_told tx_X8_told 46 (i_ald X ev_tI 47) := s_iaload hG dX8_told_46
theorem s_X8_told_47 {X : ev_E} {l : Launch} (hG : ev_Good X) (hl : l.stackTraces = false) : ev_Snd X l ev_ms x_X8_told tx_X8_told 47 (i_goto 74) := s_goto dX8_told_47 rfl
theorem s_X8_told_50 {X : ev_E} {l : Launch} (hG : ev_Good X) (hl : l.stackTraces = false) : ev_Snd X l ev_ms x_X8_told tx_X8_told 50 (i_il 3 51) := s_iload_n dX8_told_50 rfl
theorem s_X8_told_51 {X : ev_E} {l : Launch} (hG : ev_Good X) (hl : l.stackTraces = false) : ev_Snd X l ev_ms x_X8_told tx_X8_told 51 (i_psh (.int (1)) 52) := s_iconst dX8_told_51 rfl
theorem s_X8_told_52 {X : ev_E} {l : Launch} (hG : ev_Good X) (hl : l.stackTraces = false) : ev_Snd X l ev_ms x_X8_told tx_X8_told 52 (i_icne 62 55) := s_icne dX8_told_52 rfl
theorem s_X8_told_55 {X : ev_E} {l : Launch} (hG : ev_Good X) (hl : l.stackTraces = false) : ev_Snd X l ev_ms x_X8_told tx_X8_told 55 (i_al 4 57) := s_aload dX8_told_55
theorem s_X8_told_57 {X : ev_E} {l : Launch} (hG : ev_Good X) (hl : l.stackTraces = false) : ev_Snd X l ev_ms x_X8_told tx_X8_told 57 (i_psh (.int (1)) 58) := s_iconst dX8_told_57 rfl
theorem s_X8_told_58 {X : ev_E} {l : Launch} (hG : ev_Good X) (hl : l.stackTraces = false) : ev_Snd X l ev_ms x_X8_told tx_X8_told 58 (i_ald X ev_tI 59) := s_iaload hG dX8_told_58
theorem s_X8_told_59 {X : ev_E} {l : Launch} (hG : ev_Good X) (hl : l.stackTraces = false) : ev_Snd X l ev_ms x_X8_told tx_X8_told 59 (i_goto 74) := s_goto dX8_told_59 rfl
theorem s_X8_told_62 {X : ev_E} {l : Launch} (hG : ev_Good X) (hl : l.stackTraces = false) : ev_Snd X l ev_ms x_X8_told tx_X8_told 62 (i_al 4 64) := s_aload dX8_told_62
theorem s_X8_told_64 {X : ev_E} {l : Launch} (hG : ev_Good X) (hl : l.stackTraces = false) : ev_Snd X l ev_ms x_X8_told tx_X8_told 64 (i_psh (.int (0)) 65) := s_iconst dX8_told_64 rfl
theorem s_X8_told_65 {X : ev_E} {l : Launch} (hG : ev_Good X) (hl : l.stackTraces = false) : ev_Snd X l ev_ms x_X8_told tx_X8_told 65 (i_ald X ev_tI 66) := s_iaload hG dX8_told_65
theorem s_X8_told_66 {X : ev_E} {l : Launch} (hG : ev_Good X) (hl : l.stackTraces = false) : ev_Snd X l ev_ms x_X8_told tx_X8_told 66 (i_psh (.int (100)) 68) := s_bipush dX8_told_66 rfl
theorem s_X8_told_68 {X : ev_E} {l : Launch} (hG : ev_Good X) (hl : l.stackTraces = false) : ev_Snd X l ev_ms x_X8_told tx_X8_told 68 (i_ii (fun a b => a * b) 69) := s_imul dX8_told_68
theorem s_X8_told_69 {X : ev_E} {l : Launch} (hG : ev_Good X) (hl : l.stackTraces = false) : ev_Snd X l ev_ms x_X8_told tx_X8_told 69 (i_al 4 71) := s_aload dX8_told_69
theorem s_X8_told_71 {X : ev_E} {l : Launch} (hG : ev_Good X) (hl : l.stackTraces = false) : ev_Snd X l ev_ms x_X8_told tx_X8_told 71 (i_psh (.int (1)) 72) := s_iconst dX8_told_71 rfl
theorem s_X8_told_72 {X : ev_E} {l : Launch} (hG : ev_Good X) (hl : l.stackTraces = false) : ev_Snd X l ev_ms x_X8_told tx_X8_told 72 (i_ald X ev_tI 73) := s_iaload hG dX8_told_72
theorem s_X8_told_73 {X : ev_E} {l : Launch} (hG : ev_Good X) (hl : l.stackTraces = false) : ev_Snd X l ev_ms x_X8_told tx_X8_told 73 (i_ii (fun a b => a + b) 74) := s_iadd dX8_told_73
theorem s_X8_told_74 {X : ev_E} {l : Launch} (hG : ev_Good X) (hl : l.stackTraces = false) : ev_Snd X l ev_ms x_X8_told tx_X8_told 74 (i_ir (.int)) := s_ireturn rfl dX8_told_74
theorem sa_X8_told {X : ev_E} {l : Launch} (hG : ev_Good X) (hl : l.stackTraces = false) : ∀ q ∈ tb_X8_told X, ev_Snd X l ev_ms x_X8_told tx_X8_told q.1 q.2 := by
  intro q hq
  unfold tb_X8_told at hq
  simp only [List.mem_cons, List.not_mem_nil, or_false] at hq
  rcases hq with rfl | rfl | rfl | rfl | rfl | rfl | rfl | rfl | rfl | rfl | rfl | rfl | rfl | rfl | rfl | rfl | rfl | rfl | rfl | rfl | rfl | rfl | rfl | rfl | rfl | rfl | rfl | rfl | rfl | rfl | rfl | rfl | rfl | rfl | rfl | rfl | rfl | rfl | rfl | rfl | rfl | rfl | rfl
  · exact s_X8_told_0 hG hl
  · exact s_X8_told_1 hG hl
  · exact s_X8_told_2 hG hl
  · exact s_X8_told_5 hG hl
  · exact s_X8_told_6 hG hl
  · exact s_X8_told_7 hG hl
  · exact s_X8_told_10 hG hl
  · exact s_X8_told_13 hG hl
  · exact s_X8_told_16 hG hl
  · exact s_X8_told_19 hG hl
  · exact s_X8_told_20 hG hl
  · exact s_X8_told_21 hG hl
  · exact s_X8_told_22 hG hl
  · exact s_X8_told_25 hG hl
  · exact s_X8_told_26 hG hl
  · exact s_X8_told_27 hG hl
  · exact s_X8_told_30 hG hl
  · exact s_X8_told_31 hG hl
  · exact s_X8_told_34 hG hl
  · exact s_X8_told_37 hG hl
  · exact s_X8_told_39 hG hl
  · exact s_X8_told_40 hG hl
  · exact s_X8_told_43 hG hl
  · exact s_X8_told_45 hG hl
  · exact s_X8_told_46 hG hl
  · exact s_X8_told_47 hG hl
  · exact s_X8_told_50 hG hl
  · exact s_X8_told_51 hG hl
  · exact s_X8_told_52 hG hl
  · exact s_X8_told_55 hG hl
  · exact s_X8_told_57 hG hl
  · exact s_X8_told_58 hG hl
  · exact s_X8_told_59 hG hl
  · exact s_X8_told_62 hG hl
  · exact s_X8_told_64 hG hl
  · exact s_X8_told_65 hG hl
  · exact s_X8_told_66 hG hl
  · exact s_X8_told_68 hG hl
  · exact s_X8_told_69 hG hl
  · exact s_X8_told_71 hG hl
  · exact s_X8_told_72 hG hl
  · exact s_X8_told_73 hG hl
  · exact s_X8_told_74 hG hl
def tx_X8_bestNow : ev_X := fun _ _ => some none
noncomputable def tb_X8_bestNow_c0 (X : ev_E) : List (Nat × (ev_S → ev_N)) := [(0, i_psh (.int (60)) 2), (2, i_na 0 (.int 0) 4), (4, i_as 2 5), (5, i_psh (.int (0)) 6), (6, i_is 3 7), (7, i_psh (.int (0)) 8), (8, i_is 4 10), (10, i_il 4 12), (12, i_al 0 13), (13, i_gf X 13 4 16), (16, i_cV X 24 0 4 1 19), (19, i_icge 143 22), (22, i_al 0 23), (23, i_al 0 24), (24, i_gf X 13 4 27), (27, i_il 4 29), (29, i_cV X 129 1 4 2 32), (32, i_cco X 2 35), (35, i_cV X 12 0 2 1 38), (38, i_il 4 40), (40, i_cV X 211 2 13 4 43), (43, i_is 5 45), (45, i_il 5 47), (47, i_psh (.int (-1)) 48), (48, i_iceq 55 51), (51, i_psh (.int (1)) 52), (52, i_goto 56), (55, i_psh (.int (0)) 56), (56, i_is 6 58), (58, i_il 5 60), (60, i_psh (.int (1)) 61), (61, i_ii (fun a b => a + b) 62), (62, i_is 7 64), (64, i_il 7 66), (66, i_il 4 68), (68, i_icge 99 71), (71, i_il 6 73), (73, i_ifeq 99 76), (76, i_al 2 77), (77, i_il 7 79), (79, i_ald X ev_tI 80), (80, i_il 1 81), (81, i_psh (.int (1)) 82), (82, i_ii (fun a b => a - b) 83), (83, i_icge 90 86), (86, i_psh (.int (1)) 87), (87, i_goto 91), (90, i_psh (.int (0)) 91), (91, i_is 6 93), (93, i_inc 7 (1) 96), (96, i_goto 64), (99, i_il 6 101), (101, i_ifne 107 104), (104, i_goto 137), (107, i_inc 3 (1) 110), (110, i_il 5 112), (112, i_psh (.int (1)) 113), (113, i_ii (fun a b => a + b) 114), (114, i_is 7 116), (116, i_il 7 118)]
noncomputable def tb_X8_bestNow_c1 (X : ev_E) : List (Nat × (ev_S → ev_N)) := [(118, i_il 4 120), (120, i_icge 137 123), (123, i_al 2 124), (124, i_il 7 126), (126, i_d2 127), (127, i_ald X ev_tI 128), (128, i_psh (.int (1)) 129), (129, i_ii (fun a b => a + b) 130), (130, i_ast ev_tI (fun v => v) 131), (131, i_inc 7 (1) 134), (134, i_goto 116), (137, i_inc 4 (1) 140), (140, i_goto 10), (143, i_al 0 144), (144, i_gf X 13 4 147), (147, i_cV X 24 0 4 1 150), (150, i_il 3 151), (151, i_ii (fun a b => a - b) 152), (152, i_ir (.int))]
noncomputable def tb_X8_bestNow (X : ev_E) : List (Nat × (ev_S → ev_N)) := tb_X8_bestNow_c0 X ++ (tb_X8_bestNow_c1 X)
theorem s_X8_bestNow_0 {X : ev_E} {l : Launch} (hG : ev_Good X) (hl : l.stackTraces = false) : ev_Snd X l ev_ms x_X8_bestNow tx_X8_bestNow 0 (i_psh (.int (60)) 2) := s_bipush dX8_bestNow_0 rfl
theorem s_X8_bestNow_2 {X : ev_E} {l : Launch} (hG : ev_Good X) (hl : l.stackTraces = false) : ev_Snd X l ev_ms x_X8_bestNow tx_X8_bestNow 2 (i_na 0 (.int 0) 4) := s_newarray hG (kd := 0) (at' := .int) (Nat.le_of_ble_eq_true rfl) rfl (by decide) rfl dX8_bestNow_2 w_120
theorem s_X8_bestNow_4 {X : ev_E} {l : Launch} (hG : ev_Good X) (hl : l.stackTraces = false) : ev_Snd X l ev_ms x_X8_bestNow tx_X8_bestNow 4 (i_as 2 5) := s_astore_n dX8_bestNow_4 rfl (Nat.le_of_ble_eq_true rfl)
theorem s_X8_bestNow_5 {X : ev_E} {l : Launch} (hG : ev_Good X) (hl : l.stackTraces = false) : ev_Snd X l ev_ms x_X8_bestNow tx_X8_bestNow 5 (i_psh (.int (0)) 6) := s_iconst dX8_bestNow_5 rfl
theorem s_X8_bestNow_6 {X : ev_E} {l : Launch} (hG : ev_Good X) (hl : l.stackTraces = false) : ev_Snd X l ev_ms x_X8_bestNow tx_X8_bestNow 6 (i_is 3 7) := s_istore_n dX8_bestNow_6 rfl (Nat.le_of_ble_eq_true rfl)
theorem s_X8_bestNow_7 {X : ev_E} {l : Launch} (hG : ev_Good X) (hl : l.stackTraces = false) : ev_Snd X l ev_ms x_X8_bestNow tx_X8_bestNow 7 (i_psh (.int (0)) 8) := s_iconst dX8_bestNow_7 rfl
theorem s_X8_bestNow_8 {X : ev_E} {l : Launch} (hG : ev_Good X) (hl : l.stackTraces = false) : ev_Snd X l ev_ms x_X8_bestNow tx_X8_bestNow 8 (i_is 4 10) := s_istore dX8_bestNow_8 (Nat.le_of_ble_eq_true rfl)
theorem s_X8_bestNow_10 {X : ev_E} {l : Launch} (hG : ev_Good X) (hl : l.stackTraces = false) : ev_Snd X l ev_ms x_X8_bestNow tx_X8_bestNow 10 (i_il 4 12) := s_iload dX8_bestNow_10
theorem s_X8_bestNow_12 {X : ev_E} {l : Launch} (hG : ev_Good X) (hl : l.stackTraces = false) : ev_Snd X l ev_ms x_X8_bestNow tx_X8_bestNow 12 (i_al 0 13) := s_aload_n dX8_bestNow_12 rfl
theorem s_X8_bestNow_13 {X : ev_E} {l : Launch} (hG : ev_Good X) (hl : l.stackTraces = false) : ev_Snd X l ev_ms x_X8_bestNow tx_X8_bestNow 13 (i_gf X 13 4 16) := s_getfield hG (ci := 13) (r := (RX8, TX8, 5)) rfl cw_13 (k := 4) (Nat.le_of_ble_eq_true rfl) w_1264 rfl (Or.inl rfl) dX8_bestNow_13
theorem s_X8_bestNow_16 {X : ev_E} {l : Launch} (hG : ev_Good X) (hl : l.stackTraces = false) : ev_Snd X l ev_ms x_X8_bestNow tx_X8_bestNow 16 (i_cV X 24 0 4 1 19) := s_invokevirtual hG (mi := 24) (n := 0) (ci := 4) (r := (RJx4a65c, TJx4a65c, 3)) rfl (cal_Jx4a65c_size_8abf5 (Nat.le_of_ble_eq_true rfl)) w_1294 w_1295 w_1296 dX8_bestNow_16
theorem s_X8_bestNow_19 {X : ev_E} {l : Launch} (hG : ev_Good X) (hl : l.stackTraces = false) : ev_Snd X l ev_ms x_X8_bestNow tx_X8_bestNow 19 (i_icge 143 22) := s_icge dX8_bestNow_19 rfl
theorem s_X8_bestNow_22 {X : ev_E} {l : Launch} (hG : ev_Good X) (hl : l.stackTraces = false) : ev_Snd X l ev_ms x_X8_bestNow tx_X8_bestNow 22 (i_al 0 23) := s_aload_n dX8_bestNow_22 rfl
theorem s_X8_bestNow_23 {X : ev_E} {l : Launch} (hG : ev_Good X) (hl : l.stackTraces = false) : ev_Snd X l ev_ms x_X8_bestNow tx_X8_bestNow 23 (i_al 0 24) := s_aload_n dX8_bestNow_23 rfl
theorem s_X8_bestNow_24 {X : ev_E} {l : Launch} (hG : ev_Good X) (hl : l.stackTraces = false) : ev_Snd X l ev_ms x_X8_bestNow tx_X8_bestNow 24 (i_gf X 13 4 27) := s_getfield hG (ci := 13) (r := (RX8, TX8, 5)) rfl cw_13 (k := 4) (Nat.le_of_ble_eq_true rfl) w_1264 rfl (Or.inl rfl) dX8_bestNow_24
theorem s_X8_bestNow_27 {X : ev_E} {l : Launch} (hG : ev_Good X) (hl : l.stackTraces = false) : ev_Snd X l ev_ms x_X8_bestNow tx_X8_bestNow 27 (i_il 4 29) := s_iload dX8_bestNow_27
theorem s_X8_bestNow_29 {X : ev_E} {l : Launch} (hG : ev_Good X) (hl : l.stackTraces = false) : ev_Snd X l ev_ms x_X8_bestNow tx_X8_bestNow 29 (i_cV X 129 1 4 2 32) := s_invokevirtual hG (mi := 129) (n := 1) (ci := 4) (r := (RJx4a65c, TJx4a65c, 3)) rfl (cal_Jx4a65c_get_915e3 (Nat.le_of_ble_eq_true rfl)) w_1328 w_1316 w_1317 dX8_bestNow_29
theorem s_X8_bestNow_32 {X : ev_E} {l : Launch} (hG : ev_Good X) (hl : l.stackTraces = false) : ev_Snd X l ev_ms x_X8_bestNow tx_X8_bestNow 32 (i_cco X 2 35) := s_castO hG (ci := 2) (r := (RJ6, TJ6, 1)) rfl w_1595 dX8_bestNow_32
theorem s_X8_bestNow_35 {X : ev_E} {l : Launch} (hG : ev_Good X) (hl : l.stackTraces = false) : ev_Snd X l ev_ms x_X8_bestNow tx_X8_bestNow 35 (i_cV X 12 0 2 1 38) := s_invokevirtual hG (mi := 12) (n := 0) (ci := 2) (r := (RJ6, TJ6, 1)) rfl (cal_J6_intValue_8abf5 (Nat.le_of_ble_eq_true rfl)) w_1596 w_1597 w_1598 dX8_bestNow_35
theorem s_X8_bestNow_38 {X : ev_E} {l : Launch} (hG : ev_Good X) (hl : l.stackTraces = false) : ev_Snd X l ev_ms x_X8_bestNow tx_X8_bestNow 38 (i_il 4 40) := s_iload dX8_bestNow_38
theorem s_X8_bestNow_40 {X : ev_E} {l : Launch} (hG : ev_Good X) (hl : l.stackTraces = false) : ev_Snd X l ev_ms x_X8_bestNow tx_X8_bestNow 40 (i_cV X 211 2 13 4 43) := s_invokevirtual hG (mi := 211) (n := 2) (ci := 13) (r := (RX8, TX8, 5)) rfl (cal_X8_before (Nat.le_of_ble_eq_true rfl)) w_1591 w_1593 w_35 dX8_bestNow_40
theorem s_X8_bestNow_43 {X : ev_E} {l : Launch} (hG : ev_Good X) (hl : l.stackTraces = false) : ev_Snd X l ev_ms x_X8_bestNow tx_X8_bestNow 43 (i_is 5 45) := s_istore dX8_bestNow_43 (Nat.le_of_ble_eq_true rfl)
theorem s_X8_bestNow_45 {X : ev_E} {l : Launch} (hG : ev_Good X) (hl : l.stackTraces = false) : ev_Snd X l ev_ms x_X8_bestNow tx_X8_bestNow 45 (i_il 5 47) := s_iload dX8_bestNow_45
theorem s_X8_bestNow_47 {X : ev_E} {l : Launch} (hG : ev_Good X) (hl : l.stackTraces = false) : ev_Snd X l ev_ms x_X8_bestNow tx_X8_bestNow 47 (i_psh (.int (-1)) 48) := s_iconst dX8_bestNow_47 rfl
theorem s_X8_bestNow_48 {X : ev_E} {l : Launch} (hG : ev_Good X) (hl : l.stackTraces = false) : ev_Snd X l ev_ms x_X8_bestNow tx_X8_bestNow 48 (i_iceq 55 51) := s_iceq dX8_bestNow_48 rfl
theorem s_X8_bestNow_51 {X : ev_E} {l : Launch} (hG : ev_Good X) (hl : l.stackTraces = false) : ev_Snd X l ev_ms x_X8_bestNow tx_X8_bestNow 51 (i_psh (.int (1)) 52) := s_iconst dX8_bestNow_51 rfl
theorem s_X8_bestNow_52 {X : ev_E} {l : Launch} (hG : ev_Good X) (hl : l.stackTraces = false) : ev_Snd X l ev_ms x_X8_bestNow tx_X8_bestNow 52 (i_goto 56) := s_goto dX8_bestNow_52 rfl
theorem s_X8_bestNow_55 {X : ev_E} {l : Launch} (hG : ev_Good X) (hl : l.stackTraces = false) : ev_Snd X l ev_ms x_X8_bestNow tx_X8_bestNow 55 (i_psh (.int (0)) 56) := s_iconst dX8_bestNow_55 rfl
theorem s_X8_bestNow_56 {X : ev_E} {l : Launch} (hG : ev_Good X) (hl : l.stackTraces = false) : ev_Snd X l ev_ms x_X8_bestNow tx_X8_bestNow 56 (i_is 6 58) := s_istore dX8_bestNow_56 (Nat.le_of_ble_eq_true rfl)
theorem s_X8_bestNow_58 {X : ev_E} {l : Launch} (hG : ev_Good X) (hl : l.stackTraces = false) : ev_Snd X l ev_ms x_X8_bestNow tx_X8_bestNow 58 (i_il 5 60) := s_iload dX8_bestNow_58
theorem s_X8_bestNow_60 {X : ev_E} {l : Launch} (hG : ev_Good X) (hl : l.stackTraces = false) : ev_Snd X l ev_ms x_X8_bestNow tx_X8_bestNow 60 (i_psh (.int (1)) 61) := s_iconst dX8_bestNow_60 rfl
theorem s_X8_bestNow_61 {X : ev_E} {l : Launch} (hG : ev_Good X) (hl : l.stackTraces = false) : ev_Snd X l ev_ms x_X8_bestNow tx_X8_bestNow 61 (i_ii (fun a b => a + b) 62) := s_iadd dX8_bestNow_61
theorem s_X8_bestNow_62 {X : ev_E} {l : Launch} (hG : ev_Good X) (hl : l.stackTraces = false) : ev_Snd X l ev_ms x_X8_bestNow tx_X8_bestNow 62 (i_is 7 64) := s_istore dX8_bestNow_62 (Nat.le_of_ble_eq_true rfl)
theorem s_X8_bestNow_64 {X : ev_E} {l : Launch} (hG : ev_Good X) (hl : l.stackTraces = false) : ev_Snd X l ev_ms x_X8_bestNow tx_X8_bestNow 64 (i_il 7 66) := s_iload dX8_bestNow_64
theorem s_X8_bestNow_66 {X : ev_E} {l : Launch} (hG : ev_Good X) (hl : l.stackTraces = false) : ev_Snd X l ev_ms x_X8_bestNow tx_X8_bestNow 66 (i_il 4 68) := s_iload dX8_bestNow_66
theorem s_X8_bestNow_68 {X : ev_E} {l : Launch} (hG : ev_Good X) (hl : l.stackTraces = false) : ev_Snd X l ev_ms x_X8_bestNow tx_X8_bestNow 68 (i_icge 99 71) := s_icge dX8_bestNow_68 rfl
theorem s_X8_bestNow_71 {X : ev_E} {l : Launch} (hG : ev_Good X) (hl : l.stackTraces = false) : ev_Snd X l ev_ms x_X8_bestNow tx_X8_bestNow 71 (i_il 6 73) := s_iload dX8_bestNow_71
theorem s_X8_bestNow_73 {X : ev_E} {l : Launch} (hG : ev_Good X) (hl : l.stackTraces = false) : ev_Snd X l ev_ms x_X8_bestNow tx_X8_bestNow 73 (i_ifeq 99 76) := s_ifeq dX8_bestNow_73 rfl
theorem s_X8_bestNow_76 {X : ev_E} {l : Launch} (hG : ev_Good X) (hl : l.stackTraces = false) : ev_Snd X l ev_ms x_X8_bestNow tx_X8_bestNow 76 (i_al 2 77) := s_aload_n dX8_bestNow_76 rfl
theorem s_X8_bestNow_77 {X : ev_E} {l : Launch} (hG : ev_Good X) (hl : l.stackTraces = false) : ev_Snd X l ev_ms x_X8_bestNow tx_X8_bestNow 77 (i_il 7 79) := s_iload dX8_bestNow_77
theorem s_X8_bestNow_79 {X : ev_E} {l : Launch} (hG : ev_Good X) (hl : l.stackTraces = false) : ev_Snd X l ev_ms x_X8_bestNow tx_X8_bestNow 79 (i_ald X ev_tI 80) := s_iaload hG dX8_bestNow_79
theorem s_X8_bestNow_80 {X : ev_E} {l : Launch} (hG : ev_Good X) (hl : l.stackTraces = false) : ev_Snd X l ev_ms x_X8_bestNow tx_X8_bestNow 80 (i_il 1 81) := s_iload_n dX8_bestNow_80 rfl
theorem s_X8_bestNow_81 {X : ev_E} {l : Launch} (hG : ev_Good X) (hl : l.stackTraces = false) : ev_Snd X l ev_ms x_X8_bestNow tx_X8_bestNow 81 (i_psh (.int (1)) 82) := s_iconst dX8_bestNow_81 rfl
theorem s_X8_bestNow_82 {X : ev_E} {l : Launch} (hG : ev_Good X) (hl : l.stackTraces = false) : ev_Snd X l ev_ms x_X8_bestNow tx_X8_bestNow 82 (i_ii (fun a b => a - b) 83) := s_isub dX8_bestNow_82
theorem s_X8_bestNow_83 {X : ev_E} {l : Launch} (hG : ev_Good X) (hl : l.stackTraces = false) : ev_Snd X l ev_ms x_X8_bestNow tx_X8_bestNow 83 (i_icge 90 86) := s_icge dX8_bestNow_83 rfl
theorem s_X8_bestNow_86 {X : ev_E} {l : Launch} (hG : ev_Good X) (hl : l.stackTraces = false) : ev_Snd X l ev_ms x_X8_bestNow tx_X8_bestNow 86 (i_psh (.int (1)) 87) := s_iconst dX8_bestNow_86 rfl
theorem s_X8_bestNow_87 {X : ev_E} {l : Launch} (hG : ev_Good X) (hl : l.stackTraces = false) : ev_Snd X l ev_ms x_X8_bestNow tx_X8_bestNow 87 (i_goto 91) := s_goto dX8_bestNow_87 rfl
theorem s_X8_bestNow_90 {X : ev_E} {l : Launch} (hG : ev_Good X) (hl : l.stackTraces = false) : ev_Snd X l ev_ms x_X8_bestNow tx_X8_bestNow 90 (i_psh (.int (0)) 91) := s_iconst dX8_bestNow_90 rfl
theorem s_X8_bestNow_91 {X : ev_E} {l : Launch} (hG : ev_Good X) (hl : l.stackTraces = false) : ev_Snd X l ev_ms x_X8_bestNow tx_X8_bestNow 91 (i_is 6 93) := s_istore dX8_bestNow_91 (Nat.le_of_ble_eq_true rfl)
theorem s_X8_bestNow_93 {X : ev_E} {l : Launch} (hG : ev_Good X) (hl : l.stackTraces = false) : ev_Snd X l ev_ms x_X8_bestNow tx_X8_bestNow 93 (i_inc 7 (1) 96) := s_iinc dX8_bestNow_93 rfl (Nat.le_of_ble_eq_true rfl)
theorem s_X8_bestNow_96 {X : ev_E} {l : Launch} (hG : ev_Good X) (hl : l.stackTraces = false) : ev_Snd X l ev_ms x_X8_bestNow tx_X8_bestNow 96 (i_goto 64) := s_goto dX8_bestNow_96 rfl
theorem s_X8_bestNow_99 {X : ev_E} {l : Launch} (hG : ev_Good X) (hl : l.stackTraces = false) : ev_Snd X l ev_ms x_X8_bestNow tx_X8_bestNow 99 (i_il 6 101) := s_iload dX8_bestNow_99
theorem s_X8_bestNow_101 {X : ev_E} {l : Launch} (hG : ev_Good X) (hl : l.stackTraces = false) : ev_Snd X l ev_ms x_X8_bestNow tx_X8_bestNow 101 (i_ifne 107 104) := s_ifne dX8_bestNow_101 rfl
theorem s_X8_bestNow_104 {X : ev_E} {l : Launch} (hG : ev_Good X) (hl : l.stackTraces = false) : ev_Snd X l ev_ms x_X8_bestNow tx_X8_bestNow 104 (i_goto 137) := s_goto dX8_bestNow_104 rfl
theorem s_X8_bestNow_107 {X : ev_E} {l : Launch} (hG : ev_Good X) (hl : l.stackTraces = false) : ev_Snd X l ev_ms x_X8_bestNow tx_X8_bestNow 107 (i_inc 3 (1) 110) := s_iinc dX8_bestNow_107 rfl (Nat.le_of_ble_eq_true rfl)
theorem s_X8_bestNow_110 {X : ev_E} {l : Launch} (hG : ev_Good X) (hl : l.stackTraces = false) : ev_Snd X l ev_ms x_X8_bestNow tx_X8_bestNow 110 (i_il 5 112) := s_iload dX8_bestNow_110
theorem s_X8_bestNow_112 {X : ev_E} {l : Launch} (hG : ev_Good X) (hl : l.stackTraces = false) : ev_Snd X l ev_ms x_X8_bestNow tx_X8_bestNow 112 (i_psh (.int (1)) 113) := s_iconst dX8_bestNow_112 rfl
theorem s_X8_bestNow_113 {X : ev_E} {l : Launch} (hG : ev_Good X) (hl : l.stackTraces = false) : ev_Snd X l ev_ms x_X8_bestNow tx_X8_bestNow 113 (i_ii (fun a b => a + b) 114) := s_iadd dX8_bestNow_113
theorem s_X8_bestNow_114 {X : ev_E} {l : Launch} (hG : ev_Good X) (hl : l.stackTraces = false) : ev_Snd X l ev_ms x_X8_bestNow tx_X8_bestNow 114 (i_is 7 116) := s_istore dX8_bestNow_114 (Nat.le_of_ble_eq_true rfl)
theorem s_X8_bestNow_116 {X : ev_E} {l : Launch} (hG : ev_Good X) (hl : l.stackTraces = false) : ev_Snd X l ev_ms x_X8_bestNow tx_X8_bestNow 116 (i_il 7 118) := s_iload dX8_bestNow_116
theorem s_X8_bestNow_118 {X : ev_E} {l : Launch} (hG : ev_Good X) (hl : l.stackTraces = false) : ev_Snd X l ev_ms x_X8_bestNow tx_X8_bestNow 118 (i_il 4 120) := s_iload dX8_bestNow_118
theorem s_X8_bestNow_120 {X : ev_E} {l : Launch} (hG : ev_Good X) (hl : l.stackTraces = false) : ev_Snd X l ev_ms x_X8_bestNow tx_X8_bestNow 120 (i_icge 137 123) := s_icge dX8_bestNow_120 rfl
theorem s_X8_bestNow_123 {X : ev_E} {l : Launch} (hG : ev_Good X) (hl : l.stackTraces = false) : ev_Snd X l ev_ms x_X8_bestNow tx_X8_bestNow 123 (i_al 2 124) := s_aload_n dX8_bestNow_123 rfl
theorem s_X8_bestNow_124 {X : ev_E} {l : Launch} (hG : ev_Good X) (hl : l.stackTraces = false) : ev_Snd X l ev_ms x_X8_bestNow tx_X8_bestNow 124 (i_il 7 126) := s_iload dX8_bestNow_124
theorem s_X8_bestNow_126 {X : ev_E} {l : Launch} (hG : ev_Good X) (hl : l.stackTraces = false) : ev_Snd X l ev_ms x_X8_bestNow tx_X8_bestNow 126 (i_d2 127) := s_dup2 dX8_bestNow_126
theorem s_X8_bestNow_127 {X : ev_E} {l : Launch} (hG : ev_Good X) (hl : l.stackTraces = false) : ev_Snd X l ev_ms x_X8_bestNow tx_X8_bestNow 127 (i_ald X ev_tI 128) := s_iaload hG dX8_bestNow_127
theorem s_X8_bestNow_128 {X : ev_E} {l : Launch} (hG : ev_Good X) (hl : l.stackTraces = false) : ev_Snd X l ev_ms x_X8_bestNow tx_X8_bestNow 128 (i_psh (.int (1)) 129) := s_iconst dX8_bestNow_128 rfl
theorem s_X8_bestNow_129 {X : ev_E} {l : Launch} (hG : ev_Good X) (hl : l.stackTraces = false) : ev_Snd X l ev_ms x_X8_bestNow tx_X8_bestNow 129 (i_ii (fun a b => a + b) 130) := s_iadd dX8_bestNow_129
theorem s_X8_bestNow_130 {X : ev_E} {l : Launch} (hG : ev_Good X) (hl : l.stackTraces = false) : ev_Snd X l ev_ms x_X8_bestNow tx_X8_bestNow 130 (i_ast ev_tI (fun v => v) 131) := s_iastore hG dX8_bestNow_130
theorem s_X8_bestNow_131 {X : ev_E} {l : Launch} (hG : ev_Good X) (hl : l.stackTraces = false) : ev_Snd X l ev_ms x_X8_bestNow tx_X8_bestNow 131 (i_inc 7 (1) 134) := s_iinc dX8_bestNow_131 rfl (Nat.le_of_ble_eq_true rfl)
theorem s_X8_bestNow_134 {X : ev_E} {l : Launch} (hG : ev_Good X) (hl : l.stackTraces = false) : ev_Snd X l ev_ms x_X8_bestNow tx_X8_bestNow 134 (i_goto 116) := s_goto dX8_bestNow_134 rfl
theorem s_X8_bestNow_137 {X : ev_E} {l : Launch} (hG : ev_Good X) (hl : l.stackTraces = false) : ev_Snd X l ev_ms x_X8_bestNow tx_X8_bestNow 137 (i_inc 4 (1) 140) := s_iinc dX8_bestNow_137 rfl (Nat.le_of_ble_eq_true rfl)
theorem s_X8_bestNow_140 {X : ev_E} {l : Launch} (hG : ev_Good X) (hl : l.stackTraces = false) : ev_Snd X l ev_ms x_X8_bestNow tx_X8_bestNow 140 (i_goto 10) := s_goto dX8_bestNow_140 rfl
theorem s_X8_bestNow_143 {X : ev_E} {l : Launch} (hG : ev_Good X) (hl : l.stackTraces = false) : ev_Snd X l ev_ms x_X8_bestNow tx_X8_bestNow 143 (i_al 0 144) := s_aload_n dX8_bestNow_143 rfl
theorem s_X8_bestNow_144 {X : ev_E} {l : Launch} (hG : ev_Good X) (hl : l.stackTraces = false) : ev_Snd X l ev_ms x_X8_bestNow tx_X8_bestNow 144 (i_gf X 13 4 147) := s_getfield hG (ci := 13) (r := (RX8, TX8, 5)) rfl cw_13 (k := 4) (Nat.le_of_ble_eq_true rfl) w_1264 rfl (Or.inl rfl) dX8_bestNow_144
theorem s_X8_bestNow_147 {X : ev_E} {l : Launch} (hG : ev_Good X) (hl : l.stackTraces = false) : ev_Snd X l ev_ms x_X8_bestNow tx_X8_bestNow 147 (i_cV X 24 0 4 1 150) := s_invokevirtual hG (mi := 24) (n := 0) (ci := 4) (r := (RJx4a65c, TJx4a65c, 3)) rfl (cal_Jx4a65c_size_8abf5 (Nat.le_of_ble_eq_true rfl)) w_1294 w_1295 w_1296 dX8_bestNow_147
theorem s_X8_bestNow_150 {X : ev_E} {l : Launch} (hG : ev_Good X) (hl : l.stackTraces = false) : ev_Snd X l ev_ms x_X8_bestNow tx_X8_bestNow 150 (i_il 3 151) := s_iload_n dX8_bestNow_150 rfl
theorem s_X8_bestNow_151 {X : ev_E} {l : Launch} (hG : ev_Good X) (hl : l.stackTraces = false) : ev_Snd X l ev_ms x_X8_bestNow tx_X8_bestNow 151 (i_ii (fun a b => a - b) 152) := s_isub dX8_bestNow_151
theorem s_X8_bestNow_152 {X : ev_E} {l : Launch} (hG : ev_Good X) (hl : l.stackTraces = false) : ev_Snd X l ev_ms x_X8_bestNow tx_X8_bestNow 152 (i_ir (.int)) := s_ireturn rfl dX8_bestNow_152
theorem sa_X8_bestNow_c0 {X : ev_E} {l : Launch} (hG : ev_Good X) (hl : l.stackTraces = false) : ∀ q ∈ tb_X8_bestNow_c0 X, ev_Snd X l ev_ms x_X8_bestNow tx_X8_bestNow q.1 q.2 := by
  intro q hq
  unfold tb_X8_bestNow_c0 at hq
  simp only [List.mem_cons, List.not_mem_nil, or_false] at hq
  rcases hq with rfl | rfl | rfl | rfl | rfl | rfl | rfl | rfl | rfl | rfl | rfl | rfl | rfl | rfl | rfl | rfl | rfl | rfl | rfl | rfl | rfl | rfl | rfl | rfl | rfl | rfl | rfl | rfl | rfl | rfl | rfl | rfl | rfl | rfl | rfl | rfl | rfl | rfl | rfl | rfl | rfl | rfl | rfl | rfl | rfl | rfl | rfl | rfl | rfl | rfl | rfl | rfl | rfl | rfl | rfl | rfl | rfl | rfl | rfl | rfl
  · exact s_X8_bestNow_0 hG hl
  · exact s_X8_bestNow_2 hG hl
  · exact s_X8_bestNow_4 hG hl
  · exact s_X8_bestNow_5 hG hl
  · exact s_X8_bestNow_6 hG hl
  · exact s_X8_bestNow_7 hG hl
  · exact s_X8_bestNow_8 hG hl
  · exact s_X8_bestNow_10 hG hl
  · exact s_X8_bestNow_12 hG hl
  · exact s_X8_bestNow_13 hG hl
  · exact s_X8_bestNow_16 hG hl
  · exact s_X8_bestNow_19 hG hl
  · exact s_X8_bestNow_22 hG hl
  · exact s_X8_bestNow_23 hG hl
  · exact s_X8_bestNow_24 hG hl
  · exact s_X8_bestNow_27 hG hl
  · exact s_X8_bestNow_29 hG hl
  · exact s_X8_bestNow_32 hG hl
  · exact s_X8_bestNow_35 hG hl
  · exact s_X8_bestNow_38 hG hl
  · exact s_X8_bestNow_40 hG hl
  · exact s_X8_bestNow_43 hG hl
  · exact s_X8_bestNow_45 hG hl
  · exact s_X8_bestNow_47 hG hl
  · exact s_X8_bestNow_48 hG hl
  · exact s_X8_bestNow_51 hG hl
  · exact s_X8_bestNow_52 hG hl
  · exact s_X8_bestNow_55 hG hl
  · exact s_X8_bestNow_56 hG hl
  · exact s_X8_bestNow_58 hG hl
  · exact s_X8_bestNow_60 hG hl
  · exact s_X8_bestNow_61 hG hl
  · exact s_X8_bestNow_62 hG hl
  · exact s_X8_bestNow_64 hG hl
  · exact s_X8_bestNow_66 hG hl
  · exact s_X8_bestNow_68 hG hl
  · exact s_X8_bestNow_71 hG hl
  · exact s_X8_bestNow_73 hG hl
  · exact s_X8_bestNow_76 hG hl
  · exact s_X8_bestNow_77 hG hl
  · exact s_X8_bestNow_79 hG hl
  · exact s_X8_bestNow_80 hG hl
  · exact s_X8_bestNow_81 hG hl
  · exact s_X8_bestNow_82 hG hl
  · exact s_X8_bestNow_83 hG hl
  · exact s_X8_bestNow_86 hG hl
  · exact s_X8_bestNow_87 hG hl
  · exact s_X8_bestNow_90 hG hl
  · exact s_X8_bestNow_91 hG hl
  · exact s_X8_bestNow_93 hG hl
  · exact s_X8_bestNow_96 hG hl
  · exact s_X8_bestNow_99 hG hl
  · exact s_X8_bestNow_101 hG hl
  · exact s_X8_bestNow_104 hG hl
  · exact s_X8_bestNow_107 hG hl
  · exact s_X8_bestNow_110 hG hl
  · exact s_X8_bestNow_112 hG hl
  · exact s_X8_bestNow_113 hG hl
  · exact s_X8_bestNow_114 hG hl
  · exact s_X8_bestNow_116 hG hl
theorem sa_X8_bestNow_c1 {X : ev_E} {l : Launch} (hG : ev_Good X) (hl : l.stackTraces = false) : ∀ q ∈ tb_X8_bestNow_c1 X, ev_Snd X l ev_ms x_X8_bestNow tx_X8_bestNow q.1 q.2 := by
  intro q hq
  unfold tb_X8_bestNow_c1 at hq
  simp only [List.mem_cons, List.not_mem_nil, or_false] at hq
  rcases hq with rfl | rfl | rfl | rfl | rfl | rfl | rfl | rfl | rfl | rfl | rfl | rfl | rfl | rfl | rfl | rfl | rfl | rfl | rfl
  · exact s_X8_bestNow_118 hG hl
  · exact s_X8_bestNow_120 hG hl
  · exact s_X8_bestNow_123 hG hl
  · exact s_X8_bestNow_124 hG hl
  · exact s_X8_bestNow_126 hG hl
  · exact s_X8_bestNow_127 hG hl
  · exact s_X8_bestNow_128 hG hl
  · exact s_X8_bestNow_129 hG hl
  · exact s_X8_bestNow_130 hG hl
  · exact s_X8_bestNow_131 hG hl
  · exact s_X8_bestNow_134 hG hl
  · exact s_X8_bestNow_137 hG hl
  · exact s_X8_bestNow_140 hG hl
  · exact s_X8_bestNow_143 hG hl
  · exact s_X8_bestNow_144 hG hl
  · exact s_X8_bestNow_147 hG hl
  · exact s_X8_bestNow_150 hG hl
  · exact s_X8_bestNow_151 hG hl
  · exact s_X8_bestNow_152 hG hl
theorem sa_X8_bestNow {X : ev_E} {l : Launch} (hG : ev_Good X) (hl : l.stackTraces = false) : ∀ q ∈ tb_X8_bestNow X, ev_Snd X l ev_ms x_X8_bestNow tx_X8_bestNow q.1 q.2 := List.forall_mem_append.mpr ⟨sa_X8_bestNow_c0 hG hl, sa_X8_bestNow_c1 hG hl⟩
