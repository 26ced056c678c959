def tx_J5_init_d00df : ev_X := fun _ _ => some none
noncomputable def tb_J5_init_d00df (X : ev_E) : List (Nat × (ev_S → ev_N)) := [(0, i_al 0 1), (1, i_oi 4), (4, i_psh (.int 1) 7), (7, i_ifeq 25 10), (10, i_al 0 11), (11, i_il 1 12), (12, i_na 1 (.int 0) 14), (14, i_pf 1 0 (.array (.byte)) 17), (17, i_al 0 18), (18, i_psh (.int (0)) 19), (19, i_pf 1 1 (.byte) 22), (22, i_goto 38), (25, i_al 0 26), (26, i_il 1 27), (27, i_cS 78 1 1 30), (30, i_pf 1 0 (.array (.byte)) 33), (33, i_al 0 34), (34, i_psh (.int (1)) 35), (35, i_pf 1 1 (.byte) 38), (38, i_vr)]
theorem s_J5_init_d00df_0 {X : ev_E} {l : Launch} (hG : ev_Good X) (hl : l.stackTraces = false) : ev_Snd X l ev_ms x_J5_init_d00df tx_J5_init_d00df 0 (i_al 0 1) := s_aload_n dJ5_init_d00df_0 rfl
theorem s_J5_init_d00df_1 {X : ev_E} {l : Launch} (hG : ev_Good X) (hl : l.stackTraces = false) : ev_Snd X l ev_ms x_J5_init_d00df tx_J5_init_d00df 1 (i_oi 4) := s_objinit hG w_288 w_88 w_89 dJ5_init_d00df_1
theorem s_J5_init_d00df_4 {X : ev_E} {l : Launch} (hG : ev_Good X) (hl : l.stackTraces = false) : ev_Snd X l ev_ms x_J5_init_d00df tx_J5_init_d00df 4 (i_psh (.int 1) 7) := s_getstatic hG (hG.2.2.2.2.2.2.2.2.2.1) rfl w_289 dJ5_init_d00df_4
theorem s_J5_init_d00df_7 {X : ev_E} {l : Launch} (hG : ev_Good X) (hl : l.stackTraces = false) : ev_Snd X l ev_ms x_J5_init_d00df tx_J5_init_d00df 7 (i_ifeq 25 10) := s_ifeq dJ5_init_d00df_7 rfl
theorem s_J5_init_d00df_10 {X : ev_E} {l : Launch} (hG : ev_Good X) (hl : l.stackTraces = false) : ev_Snd X l ev_ms x_J5_init_d00df tx_J5_init_d00df 10 (i_al 0 11) := s_aload_n dJ5_init_d00df_10 rfl
theorem s_J5_init_d00df_11 {X : ev_E} {l : Launch} (hG : ev_Good X) (hl : l.stackTraces = false) : ev_Snd X l ev_ms x_J5_init_d00df tx_J5_init_d00df 11 (i_il 1 12) := s_iload_n dJ5_init_d00df_11 rfl
theorem s_J5_init_d00df_12 {X : ev_E} {l : Launch} (hG : ev_Good X) (hl : l.stackTraces = false) : ev_Snd X l ev_ms x_J5_init_d00df tx_J5_init_d00df 12 (i_na 1 (.int 0) 14) := s_newarray hG (kd := 1) (at' := .byte) (Nat.le_of_ble_eq_true rfl) rfl (by decide) rfl dJ5_init_d00df_12 w_311
theorem s_J5_init_d00df_14 {X : ev_E} {l : Launch} (hG : ev_Good X) (hl : l.stackTraces = false) : ev_Snd X l ev_ms x_J5_init_d00df tx_J5_init_d00df 14 (i_pf 1 0 (.array (.byte)) 17) := s_putfield hG (ci := 1) (r := (RJ4, TJ4, 4)) rfl cw_1 ap_1 (k := 0) (Nat.le_of_ble_eq_true rfl) rfl (by decide +kernel) w_298 rfl (Or.inl rfl) dJ5_init_d00df_14
theorem s_J5_init_d00df_17 {X : ev_E} {l : Launch} (hG : ev_Good X) (hl : l.stackTraces = false) : ev_Snd X l ev_ms x_J5_init_d00df tx_J5_init_d00df 17 (i_al 0 18) := s_aload_n dJ5_init_d00df_17 rfl
theorem s_J5_init_d00df_18 {X : ev_E} {l : Launch} (hG : ev_Good X) (hl : l.stackTraces = false) : ev_Snd X l ev_ms x_J5_init_d00df tx_J5_init_d00df 18 (i_psh (.int (0)) 19) := s_iconst dJ5_init_d00df_18 rfl
theorem s_J5_init_d00df_19 {X : ev_E} {l : Launch} (hG : ev_Good X) (hl : l.stackTraces = false) : ev_Snd X l ev_ms x_J5_init_d00df tx_J5_init_d00df 19 (i_pf 1 1 (.byte) 22) := s_putfield hG (ci := 1) (r := (RJ4, TJ4, 4)) rfl cw_1 ap_1 (k := 1) (Nat.le_of_ble_eq_true rfl) rfl (by decide +kernel) w_299 rfl (Or.inl rfl) dJ5_init_d00df_19
theorem s_J5_init_d00df_22 {X : ev_E} {l : Launch} (hG : ev_Good X) (hl : l.stackTraces = false) : ev_Snd X l ev_ms x_J5_init_d00df tx_J5_init_d00df 22 (i_goto 38) := s_goto dJ5_init_d00df_22 rfl
theorem s_J5_init_d00df_25 {X : ev_E} {l : Launch} (hG : ev_Good X) (hl : l.stackTraces = false) : ev_Snd X l ev_ms x_J5_init_d00df tx_J5_init_d00df 25 (i_al 0 26) := s_aload_n dJ5_init_d00df_25 rfl
theorem s_J5_init_d00df_26 {X : ev_E} {l : Launch} (hG : ev_Good X) (hl : l.stackTraces = false) : ev_Snd X l ev_ms x_J5_init_d00df tx_J5_init_d00df 26 (i_il 1 27) := s_iload_n dJ5_init_d00df_26 rfl
theorem s_J5_init_d00df_27 {X : ev_E} {l : Launch} (hG : ev_Good X) (hl : l.stackTraces = false) : ev_Snd X l ev_ms x_J5_init_d00df tx_J5_init_d00df 27 (i_cS 78 1 1 30) := s_invokestatic hG (mi := 78) (n := 1) (cal_J2_newBytesFor_77867 (Nat.le_of_ble_eq_true rfl)) w_291 w_292 dJ5_init_d00df_27
theorem s_J5_init_d00df_30 {X : ev_E} {l : Launch} (hG : ev_Good X) (hl : l.stackTraces = false) : ev_Snd X l ev_ms x_J5_init_d00df tx_J5_init_d00df 30 (i_pf 1 0 (.array (.byte)) 33) := s_putfield hG (ci := 1) (r := (RJ4, TJ4, 4)) rfl cw_1 ap_1 (k := 0) (Nat.le_of_ble_eq_true rfl) rfl (by decide +kernel) w_298 rfl (Or.inl rfl) dJ5_init_d00df_30
theorem s_J5_init_d00df_33 {X : ev_E} {l : Launch} (hG : ev_Good X) (hl : l.stackTraces = false) : ev_Snd X l ev_ms x_J5_init_d00df tx_J5_init_d00df 33 (i_al 0 34) := s_aload_n dJ5_init_d00df_33 rfl
theorem s_J5_init_d00df_34 {X : ev_E} {l : Launch} (hG : ev_Good X) (hl : l.stackTraces = false) : ev_Snd X l ev_ms x_J5_init_d00df tx_J5_init_d00df 34 (i_psh (.int (1)) 35) := s_iconst dJ5_init_d00df_34 rfl
theorem s_J5_init_d00df_35 {X : ev_E} {l : Launch} (hG : ev_Good X) (hl : l.stackTraces = false) : ev_Snd X l ev_ms x_J5_init_d00df tx_J5_init_d00df 35 (i_pf 1 1 (.byte) 38) := s_putfield hG (ci := 1) (r := (RJ4, TJ4, 4)) rfl cw_1 ap_1 (k := 1) (Nat.le_of_ble_eq_true rfl) rfl (by decide +kernel) w_299 rfl (Or.inl rfl) dJ5_init_d00df_35
theorem s_J5_init_d00df_38 {X : ev_E} {l : Launch} (hG : ev_Good X) (hl : l.stackTraces = false) : ev_Snd X l ev_ms x_J5_init_d00df tx_J5_init_d00df 38 (i_vr) := s_return rfl dJ5_init_d00df_38
theorem sa_J5_init_d00df {X : ev_E} {l : Launch} (hG : ev_Good X) (hl : l.stackTraces = false) : ∀ q ∈ tb_J5_init_d00df X, ev_Snd X l ev_ms x_J5_init_d00df tx_J5_init_d00df q.1 q.2 := by
  intro q hq
  unfold tb_J5_init_d00df at hq
  simp only [List.mem_cons, List.not_mem_nil, or_false] at hq
  rcases hq with rfl | rfl | rfl | rfl | rfl | rfl | rfl | rfl | rfl | rfl | rfl | rfl | rfl | rfl | rfl | rfl | rfl | rfl | rfl | rfl
  · exact s_J5_init_d00df_0 hG hl
  · exact s_J5_init_d00df_1 hG hl
  · exact s_J5_init_d00df_4 hG hl
  · exact s_J5_init_d00df_7 hG hl
  · exact s_J5_init_d00df_10 hG hl
  · exact s_J5_init_d00df_11 hG hl
  · exact s_J5_init_d00df_12 hG hl
  · exact s_J5_init_d00df_14 hG hl
  · exact s_J5_init_d00df_17 hG hl
  · exact s_J5_init_d00df_18 hG hl
  · exact s_J5_init_d00df_19 hG hl
  · exact s_J5_init_d00df_22 hG hl
  · exact s_J5_init_d00df_25 hG hl
  · exact s_J5_init_d00df_26 hG hl
  · exact s_J5_init_d00df_27 hG hl
  · exact s_J5_init_d00df_30 hG hl
  · exact s_J5_init_d00df_33 hG hl
  · exact s_J5_init_d00df_34 hG hl
  · exact s_J5_init_d00df_35 hG hl
  · exact s_J5_init_d00df_38 hG hl
def tx_J5_newCapacity_0f7a4 : ev_X := fun _ _ => some none
noncomputable def tb_J5_newCapacity_0f7a4 (X : ev_E) : List (Nat × (ev_S → ev_N)) := [(0, i_al 0 1), (1, i_gf X 1 0 4), (4, i_len X 5), (5, i_is 2 6), (6, i_il 1 7), (7, i_al 0 8), (8, i_gf X 1 1 11), (11, i_ii (fun a b => a <<< (b &&& 31)) 12), (12, i_is 3 13), (13, i_il 3 14), (14, i_il 2 15), (15, i_ii (fun a b => a - b) 16), (16, i_is 4 18), (18, i_il 2 19), (19, i_il 4 21), (21, i_il 2 22), (22, i_psh (.int (2)) 23), (23, i_al 0 24), (24, i_gf X 1 1 27), (27, i_ii (fun a b => a <<< (b &&& 31)) 28), (28, i_ii (fun a b => a + b) 29), (29, i_cS 85 3 4 32), (32, i_is 5 34), (34, i_il 5 36), (36, i_psh (.int 2147483647) 38), (38, i_icne 51 41), (41, i_no), (44, i_dup 45), (45, i_no), (47, i_no), (50, i_no), (51, i_il 5 53), (53, i_al 0 54), (54, i_gf X 1 1 57), (57, i_ii (fun a b => a >>> (b &&& 31)) 58), (58, i_ir (.int))]
theorem s_J5_newCapacity_0f7a4_0 {X : ev_E} {l : Launch} (hG : ev_Good X) (hl : l.stackTraces = false) : ev_Snd X l ev_ms x_J5_newCapacity_0f7a4 tx_J5_newCapacity_0f7a4 0 (i_al 0 1) := s_aload_n dJ5_newCapacity_0f7a4_0 rfl
theorem s_J5_newCapacity_0f7a4_1 {X : ev_E} {l : Launch} (hG : ev_Good X) (hl : l.stackTraces = false) : ev_Snd X l ev_ms x_J5_newCapacity_0f7a4 tx_J5_newCapacity_0f7a4 1 (i_gf X 1 0 4) := s_getfield hG (ci := 1) (r := (RJ4, TJ4, 4)) rfl cw_1 (k := 0) (Nat.le_of_ble_eq_true rfl) w_298 rfl (Or.inl rfl) dJ5_newCapacity_0f7a4_1
theorem s_J5_newCapacity_0f7a4_4 {X : ev_E} {l : Launch} (hG : ev_Good X) (hl : l.stackTraces = false) : ev_Snd X l ev_ms x_J5_newCapacity_0f7a4 tx_J5_newCapacity_0f7a4 4 (i_len X 5) := s_arraylength hG dJ5_newCapacity_0f7a4_4
theorem s_J5_newCapacity_0f7a4_5 {X : ev_E} {l : Launch} (hG : ev_Good X) (hl : l.stackTraces = false) : ev_Snd X l ev_ms x_J5_newCapacity_0f7a4 tx_J5_newCapacity_0f7a4 5 (i_is 2 6) := s_istore_n dJ5_newCapacity_0f7a4_5 rfl (Nat.le_of_ble_eq_true rfl)
theorem s_J5_newCapacity_0f7a4_6 {X : ev_E} {l : Launch} (hG : ev_Good X) (hl : l.stackTraces = false) : ev_Snd X l ev_ms x_J5_newCapacity_0f7a4 tx_J5_newCapacity_0f7a4 6 (i_il 1 7) := s_iload_n dJ5_newCapacity_0f7a4_6 rfl
theorem s_J5_newCapacity_0f7a4_7 {X : ev_E} {l : Launch} (hG : ev_Good X) (hl : l.stackTraces = false) : ev_Snd X l ev_ms x_J5_newCapacity_0f7a4 tx_J5_newCapacity_0f7a4 7 (i_al 0 8) := s_aload_n dJ5_newCapacity_0f7a4_7 rfl
theorem s_J5_newCapacity_0f7a4_8 {X : ev_E} {l : Launch} (hG : ev_Good X) (hl : l.stackTraces = false) : ev_Snd X l ev_ms x_J5_newCapacity_0f7a4 tx_J5_newCapacity_0f7a4 8 (i_gf X 1 1 11) := s_getfield hG (ci := 1) (r := (RJ4, TJ4, 4)) rfl cw_1 (k := 1) (Nat.le_of_ble_eq_true rfl) w_299 rfl (Or.inl rfl) dJ5_newCapacity_0f7a4_8
theorem s_J5_newCapacity_0f7a4_11 {X : ev_E} {l : Launch} (hG : ev_Good X) (hl : l.stackTraces = false) : ev_Snd X l ev_ms x_J5_newCapacity_0f7a4 tx_J5_newCapacity_0f7a4 11 (i_ii (fun a b => a <<< (b &&& 31)) 12) := s_ishl dJ5_newCapacity_0f7a4_11
theorem s_J5_newCapacity_0f7a4_12 {X : ev_E} {l : Launch} (hG : ev_Good X) (hl : l.stackTraces = false) : ev_Snd X l ev_ms x_J5_newCapacity_0f7a4 tx_J5_newCapacity_0f7a4 12 (i_is 3 13) := s_istore_n dJ5_newCapacity_0f7a4_12 rfl (Nat.le_of_ble_eq_true rfl)
theorem s_J5_newCapacity_0f7a4_13 {X : ev_E} {l : Launch} (hG : ev_Good X) (hl : l.stackTraces = false) : ev_Snd X l ev_ms x_J5_newCapacity_0f7a4 tx_J5_newCapacity_0f7a4 13 (i_il 3 14) := s_iload_n dJ5_newCapacity_0f7a4_13 rfl
theorem s_J5_newCapacity_0f7a4_14 {X : ev_E} {l : Launch} (hG : ev_Good X) (hl : l.stackTraces = false) : ev_Snd X l ev_ms x_J5_newCapacity_0f7a4 tx_J5_newCapacity_0f7a4 14 (i_il 2 15) := s_iload_n dJ5_newCapacity_0f7a4_14 rfl
theorem s_J5_newCapacity_0f7a4_15 {X : ev_E} {l : Launch} (hG : ev_Good X) (hl : l.stackTraces = false) : ev_Snd X l ev_ms x_J5_newCapacity_0f7a4 tx_J5_newCapacity_0f7a4 15 (i_ii (fun a b => a - b) 16) := s_isub dJ5_newCapacity_0f7a4_15
theorem s_J5_newCapacity_0f7a4_16 {X : ev_E} {l : Launch} (hG : ev_Good X) (hl : l.stackTraces = false) : ev_Snd X l ev_ms x_J5_newCapacity_0f7a4 tx_J5_newCapacity_0f7a4 16 (i_is 4 18) := s_istore dJ5_newCapacity_0f7a4_16 (Nat.le_of_ble_eq_true rfl)
theorem s_J5_newCapacity_0f7a4_18 {X : ev_E} {l : Launch} (hG : ev_Good X) (hl : l.stackTraces = false) : ev_Snd X l ev_ms x_J5_newCapacity_0f7a4 tx_J5_newCapacity_0f7a4 18 (i_il 2 19) := s_iload_n dJ5_newCapacity_0f7a4_18 rfl
theorem s_J5_newCapacity_0f7a4_19 {X : ev_E} {l : Launch} (hG : ev_Good X) (hl : l.stackTraces = false) : ev_Snd X l ev_ms x_J5_newCapacity_0f7a4 tx_J5_newCapacity_0f7a4 19 (i_il 4 21) := s_iload dJ5_newCapacity_0f7a4_19
theorem s_J5_newCapacity_0f7a4_21 {X : ev_E} {l : Launch} (hG : ev_Good X) (hl : l.stackTraces = false) : ev_Snd X l ev_ms x_J5_newCapacity_0f7a4 tx_J5_newCapacity_0f7a4 21 (i_il 2 22) := s_iload_n dJ5_newCapacity_0f7a4_21 rfl
theorem s_J5_newCapacity_0f7a4_22 {X : ev_E} {l : Launch} (hG : ev_Good X) (hl : l.stackTraces = false) : ev_Snd X l ev_ms x_J5_newCapacity_0f7a4 tx_J5_newCapacity_0f7a4 22 (i_psh (.int (2)) 23) := s_iconst dJ5_newCapacity_0f7a4_22 rfl
theorem s_J5_newCapacity_0f7a4_23 {X : ev_E} {l : Launch} (hG : ev_Good X) (hl : l.stackTraces = false) : ev_Snd X l ev_ms x_J5_newCapacity_0f7a4 tx_J5_newCapacity_0f7a4 23 (i_al 0 24) := s_aload_n dJ5_newCapacity_0f7a4_23 rfl
theorem s_J5_newCapacity_0f7a4_24 {X : ev_E} {l : Launch} (hG : ev_Good X) (hl : l.stackTraces = false) : ev_Snd X l ev_ms x_J5_newCapacity_0f7a4 tx_J5_newCapacity_0f7a4 24 (i_gf X 1 1 27) := s_getfield hG (ci := 1) (r := (RJ4, TJ4, 4)) rfl cw_1 (k := 1) (Nat.le_of_ble_eq_true rfl) w_299 rfl (Or.inl rfl) dJ5_newCapacity_0f7a4_24
theorem s_J5_newCapacity_0f7a4_27 {X : ev_E} {l : Launch} (hG : ev_Good X) (hl : l.stackTraces = false) : ev_Snd X l ev_ms x_J5_newCapacity_0f7a4 tx_J5_newCapacity_0f7a4 27 (i_ii (fun a b => a <<< (b &&& 31)) 28) := s_ishl dJ5_newCapacity_0f7a4_27
theorem s_J5_newCapacity_0f7a4_28 {X : ev_E} {l : Launch} (hG : ev_Good X) (hl : l.stackTraces = false) : ev_Snd X l ev_ms x_J5_newCapacity_0f7a4 tx_J5_newCapacity_0f7a4 28 (i_ii (fun a b => a + b) 29) := s_iadd dJ5_newCapacity_0f7a4_28
theorem s_J5_newCapacity_0f7a4_29 {X : ev_E} {l : Launch} (hG : ev_Good X) (hl : l.stackTraces = false) : ev_Snd X l ev_ms x_J5_newCapacity_0f7a4 tx_J5_newCapacity_0f7a4 29 (i_cS 85 3 4 32) := s_invokestatic hG (mi := 85) (n := 3) (cal_J8_newLength_cabcc (Nat.le_of_ble_eq_true rfl)) w_327 w_328 dJ5_newCapacity_0f7a4_29
theorem s_J5_newCapacity_0f7a4_32 {X : ev_E} {l : Launch} (hG : ev_Good X) (hl : l.stackTraces = false) : ev_Snd X l ev_ms x_J5_newCapacity_0f7a4 tx_J5_newCapacity_0f7a4 32 (i_is 5 34) := s_istore dJ5_newCapacity_0f7a4_32 (Nat.le_of_ble_eq_true rfl)
theorem s_J5_newCapacity_0f7a4_34 {X : ev_E} {l : Launch} (hG : ev_Good X) (hl : l.stackTraces = false) : ev_Snd X l ev_ms x_J5_newCapacity_0f7a4 tx_J5_newCapacity_0f7a4 34 (i_il 5 36) := s_iload dJ5_newCapacity_0f7a4_34
theorem s_J5_newCapacity_0f7a4_36 {X : ev_E} {l : Launch} (hG : ev_Good X) (hl : l.stackTraces = false) : ev_Snd X l ev_ms x_J5_newCapacity_0f7a4 tx_J5_newCapacity_0f7a4 36 (i_psh (.int 2147483647) 38) := s_ldc hG w_337 rfl dJ5_newCapacity_0f7a4_36
theorem s_J5_newCapacity_0f7a4_38 {X : ev_E} {l : Launch} (hG : ev_Good X) (hl : l.stackTraces = false) : ev_Snd X l ev_ms x_J5_newCapacity_0f7a4 tx_J5_newCapacity_0f7a4 38 (i_icne 51 41) := s_icne dJ5_newCapacity_0f7a4_38 rfl
theorem s_J5_newCapacity_0f7a4_41 {X : ev_E} {l : Launch} (hG : ev_Good X) (hl : l.stackTraces = false) : ev_Snd X l ev_ms x_J5_newCapacity_0f7a4 tx_J5_newCapacity_0f7a4 41 (i_no) := s_no
theorem s_J5_newCapacity_0f7a4_44 {X : ev_E} {l : Launch} (hG : ev_Good X) (hl : l.stackTraces = false) : ev_Snd X l ev_ms x_J5_newCapacity_0f7a4 tx_J5_newCapacity_0f7a4 44 (i_dup 45) := s_dup dJ5_newCapacity_0f7a4_44
theorem s_J5_newCapacity_0f7a4_45 {X : ev_E} {l : Launch} (hG : ev_Good X) (hl : l.stackTraces = false) : ev_Snd X l ev_ms x_J5_newCapacity_0f7a4 tx_J5_newCapacity_0f7a4 45 (i_no) := s_no
theorem s_J5_newCapacity_0f7a4_47 {X : ev_E} {l : Launch} (hG : ev_Good X) (hl : l.stackTraces = false) : ev_Snd X l ev_ms x_J5_newCapacity_0f7a4 tx_J5_newCapacity_0f7a4 47 (i_no) := s_no
theorem s_J5_newCapacity_0f7a4_50 {X : ev_E} {l : Launch} (hG : ev_Good X) (hl : l.stackTraces = false) : ev_Snd X l ev_ms x_J5_newCapacity_0f7a4 tx_J5_newCapacity_0f7a4 50 (i_no) := s_no
theorem s_J5_newCapacity_0f7a4_51 {X : ev_E} {l : Launch} (hG : ev_Good X) (hl : l.stackTraces = false) : ev_Snd X l ev_ms x_J5_newCapacity_0f7a4 tx_J5_newCapacity_0f7a4 51 (i_il 5 53) := s_iload dJ5_newCapacity_0f7a4_51
theorem s_J5_newCapacity_0f7a4_53 {X : ev_E} {l : Launch} (hG : ev_Good X) (hl : l.stackTraces = false) : ev_Snd X l ev_ms x_J5_newCapacity_0f7a4 tx_J5_newCapacity_0f7a4 53 (i_al 0 54) := s_aload_n dJ5_newCapacity_0f7a4_53 rfl
theorem s_J5_newCapacity_0f7a4_54 {X : ev_E} {l : Launch} (hG : ev_Good X) (hl : l.stackTraces = false) : ev_Snd X l ev_ms x_J5_newCapacity_0f7a4 tx_J5_newCapacity_0f7a4 54 (i_gf X 1 1 57) := s_getfield hG (ci := 1) (r := (RJ4, TJ4, 4)) rfl cw_1 (k := 1) (Nat.le_of_ble_eq_true rfl) w_299 rfl (Or.inl rfl) dJ5_newCapacity_0f7a4_54
theorem s_J5_newCapacity_0f7a4_57 {X : ev_E} {l : Launch} (hG : ev_Good X) (hl : l.stackTraces = false) : ev_Snd X l ev_ms x_J5_newCapacity_0f7a4 tx_J5_newCapacity_0f7a4 57 (i_ii (fun a b => a >>> (b &&& 31)) 58) := s_ishr dJ5_newCapacity_0f7a4_57
theorem s_J5_newCapacity_0f7a4_58 {X : ev_E} {l : Launch} (hG : ev_Good X) (hl : l.stackTraces = false) : ev_Snd X l ev_ms x_J5_newCapacity_0f7a4 tx_J5_newCapacity_0f7a4 58 (i_ir (.int)) := s_ireturn rfl dJ5_newCapacity_0f7a4_58
theorem sa_J5_newCapacity_0f7a4 {X : ev_E} {l : Launch} (hG : ev_Good X) (hl : l.stackTraces = false) : ∀ q ∈ tb_J5_newCapacity_0f7a4 X, ev_Snd X l ev_ms x_J5_newCapacity_0f7a4 tx_J5_newCapacity_0f7a4 q.1 q.2 := by
  intro q hq
  unfold tb_J5_newCapacity_0f7a4 at hq
  simp only [List.mem_cons, List.not_mem_nil, or_false] at hq
  rcases hq with rfl | rfl | rfl | rfl | rfl | rfl | rfl | rfl | rfl | rfl | rfl | rfl | rfl | rfl | rfl | rfl | rfl | rfl | rfl | rfl | rfl | rfl | rfl | rfl | rfl | rfl | rfl | rfl | rfl | rfl | rfl | rfl | rfl | rfl | rfl | rfl
  · exact s_J5_newCapacity_0f7a4_0 hG hl
  · exact s_J5_newCapacity_0f7a4_1 hG hl
  · exact s_J5_newCapacity_0f7a4_4 hG hl
  · exact s_J5_newCapacity_0f7a4_5 hG hl
  · exact s_J5_newCapacity_0f7a4_6 hG hl
  · exact s_J5_newCapacity_0f7a4_7 hG hl
  · exact s_J5_newCapacity_0f7a4_8 hG hl
  · exact s_J5_newCapacity_0f7a4_11 hG hl
  · exact s_J5_newCapacity_0f7a4_12 hG hl
  · exact s_J5_newCapacity_0f7a4_13 hG hl
  · exact s_J5_newCapacity_0f7a4_14 hG hl
  · exact s_J5_newCapacity_0f7a4_15 hG hl
  · exact s_J5_newCapacity_0f7a4_16 hG hl
  · exact s_J5_newCapacity_0f7a4_18 hG hl
  · exact s_J5_newCapacity_0f7a4_19 hG hl
  · exact s_J5_newCapacity_0f7a4_21 hG hl
  · exact s_J5_newCapacity_0f7a4_22 hG hl
  · exact s_J5_newCapacity_0f7a4_23 hG hl
  · exact s_J5_newCapacity_0f7a4_24 hG hl
  · exact s_J5_newCapacity_0f7a4_27 hG hl
  · exact s_J5_newCapacity_0f7a4_28 hG hl
  · exact s_J5_newCapacity_0f7a4_29 hG hl
  · exact s_J5_newCapacity_0f7a4_32 hG hl
  · exact s_J5_newCapacity_0f7a4_34 hG hl
  · exact s_J5_newCapacity_0f7a4_36 hG hl
  · exact s_J5_newCapacity_0f7a4_38 hG hl
  · exact s_J5_newCapacity_0f7a4_41 hG hl
  · exact s_J5_newCapacity_0f7a4_44 hG hl
  · exact s_J5_newCapacity_0f7a4_45 hG hl
  · exact s_J5_newCapacity_0f7a4_47 hG hl
  · exact s_J5_newCapacity_0f7a4_50 hG hl
  · exact s_J5_newCapacity_0f7a4_51 hG hl
  · exact s_J5_newCapacity_0f7a4_53 hG hl
  · exact s_J5_newCapacity_0f7a4_54 hG hl
  · exact s_J5_newCapacity_0f7a4_57 hG hl
  · exact s_J5_newCapacity_0f7a4_58 hG hl
def tx_J6_valueOf_2dffe : ev_X := fun pc _ => bif List.elem pc [28] then none else some none
noncomputable def tb_J6_valueOf_2dffe (X : ev_E) : List (Nat × (ev_S → ev_N)) := [(0, i_il 0 1), (1, i_psh (.int (-128)) 3), (3, i_iclt 23 6), (6, i_il 0 7), (7, i_psh (.int 127) 10), (10, i_icgt 23 13), (13, i_psh (.ref (X.2.2.2.2.2 0)) 16), (16, i_il 0 17), (17, i_psh (.int (128)) 20), (20, i_ii (fun a b => a + b) 21), (21, i_ald X FieldType.isReference 22), (22, i_ar), (23, i_nw 2 1 [.int 0] 26), (26, i_dup 27), (27, i_il 0 28), (28, i_cI 81 1 2 31), (31, i_ar)]
theorem s_J6_valueOf_2dffe_0 {X : ev_E} {l : Launch} (hG : ev_Good X) (hl : l.stackTraces = false) : ev_Snd X l ev_ms x_J6_valueOf_2dffe tx_J6_valueOf_2dffe 0 (i_il 0 1) := s_iload_n dJ6_valueOf_2dffe_0 rfl
theorem s_J6_valueOf_2dffe_1 {X : ev_E} {l : Launch} (hG : ev_Good X) (hl : l.stackTraces = false) : ev_Snd X l ev_ms x_J6_valueOf_2dffe tx_J6_valueOf_2dffe 1 (i_psh (.int (-128)) 3) := s_bipush dJ6_valueOf_2dffe_1 rfl
theorem s_J6_valueOf_2dffe_3 {X : ev_E} {l : Launch} (hG : ev_Good X) (hl : l.stackTraces = false) : ev_Snd X l ev_ms x_J6_valueOf_2dffe tx_J6_valueOf_2dffe 3 (i_iclt 23 6) := s_iclt dJ6_valueOf_2dffe_3 rfl
theorem s_J6_valueOf_2dffe_6 {X : ev_E} {l : Launch} (hG : ev_Good X) (hl : l.stackTraces = false) : ev_Snd X l ev_ms x_J6_valueOf_2dffe tx_J6_valueOf_2dffe 6 (i_il 0 7) := s_iload_n dJ6_valueOf_2dffe_6 rfl
theorem s_J6_valueOf_2dffe_7 {X : ev_E} {l : Launch} (hG : ev_Good X) (hl : l.stackTraces = false) : ev_Snd X l ev_ms x_J6_valueOf_2dffe tx_J6_valueOf_2dffe 7 (i_psh (.int 127) 10) := s_getstatic hG (hG.2.2.2.2.2.2.2.2.2.2.1) rfl w_1607 dJ6_valueOf_2dffe_7
theorem s_J6_valueOf_2dffe_10 {X : ev_E} {l : Launch} (hG : ev_Good X) (hl : l.stackTraces = false) : ev_Snd X l ev_ms x_J6_valueOf_2dffe tx_J6_valueOf_2dffe 10 (i_icgt 23 13) := s_icgt dJ6_valueOf_2dffe_10 rfl
theorem s_J6_valueOf_2dffe_13 {X : ev_E} {l : Launch} (hG : ev_Good X) (hl : l.stackTraces = false) : ev_Snd X l ev_ms x_J6_valueOf_2dffe tx_J6_valueOf_2dffe 13 (i_psh (.ref (X.2.2.2.2.2 0)) 16) := s_getstatic hG (hG.2.2.2.2.2.2.2.2.2.2.2.1) rfl w_1609 dJ6_valueOf_2dffe_13
theorem s_J6_valueOf_2dffe_16 {X : ev_E} {l : Launch} (hG : ev_Good X) (hl : l.stackTraces = false) : ev_Snd X l ev_ms x_J6_valueOf_2dffe tx_J6_valueOf_2dffe 16 (i_il 0 17) := s_iload_n dJ6_valueOf_2dffe_16 rfl
theorem s_J6_valueOf_2dffe_17 {X : ev_E} {l : Launch} (hG : ev_Good X) (hl : l.stackTraces = false) : ev_Snd X l ev_ms x_J6_valueOf_2dffe tx_J6_valueOf_2dffe 17 (i_psh (.int (128)) 20) := s_sipush dJ6_valueOf_2dffe_17 rfl
theorem s_J6_valueOf_2dffe_20 {X : ev_E} {l : Launch} (hG : ev_Good X) (hl : l.stackTraces = false) : ev_Snd X l ev_ms x_J6_valueOf_2dffe tx_J6_valueOf_2dffe 20 (i_ii (fun a b => a + b) 21) := s_iadd dJ6_valueOf_2dffe_20
theorem s_J6_valueOf_2dffe_21 {X : ev_E} {l : Launch} (hG : ev_Good X) (hl : l.stackTraces = false) : ev_Snd X l ev_ms x_J6_valueOf_2dffe tx_J6_valueOf_2dffe 21 (i_ald X FieldType.isReference 22) := s_aaload hG dJ6_valueOf_2dffe_21
theorem s_J6_valueOf_2dffe_22 {X : ev_E} {l : Launch} (hG : ev_Good X) (hl : l.stackTraces = false) : ev_Snd X l ev_ms x_J6_valueOf_2dffe tx_J6_valueOf_2dffe 22 (i_ar) := s_areturn (rt := (.object "java/lang/Integer")) rfl (by first | exact Or.inl ⟨_, rfl⟩ | exact Or.inr ⟨_, rfl⟩) dJ6_valueOf_2dffe_22
theorem s_J6_valueOf_2dffe_23 {X : ev_E} {l : Launch} (hG : ev_Good X) (hl : l.stackTraces = false) : ev_Snd X l ev_ms x_J6_valueOf_2dffe tx_J6_valueOf_2dffe 23 (i_nw 2 1 [.int 0] 26) := s_new hG (ci := 2) (r := (RJ6, TJ6, 1)) rfl cw_2 tyJ6 tyJ6_ok (fun j hj => nw_2 j hj) w_1611 rfl w_1612 rfl w_80 rfl dJ6_valueOf_2dffe_23
theorem s_J6_valueOf_2dffe_26 {X : ev_E} {l : Launch} (hG : ev_Good X) (hl : l.stackTraces = false) : ev_Snd X l ev_ms x_J6_valueOf_2dffe tx_J6_valueOf_2dffe 26 (i_dup 27) := s_dup dJ6_valueOf_2dffe_26
theorem s_J6_valueOf_2dffe_27 {X : ev_E} {l : Launch} (hG : ev_Good X) (hl : l.stackTraces = false) : ev_Snd X l ev_ms x_J6_valueOf_2dffe tx_J6_valueOf_2dffe 27 (i_il 0 28) := s_iload_n dJ6_valueOf_2dffe_27 rfl
theorem s_J6_valueOf_2dffe_28 {X : ev_E} {l : Launch} (hG : ev_Good X) (hl : l.stackTraces = false) : ev_Snd X l ev_ms x_J6_valueOf_2dffe tx_J6_valueOf_2dffe 28 (i_cI 81 1 2 31) := s_invokeinit hG (mi := 81) (n := 1) (cal_J6_init_d00df (Nat.le_of_ble_eq_true rfl)) rfl w_1613 w_1614 rfl (fun _ => rfl) dJ6_valueOf_2dffe_28
theorem s_J6_valueOf_2dffe_31 {X : ev_E} {l : Launch} (hG : ev_Good X) (hl : l.stackTraces = false) : ev_Snd X l ev_ms x_J6_valueOf_2dffe tx_J6_valueOf_2dffe 31 (i_ar) := s_areturn (rt := (.object "java/lang/Integer")) rfl (by first | exact Or.inl ⟨_, rfl⟩ | exact Or.inr ⟨_, rfl⟩) dJ6_valueOf_2dffe_31
theorem sa_J6_valueOf_2dffe {X : ev_E} {l : Launch} (hG : ev_Good X) (hl : l.stackTraces = false) : ∀ q ∈ tb_J6_valueOf_2dffe X, ev_Snd X l ev_ms x_J6_valueOf_2dffe tx_J6_valueOf_2dffe q.1 q.2 := by
  intro q hq
  unfold tb_J6_valueOf_2dffe at hq
  simp only [List.mem_cons, List.not_mem_nil, or_false] at hq
  rcases hq with rfl | rfl | rfl | rfl | rfl | rfl | rfl | rfl | rfl | rfl | rfl | rfl | rfl | rfl | rfl | rfl | rfl
  · exact s_J6_valueOf_2dffe_0 hG hl
  · exact s_J6_valueOf_2dffe_1 hG hl
  · exact s_J6_valueOf_2dffe_3 hG hl
  · exact s_J6_valueOf_2dffe_6 hG hl
  · exact s_J6_valueOf_2dffe_7 hG hl
  · exact s_J6_valueOf_2dffe_10 hG hl
  · exact s_J6_valueOf_2dffe_13 hG hl
  · exact s_J6_valueOf_2dffe_16 hG hl
  · exact s_J6_valueOf_2dffe_17 hG hl
  · exact s_J6_valueOf_2dffe_20 hG hl
  · exact s_J6_valueOf_2dffe_21 hG hl
  · exact s_J6_valueOf_2dffe_22 hG hl
  · exact s_J6_valueOf_2dffe_23 hG hl
  · exact s_J6_valueOf_2dffe_26 hG hl
  · exact s_J6_valueOf_2dffe_27 hG hl
  · exact s_J6_valueOf_2dffe_28 hG hl
  · exact s_J6_valueOf_2dffe_31 hG hl
def tx_J7_copyOfRange_39247 : ev_X := fun _ _ => some none
noncomputable def tb_J7_copyOfRange_39247 (X : ev_E) : List (Nat × (ev_S → ev_N)) := [(0, i_il 1 1), (1, i_ifne 10 4), (4, i_il 2 5), (5, i_al 0 6), (6, i_len X 7), (7, i_iceq 17 10), (10, i_al 0 11), (11, i_il 1 12), (12, i_il 2 13), (13, i_cS 82 3 5 16), (16, i_ar), (17, i_al 0 18), (18, i_cln 21), (21, i_cca 1 24), (24, i_ar)]
theorem s_J7_copyOfRange_39247_0 {X : ev_E} {l : Launch} (hG : ev_Good X) (hl : l.stackTraces = false) : ev_Snd X l ev_ms x_J7_copyOfRange_39247 tx_J7_copyOfRange_39247 0 (i_il 1 1) := s_iload_n dJ7_copyOfRange_39247_0 rfl
theorem s_J7_copyOfRange_39247_1 {X : ev_E} {l : Launch} (hG : ev_Good X) (hl : l.stackTraces = false) : ev_Snd X l ev_ms x_J7_copyOfRange_39247 tx_J7_copyOfRange_39247 1 (i_ifne 10 4) := s_ifne dJ7_copyOfRange_39247_1 rfl
theorem s_J7_copyOfRange_39247_4 {X : ev_E} {l : Launch} (hG : ev_Good X) (hl : l.stackTraces = false) : ev_Snd X l ev_ms x_J7_copyOfRange_39247 tx_J7_copyOfRange_39247 4 (i_il 2 5) := s_iload_n dJ7_copyOfRange_39247_4 rfl
theorem s_J7_copyOfRange_39247_5 {X : ev_E} {l : Launch} (hG : ev_Good X) (hl : l.stackTraces = false) : ev_Snd X l ev_ms x_J7_copyOfRange_39247 tx_J7_copyOfRange_39247 5 (i_al 0 6) := s_aload_n dJ7_copyOfRange_39247_5 rfl
theorem s_J7_copyOfRange_39247_6 {X : ev_E} {l : Launch} (hG : ev_Good X) (hl : l.stackTraces = false) : ev_Snd X l ev_ms x_J7_copyOfRange_39247 tx_J7_copyOfRange_39247 6 (i_len X 7) := s_arraylength hG dJ7_copyOfRange_39247_6
theorem s_J7_copyOfRange_39247_7 {X : ev_E} {l : Launch} (hG : ev_Good X) (hl : l.stackTraces = false) : ev_Snd X l ev_ms x_J7_copyOfRange_39247 tx_J7_copyOfRange_39247 7 (i_iceq 17 10) := s_iceq dJ7_copyOfRange_39247_7 rfl
theorem s_J7_copyOfRange_39247_10 {X : ev_E} {l : Launch} (hG : ev_Good X) (hl : l.stackTraces = false) : ev_Snd X l ev_ms x_J7_copyOfRange_39247 tx_J7_copyOfRange_39247 10 (i_al 0 11) := s_aload_n dJ7_copyOfRange_39247_10 rfl
theorem s_J7_copyOfRange_39247_11 {X : ev_E} {l : Launch} (hG : ev_Good X) (hl : l.stackTraces = false) : ev_Snd X l ev_ms x_J7_copyOfRange_39247 tx_J7_copyOfRange_39247 11 (i_il 1 12) := s_iload_n dJ7_copyOfRange_39247_11 rfl
theorem s_J7_copyOfRange_39247_12 {X : ev_E} {l : Launch} (hG : ev_Good X) (hl : l.stackTraces = false) : ev_Snd X l ev_ms x_J7_copyOfRange_39247 tx_J7_copyOfRange_39247 12 (i_il 2 13) := s_iload_n dJ7_copyOfRange_39247_12 rfl
theorem s_J7_copyOfRange_39247_13 {X : ev_E} {l : Launch} (hG : ev_Good X) (hl : l.stackTraces = false) : ev_Snd X l ev_ms x_J7_copyOfRange_39247 tx_J7_copyOfRange_39247 13 (i_cS 82 3 5 16) := s_invokestatic hG (mi := 82) (n := 3) (cal_J7_copyOfRangeByte_39247 (Nat.le_of_ble_eq_true rfl)) w_471 w_472 dJ7_copyOfRange_39247_13
theorem s_J7_copyOfRange_39247_16 {X : ev_E} {l : Launch} (hG : ev_Good X) (hl : l.stackTraces = false) : ev_Snd X l ev_ms x_J7_copyOfRange_39247 tx_J7_copyOfRange_39247 16 (i_ar) := s_areturn (rt := (.array .byte)) rfl (by first | exact Or.inl ⟨_, rfl⟩ | exact Or.inr ⟨_, rfl⟩) dJ7_copyOfRange_39247_16
theorem s_J7_copyOfRange_39247_17 {X : ev_E} {l : Launch} (hG : ev_Good X) (hl : l.stackTraces = false) : ev_Snd X l ev_ms x_J7_copyOfRange_39247 tx_J7_copyOfRange_39247 17 (i_al 0 18) := s_aload_n dJ7_copyOfRange_39247_17 rfl
theorem s_J7_copyOfRange_39247_18 {X : ev_E} {l : Launch} (hG : ev_Good X) (hl : l.stackTraces = false) : ev_Snd X l ev_ms x_J7_copyOfRange_39247 tx_J7_copyOfRange_39247 18 (i_cln 21) := s_cloneB hG w_341 w_342 rfl w_343 rfl w_344 w_345 rfl w_346 dJ7_copyOfRange_39247_18
theorem s_J7_copyOfRange_39247_21 {X : ev_E} {l : Launch} (hG : ev_Good X) (hl : l.stackTraces = false) : ev_Snd X l ev_ms x_J7_copyOfRange_39247 tx_J7_copyOfRange_39247 21 (i_cca 1 24) := s_castA hG (kd := 1) (Nat.le_of_ble_eq_true rfl) (by decide +kernel) w_347 dJ7_copyOfRange_39247_21
theorem s_J7_copyOfRange_39247_24 {X : ev_E} {l : Launch} (hG : ev_Good X) (hl : l.stackTraces = false) : ev_Snd X l ev_ms x_J7_copyOfRange_39247 tx_J7_copyOfRange_39247 24 (i_ar) := s_areturn (rt := (.array .byte)) rfl (by first | exact Or.inl ⟨_, rfl⟩ | exact Or.inr ⟨_, rfl⟩) dJ7_copyOfRange_39247_24
theorem sa_J7_copyOfRange_39247 {X : ev_E} {l : Launch} (hG : ev_Good X) (hl : l.stackTraces = false) : ∀ q ∈ tb_J7_copyOfRange_39247 X, ev_Snd X l ev_ms x_J7_copyOfRange_39247 tx_J7_copyOfRange_39247 q.1 q.2 := by
  intro q hq
  unfold tb_J7_copyOfRange_39247 at hq
  simp only [List.mem_cons, List.not_mem_nil, or_false] at hq
  rcases hq with rfl | rfl | rfl | rfl | rfl | rfl | rfl | rfl | rfl | rfl | rfl | rfl | rfl | rfl | rfl
  · exact s_J7_copyOfRange_39247_0 hG hl
  · exact s_J7_copyOfRange_39247_1 hG hl
  · exact s_J7_copyOfRange_39247_4 hG hl
  · exact s_J7_copyOfRange_39247_5 hG hl
  · exact s_J7_copyOfRange_39247_6 hG hl
  · exact s_J7_copyOfRange_39247_7 hG hl
  · exact s_J7_copyOfRange_39247_10 hG hl
  · exact s_J7_copyOfRange_39247_11 hG hl
  · exact s_J7_copyOfRange_39247_12 hG hl
  · exact s_J7_copyOfRange_39247_13 hG hl
  · exact s_J7_copyOfRange_39247_16 hG hl
  · exact s_J7_copyOfRange_39247_17 hG hl
  · exact s_J7_copyOfRange_39247_18 hG hl
  · exact s_J7_copyOfRange_39247_21 hG hl
  · exact s_J7_copyOfRange_39247_24 hG hl
def tx_J7_copyOf_1904c : ev_X := fun _ _ => some none
noncomputable def tb_J7_copyOf_1904c (X : ev_E) : List (Nat × (ev_S → ev_N)) := [(0, i_al 0 1), (1, i_il 1 2), (2, i_al 0 3), (3, i_gc X 6), (6, i_cS 83 3 4 9), (9, i_ar)]
theorem s_J7_copyOf_1904c_0 {X : ev_E} {l : Launch} (hG : ev_Good X) (hl : l.stackTraces = false) : ev_Snd X l ev_ms x_J7_copyOf_1904c tx_J7_copyOf_1904c 0 (i_al 0 1) := s_aload_n dJ7_copyOf_1904c_0 rfl
theorem s_J7_copyOf_1904c_1 {X : ev_E} {l : Launch} (hG : ev_Good X) (hl : l.stackTraces = false) : ev_Snd X l ev_ms x_J7_copyOf_1904c tx_J7_copyOf_1904c 1 (i_il 1 2) := s_iload_n dJ7_copyOf_1904c_1 rfl
theorem s_J7_copyOf_1904c_2 {X : ev_E} {l : Launch} (hG : ev_Good X) (hl : l.stackTraces = false) : ev_Snd X l ev_ms x_J7_copyOf_1904c tx_J7_copyOf_1904c 2 (i_al 0 3) := s_aload_n dJ7_copyOf_1904c_2 rfl
theorem s_J7_copyOf_1904c_3 {X : ev_E} {l : Launch} (hG : ev_Good X) (hl : l.stackTraces = false) : ev_Snd X l ev_ms x_J7_copyOf_1904c tx_J7_copyOf_1904c 3 (i_gc X 6) := s_getClass hG w_1363 w_1782 w_1781 rfl w_1364 w_1383 rfl dJ7_copyOf_1904c_3
theorem s_J7_copyOf_1904c_6 {X : ev_E} {l : Launch} (hG : ev_Good X) (hl : l.stackTraces = false) : ev_Snd X l ev_ms x_J7_copyOf_1904c tx_J7_copyOf_1904c 6 (i_cS 83 3 4 9) := s_invokestatic hG (mi := 83) (n := 3) (cal_J7_copyOf_6403c (Nat.le_of_ble_eq_true rfl)) w_1384 w_1385 dJ7_copyOf_1904c_6
theorem s_J7_copyOf_1904c_9 {X : ev_E} {l : Launch} (hG : ev_Good X) (hl : l.stackTraces = false) : ev_Snd X l ev_ms x_J7_copyOf_1904c tx_J7_copyOf_1904c 9 (i_ar) := s_areturn (rt := (.array (.object "java/lang/Object"))) rfl (by first | exact Or.inl ⟨_, rfl⟩ | exact Or.inr ⟨_, rfl⟩) dJ7_copyOf_1904c_9
theorem sa_J7_copyOf_1904c {X : ev_E} {l : Launch} (hG : ev_Good X) (hl : l.stackTraces = false) : ∀ q ∈ tb_J7_copyOf_1904c X, ev_Snd X l ev_ms x_J7_copyOf_1904c tx_J7_copyOf_1904c q.1 q.2 := by
  intro q hq
  unfold tb_J7_copyOf_1904c at hq
  simp only [List.mem_cons, List.not_mem_nil, or_false] at hq
  rcases hq with rfl | rfl | rfl | rfl | rfl | rfl
  · exact s_J7_copyOf_1904c_0 hG hl
  · exact s_J7_copyOf_1904c_1 hG hl
  · exact s_J7_copyOf_1904c_2 hG hl
  · exact s_J7_copyOf_1904c_3 hG hl
  · exact s_J7_copyOf_1904c_6 hG hl
  · exact s_J7_copyOf_1904c_9 hG hl
def tx_Jx4a65c_get_915e3 : ev_X := fun _ _ => some none
noncomputable def tb_Jx4a65c_get_915e3 (X : ev_E) : List (Nat × (ev_S → ev_N)) := [(0, i_il 1 1), (1, i_al 0 2), (2, i_gf X 4 2 5), (5, i_cS 76 2 2 8), (8, i_pop 9), (9, i_al 0 10), (10, i_il 1 11), (11, i_cV X 22 1 4 2 14), (14, i_ar)]
theorem s_Jx4a65c_get_915e3_0 {X : ev_E} {l : Launch} (hG : ev_Good X) (hl : l.stackTraces = false) : ev_Snd X l ev_ms x_Jx4a65c_get_915e3 tx_Jx4a65c_get_915e3 0 (i_il 1 1) := s_iload_n dJx4a65c_get_915e3_0 rfl
theorem s_Jx4a65c_get_915e3_1 {X : ev_E} {l : Launch} (hG : ev_Good X) (hl : l.stackTraces = false) : ev_Snd X l ev_ms x_Jx4a65c_get_915e3 tx_Jx4a65c_get_915e3 1 (i_al 0 2) := s_aload_n dJx4a65c_get_915e3_1 rfl
theorem s_Jx4a65c_get_915e3_2 {X : ev_E} {l : Launch} (hG : ev_Good X) (hl : l.stackTraces = false) : ev_Snd X l ev_ms x_Jx4a65c_get_915e3 tx_Jx4a65c_get_915e3 2 (i_gf X 4 2 5) := s_getfield hG (ci := 4) (r := (RJx4a65c, TJx4a65c, 3)) rfl cw_4 (k := 2) (Nat.le_of_ble_eq_true rfl) w_1209 rfl (Or.inl rfl) dJx4a65c_get_915e3_2
theorem s_Jx4a65c_get_915e3_5 {X : ev_E} {l : Launch} (hG : ev_Good X) (hl : l.stackTraces = false) : ev_Snd X l ev_ms x_Jx4a65c_get_915e3 tx_Jx4a65c_get_915e3 5 (i_cS 76 2 2 8) := s_invokestatic hG (mi := 76) (n := 2) (cal_J15_checkIndex_7cf53 (Nat.le_of_ble_eq_true rfl)) w_1319 w_1320 dJx4a65c_get_915e3_5
theorem s_Jx4a65c_get_915e3_8 {X : ev_E} {l : Launch} (hG : ev_Good X) (hl : l.stackTraces = false) : ev_Snd X l ev_ms x_Jx4a65c_get_915e3 tx_Jx4a65c_get_915e3 8 (i_pop 9) := s_pop dJx4a65c_get_915e3_8
theorem s_Jx4a65c_get_915e3_9 {X : ev_E} {l : Launch} (hG : ev_Good X) (hl : l.stackTraces = false) : ev_Snd X l ev_ms x_Jx4a65c_get_915e3 tx_Jx4a65c_get_915e3 9 (i_al 0 10) := s_aload_n dJx4a65c_get_915e3_9 rfl
theorem s_Jx4a65c_get_915e3_10 {X : ev_E} {l : Launch} (hG : ev_Good X) (hl : l.stackTraces = false) : ev_Snd X l ev_ms x_Jx4a65c_get_915e3 tx_Jx4a65c_get_915e3 10 (i_il 1 11) := s_iload_n dJx4a65c_get_915e3_10 rfl
theorem s_Jx4a65c_get_915e3_11 {X : ev_E} {l : Launch} (hG : ev_Good X) (hl : l.stackTraces = false) : ev_Snd X l ev_ms x_Jx4a65c_get_915e3 tx_Jx4a65c_get_915e3 11 (i_cV X 22 1 4 2 14) := s_invokevirtual hG (mi := 22) (n := 1) (ci := 4) (r := (RJx4a65c, TJx4a65c, 3)) rfl (cal_Jx4a65c_elementData_915e3 (Nat.le_of_ble_eq_true rfl)) w_1323 w_1324 w_1325 dJx4a65c_get_915e3_11
theorem s_Jx4a65c_get_915e3_14 {X : ev_E} {l : Launch} (hG : ev_Good X) (hl : l.stackTraces = false) : ev_Snd X l ev_ms x_Jx4a65c_get_915e3 tx_Jx4a65c_get_915e3 14 (i_ar) := s_areturn (rt := (.object "java/lang/Object")) rfl (by first | exact Or.inl ⟨_, rfl⟩ | exact Or.inr ⟨_, rfl⟩) dJx4a65c_get_915e3_14
theorem sa_Jx4a65c_get_915e3 {X : ev_E} {l : Launch} (hG : ev_Good X) (hl : l.stackTraces = false) : ∀ q ∈ tb_Jx4a65c_get_915e3 X, ev_Snd X l ev_ms x_Jx4a65c_get_915e3 tx_Jx4a65c_get_915e3 q.1 q.2 := by
  intro q hq
  unfold tb_Jx4a65c_get_915e3 at hq
  simp only [List.mem_cons, List.not_mem_nil, or_false] at hq
  rcases hq with rfl | rfl | rfl | rfl | rfl | rfl | rfl | rfl | rfl
  · exact s_Jx4a65c_get_915e3_0 hG hl
  · exact s_Jx4a65c_get_915e3_1 hG hl
  · exact s_Jx4a65c_get_915e3_2 hG hl
  · exact s_Jx4a65c_get_915e3_5 hG hl
  · exact s_Jx4a65c_get_915e3_8 hG hl
  · exact s_Jx4a65c_get_915e3_9 hG hl
  · exact s_Jx4a65c_get_915e3_10 hG hl
  · exact s_Jx4a65c_get_915e3_11 hG hl
  · exact s_Jx4a65c_get_915e3_14 hG hl
def tx_Jx4a65c_init_da8c8 : ev_X := fun pc _ => bif List.elem pc [1] then none else some none
noncomputable def tb_Jx4a65c_init_da8c8 (X : ev_E) : List (Nat × (ev_S → ev_N)) := [(0, i_al 0 1), (1, i_cI 88 0 1 4), (4, i_al 0 5), (5, i_psh (.ref (X.2.2.2.2.2 1)) 8), (8, i_pf 4 1 (.array (.object "java/lang/Object")) 11), (11, i_vr)]
theorem s_Jx4a65c_init_da8c8_0 {X : ev_E} {l : Launch} (hG : ev_Good X) (hl : l.stackTraces = false) : ev_Snd X l ev_ms x_Jx4a65c_init_da8c8 tx_Jx4a65c_init_da8c8 0 (i_al 0 1) := s_aload_n dJx4a65c_init_da8c8_0 rfl
theorem s_Jx4a65c_init_da8c8_1 {X : ev_E} {l : Launch} (hG : ev_Good X) (hl : l.stackTraces = false) : ev_Snd X l ev_ms x_Jx4a65c_init_da8c8 tx_Jx4a65c_init_da8c8 1 (i_cI 88 0 1 4) := s_invokeinit hG (mi := 88) (n := 0) (cal_Jxc12de_init_da8c8 (Nat.le_of_ble_eq_true rfl)) rfl w_1197 w_1198 rfl (fun _ => rfl) dJx4a65c_init_da8c8_1
theorem s_Jx4a65c_init_da8c8_4 {X : ev_E} {l : Launch} (hG : ev_Good X) (hl : l.stackTraces = false) : ev_Snd X l ev_ms x_Jx4a65c_init_da8c8 tx_Jx4a65c_init_da8c8 4 (i_al 0 5) := s_aload_n dJx4a65c_init_da8c8_4 rfl
theorem s_Jx4a65c_init_da8c8_5 {X : ev_E} {l : Launch} (hG : ev_Good X) (hl : l.stackTraces = false) : ev_Snd X l ev_ms x_Jx4a65c_init_da8c8 tx_Jx4a65c_init_da8c8 5 (i_psh (.ref (X.2.2.2.2.2 1)) 8) := s_getstatic hG (hG.2.2.2.2.2.2.2.2.2.2.2.2.1) rfl w_1204 dJx4a65c_init_da8c8_5
theorem s_Jx4a65c_init_da8c8_8 {X : ev_E} {l : Launch} (hG : ev_Good X) (hl : l.stackTraces = false) : ev_Snd X l ev_ms x_Jx4a65c_init_da8c8 tx_Jx4a65c_init_da8c8 8 (i_pf 4 1 (.array (.object "java/lang/Object")) 11) := s_putfield hG (ci := 4) (r := (RJx4a65c, TJx4a65c, 3)) rfl cw_4 ap_4 (k := 1) (Nat.le_of_ble_eq_true rfl) rfl (by decide +kernel) w_1206 rfl (Or.inl rfl) dJx4a65c_init_da8c8_8
theorem s_Jx4a65c_init_da8c8_11 {X : ev_E} {l : Launch} (hG : ev_Good X) (hl : l.stackTraces = false) : ev_Snd X l ev_ms x_Jx4a65c_init_da8c8 tx_Jx4a65c_init_da8c8 11 (i_vr) := s_return rfl dJx4a65c_init_da8c8_11
theorem sa_Jx4a65c_init_da8c8 {X : ev_E} {l : Launch} (hG : ev_Good X) (hl : l.stackTraces = false) : ∀ q ∈ tb_Jx4a65c_init_da8c8 X, ev_Snd X l ev_ms x_Jx4a65c_init_da8c8 tx_Jx4a65c_init_da8c8 q.1 q.2 := by
  intro q hq
  unfold tb_Jx4a65c_init_da8c8 at hq
  simp only [List.mem_cons, List.not_mem_nil, or_false] at hq
  rcases hq with rfl | rfl | rfl | rfl | rfl | rfl
  · exact s_Jx4a65c_init_da8c8_0 hG hl
  · exact s_Jx4a65c_init_da8c8_1 hG hl
  · exact s_Jx4a65c_init_da8c8_4 hG hl
  · exact s_Jx4a65c_init_da8c8_5 hG hl
  · exact s_Jx4a65c_init_da8c8_8 hG hl
  · exact s_Jx4a65c_init_da8c8_11 hG hl
def tx_Jx4a65c_remove_915e3 : ev_X := fun _ _ => some none
noncomputable def tb_Jx4a65c_remove_915e3 (X : ev_E) : List (Nat × (ev_S → ev_N)) := [(0, i_il 1 1), (1, i_al 0 2), (2, i_gf X 4 2 5), (5, i_cS 76 2 2 8), (8, i_pop 9), (9, i_al 0 10), (10, i_gf X 4 1 13), (13, i_as 2 14), (14, i_al 2 15), (15, i_il 1 16), (16, i_ald X FieldType.isReference 17), (17, i_as 3 18), (18, i_al 0 19), (19, i_al 2 20), (20, i_il 1 21), (21, i_cV X 23 2 4 4 24), (24, i_al 3 25), (25, i_ar)]
theorem s_Jx4a65c_remove_915e3_0 {X : ev_E} {l : Launch} (hG : ev_Good X) (hl : l.stackTraces = false) : ev_Snd X l ev_ms x_Jx4a65c_remove_915e3 tx_Jx4a65c_remove_915e3 0 (i_il 1 1) := s_iload_n dJx4a65c_remove_915e3_0 rfl
theorem s_Jx4a65c_remove_915e3_1 {X : ev_E} {l : Launch} (hG : ev_Good X) (hl : l.stackTraces = false) : ev_Snd X l ev_ms x_Jx4a65c_remove_915e3 tx_Jx4a65c_remove_915e3 1 (i_al 0 2) := s_aload_n dJx4a65c_remove_915e3_1 rfl
theorem s_Jx4a65c_remove_915e3_2 {X : ev_E} {l : Launch} (hG : ev_Good X) (hl : l.stackTraces = false) : ev_Snd X l ev_ms x_Jx4a65c_remove_915e3 tx_Jx4a65c_remove_915e3 2 (i_gf X 4 2 5) := s_getfield hG (ci := 4) (r := (RJx4a65c, TJx4a65c, 3)) rfl cw_4 (k := 2) (Nat.le_of_ble_eq_true rfl) w_1209 rfl (Or.inl rfl) dJx4a65c_remove_915e3_2
theorem s_Jx4a65c_remove_915e3_5 {X : ev_E} {l : Launch} (hG : ev_Good X) (hl : l.stackTraces = false) : ev_Snd X l ev_ms x_Jx4a65c_remove_915e3 tx_Jx4a65c_remove_915e3 5 (i_cS 76 2 2 8) := s_invokestatic hG (mi := 76) (n := 2) (cal_J15_checkIndex_7cf53 (Nat.le_of_ble_eq_true rfl)) w_1319 w_1320 dJx4a65c_remove_915e3_5
theorem s_Jx4a65c_remove_915e3_8 {X : ev_E} {l : Launch} (hG : ev_Good X) (hl : l.stackTraces = false) : ev_Snd X l ev_ms x_Jx4a65c_remove_915e3 tx_Jx4a65c_remove_915e3 8 (i_pop 9) := s_pop dJx4a65c_remove_915e3_8
theorem s_Jx4a65c_remove_915e3_9 {X : ev_E} {l : Launch} (hG : ev_Good X) (hl : l.stackTraces = false) : ev_Snd X l ev_ms x_Jx4a65c_remove_915e3 tx_Jx4a65c_remove_915e3 9 (i_al 0 10) := s_aload_n dJx4a65c_remove_915e3_9 rfl
theorem s_Jx4a65c_remove_915e3_10 {X : ev_E} {l : Launch} (hG : ev_Good X) (hl : l.stackTraces = false) : ev_Snd X l ev_ms x_Jx4a65c_remove_915e3 tx_Jx4a65c_remove_915e3 10 (i_gf X 4 1 13) := s_getfield hG (ci := 4) (r := (RJx4a65c, TJx4a65c, 3)) rfl cw_4 (k := 1) (Nat.le_of_ble_eq_true rfl) w_1206 rfl (Or.inl rfl) dJx4a65c_remove_915e3_10
theorem s_Jx4a65c_remove_915e3_13 {X : ev_E} {l : Launch} (hG : ev_Good X) (hl : l.stackTraces = false) : ev_Snd X l ev_ms x_Jx4a65c_remove_915e3 tx_Jx4a65c_remove_915e3 13 (i_as 2 14) := s_astore_n dJx4a65c_remove_915e3_13 rfl (Nat.le_of_ble_eq_true rfl)
theorem s_Jx4a65c_remove_915e3_14 {X : ev_E} {l : Launch} (hG : ev_Good X) (hl : l.stackTraces = false) : ev_Snd X l ev_ms x_Jx4a65c_remove_915e3 tx_Jx4a65c_remove_915e3 14 (i_al 2 15) := s_aload_n dJx4a65c_remove_915e3_14 rfl
theorem s_Jx4a65c_remove_915e3_15 {X : ev_E} {l : Launch} (hG : ev_Good X) (hl : l.stackTraces = false) : ev_Snd X l ev_ms x_Jx4a65c_remove_915e3 tx_Jx4a65c_remove_915e3 15 (i_il 1 16) := s_iload_n dJx4a65c_remove_915e3_15 rfl
theorem s_Jx4a65c_remove_915e3_16 {X : ev_E} {l : Launch} (hG : ev_Good X) (hl : l.stackTraces = false) : ev_Snd X l ev_ms x_Jx4a65c_remove_915e3 tx_Jx4a65c_remove_915e3 16 (i_ald X FieldType.isReference 17) := s_aaload hG dJx4a65c_remove_915e3_16
theorem s_Jx4a65c_remove_915e3_17 {X : ev_E} {l : Launch} (hG : ev_Good X) (hl : l.stackTraces = false) : ev_Snd X l ev_ms x_Jx4a65c_remove_915e3 tx_Jx4a65c_remove_915e3 17 (i_as 3 18) := s_astore_n dJx4a65c_remove_915e3_17 rfl (Nat.le_of_ble_eq_true rfl)
theorem s_Jx4a65c_remove_915e3_18 {X : ev_E} {l : Launch} (hG : ev_Good X) (hl : l.stackTraces = false) : ev_Snd X l ev_ms x_Jx4a65c_remove_915e3 tx_Jx4a65c_remove_915e3 18 (i_al 0 19) := s_aload_n dJx4a65c_remove_915e3_18 rfl
theorem s_Jx4a65c_remove_915e3_19 {X : ev_E} {l : Launch} (hG : ev_Good X) (hl : l.stackTraces = false) : ev_Snd X l ev_ms x_Jx4a65c_remove_915e3 tx_Jx4a65c_remove_915e3 19 (i_al 2 20) := s_aload_n dJx4a65c_remove_915e3_19 rfl
theorem s_Jx4a65c_remove_915e3_20 {X : ev_E} {l : Launch} (hG : ev_Good X) (hl : l.stackTraces = false) : ev_Snd X l ev_ms x_Jx4a65c_remove_915e3 tx_Jx4a65c_remove_915e3 20 (i_il 1 21) := s_iload_n dJx4a65c_remove_915e3_20 rfl
theorem s_Jx4a65c_remove_915e3_21 {X : ev_E} {l : Launch} (hG : ev_Good X) (hl : l.stackTraces = false) : ev_Snd X l ev_ms x_Jx4a65c_remove_915e3 tx_Jx4a65c_remove_915e3 21 (i_cV X 23 2 4 4 24) := s_invokevirtual hG (mi := 23) (n := 2) (ci := 4) (r := (RJx4a65c, TJx4a65c, 3)) rfl (cal_Jx4a65c_fastRemove_b59b0 (Nat.le_of_ble_eq_true rfl)) w_1338 w_1340 w_23 dJx4a65c_remove_915e3_21
theorem s_Jx4a65c_remove_915e3_24 {X : ev_E} {l : Launch} (hG : ev_Good X) (hl : l.stackTraces = false) : ev_Snd X l ev_ms x_Jx4a65c_remove_915e3 tx_Jx4a65c_remove_915e3 24 (i_al 3 25) := s_aload_n dJx4a65c_remove_915e3_24 rfl
theorem s_Jx4a65c_remove_915e3_25 {X : ev_E} {l : Launch} (hG : ev_Good X) (hl : l.stackTraces = false) : ev_Snd X l ev_ms x_Jx4a65c_remove_915e3 tx_Jx4a65c_remove_915e3 25 (i_ar) := s_areturn (rt := (.object "java/lang/Object")) rfl (by first | exact Or.inl ⟨_, rfl⟩ | exact Or.inr ⟨_, rfl⟩) dJx4a65c_remove_915e3_25
theorem sa_Jx4a65c_remove_915e3 {X : ev_E} {l : Launch} (hG : ev_Good X) (hl : l.stackTraces = false) : ∀ q ∈ tb_Jx4a65c_remove_915e3 X, ev_Snd X l ev_ms x_Jx4a65c_remove_915e3 tx_Jx4a65c_remove_915e3 q.1 q.2 := by
  intro q hq
  unfold tb_Jx4a65c_remove_915e3 at hq
  simp only [List.mem_cons, List.not_mem_nil, or_false] at hq
  rcases hq with rfl | rfl | rfl | rfl | rfl | rfl | rfl | rfl | rfl | rfl | rfl | rfl | rfl | rfl | rfl | rfl | rfl | rfl
  · exact s_Jx4a65c_remove_915e3_0 hG hl
  · exact s_Jx4a65c_remove_915e3_1 hG hl
  · exact s_Jx4a65c_remove_915e3_2 hG hl
  · exact s_Jx4a65c_remove_915e3_5 hG hl
  · exact s_Jx4a65c_remove_915e3_8 hG hl
  · exact s_Jx4a65c_remove_915e3_9 hG hl
  · exact s_Jx4a65c_remove_915e3_10 hG hl
  · exact s_Jx4a65c_remove_915e3_13 hG hl
  · exact s_Jx4a65c_remove_915e3_14 hG hl
  · exact s_Jx4a65c_remove_915e3_15 hG hl
  · exact s_Jx4a65c_remove_915e3_16 hG hl
  · exact s_Jx4a65c_remove_915e3_17 hG hl
  · exact s_Jx4a65c_remove_915e3_18 hG hl
  · exact s_Jx4a65c_remove_915e3_19 hG hl
  · exact s_Jx4a65c_remove_915e3_20 hG hl
  · exact s_Jx4a65c_remove_915e3_21 hG hl
  · exact s_Jx4a65c_remove_915e3_24 hG hl
  · exact s_Jx4a65c_remove_915e3_25 hG hl
def tx_J2_compress_5af95 : ev_X := fun _ _ => some none
noncomputable def tb_J2_compress_5af95 (X : ev_E) : List (Nat × (ev_S → ev_N)) := [(0, i_il 1 1), (1, i_il 4 3), (3, i_al 0 4), (4, i_cS 121 3 3 7), (7, i_psh (.int (0)) 8), (8, i_is 5 10), (10, i_il 5 12), (12, i_il 4 14), (14, i_icge 53 17), (17, i_al 0 18), (18, i_il 1 19), (19, i_cS 77 2 2 22), (22, i_is 6 24), (24, i_il 6 26), (26, i_psh (.int (255)) 29), (29, i_icle 35 32), (32, i_il 5 34), (34, i_ir (.int)), (35, i_al 2 36), (36, i_il 3 37), (37, i_il 6 39), (39, i_i1 (fun a => a.toInt8.toInt32) 40), (40, i_ast ev_tB (vp_nar .byte) 41), (41, i_inc 1 (1) 44), (44, i_inc 3 (1) 47), (47, i_inc 5 (1) 50), (50, i_goto 10), (53, i_il 4 55), (55, i_ir (.int))]
theorem s_J2_compress_5af95_0 {X : ev_E} {l : Launch} (hG : ev_Good X) (hl : l.stackTraces = false) : ev_Snd X l ev_ms x_J2_compress_5af95 tx_J2_compress_5af95 0 (i_il 1 1) := s_iload_n dJ2_compress_5af95_0 rfl
theorem s_J2_compress_5af95_1 {X : ev_E} {l : Launch} (hG : ev_Good X) (hl : l.stackTraces = false) : ev_Snd X l ev_ms x_J2_compress_5af95 tx_J2_compress_5af95 1 (i_il 4 3) := s_iload dJ2_compress_5af95_1
theorem s_J2_compress_5af95_3 {X : ev_E} {l : Launch} (hG : ev_Good X) (hl : l.stackTraces = false) : ev_Snd X l ev_ms x_J2_compress_5af95 tx_J2_compress_5af95 3 (i_al 0 4) := s_aload_n dJ2_compress_5af95_3 rfl
theorem s_J2_compress_5af95_4 {X : ev_E} {l : Launch} (hG : ev_Good X) (hl : l.stackTraces = false) : ev_Snd X l ev_ms x_J2_compress_5af95 tx_J2_compress_5af95 4 (i_cS 121 3 3 7) := s_invokestatic hG (mi := 121) (n := 3) (cal_J2_checkBoundsOffCount_d044e (Nat.le_of_ble_eq_true rfl)) w_372 w_373 dJ2_compress_5af95_4
theorem s_J2_compress_5af95_7 {X : ev_E} {l : Launch} (hG : ev_Good X) (hl : l.stackTraces = false) : ev_Snd X l ev_ms x_J2_compress_5af95 tx_J2_compress_5af95 7 (i_psh (.int (0)) 8) := s_iconst dJ2_compress_5af95_7 rfl
theorem s_J2_compress_5af95_8 {X : ev_E} {l : Launch} (hG : ev_Good X) (hl : l.stackTraces = false) : ev_Snd X l ev_ms x_J2_compress_5af95 tx_J2_compress_5af95 8 (i_is 5 10) := s_istore dJ2_compress_5af95_8 (Nat.le_of_ble_eq_true rfl)
theorem s_J2_compress_5af95_10 {X : ev_E} {l : Launch} (hG : ev_Good X) (hl : l.stackTraces = false) : ev_Snd X l ev_ms x_J2_compress_5af95 tx_J2_compress_5af95 10 (i_il 5 12) := s_iload dJ2_compress_5af95_10
theorem s_J2_compress_5af95_12 {X : ev_E} {l : Launch} (hG : ev_Good X) (hl : l.stackTraces = false) : ev_Snd X l ev_ms x_J2_compress_5af95 tx_J2_compress_5af95 12 (i_il 4 14) := s_iload dJ2_compress_5af95_12
theorem s_J2_compress_5af95_14 {X : ev_E} {l : Launch} (hG : ev_Good X) (hl : l.stackTraces = false) : ev_Snd X l ev_ms x_J2_compress_5af95 tx_J2_compress_5af95 14 (i_icge 53 17) := s_icge dJ2_compress_5af95_14 rfl
theorem s_J2_compress_5af95_17 {X : ev_E} {l : Launch} (hG : ev_Good X) (hl : l.stackTraces = false) : ev_Snd X l ev_ms x_J2_compress_5af95 tx_J2_compress_5af95 17 (i_al 0 18) := s_aload_n dJ2_compress_5af95_17 rfl
theorem s_J2_compress_5af95_18 {X : ev_E} {l : Launch} (hG : ev_Good X) (hl : l.stackTraces = false) : ev_Snd X l ev_ms x_J2_compress_5af95 tx_J2_compress_5af95 18 (i_il 1 19) := s_iload_n dJ2_compress_5af95_18 rfl
theorem s_J2_compress_5af95_19 {X : ev_E} {l : Launch} (hG : ev_Good X) (hl : l.stackTraces = false) : ev_Snd X l ev_ms x_J2_compress_5af95 tx_J2_compress_5af95 19 (i_cS 77 2 2 22) := s_invokestatic hG (mi := 77) (n := 2) (cal_J2_getChar_3b067 (Nat.le_of_ble_eq_true rfl)) w_592 w_593 dJ2_compress_5af95_19
theorem s_J2_compress_5af95_22 {X : ev_E} {l : Launch} (hG : ev_Good X) (hl : l.stackTraces = false) : ev_Snd X l ev_ms x_J2_compress_5af95 tx_J2_compress_5af95 22 (i_is 6 24) := s_istore dJ2_compress_5af95_22 (Nat.le_of_ble_eq_true rfl)
theorem s_J2_compress_5af95_24 {X : ev_E} {l : Launch} (hG : ev_Good X) (hl : l.stackTraces = false) : ev_Snd X l ev_ms x_J2_compress_5af95 tx_J2_compress_5af95 24 (i_il 6 26) := s_iload dJ2_compress_5af95_24
theorem s_J2_compress_5af95_26 {X : ev_E} {l : Launch} (hG : ev_Good X) (hl : l.stackTraces = false) : ev_Snd X l ev_ms x_J2_compress_5af95 tx_J2_compress_5af95 26 (i_psh (.int (255)) 29) := s_sipush dJ2_compress_5af95_26 rfl
theorem s_J2_compress_5af95_29 {X : ev_E} {l : Launch} (hG : ev_Good X) (hl : l.stackTraces = false) : ev_Snd X l ev_ms x_J2_compress_5af95 tx_J2_compress_5af95 29 (i_icle 35 32) := s_icle dJ2_compress_5af95_29 rfl
theorem s_J2_compress_5af95_32 {X : ev_E} {l : Launch} (hG : ev_Good X) (hl : l.stackTraces = false) : ev_Snd X l ev_ms x_J2_compress_5af95 tx_J2_compress_5af95 32 (i_il 5 34) := s_iload dJ2_compress_5af95_32
theorem s_J2_compress_5af95_34 {X : ev_E} {l : Launch} (hG : ev_Good X) (hl : l.stackTraces = false) : ev_Snd X l ev_ms x_J2_compress_5af95 tx_J2_compress_5af95 34 (i_ir (.int)) := s_ireturn rfl dJ2_compress_5af95_34
theorem s_J2_compress_5af95_35 {X : ev_E} {l : Launch} (hG : ev_Good X) (hl : l.stackTraces = false) : ev_Snd X l ev_ms x_J2_compress_5af95 tx_J2_compress_5af95 35 (i_al 2 36) := s_aload_n dJ2_compress_5af95_35 rfl
theorem s_J2_compress_5af95_36 {X : ev_E} {l : Launch} (hG : ev_Good X) (hl : l.stackTraces = false) : ev_Snd X l ev_ms x_J2_compress_5af95 tx_J2_compress_5af95 36 (i_il 3 37) := s_iload_n dJ2_compress_5af95_36 rfl
theorem s_J2_compress_5af95_37 {X : ev_E} {l : Launch} (hG : ev_Good X) (hl : l.stackTraces = false) : ev_Snd X l ev_ms x_J2_compress_5af95 tx_J2_compress_5af95 37 (i_il 6 39) := s_iload dJ2_compress_5af95_37
theorem s_J2_compress_5af95_39 {X : ev_E} {l : Launch} (hG : ev_Good X) (hl : l.stackTraces = false) : ev_Snd X l ev_ms x_J2_compress_5af95 tx_J2_compress_5af95 39 (i_i1 (fun a => a.toInt8.toInt32) 40) := s_i2b dJ2_compress_5af95_39
theorem s_J2_compress_5af95_40 {X : ev_E} {l : Launch} (hG : ev_Good X) (hl : l.stackTraces = false) : ev_Snd X l ev_ms x_J2_compress_5af95 tx_J2_compress_5af95 40 (i_ast ev_tB (vp_nar .byte) 41) := s_bastore hG dJ2_compress_5af95_40
theorem s_J2_compress_5af95_41 {X : ev_E} {l : Launch} (hG : ev_Good X) (hl : l.stackTraces = false) : ev_Snd X l ev_ms x_J2_compress_5af95 tx_J2_compress_5af95 41 (i_inc 1 (1) 44) := s_iinc dJ2_compress_5af95_41 rfl (Nat.le_of_ble_eq_true rfl)
theorem s_J2_compress_5af95_44 {X : ev_E} {l : Launch} (hG : ev_Good X) (hl : l.stackTraces = false) : ev_Snd X l ev_ms x_J2_compress_5af95 tx_J2_compress_5af95 44 (i_inc 3 (1) 47) := s_iinc dJ2_compress_5af95_44 rfl (Nat.le_of_ble_eq_true rfl)
theorem s_J2_compress_5af95_47 {X : ev_E} {l : Launch} (hG : ev_Good X) (hl : l.stackTraces = false) : ev_Snd X l ev_ms x_J2_compress_5af95 tx_J2_compress_5af95 47 (i_inc 5 (1) 50) := s_iinc dJ2_compress_5af95_47 rfl (Nat.le_of_ble_eq_true rfl)
theorem s_J2_compress_5af95_50 {X : ev_E} {l : Launch} (hG : ev_Good X) (hl : l.stackTraces = false) : ev_Snd X l ev_ms x_J2_compress_5af95 tx_J2_compress_5af95 50 (i_goto 10) := s_goto dJ2_compress_5af95_50 rfl
theorem s_J2_compress_5af95_53 {X : ev_E} {l : Launch} (hG : ev_Good X) (hl : l.stackTraces = false) : ev_Snd X l ev_ms x_J2_compress_5af95 tx_J2_compress_5af95 53 (i_il 4 55) := s_iload dJ2_compress_5af95_53
theorem s_J2_compress_5af95_55 {X : ev_E} {l : Launch} (hG : ev_Good X) (hl : l.stackTraces = false) : ev_Snd X l ev_ms x_J2_compress_5af95 tx_J2_compress_5af95 55 (i_ir (.int)) := s_ireturn rfl dJ2_compress_5af95_55
theorem sa_J2_compress_5af95 {X : ev_E} {l : Launch} (hG : ev_Good X) (hl : l.stackTraces = false) : ∀ q ∈ tb_J2_compress_5af95 X, ev_Snd X l ev_ms x_J2_compress_5af95 tx_J2_compress_5af95 q.1 q.2 := by
  intro q hq
  unfold tb_J2_compress_5af95 at hq
  simp only [List.mem_cons, List.not_mem_nil, or_false] at hq
  rcases hq with rfl | rfl | rfl | rfl | rfl | rfl | rfl | rfl | rfl | rfl | rfl | rfl | rfl | rfl | rfl | rfl | rfl | rfl | rfl | rfl | rfl | rfl | rfl | rfl | rfl | rfl | rfl | rfl | rfl
  · exact s_J2_compress_5af95_0 hG hl
  · exact s_J2_compress_5af95_1 hG hl
  · exact s_J2_compress_5af95_3 hG hl
  · exact s_J2_compress_5af95_4 hG hl
  · exact s_J2_compress_5af95_7 hG hl
  · exact s_J2_compress_5af95_8 hG hl
  · exact s_J2_compress_5af95_10 hG hl
  · exact s_J2_compress_5af95_12 hG hl
  · exact s_J2_compress_5af95_14 hG hl
  · exact s_J2_compress_5af95_17 hG hl
  · exact s_J2_compress_5af95_18 hG hl
  · exact s_J2_compress_5af95_19 hG hl
  · exact s_J2_compress_5af95_22 hG hl
  · exact s_J2_compress_5af95_24 hG hl
  · exact s_J2_compress_5af95_26 hG hl
  · exact s_J2_compress_5af95_29 hG hl
  · exact s_J2_compress_5af95_32 hG hl
  · exact s_J2_compress_5af95_34 hG hl
  · exact s_J2_compress_5af95_35 hG hl
  · exact s_J2_compress_5af95_36 hG hl
  · exact s_J2_compress_5af95_37 hG hl
  · exact s_J2_compress_5af95_39 hG hl
  · exact s_J2_compress_5af95_40 hG hl
  · exact s_J2_compress_5af95_41 hG hl
  · exact s_J2_compress_5af95_44 hG hl
  · exact s_J2_compress_5af95_47 hG hl
  · exact s_J2_compress_5af95_50 hG hl
  · exact s_J2_compress_5af95_53 hG hl
  · exact s_J2_compress_5af95_55 hG hl
def tx_J2_getChars_46870 : ev_X := fun _ _ => some none
noncomputable def tb_J2_getChars_46870 (X : ev_E) : List (Nat × (ev_S → ev_N)) := [(0, i_il 1 1), (1, i_il 2 2), (2, i_al 3 3), (3, i_cS 120 3 3 6), (6, i_il 0 7), (7, i_il 2 8), (8, i_al 3 9), (9, i_cS 123 3 7 12), (12, i_is 4 14), (14, i_no), (17, i_ifne 34 20), (20, i_il 1 21), (21, i_il 4 23), (23, i_iceq 34 26), (26, i_no), (29, i_dup 30), (30, i_no), (33, i_no), (34, i_il 4 36), (36, i_ir (.int))]
theorem s_J2_getChars_46870_0 {X : ev_E} {l : Launch} (hG : ev_Good X) (hl : l.stackTraces = false) : ev_Snd X l ev_ms x_J2_getChars_46870 tx_J2_getChars_46870 0 (i_il 1 1) := s_iload_n dJ2_getChars_46870_0 rfl
theorem s_J2_getChars_46870_1 {X : ev_E} {l : Launch} (hG : ev_Good X) (hl : l.stackTraces = false) : ev_Snd X l ev_ms x_J2_getChars_46870 tx_J2_getChars_46870 1 (i_il 2 2) := s_iload_n dJ2_getChars_46870_1 rfl
theorem s_J2_getChars_46870_2 {X : ev_E} {l : Launch} (hG : ev_Good X) (hl : l.stackTraces = false) : ev_Snd X l ev_ms x_J2_getChars_46870 tx_J2_getChars_46870 2 (i_al 3 3) := s_aload_n dJ2_getChars_46870_2 rfl
theorem s_J2_getChars_46870_3 {X : ev_E} {l : Launch} (hG : ev_Good X) (hl : l.stackTraces = false) : ev_Snd X l ev_ms x_J2_getChars_46870 tx_J2_getChars_46870 3 (i_cS 120 3 3 6) := s_invokestatic hG (mi := 120) (n := 3) (cal_J2_checkBoundsBeginEnd_d044e (Nat.le_of_ble_eq_true rfl)) w_427 w_428 dJ2_getChars_46870_3
theorem s_J2_getChars_46870_6 {X : ev_E} {l : Launch} (hG : ev_Good X) (hl : l.stackTraces = false) : ev_Snd X l ev_ms x_J2_getChars_46870 tx_J2_getChars_46870 6 (i_il 0 7) := s_iload_n dJ2_getChars_46870_6 rfl
theorem s_J2_getChars_46870_7 {X : ev_E} {l : Launch} (hG : ev_Good X) (hl : l.stackTraces = false) : ev_Snd X l ev_ms x_J2_getChars_46870 tx_J2_getChars_46870 7 (i_il 2 8) := s_iload_n dJ2_getChars_46870_7 rfl
theorem s_J2_getChars_46870_8 {X : ev_E} {l : Launch} (hG : ev_Good X) (hl : l.stackTraces = false) : ev_Snd X l ev_ms x_J2_getChars_46870 tx_J2_getChars_46870 8 (i_al 3 9) := s_aload_n dJ2_getChars_46870_8 rfl
theorem s_J2_getChars_46870_9 {X : ev_E} {l : Launch} (hG : ev_Good X) (hl : l.stackTraces = false) : ev_Snd X l ev_ms x_J2_getChars_46870 tx_J2_getChars_46870 9 (i_cS 123 3 7 12) := s_invokestatic hG (mi := 123) (n := 3) (cal_J2_getChars_ba4f3 (Nat.le_of_ble_eq_true rfl)) w_436 w_437 dJ2_getChars_46870_9
theorem s_J2_getChars_46870_12 {X : ev_E} {l : Launch} (hG : ev_Good X) (hl : l.stackTraces = false) : ev_Snd X l ev_ms x_J2_getChars_46870 tx_J2_getChars_46870 12 (i_is 4 14) := s_istore dJ2_getChars_46870_12 (Nat.le_of_ble_eq_true rfl)
theorem s_J2_getChars_46870_14 {X : ev_E} {l : Launch} (hG : ev_Good X) (hl : l.stackTraces = false) : ev_Snd X l ev_ms x_J2_getChars_46870 tx_J2_getChars_46870 14 (i_no) := s_no
theorem s_J2_getChars_46870_17 {X : ev_E} {l : Launch} (hG : ev_Good X) (hl : l.stackTraces = false) : ev_Snd X l ev_ms x_J2_getChars_46870 tx_J2_getChars_46870 17 (i_ifne 34 20) := s_ifne dJ2_getChars_46870_17 rfl
theorem s_J2_getChars_46870_20 {X : ev_E} {l : Launch} (hG : ev_Good X) (hl : l.stackTraces = false) : ev_Snd X l ev_ms x_J2_getChars_46870 tx_J2_getChars_46870 20 (i_il 1 21) := s_iload_n dJ2_getChars_46870_20 rfl
theorem s_J2_getChars_46870_21 {X : ev_E} {l : Launch} (hG : ev_Good X) (hl : l.stackTraces = false) : ev_Snd X l ev_ms x_J2_getChars_46870 tx_J2_getChars_46870 21 (i_il 4 23) := s_iload dJ2_getChars_46870_21
theorem s_J2_getChars_46870_23 {X : ev_E} {l : Launch} (hG : ev_Good X) (hl : l.stackTraces = false) : ev_Snd X l ev_ms x_J2_getChars_46870 tx_J2_getChars_46870 23 (i_iceq 34 26) := s_iceq dJ2_getChars_46870_23 rfl
theorem s_J2_getChars_46870_26 {X : ev_E} {l : Launch} (hG : ev_Good X) (hl : l.stackTraces = false) : ev_Snd X l ev_ms x_J2_getChars_46870 tx_J2_getChars_46870 26 (i_no) := s_no
theorem s_J2_getChars_46870_29 {X : ev_E} {l : Launch} (hG : ev_Good X) (hl : l.stackTraces = false) : ev_Snd X l ev_ms x_J2_getChars_46870 tx_J2_getChars_46870 29 (i_dup 30) := s_dup dJ2_getChars_46870_29
theorem s_J2_getChars_46870_30 {X : ev_E} {l : Launch} (hG : ev_Good X) (hl : l.stackTraces = false) : ev_Snd X l ev_ms x_J2_getChars_46870 tx_J2_getChars_46870 30 (i_no) := s_no
theorem s_J2_getChars_46870_33 {X : ev_E} {l : Launch} (hG : ev_Good X) (hl : l.stackTraces = false) : ev_Snd X l ev_ms x_J2_getChars_46870 tx_J2_getChars_46870 33 (i_no) := s_no
theorem s_J2_getChars_46870_34 {X : ev_E} {l : Launch} (hG : ev_Good X) (hl : l.stackTraces = false) : ev_Snd X l ev_ms x_J2_getChars_46870 tx_J2_getChars_46870 34 (i_il 4 36) := s_iload dJ2_getChars_46870_34
theorem s_J2_getChars_46870_36 {X : ev_E} {l : Launch} (hG : ev_Good X) (hl : l.stackTraces = false) : ev_Snd X l ev_ms x_J2_getChars_46870 tx_J2_getChars_46870 36 (i_ir (.int)) := s_ireturn rfl dJ2_getChars_46870_36
theorem sa_J2_getChars_46870 {X : ev_E} {l : Launch} (hG : ev_Good X) (hl : l.stackTraces = false) : ∀ q ∈ tb_J2_getChars_46870 X, ev_Snd X l ev_ms x_J2_getChars_46870 tx_J2_getChars_46870 q.1 q.2 := by
  intro q hq
  unfold tb_J2_getChars_46870 at hq
  simp only [List.mem_cons, List.not_mem_nil, or_false] at hq
  rcases hq with rfl | rfl | rfl | rfl | rfl | rfl | rfl | rfl | rfl | rfl | rfl | rfl | rfl | rfl | rfl | rfl | rfl | rfl | rfl | rfl
  · exact s_J2_getChars_46870_0 hG hl
  · exact s_J2_getChars_46870_1 hG hl
  · exact s_J2_getChars_46870_2 hG hl
  · exact s_J2_getChars_46870_3 hG hl
  · exact s_J2_getChars_46870_6 hG hl
  · exact s_J2_getChars_46870_7 hG hl
  · exact s_J2_getChars_46870_8 hG hl
  · exact s_J2_getChars_46870_9 hG hl
  · exact s_J2_getChars_46870_12 hG hl
  · exact s_J2_getChars_46870_14 hG hl
  · exact s_J2_getChars_46870_17 hG hl
  · exact s_J2_getChars_46870_20 hG hl
  · exact s_J2_getChars_46870_21 hG hl
  · exact s_J2_getChars_46870_23 hG hl
  · exact s_J2_getChars_46870_26 hG hl
  · exact s_J2_getChars_46870_29 hG hl
  · exact s_J2_getChars_46870_30 hG hl
  · exact s_J2_getChars_46870_33 hG hl
  · exact s_J2_getChars_46870_34 hG hl
  · exact s_J2_getChars_46870_36 hG hl
def tx_J2_inflate_0e8fd : ev_X := fun _ _ => some none
noncomputable def tb_J2_inflate_0e8fd (X : ev_E) : List (Nat × (ev_S → ev_N)) := [(0, i_il 3 1), (1, i_il 4 3), (3, i_al 2 4), (4, i_cS 121 3 3 7), (7, i_psh (.int (0)) 8), (8, i_is 5 10), (10, i_il 5 12), (12, i_il 4 14), (14, i_icge 41 17), (17, i_al 2 18), (18, i_il 3 19), (19, i_inc 3 (1) 22), (22, i_al 0 23), (23, i_il 1 24), (24, i_inc 1 (1) 27), (27, i_ald X ev_tB 28), (28, i_psh (.int (255)) 31), (31, i_ii (fun a b => a &&& b) 32), (32, i_cS 79 3 3 35), (35, i_inc 5 (1) 38), (38, i_goto 10), (41, i_vr)]
theorem s_J2_inflate_0e8fd_0 {X : ev_E} {l : Launch} (hG : ev_Good X) (hl : l.stackTraces = false) : ev_Snd X l ev_ms x_J2_inflate_0e8fd tx_J2_inflate_0e8fd 0 (i_il 3 1) := s_iload_n dJ2_inflate_0e8fd_0 rfl
theorem s_J2_inflate_0e8fd_1 {X : ev_E} {l : Launch} (hG : ev_Good X) (hl : l.stackTraces = false) : ev_Snd X l ev_ms x_J2_inflate_0e8fd tx_J2_inflate_0e8fd 1 (i_il 4 3) := s_iload dJ2_inflate_0e8fd_1
theorem s_J2_inflate_0e8fd_3 {X : ev_E} {l : Launch} (hG : ev_Good X) (hl : l.stackTraces = false) : ev_Snd X l ev_ms x_J2_inflate_0e8fd tx_J2_inflate_0e8fd 3 (i_al 2 4) := s_aload_n dJ2_inflate_0e8fd_3 rfl
theorem s_J2_inflate_0e8fd_4 {X : ev_E} {l : Launch} (hG : ev_Good X) (hl : l.stackTraces = false) : ev_Snd X l ev_ms x_J2_inflate_0e8fd tx_J2_inflate_0e8fd 4 (i_cS 121 3 3 7) := s_invokestatic hG (mi := 121) (n := 3) (cal_J2_checkBoundsOffCount_d044e (Nat.le_of_ble_eq_true rfl)) w_372 w_373 dJ2_inflate_0e8fd_4
theorem s_J2_inflate_0e8fd_7 {X : ev_E} {l : Launch} (hG : ev_Good X) (hl : l.stackTraces = false) : ev_Snd X l ev_ms x_J2_inflate_0e8fd tx_J2_inflate_0e8fd 7 (i_psh (.int (0)) 8) := s_iconst dJ2_inflate_0e8fd_7 rfl
theorem s_J2_inflate_0e8fd_8 {X : ev_E} {l : Launch} (hG : ev_Good X) (hl : l.stackTraces = false) : ev_Snd X l ev_ms x_J2_inflate_0e8fd tx_J2_inflate_0e8fd 8 (i_is 5 10) := s_istore dJ2_inflate_0e8fd_8 (Nat.le_of_ble_eq_true rfl)
theorem s_J2_inflate_0e8fd_10 {X : ev_E} {l : Launch} (hG : ev_Good X) (hl : l.stackTraces = false) : ev_Snd X l ev_ms x_J2_inflate_0e8fd tx_J2_inflate_0e8fd 10 (i_il 5 12) := s_iload dJ2_inflate_0e8fd_10
theorem s_J2_inflate_0e8fd_12 {X : ev_E} {l : Launch} (hG : ev_Good X) (hl : l.stackTraces = false) : ev_Snd X l ev_ms x_J2_inflate_0e8fd tx_J2_inflate_0e8fd 12 (i_il 4 14) := s_iload dJ2_inflate_0e8fd_12
theorem s_J2_inflate_0e8fd_14 {X : ev_E} {l : Launch} (hG : ev_Good X) (hl : l.stackTraces = false) : ev_Snd X l ev_ms x_J2_inflate_0e8fd tx_J2_inflate_0e8fd 14 (i_icge 41 17) := s_icge dJ2_inflate_0e8fd_14 rfl
theorem s_J2_inflate_0e8fd_17 {X : ev_E} {l : Launch} (hG : ev_Good X) (hl : l.stackTraces = false) : ev_Snd X l ev_ms x_J2_inflate_0e8fd tx_J2_inflate_0e8fd 17 (i_al 2 18) := s_aload_n dJ2_inflate_0e8fd_17 rfl
theorem s_J2_inflate_0e8fd_18 {X : ev_E} {l : Launch} (hG : ev_Good X) (hl : l.stackTraces = false) : ev_Snd X l ev_ms x_J2_inflate_0e8fd tx_J2_inflate_0e8fd 18 (i_il 3 19) := s_iload_n dJ2_inflate_0e8fd_18 rfl
theorem s_J2_inflate_0e8fd_19 {X : ev_E} {l : Launch} (hG : ev_Good X) (hl : l.stackTraces = false) : ev_Snd X l ev_ms x_J2_inflate_0e8fd tx_J2_inflate_0e8fd 19 (i_inc 3 (1) 22) := s_iinc dJ2_inflate_0e8fd_19 rfl (Nat.le_of_ble_eq_true rfl)
theorem s_J2_inflate_0e8fd_22 {X : ev_E} {l : Launch} (hG : ev_Good X) (hl : l.stackTraces = false) : ev_Snd X l ev_ms x_J2_inflate_0e8fd tx_J2_inflate_0e8fd 22 (i_al 0 23) := s_aload_n dJ2_inflate_0e8fd_22 rfl
theorem s_J2_inflate_0e8fd_23 {X : ev_E} {l : Launch} (hG : ev_Good X) (hl : l.stackTraces = false) : ev_Snd X l ev_ms x_J2_inflate_0e8fd tx_J2_inflate_0e8fd 23 (i_il 1 24) := s_iload_n dJ2_inflate_0e8fd_23 rfl
theorem s_J2_inflate_0e8fd_24 {X : ev_E} {l : Launch} (hG : ev_Good X) (hl : l.stackTraces = false) : ev_Snd X l ev_ms x_J2_inflate_0e8fd tx_J2_inflate_0e8fd 24 (i_inc 1 (1) 27) := s_iinc dJ2_inflate_0e8fd_24 rfl (Nat.le_of_ble_eq_true rfl)
theorem s_J2_inflate_0e8fd_27 {X : ev_E} {l : Launch} (hG : ev_Good X) (hl : l.stackTraces = false) : ev_Snd X l ev_ms x_J2_inflate_0e8fd tx_J2_inflate_0e8fd 27 (i_ald X ev_tB 28) := s_baload hG dJ2_inflate_0e8fd_27
theorem s_J2_inflate_0e8fd_28 {X : ev_E} {l : Launch} (hG : ev_Good X) (hl : l.stackTraces = false) : ev_Snd X l ev_ms x_J2_inflate_0e8fd tx_J2_inflate_0e8fd 28 (i_psh (.int (255)) 31) := s_sipush dJ2_inflate_0e8fd_28 rfl
theorem s_J2_inflate_0e8fd_31 {X : ev_E} {l : Launch} (hG : ev_Good X) (hl : l.stackTraces = false) : ev_Snd X l ev_ms x_J2_inflate_0e8fd tx_J2_inflate_0e8fd 31 (i_ii (fun a b => a &&& b) 32) := s_iand dJ2_inflate_0e8fd_31
theorem s_J2_inflate_0e8fd_32 {X : ev_E} {l : Launch} (hG : ev_Good X) (hl : l.stackTraces = false) : ev_Snd X l ev_ms x_J2_inflate_0e8fd tx_J2_inflate_0e8fd 32 (i_cS 79 3 3 35) := s_invokestatic hG (mi := 79) (n := 3) (cal_J2_putChar_b72d1 (Nat.le_of_ble_eq_true rfl)) w_386 w_387 dJ2_inflate_0e8fd_32
theorem s_J2_inflate_0e8fd_35 {X : ev_E} {l : Launch} (hG : ev_Good X) (hl : l.stackTraces = false) : ev_Snd X l ev_ms x_J2_inflate_0e8fd tx_J2_inflate_0e8fd 35 (i_inc 5 (1) 38) := s_iinc dJ2_inflate_0e8fd_35 rfl (Nat.le_of_ble_eq_true rfl)
theorem s_J2_inflate_0e8fd_38 {X : ev_E} {l : Launch} (hG : ev_Good X) (hl : l.stackTraces = false) : ev_Snd X l ev_ms x_J2_inflate_0e8fd tx_J2_inflate_0e8fd 38 (i_goto 10) := s_goto dJ2_inflate_0e8fd_38 rfl
theorem s_J2_inflate_0e8fd_41 {X : ev_E} {l : Launch} (hG : ev_Good X) (hl : l.stackTraces = false) : ev_Snd X l ev_ms x_J2_inflate_0e8fd tx_J2_inflate_0e8fd 41 (i_vr) := s_return rfl dJ2_inflate_0e8fd_41
theorem sa_J2_inflate_0e8fd {X : ev_E} {l : Launch} (hG : ev_Good X) (hl : l.stackTraces = false) : ∀ q ∈ tb_J2_inflate_0e8fd X, ev_Snd X l ev_ms x_J2_inflate_0e8fd tx_J2_inflate_0e8fd q.1 q.2 := by
  intro q hq
  unfold tb_J2_inflate_0e8fd at hq
  simp only [List.mem_cons, List.not_mem_nil, or_false] at hq
  rcases hq with rfl | rfl | rfl | rfl | rfl | rfl | rfl | rfl | rfl | rfl | rfl | rfl | rfl | rfl | rfl | rfl | rfl | rfl | rfl | rfl | rfl | rfl
  · exact s_J2_inflate_0e8fd_0 hG hl
  · exact s_J2_inflate_0e8fd_1 hG hl
  · exact s_J2_inflate_0e8fd_3 hG hl
  · exact s_J2_inflate_0e8fd_4 hG hl
  · exact s_J2_inflate_0e8fd_7 hG hl
  · exact s_J2_inflate_0e8fd_8 hG hl
  · exact s_J2_inflate_0e8fd_10 hG hl
  · exact s_J2_inflate_0e8fd_12 hG hl
  · exact s_J2_inflate_0e8fd_14 hG hl
  · exact s_J2_inflate_0e8fd_17 hG hl
  · exact s_J2_inflate_0e8fd_18 hG hl
  · exact s_J2_inflate_0e8fd_19 hG hl
  · exact s_J2_inflate_0e8fd_22 hG hl
  · exact s_J2_inflate_0e8fd_23 hG hl
  · exact s_J2_inflate_0e8fd_24 hG hl
  · exact s_J2_inflate_0e8fd_27 hG hl
  · exact s_J2_inflate_0e8fd_28 hG hl
  · exact s_J2_inflate_0e8fd_31 hG hl
  · exact s_J2_inflate_0e8fd_32 hG hl
  · exact s_J2_inflate_0e8fd_35 hG hl
  · exact s_J2_inflate_0e8fd_38 hG hl
  · exact s_J2_inflate_0e8fd_41 hG hl
def tx_J2_putCharSB_b72d1 : ev_X := fun _ _ => some none
noncomputable def tb_J2_putCharSB_b72d1 (X : ev_E) : List (Nat × (ev_S → ev_N)) := [(0, i_il 1 1), (1, i_al 0 2), (2, i_cS 122 2 2 5), (5, i_al 0 6), (6, i_il 1 7), (7, i_il 2 8), (8, i_cS 79 3 3 11), (11, i_vr)]
theorem s_J2_putCharSB_b72d1_0 {X : ev_E} {l : Launch} (hG : ev_Good X) (hl : l.stackTraces = false) : ev_Snd X l ev_ms x_J2_putCharSB_b72d1 tx_J2_putCharSB_b72d1 0 (i_il 1 1) := s_iload_n dJ2_putCharSB_b72d1_0 rfl
theorem s_J2_putCharSB_b72d1_1 {X : ev_E} {l : Launch} (hG : ev_Good X) (hl : l.stackTraces = false) : ev_Snd X l ev_ms x_J2_putCharSB_b72d1 tx_J2_putCharSB_b72d1 1 (i_al 0 2) := s_aload_n dJ2_putCharSB_b72d1_1 rfl
theorem s_J2_putCharSB_b72d1_2 {X : ev_E} {l : Launch} (hG : ev_Good X) (hl : l.stackTraces = false) : ev_Snd X l ev_ms x_J2_putCharSB_b72d1 tx_J2_putCharSB_b72d1 2 (i_cS 122 2 2 5) := s_invokestatic hG (mi := 122) (n := 2) (cal_J2_checkIndex_2214a (Nat.le_of_ble_eq_true rfl)) w_398 w_399 dJ2_putCharSB_b72d1_2
theorem s_J2_putCharSB_b72d1_5 {X : ev_E} {l : Launch} (hG : ev_Good X) (hl : l.stackTraces = false) : ev_Snd X l ev_ms x_J2_putCharSB_b72d1 tx_J2_putCharSB_b72d1 5 (i_al 0 6) := s_aload_n dJ2_putCharSB_b72d1_5 rfl
theorem s_J2_putCharSB_b72d1_6 {X : ev_E} {l : Launch} (hG : ev_Good X) (hl : l.stackTraces = false) : ev_Snd X l ev_ms x_J2_putCharSB_b72d1 tx_J2_putCharSB_b72d1 6 (i_il 1 7) := s_iload_n dJ2_putCharSB_b72d1_6 rfl
theorem s_J2_putCharSB_b72d1_7 {X : ev_E} {l : Launch} (hG : ev_Good X) (hl : l.stackTraces = false) : ev_Snd X l ev_ms x_J2_putCharSB_b72d1 tx_J2_putCharSB_b72d1 7 (i_il 2 8) := s_iload_n dJ2_putCharSB_b72d1_7 rfl
theorem s_J2_putCharSB_b72d1_8 {X : ev_E} {l : Launch} (hG : ev_Good X) (hl : l.stackTraces = false) : ev_Snd X l ev_ms x_J2_putCharSB_b72d1 tx_J2_putCharSB_b72d1 8 (i_cS 79 3 3 11) := s_invokestatic hG (mi := 79) (n := 3) (cal_J2_putChar_b72d1 (Nat.le_of_ble_eq_true rfl)) w_386 w_387 dJ2_putCharSB_b72d1_8
theorem s_J2_putCharSB_b72d1_11 {X : ev_E} {l : Launch} (hG : ev_Good X) (hl : l.stackTraces = false) : ev_Snd X l ev_ms x_J2_putCharSB_b72d1 tx_J2_putCharSB_b72d1 11 (i_vr) := s_return rfl dJ2_putCharSB_b72d1_11
theorem sa_J2_putCharSB_b72d1 {X : ev_E} {l : Launch} (hG : ev_Good X) (hl : l.stackTraces = false) : ∀ q ∈ tb_J2_putCharSB_b72d1 X, ev_Snd X l ev_ms x_J2_putCharSB_b72d1 tx_J2_putCharSB_b72d1 q.1 q.2 := by
  intro q hq
  unfold tb_J2_putCharSB_b72d1 at hq
  simp only [List.mem_cons, List.not_mem_nil, or_false] at hq
  rcases hq with rfl | rfl | rfl | rfl | rfl | rfl | rfl | rfl
  · exact s_J2_putCharSB_b72d1_0 hG hl
  · exact s_J2_putCharSB_b72d1_1 hG hl
  · exact s_J2_putCharSB_b72d1_2 hG hl
  · exact s_J2_putCharSB_b72d1_5 hG hl
  · exact s_J2_putCharSB_b72d1_6 hG hl
  · exact s_J2_putCharSB_b72d1_7 hG hl
  · exact s_J2_putCharSB_b72d1_8 hG hl
  · exact s_J2_putCharSB_b72d1_11 hG hl
def tx_J2_putCharsAt_cd4e5 : ev_X := fun _ _ => some none
noncomputable def tb_J2_putCharsAt_cd4e5 (X : ev_E) : List (Nat × (ev_S → ev_N)) := [(0, i_il 1 1), (1, i_psh (.int (4)) 2), (2, i_ii (fun a b => a + b) 3), (3, i_is 6 5), (5, i_il 1 6), (6, i_il 6 8), (8, i_al 0 9), (9, i_cS 120 3 3 12), (12, i_al 0 13), (13, i_il 1 14), (14, i_inc 1 (1) 17), (17, i_il 2 18), (18, i_cS 79 3 3 21), (21, i_al 0 22), (22, i_il 1 23), (23, i_inc 1 (1) 26), (26, i_il 3 27), (27, i_cS 79 3 3 30), (30, i_al 0 31), (31, i_il 1 32), (32, i_inc 1 (1) 35), (35, i_il 4 37), (37, i_cS 79 3 3 40), (40, i_al 0 41), (41, i_il 1 42), (42, i_inc 1 (1) 45), (45, i_il 5 47), (47, i_cS 79 3 3 50), (50, i_no), (53, i_ifne 70 56), (56, i_il 1 57), (57, i_il 6 59), (59, i_iceq 70 62), (62, i_no), (65, i_dup 66), (66, i_no), (69, i_no), (70, i_il 6 72), (72, i_ir (.int))]
theorem s_J2_putCharsAt_cd4e5_0 {X : ev_E} {l : Launch} (hG : ev_Good X) (hl : l.stackTraces = false) : ev_Snd X l ev_ms x_J2_putCharsAt_cd4e5 tx_J2_putCharsAt_cd4e5 0 (i_il 1 1) := s_iload_n dJ2_putCharsAt_cd4e5_0 rfl
theorem s_J2_putCharsAt_cd4e5_1 {X : ev_E} {l : Launch} (hG : ev_Good X) (hl : l.stackTraces = false) : ev_Snd X l ev_ms x_J2_putCharsAt_cd4e5 tx_J2_putCharsAt_cd4e5 1 (i_psh (.int (4)) 2) := s_iconst dJ2_putCharsAt_cd4e5_1 rfl
theorem s_J2_putCharsAt_cd4e5_2 {X : ev_E} {l : Launch} (hG : ev_Good X) (hl : l.stackTraces = false) : ev_Snd X l ev_ms x_J2_putCharsAt_cd4e5 tx_J2_putCharsAt_cd4e5 2 (i_ii (fun a b => a + b) 3) := s_iadd dJ2_putCharsAt_cd4e5_2
theorem s_J2_putCharsAt_cd4e5_3 {X : ev_E} {l : Launch} (hG : ev_Good X) (hl : l.stackTraces = false) : ev_Snd X l ev_ms x_J2_putCharsAt_cd4e5 tx_J2_putCharsAt_cd4e5 3 (i_is 6 5) := s_istore dJ2_putCharsAt_cd4e5_3 (Nat.le_of_ble_eq_true rfl)
theorem s_J2_putCharsAt_cd4e5_5 {X : ev_E} {l : Launch} (hG : ev_Good X) (hl : l.stackTraces = false) : ev_Snd X l ev_ms x_J2_putCharsAt_cd4e5 tx_J2_putCharsAt_cd4e5 5 (i_il 1 6) := s_iload_n dJ2_putCharsAt_cd4e5_5 rfl
theorem s_J2_putCharsAt_cd4e5_6 {X : ev_E} {l : Launch} (hG : ev_Good X) (hl : l.stackTraces = false) : ev_Snd X l ev_ms x_J2_putCharsAt_cd4e5 tx_J2_putCharsAt_cd4e5 6 (i_il 6 8) := s_iload dJ2_putCharsAt_cd4e5_6
theorem s_J2_putCharsAt_cd4e5_8 {X : ev_E} {l : Launch} (hG : ev_Good X) (hl : l.stackTraces = false) : ev_Snd X l ev_ms x_J2_putCharsAt_cd4e5 tx_J2_putCharsAt_cd4e5 8 (i_al 0 9) := s_aload_n dJ2_putCharsAt_cd4e5_8 rfl
theorem s_J2_putCharsAt_cd4e5_9 {X : ev_E} {l : Launch} (hG : ev_Good X) (hl : l.stackTraces = false) : ev_Snd X l ev_ms x_J2_putCharsAt_cd4e5 tx_J2_putCharsAt_cd4e5 9 (i_cS 120 3 3 12) := s_invokestatic hG (mi := 120) (n := 3) (cal_J2_checkBoundsBeginEnd_d044e (Nat.le_of_ble_eq_true rfl)) w_427 w_428 dJ2_putCharsAt_cd4e5_9
theorem s_J2_putCharsAt_cd4e5_12 {X : ev_E} {l : Launch} (hG : ev_Good X) (hl : l.stackTraces = false) : ev_Snd X l ev_ms x_J2_putCharsAt_cd4e5 tx_J2_putCharsAt_cd4e5 12 (i_al 0 13) := s_aload_n dJ2_putCharsAt_cd4e5_12 rfl
theorem s_J2_putCharsAt_cd4e5_13 {X : ev_E} {l : Launch} (hG : ev_Good X) (hl : l.stackTraces = false) : ev_Snd X l ev_ms x_J2_putCharsAt_cd4e5 tx_J2_putCharsAt_cd4e5 13 (i_il 1 14) := s_iload_n dJ2_putCharsAt_cd4e5_13 rfl
theorem s_J2_putCharsAt_cd4e5_14 {X : ev_E} {l : Launch} (hG : ev_Good X) (hl : l.stackTraces = false) : ev_Snd X l ev_ms x_J2_putCharsAt_cd4e5 tx_J2_putCharsAt_cd4e5 14 (i_inc 1 (1) 17) := s_iinc dJ2_putCharsAt_cd4e5_14 rfl (Nat.le_of_ble_eq_true rfl)
theorem s_J2_putCharsAt_cd4e5_17 {X : ev_E} {l : Launch} (hG : ev_Good X) (hl : l.stackTraces = false) : ev_Snd X l ev_ms x_J2_putCharsAt_cd4e5 tx_J2_putCharsAt_cd4e5 17 (i_il 2 18) := s_iload_n dJ2_putCharsAt_cd4e5_17 rfl
theorem s_J2_putCharsAt_cd4e5_18 {X : ev_E} {l : Launch} (hG : ev_Good X) (hl : l.stackTraces = false) : ev_Snd X l ev_ms x_J2_putCharsAt_cd4e5 tx_J2_putCharsAt_cd4e5 18 (i_cS 79 3 3 21) := s_invokestatic hG (mi := 79) (n := 3) (cal_J2_putChar_b72d1 (Nat.le_of_ble_eq_true rfl)) w_386 w_387 dJ2_putCharsAt_cd4e5_18
theorem s_J2_putCharsAt_cd4e5_21 {X : ev_E} {l : Launch} (hG : ev_Good X) (hl : l.stackTraces = false) : ev_Snd X l ev_ms x_J2_putCharsAt_cd4e5 tx_J2_putCharsAt_cd4e5 21 (i_al 0 22) := s_aload_n dJ2_putCharsAt_cd4e5_21 rfl
theorem s_J2_putCharsAt_cd4e5_22 {X : ev_E} {l : Launch} (hG : ev_Good X) (hl : l.stackTraces = false) : ev_Snd X l ev_ms x_J2_putCharsAt_cd4e5 tx_J2_putCharsAt_cd4e5 22 (i_il 1 23) := s_iload_n dJ2_putCharsAt_cd4e5_22 rfl
theorem s_J2_putCharsAt_cd4e5_23 {X : ev_E} {l : Launch} (hG : ev_Good X) (hl : l.stackTraces = false) : ev_Snd X l ev_ms x_J2_putCharsAt_cd4e5 tx_J2_putCharsAt_cd4e5 23 (i_inc 1 (1) 26) := s_iinc dJ2_putCharsAt_cd4e5_23 rfl (Nat.le_of_ble_eq_true rfl)
theorem s_J2_putCharsAt_cd4e5_26 {X : ev_E} {l : Launch} (hG : ev_Good X) (hl : l.stackTraces = false) : ev_Snd X l ev_ms x_J2_putCharsAt_cd4e5 tx_J2_putCharsAt_cd4e5 26 (i_il 3 27) := s_iload_n dJ2_putCharsAt_cd4e5_26 rfl
theorem s_J2_putCharsAt_cd4e5_27 {X : ev_E} {l : Launch} (hG : ev_Good X) (hl : l.stackTraces = false) : ev_Snd X l ev_ms x_J2_putCharsAt_cd4e5 tx_J2_putCharsAt_cd4e5 27 (i_cS 79 3 3 30) := s_invokestatic hG (mi := 79) (n := 3) (cal_J2_putChar_b72d1 (Nat.le_of_ble_eq_true rfl)) w_386 w_387 dJ2_putCharsAt_cd4e5_27
theorem s_J2_putCharsAt_cd4e5_30 {X : ev_E} {l : Launch} (hG : ev_Good X) (hl : l.stackTraces = false) : ev_Snd X l ev_ms x_J2_putCharsAt_cd4e5 tx_J2_putCharsAt_cd4e5 30 (i_al 0 31) := s_aload_n dJ2_putCharsAt_cd4e5_30 rfl
theorem s_J2_putCharsAt_cd4e5_31 {X : ev_E} {l : Launch} (hG : ev_Good X) (hl : l.stackTraces = false) : ev_Snd X l ev_ms x_J2_putCharsAt_cd4e5 tx_J2_putCharsAt_cd4e5 31 (i_il 1 32) := s_iload_n dJ2_putCharsAt_cd4e5_31 rfl
theorem s_J2_putCharsAt_cd4e5_32 {X : ev_E} {l : Launch} (hG : ev_Good X) (hl : l.stackTraces = false) : ev_Snd X l ev_ms x_J2_putCharsAt_cd4e5 tx_J2_putCharsAt_cd4e5 32 (i_inc 1 (1) 35) := s_iinc dJ2_putCharsAt_cd4e5_32 rfl (Nat.le_of_ble_eq_true rfl)
theorem s_J2_putCharsAt_cd4e5_35 {X : ev_E} {l : Launch} (hG : ev_Good X) (hl : l.stackTraces = false) : ev_Snd X l ev_ms x_J2_putCharsAt_cd4e5 tx_J2_putCharsAt_cd4e5 35 (i_il 4 37) := s_iload dJ2_putCharsAt_cd4e5_35
theorem s_J2_putCharsAt_cd4e5_37 {X : ev_E} {l : Launch} (hG : ev_Good X) (hl : l.stackTraces = false) : ev_Snd X l ev_ms x_J2_putCharsAt_cd4e5 tx_J2_putCharsAt_cd4e5 37 (i_cS 79 3 3 40) := s_invokestatic hG (mi := 79) (n := 3) (cal_J2_putChar_b72d1 (Nat.le_of_ble_eq_true rfl)) w_386 w_387 dJ2_putCharsAt_cd4e5_37
theorem s_J2_putCharsAt_cd4e5_40 {X : ev_E} {l : Launch} (hG : ev_Good X) (hl : l.stackTraces = false) : ev_Snd X l ev_ms x_J2_putCharsAt_cd4e5 tx_J2_putCharsAt_cd4e5 40 (i_al 0 41) := s_aload_n dJ2_putCharsAt_cd4e5_40 rfl
theorem s_J2_putCharsAt_cd4e5_41 {X : ev_E} {l : Launch} (hG : ev_Good X) (hl : l.stackTraces = false) : ev_Snd X l ev_ms x_J2_putCharsAt_cd4e5 tx_J2_putCharsAt_cd4e5 41 (i_il 1 42) := s_iload_n dJ2_putCharsAt_cd4e5_41 rfl
theorem s_J2_putCharsAt_cd4e5_42 {X : ev_E} {l : Launch} (hG : ev_Good X) (hl : l.stackTraces = false) : ev_Snd X l ev_ms x_J2_putCharsAt_cd4e5 tx_J2_putCharsAt_cd4e5 42 (i_inc 1 (1) 45) := s_iinc dJ2_putCharsAt_cd4e5_42 rfl (Nat.le_of_ble_eq_true rfl)
theorem s_J2_putCharsAt_cd4e5_45 {X : ev_E} {l : Launch} (hG : ev_Good X) (hl : l.stackTraces = false) : ev_Snd X l ev_ms x_J2_putCharsAt_cd4e5 tx_J2_putCharsAt_cd4e5 45 (i_il 5 47) := s_iload dJ2_putCharsAt_cd4e5_45
theorem s_J2_putCharsAt_cd4e5_47 {X : ev_E} {l : Launch} (hG : ev_Good X) (hl : l.stackTraces = false) : ev_Snd X l ev_ms x_J2_putCharsAt_cd4e5 tx_J2_putCharsAt_cd4e5 47 (i_cS 79 3 3 50) := s_invokestatic hG (mi := 79) (n := 3) (cal_J2_putChar_b72d1 (Nat.le_of_ble_eq_true rfl)) w_386 w_387 dJ2_putCharsAt_cd4e5_47
theorem s_J2_putCharsAt_cd4e5_50 {X : ev_E} {l : Launch} (hG : ev_Good X) (hl : l.stackTraces = false) : ev_Snd X l ev_ms x_J2_putCharsAt_cd4e5 tx_J2_putCharsAt_cd4e5 50 (i_no) := s_no
theorem s_J2_putCharsAt_cd4e5_53 {X : ev_E} {l : Launch} (hG : ev_Good X) (hl : l.stackTraces = false) : ev_Snd X l ev_ms x_J2_putCharsAt_cd4e5 tx_J2_putCharsAt_cd4e5 53 (i_ifne 70 56) := s_ifne dJ2_putCharsAt_cd4e5_53 rfl
theorem s_J2_putCharsAt_cd4e5_56 {X : ev_E} {l : Launch} (hG : ev_Good X) (hl : l.stackTraces = false) : ev_Snd X l ev_ms x_J2_putCharsAt_cd4e5 tx_J2_putCharsAt_cd4e5 56 (i_il 1 57) := s_iload_n dJ2_putCharsAt_cd4e5_56 rfl
theorem s_J2_putCharsAt_cd4e5_57 {X : ev_E} {l : Launch} (hG : ev_Good X) (hl : l.stackTraces = false) : ev_Snd X l ev_ms x_J2_putCharsAt_cd4e5 tx_J2_putCharsAt_cd4e5 57 (i_il 6 59) := s_iload dJ2_putCharsAt_cd4e5_57
theorem s_J2_putCharsAt_cd4e5_59 {X : ev_E} {l : Launch} (hG : ev_Good X) (hl : l.stackTraces = false) : ev_Snd X l ev_ms x_J2_putCharsAt_cd4e5 tx_J2_putCharsAt_cd4e5 59 (i_iceq 70 62) := s_iceq dJ2_putCharsAt_cd4e5_59 rfl
theorem s_J2_putCharsAt_cd4e5_62 {X : ev_E} {l : Launch} (hG : ev_Good X) (hl : l.stackTraces = false) : ev_Snd X l ev_ms x_J2_putCharsAt_cd4e5 tx_J2_putCharsAt_cd4e5 62 (i_no) := s_no
theorem s_J2_putCharsAt_cd4e5_65 {X : ev_E} {l : Launch} (hG : ev_Good X) (hl : l.stackTraces = false) : ev_Snd X l ev_ms x_J2_putCharsAt_cd4e5 tx_J2_putCharsAt_cd4e5 65 (i_dup 66) := s_dup dJ2_putCharsAt_cd4e5_65
theorem s_J2_putCharsAt_cd4e5_66 {X : ev_E} {l : Launch} (hG : ev_Good X) (hl : l.stackTraces = false) : ev_Snd X l ev_ms x_J2_putCharsAt_cd4e5 tx_J2_putCharsAt_cd4e5 66 (i_no) := s_no
theorem s_J2_putCharsAt_cd4e5_69 {X : ev_E} {l : Launch} (hG : ev_Good X) (hl : l.stackTraces = false) : ev_Snd X l ev_ms x_J2_putCharsAt_cd4e5 tx_J2_putCharsAt_cd4e5 69 (i_no) := s_no
theorem s_J2_putCharsAt_cd4e5_70 {X : ev_E} {l : Launch} (hG : ev_Good X) (hl : l.stackTraces = false) : ev_Snd X l ev_ms x_J2_putCharsAt_cd4e5 tx_J2_putCharsAt_cd4e5 70 (i_il 6 72) := s_iload dJ2_putCharsAt_cd4e5_70
theorem s_J2_putCharsAt_cd4e5_72 {X : ev_E} {l : Launch} (hG : ev_Good X) (hl : l.stackTraces = false) : ev_Snd X l ev_ms x_J2_putCharsAt_cd4e5 tx_J2_putCharsAt_cd4e5 72 (i_ir (.int)) := s_ireturn rfl dJ2_putCharsAt_cd4e5_72
theorem sa_J2_putCharsAt_cd4e5 {X : ev_E} {l : Launch} (hG : ev_Good X) (hl : l.stackTraces = false) : ∀ q ∈ tb_J2_putCharsAt_cd4e5 X, ev_Snd X l ev_ms x_J2_putCharsAt_cd4e5 tx_J2_putCharsAt_cd4e5 q.1 q.2 := by
  intro q hq
  unfold tb_J2_putCharsAt_cd4e5 at hq
  simp only [List.mem_cons, List.not_mem_nil, or_false] at hq
  rcases hq with rfl | rfl | rfl | rfl | rfl | rfl | rfl | rfl | rfl | rfl | rfl | rfl | rfl | rfl | rfl | rfl | rfl | rfl | rfl | rfl | rfl | rfl | rfl | rfl | rfl | rfl | rfl | rfl | rfl | rfl | rfl | rfl | rfl | rfl | rfl | rfl | rfl | rfl | rfl
  · exact s_J2_putCharsAt_cd4e5_0 hG hl
  · exact s_J2_putCharsAt_cd4e5_1 hG hl
  · exact s_J2_putCharsAt_cd4e5_2 hG hl
  · exact s_J2_putCharsAt_cd4e5_3 hG hl
  · exact s_J2_putCharsAt_cd4e5_5 hG hl
  · exact s_J2_putCharsAt_cd4e5_6 hG hl
  · exact s_J2_putCharsAt_cd4e5_8 hG hl
  · exact s_J2_putCharsAt_cd4e5_9 hG hl
  · exact s_J2_putCharsAt_cd4e5_12 hG hl
  · exact s_J2_putCharsAt_cd4e5_13 hG hl
  · exact s_J2_putCharsAt_cd4e5_14 hG hl
  · exact s_J2_putCharsAt_cd4e5_17 hG hl
  · exact s_J2_putCharsAt_cd4e5_18 hG hl
  · exact s_J2_putCharsAt_cd4e5_21 hG hl
  · exact s_J2_putCharsAt_cd4e5_22 hG hl
  · exact s_J2_putCharsAt_cd4e5_23 hG hl
  · exact s_J2_putCharsAt_cd4e5_26 hG hl
  · exact s_J2_putCharsAt_cd4e5_27 hG hl
  · exact s_J2_putCharsAt_cd4e5_30 hG hl
  · exact s_J2_putCharsAt_cd4e5_31 hG hl
  · exact s_J2_putCharsAt_cd4e5_32 hG hl
  · exact s_J2_putCharsAt_cd4e5_35 hG hl
  · exact s_J2_putCharsAt_cd4e5_37 hG hl
  · exact s_J2_putCharsAt_cd4e5_40 hG hl
  · exact s_J2_putCharsAt_cd4e5_41 hG hl
  · exact s_J2_putCharsAt_cd4e5_42 hG hl
  · exact s_J2_putCharsAt_cd4e5_45 hG hl
  · exact s_J2_putCharsAt_cd4e5_47 hG hl
  · exact s_J2_putCharsAt_cd4e5_50 hG hl
  · exact s_J2_putCharsAt_cd4e5_53 hG hl
  · exact s_J2_putCharsAt_cd4e5_56 hG hl
  · exact s_J2_putCharsAt_cd4e5_57 hG hl
  · exact s_J2_putCharsAt_cd4e5_59 hG hl
  · exact s_J2_putCharsAt_cd4e5_62 hG hl
  · exact s_J2_putCharsAt_cd4e5_65 hG hl
  · exact s_J2_putCharsAt_cd4e5_66 hG hl
  · exact s_J2_putCharsAt_cd4e5_69 hG hl
  · exact s_J2_putCharsAt_cd4e5_70 hG hl
  · exact s_J2_putCharsAt_cd4e5_72 hG hl
def tx_J4_init_da8c8 : ev_X := fun pc _ => bif List.elem pc [3] then none else some none
noncomputable def tb_J4_init_da8c8 (X : ev_E) : List (Nat × (ev_S → ev_N)) := [(0, i_al 0 1), (1, i_psh (.int (16)) 3), (3, i_cI 124 1 2 6), (6, i_vr)]
theorem s_J4_init_da8c8_0 {X : ev_E} {l : Launch} (hG : ev_Good X) (hl : l.stackTraces = false) : ev_Snd X l ev_ms x_J4_init_da8c8 tx_J4_init_da8c8 0 (i_al 0 1) := s_aload_n dJ4_init_da8c8_0 rfl
theorem s_J4_init_da8c8_1 {X : ev_E} {l : Launch} (hG : ev_Good X) (hl : l.stackTraces = false) : ev_Snd X l ev_ms x_J4_init_da8c8 tx_J4_init_da8c8 1 (i_psh (.int (16)) 3) := s_bipush dJ4_init_da8c8_1 rfl
theorem s_J4_init_da8c8_3 {X : ev_E} {l : Launch} (hG : ev_Good X) (hl : l.stackTraces = false) : ev_Snd X l ev_ms x_J4_init_da8c8 tx_J4_init_da8c8 3 (i_cI 124 1 2 6) := s_invokeinit hG (mi := 124) (n := 1) (cal_J5_init_d00df (Nat.le_of_ble_eq_true rfl)) rfl w_285 w_286 rfl (fun _ => rfl) dJ4_init_da8c8_3
theorem s_J4_init_da8c8_6 {X : ev_E} {l : Launch} (hG : ev_Good X) (hl : l.stackTraces = false) : ev_Snd X l ev_ms x_J4_init_da8c8 tx_J4_init_da8c8 6 (i_vr) := s_return rfl dJ4_init_da8c8_6
theorem sa_J4_init_da8c8 {X : ev_E} {l : Launch} (hG : ev_Good X) (hl : l.stackTraces = false) : ∀ q ∈ tb_J4_init_da8c8 X, ev_Snd X l ev_ms x_J4_init_da8c8 tx_J4_init_da8c8 q.1 q.2 := by
  intro q hq
  unfold tb_J4_init_da8c8 at hq
  simp only [List.mem_cons, List.not_mem_nil, or_false] at hq
  rcases hq with rfl | rfl | rfl | rfl
  · exact s_J4_init_da8c8_0 hG hl
  · exact s_J4_init_da8c8_1 hG hl
  · exact s_J4_init_da8c8_3 hG hl
  · exact s_J4_init_da8c8_6 hG hl
def tx_J5_ensureCapacityInternal_d00df : ev_X := fun _ _ => some none
noncomputable def tb_J5_ensureCapacityInternal_d00df (X : ev_E) : List (Nat × (ev_S → ev_N)) := [(0, i_al 0 1), (1, i_gf X 1 0 4), (4, i_len X 5), (5, i_al 0 6), (6, i_gf X 1 1 9), (9, i_ii (fun a b => a >>> (b &&& 31)) 10), (10, i_is 2 11), (11, i_il 1 12), (12, i_il 2 13), (13, i_ii (fun a b => a - b) 14), (14, i_ifle 38 17), (17, i_al 0 18), (18, i_al 0 19), (19, i_gf X 1 0 22), (22, i_al 0 23), (23, i_il 1 24), (24, i_cV X 125 1 1 6 27), (27, i_al 0 28), (28, i_gf X 1 1 31), (31, i_ii (fun a b => a <<< (b &&& 31)) 32), (32, i_cS 84 2 3 35), (35, i_pf 1 0 (.array (.byte)) 38), (38, i_vr)]
theorem s_J5_ensureCapacityInternal_d00df_0 {X : ev_E} {l : Launch} (hG : ev_Good X) (hl : l.stackTraces = false) : ev_Snd X l ev_ms x_J5_ensureCapacityInternal_d00df tx_J5_ensureCapacityInternal_d00df 0 (i_al 0 1) := s_aload_n dJ5_ensureCapacityInternal_d00df_0 rfl
theorem s_J5_ensureCapacityInternal_d00df_1 {X : ev_E} {l : Launch} (hG : ev_Good X) (hl : l.stackTraces = false) : ev_Snd X l ev_ms x_J5_ensureCapacityInternal_d00df tx_J5_ensureCapacityInternal_d00df 1 (i_gf X 1 0 4) := s_getfield hG (ci := 1) (r := (RJ4, TJ4, 4)) rfl cw_1 (k := 0) (Nat.le_of_ble_eq_true rfl) w_298 rfl (Or.inl rfl) dJ5_ensureCapacityInternal_d00df_1
theorem s_J5_ensureCapacityInternal_d00df_4 {X : ev_E} {l : Launch} (hG : ev_Good X) (hl : l.stackTraces = false) : ev_Snd X l ev_ms x_J5_ensureCapacityInternal_d00df tx_J5_ensureCapacityInternal_d00df 4 (i_len X 5) := s_arraylength hG dJ5_ensureCapacityInternal_d00df_4
theorem s_J5_ensureCapacityInternal_d00df_5 {X : ev_E} {l : Launch} (hG : ev_Good X) (hl : l.stackTraces = false) : ev_Snd X l ev_ms x_J5_ensureCapacityInternal_d00df tx_J5_ensureCapacityInternal_d00df 5 (i_al 0 6) := s_aload_n dJ5_ensureCapacityInternal_d00df_5 rfl
theorem s_J5_ensureCapacityInternal_d00df_6 {X : ev_E} {l : Launch} (hG : ev_Good X) (hl : l.stackTraces = false) : ev_Snd X l ev_ms x_J5_ensureCapacityInternal_d00df tx_J5_ensureCapacityInternal_d00df 6 (i_gf X 1 1 9) := s_getfield hG (ci := 1) (r := (RJ4, TJ4, 4)) rfl cw_1 (k := 1) (Nat.le_of_ble_eq_true rfl) w_299 rfl (Or.inl rfl) dJ5_ensureCapacityInternal_d00df_6
theorem s_J5_ensureCapacityInternal_d00df_9 {X : ev_E} {l : Launch} (hG : ev_Good X) (hl : l.stackTraces = false) : ev_Snd X l ev_ms x_J5_ensureCapacityInternal_d00df tx_J5_ensureCapacityInternal_d00df 9 (i_ii (fun a b => a >>> (b &&& 31)) 10) := s_ishr dJ5_ensureCapacityInternal_d00df_9
theorem s_J5_ensureCapacityInternal_d00df_10 {X : ev_E} {l : Launch} (hG : ev_Good X) (hl : l.stackTraces = false) : ev_Snd X l ev_ms x_J5_ensureCapacityInternal_d00df tx_J5_ensureCapacityInternal_d00df 10 (i_is 2 11) := s_istore_n dJ5_ensureCapacityInternal_d00df_10 rfl (Nat.le_of_ble_eq_true rfl)
theorem s_J5_ensureCapacityInternal_d00df_11 {X : ev_E} {l : Launch} (hG : ev_Good X) (hl : l.stackTraces = false) : ev_Snd X l ev_ms x_J5_ensureCapacityInternal_d00df tx_J5_ensureCapacityInternal_d00df 11 (i_il 1 12) := s_iload_n dJ5_ensureCapacityInternal_d00df_11 rfl
theorem s_J5_ensureCapacityInternal_d00df_12 {X : ev_E} {l : Launch} (hG : ev_Good X) (hl : l.stackTraces = false) : ev_Snd X l ev_ms x_J5_ensureCapacityInternal_d00df tx_J5_ensureCapacityInternal_d00df 12 (i_il 2 13) := s_iload_n dJ5_ensureCapacityInternal_d00df_12 rfl
theorem s_J5_ensureCapacityInternal_d00df_13 {X : ev_E} {l : Launch} (hG : ev_Good X) (hl : l.stackTraces = false) : ev_Snd X l ev_ms x_J5_ensureCapacityInternal_d00df tx_J5_ensureCapacityInternal_d00df 13 (i_ii (fun a b => a - b) 14) := s_isub dJ5_ensureCapacityInternal_d00df_13
theorem s_J5_ensureCapacityInternal_d00df_14 {X : ev_E} {l : Launch} (hG : ev_Good X) (hl : l.stackTraces = false) : ev_Snd X l ev_ms x_J5_ensureCapacityInternal_d00df tx_J5_ensureCapacityInternal_d00df 14 (i_ifle 38 17) := s_ifle dJ5_ensureCapacityInternal_d00df_14 rfl
theorem s_J5_ensureCapacityInternal_d00df_17 {X : ev_E} {l : Launch} (hG : ev_Good X) (hl : l.stackTraces = false) : ev_Snd X l ev_ms x_J5_ensureCapacityInternal_d00df tx_J5_ensureCapacityInternal_d00df 17 (i_al 0 18) := s_aload_n dJ5_ensureCapacityInternal_d00df_17 rfl
theorem s_J5_ensureCapacityInternal_d00df_18 {X : ev_E} {l : Launch} (hG : ev_Good X) (hl : l.stackTraces = false) : ev_Snd X l ev_ms x_J5_ensureCapacityInternal_d00df tx_J5_ensureCapacityInternal_d00df 18 (i_al 0 19) := s_aload_n dJ5_ensureCapacityInternal_d00df_18 rfl
theorem s_J5_ensureCapacityInternal_d00df_19 {X : ev_E} {l : Launch} (hG : ev_Good X) (hl : l.stackTraces = false) : ev_Snd X l ev_ms x_J5_ensureCapacityInternal_d00df tx_J5_ensureCapacityInternal_d00df 19 (i_gf X 1 0 22) := s_getfield hG (ci := 1) (r := (RJ4, TJ4, 4)) rfl cw_1 (k := 0) (Nat.le_of_ble_eq_true rfl) w_298 rfl (Or.inl rfl) dJ5_ensureCapacityInternal_d00df_19
theorem s_J5_ensureCapacityInternal_d00df_22 {X : ev_E} {l : Launch} (hG : ev_Good X) (hl : l.stackTraces = false) : ev_Snd X l ev_ms x_J5_ensureCapacityInternal_d00df tx_J5_ensureCapacityInternal_d00df 22 (i_al 0 23) := s_aload_n dJ5_ensureCapacityInternal_d00df_22 rfl
theorem s_J5_ensureCapacityInternal_d00df_23 {X : ev_E} {l : Launch} (hG : ev_Good X) (hl : l.stackTraces = false) : ev_Snd X l ev_ms x_J5_ensureCapacityInternal_d00df tx_J5_ensureCapacityInternal_d00df 23 (i_il 1 24) := s_iload_n dJ5_ensureCapacityInternal_d00df_23 rfl
theorem s_J5_ensureCapacityInternal_d00df_24 {X : ev_E} {l : Launch} (hG : ev_Good X) (hl : l.stackTraces = false) : ev_Snd X l ev_ms x_J5_ensureCapacityInternal_d00df tx_J5_ensureCapacityInternal_d00df 24 (i_cV X 125 1 1 6 27) := s_invokevirtualP hG (mi := 125) (n := 1) (ci := 1) (r := (RJ4, TJ4, 4)) rfl (cal_J5_newCapacity_0f7a4 (Nat.le_of_ble_eq_true rfl)) w_323 w_325 (z := ⟨"java/lang/AbstractStringBuilder", "isLatin1", "()Z"⟩) w_357 rfl w_324 dJ5_ensureCapacityInternal_d00df_24
theorem s_J5_ensureCapacityInternal_d00df_27 {X : ev_E} {l : Launch} (hG : ev_Good X) (hl : l.stackTraces = false) : ev_Snd X l ev_ms x_J5_ensureCapacityInternal_d00df tx_J5_ensureCapacityInternal_d00df 27 (i_al 0 28) := s_aload_n dJ5_ensureCapacityInternal_d00df_27 rfl
theorem s_J5_ensureCapacityInternal_d00df_28 {X : ev_E} {l : Launch} (hG : ev_Good X) (hl : l.stackTraces = false) : ev_Snd X l ev_ms x_J5_ensureCapacityInternal_d00df tx_J5_ensureCapacityInternal_d00df 28 (i_gf X 1 1 31) := s_getfield hG (ci := 1) (r := (RJ4, TJ4, 4)) rfl cw_1 (k := 1) (Nat.le_of_ble_eq_true rfl) w_299 rfl (Or.inl rfl) dJ5_ensureCapacityInternal_d00df_28
theorem s_J5_ensureCapacityInternal_d00df_31 {X : ev_E} {l : Launch} (hG : ev_Good X) (hl : l.stackTraces = false) : ev_Snd X l ev_ms x_J5_ensureCapacityInternal_d00df tx_J5_ensureCapacityInternal_d00df 31 (i_ii (fun a b => a <<< (b &&& 31)) 32) := s_ishl dJ5_ensureCapacityInternal_d00df_31
theorem s_J5_ensureCapacityInternal_d00df_32 {X : ev_E} {l : Launch} (hG : ev_Good X) (hl : l.stackTraces = false) : ev_Snd X l ev_ms x_J5_ensureCapacityInternal_d00df tx_J5_ensureCapacityInternal_d00df 32 (i_cS 84 2 3 35) := s_invokestatic hG (mi := 84) (n := 2) (cal_J7_copyOf_9075b (Nat.le_of_ble_eq_true rfl)) w_338 w_339 dJ5_ensureCapacityInternal_d00df_32
theorem s_J5_ensureCapacityInternal_d00df_35 {X : ev_E} {l : Launch} (hG : ev_Good X) (hl : l.stackTraces = false) : ev_Snd X l ev_ms x_J5_ensureCapacityInternal_d00df tx_J5_ensureCapacityInternal_d00df 35 (i_pf 1 0 (.array (.byte)) 38) := s_putfield hG (ci := 1) (r := (RJ4, TJ4, 4)) rfl cw_1 ap_1 (k := 0) (Nat.le_of_ble_eq_true rfl) rfl (by decide +kernel) w_298 rfl (Or.inl rfl) dJ5_ensureCapacityInternal_d00df_35
theorem s_J5_ensureCapacityInternal_d00df_38 {X : ev_E} {l : Launch} (hG : ev_Good X) (hl : l.stackTraces = false) : ev_Snd X l ev_ms x_J5_ensureCapacityInternal_d00df tx_J5_ensureCapacityInternal_d00df 38 (i_vr) := s_return rfl dJ5_ensureCapacityInternal_d00df_38
theorem sa_J5_ensureCapacityInternal_d00df {X : ev_E} {l : Launch} (hG : ev_Good X) (hl : l.stackTraces = false) : ∀ q ∈ tb_J5_ensureCapacityInternal_d00df X, ev_Snd X l ev_ms x_J5_ensureCapacityInternal_d00df tx_J5_ensureCapacityInternal_d00df q.1 q.2 := by
  intro q hq
  unfold tb_J5_ensureCapacityInternal_d00df at hq
  simp only [List.mem_cons, List.not_mem_nil, or_false] at hq
  rcases hq with rfl | rfl | rfl | rfl | rfl | rfl | rfl | rfl | rfl | rfl | rfl | rfl | rfl | rfl | rfl | rfl | rfl | rfl | rfl | rfl | rfl | rfl | rfl
  · exact s_J5_ensureCapacityInternal_d00df_0 hG hl
  · exact s_J5_ensureCapacityInternal_d00df_1 hG hl
  · exact s_J5_ensureCapacityInternal_d00df_4 hG hl
  · exact s_J5_ensureCapacityInternal_d00df_5 hG hl
  · exact s_J5_ensureCapacityInternal_d00df_6 hG hl
  · exact s_J5_ensureCapacityInternal_d00df_9 hG hl
  · exact s_J5_ensureCapacityInternal_d00df_10 hG hl
  · exact s_J5_ensureCapacityInternal_d00df_11 hG hl
  · exact s_J5_ensureCapacityInternal_d00df_12 hG hl
  · exact s_J5_ensureCapacityInternal_d00df_13 hG hl
  · exact s_J5_ensureCapacityInternal_d00df_14 hG hl
  · exact s_J5_ensureCapacityInternal_d00df_17 hG hl
  · exact s_J5_ensureCapacityInternal_d00df_18 hG hl
  · exact s_J5_ensureCapacityInternal_d00df_19 hG hl
  · exact s_J5_ensureCapacityInternal_d00df_22 hG hl
  · exact s_J5_ensureCapacityInternal_d00df_23 hG hl
  · exact s_J5_ensureCapacityInternal_d00df_24 hG hl
  · exact s_J5_ensureCapacityInternal_d00df_27 hG hl
  · exact s_J5_ensureCapacityInternal_d00df_28 hG hl
  · exact s_J5_ensureCapacityInternal_d00df_31 hG hl
  · exact s_J5_ensureCapacityInternal_d00df_32 hG hl
  · exact s_J5_ensureCapacityInternal_d00df_35 hG hl
  · exact s_J5_ensureCapacityInternal_d00df_38 hG hl
def tx_Jx4a65c_grow_92f84 : ev_X := fun _ _ => some none
noncomputable def tb_Jx4a65c_grow_92f84 (X : ev_E) : List (Nat × (ev_S → ev_N)) := [(0, i_al 0 1), (1, i_gf X 4 1 4), (4, i_len X 5), (5, i_is 2 6), (6, i_il 2 7), (7, i_ifgt 20 10), (10, i_al 0 11), (11, i_gf X 4 1 14), (14, i_psh (.ref (X.2.2.2.2.2 1)) 17), (17, i_aceq 45 20), (20, i_il 2 21), (21, i_il 1 22), (22, i_il 2 23), (23, i_ii (fun a b => a - b) 24), (24, i_il 2 25), (25, i_psh (.int (1)) 26), (26, i_ii (fun a b => a >>> (b &&& 31)) 27), (27, i_cS 85 3 4 30), (30, i_is 3 31), (31, i_al 0 32), (32, i_al 0 33), (33, i_gf X 4 1 36), (36, i_il 3 37), (37, i_cS 128 2 2 40), (40, i_dx1 41), (41, i_pf 4 1 (.array (.object "java/lang/Object")) 44), (44, i_ar), (45, i_al 0 46), (46, i_psh (.int (10)) 48), (48, i_il 1 49), (49, i_cS 16 2 2 52), (52, i_na 2 .null 55), (55, i_dx1 56), (56, i_pf 4 1 (.array (.object "java/lang/Object")) 59), (59, i_ar)]
theorem s_Jx4a65c_grow_92f84_0 {X : ev_E} {l : Launch} (hG : ev_Good X) (hl : l.stackTraces = false) : ev_Snd X l ev_ms x_Jx4a65c_grow_92f84 tx_Jx4a65c_grow_92f84 0 (i_al 0 1) := s_aload_n dJx4a65c_grow_92f84_0 rfl
theorem s_Jx4a65c_grow_92f84_1 {X : ev_E} {l : Launch} (hG : ev_Good X) (hl : l.stackTraces = false) : ev_Snd X l ev_ms x_Jx4a65c_grow_92f84 tx_Jx4a65c_grow_92f84 1 (i_gf X 4 1 4) := s_getfield hG (ci := 4) (r := (RJx4a65c, TJx4a65c, 3)) rfl cw_4 (k := 1) (Nat.le_of_ble_eq_true rfl) w_1206 rfl (Or.inl rfl) dJx4a65c_grow_92f84_1
theorem s_Jx4a65c_grow_92f84_4 {X : ev_E} {l : Launch} (hG : ev_Good X) (hl : l.stackTraces = false) : ev_Snd X l ev_ms x_Jx4a65c_grow_92f84 tx_Jx4a65c_grow_92f84 4 (i_len X 5) := s_arraylength hG dJx4a65c_grow_92f84_4
theorem s_Jx4a65c_grow_92f84_5 {X : ev_E} {l : Launch} (hG : ev_Good X) (hl : l.stackTraces = false) : ev_Snd X l ev_ms x_Jx4a65c_grow_92f84 tx_Jx4a65c_grow_92f84 5 (i_is 2 6) := s_istore_n dJx4a65c_grow_92f84_5 rfl (Nat.le_of_ble_eq_true rfl)
theorem s_Jx4a65c_grow_92f84_6 {X : ev_E} {l : Launch} (hG : ev_Good X) (hl : l.stackTraces = false) : ev_Snd X l ev_ms x_Jx4a65c_grow_92f84 tx_Jx4a65c_grow_92f84 6 (i_il 2 7) := s_iload_n dJx4a65c_grow_92f84_6 rfl
theorem s_Jx4a65c_grow_92f84_7 {X : ev_E} {l : Launch} (hG : ev_Good X) (hl : l.stackTraces = false) : ev_Snd X l ev_ms x_Jx4a65c_grow_92f84 tx_Jx4a65c_grow_92f84 7 (i_ifgt 20 10) := s_ifgt dJx4a65c_grow_92f84_7 rfl
theorem s_Jx4a65c_grow_92f84_10 {X : ev_E} {l : Launch} (hG : ev_Good X) (hl : l.stackTraces = false) : ev_Snd X l ev_ms x_Jx4a65c_grow_92f84 tx_Jx4a65c_grow_92f84 10 (i_al 0 11) := s_aload_n dJx4a65c_grow_92f84_10 rfl
theorem s_Jx4a65c_grow_92f84_11 {X : ev_E} {l : Launch} (hG : ev_Good X) (hl : l.stackTraces = false) : ev_Snd X l ev_ms x_Jx4a65c_grow_92f84 tx_Jx4a65c_grow_92f84 11 (i_gf X 4 1 14) := s_getfield hG (ci := 4) (r := (RJx4a65c, TJx4a65c, 3)) rfl cw_4 (k := 1) (Nat.le_of_ble_eq_true rfl) w_1206 rfl (Or.inl rfl) dJx4a65c_grow_92f84_11
theorem s_Jx4a65c_grow_92f84_14 {X : ev_E} {l : Launch} (hG : ev_Good X) (hl : l.stackTraces = false) : ev_Snd X l ev_ms x_Jx4a65c_grow_92f84 tx_Jx4a65c_grow_92f84 14 (i_psh (.ref (X.2.2.2.2.2 1)) 17) := s_getstatic hG (hG.2.2.2.2.2.2.2.2.2.2.2.2.1) rfl w_1204 dJx4a65c_grow_92f84_14
theorem s_Jx4a65c_grow_92f84_17 {X : ev_E} {l : Launch} (hG : ev_Good X) (hl : l.stackTraces = false) : ev_Snd X l ev_ms x_Jx4a65c_grow_92f84 tx_Jx4a65c_grow_92f84 17 (i_aceq 45 20) := s_aceq dJx4a65c_grow_92f84_17 rfl
theorem s_Jx4a65c_grow_92f84_20 {X : ev_E} {l : Launch} (hG : ev_Good X) (hl : l.stackTraces = false) : ev_Snd X l ev_ms x_Jx4a65c_grow_92f84 tx_Jx4a65c_grow_92f84 20 (i_il 2 21) := s_iload_n dJx4a65c_grow_92f84_20 rfl
theorem s_Jx4a65c_grow_92f84_21 {X : ev_E} {l : Launch} (hG : ev_Good X) (hl : l.stackTraces = false) : ev_Snd X l ev_ms x_Jx4a65c_grow_92f84 tx_Jx4a65c_grow_92f84 21 (i_il 1 22) := s_iload_n dJx4a65c_grow_92f84_21 rfl
theorem s_Jx4a65c_grow_92f84_22 {X : ev_E} {l : Launch} (hG : ev_Good X) (hl : l.stackTraces = false) : ev_Snd X l ev_ms x_Jx4a65c_grow_92f84 tx_Jx4a65c_grow_92f84 22 (i_il 2 23) := s_iload_n dJx4a65c_grow_92f84_22 rfl
theorem s_Jx4a65c_grow_92f84_23 {X : ev_E} {l : Launch} (hG : ev_Good X) (hl : l.stackTraces = false) : ev_Snd X l ev_ms x_Jx4a65c_grow_92f84 tx_Jx4a65c_grow_92f84 23 (i_ii (fun a b => a - b) 24) := s_isub dJx4a65c_grow_92f84_23
theorem s_Jx4a65c_grow_92f84_24 {X : ev_E} {l : Launch} (hG : ev_Good X) (hl : l.stackTraces = false) : ev_Snd X l ev_ms x_Jx4a65c_grow_92f84 tx_Jx4a65c_grow_92f84 24 (i_il 2 25) := s_iload_n dJx4a65c_grow_92f84_24 rfl
theorem s_Jx4a65c_grow_92f84_25 {X : ev_E} {l : Launch} (hG : ev_Good X) (hl : l.stackTraces = false) : ev_Snd X l ev_ms x_Jx4a65c_grow_92f84 tx_Jx4a65c_grow_92f84 25 (i_psh (.int (1)) 26) := s_iconst dJx4a65c_grow_92f84_25 rfl
theorem s_Jx4a65c_grow_92f84_26 {X : ev_E} {l : Launch} (hG : ev_Good X) (hl : l.stackTraces = false) : ev_Snd X l ev_ms x_Jx4a65c_grow_92f84 tx_Jx4a65c_grow_92f84 26 (i_ii (fun a b => a >>> (b &&& 31)) 27) := s_ishr dJx4a65c_grow_92f84_26
theorem s_Jx4a65c_grow_92f84_27 {X : ev_E} {l : Launch} (hG : ev_Good X) (hl : l.stackTraces = false) : ev_Snd X l ev_ms x_Jx4a65c_grow_92f84 tx_Jx4a65c_grow_92f84 27 (i_cS 85 3 4 30) := s_invokestatic hG (mi := 85) (n := 3) (cal_J8_newLength_cabcc (Nat.le_of_ble_eq_true rfl)) w_1359 w_328 dJx4a65c_grow_92f84_27
theorem s_Jx4a65c_grow_92f84_30 {X : ev_E} {l : Launch} (hG : ev_Good X) (hl : l.stackTraces = false) : ev_Snd X l ev_ms x_Jx4a65c_grow_92f84 tx_Jx4a65c_grow_92f84 30 (i_is 3 31) := s_istore_n dJx4a65c_grow_92f84_30 rfl (Nat.le_of_ble_eq_true rfl)
theorem s_Jx4a65c_grow_92f84_31 {X : ev_E} {l : Launch} (hG : ev_Good X) (hl : l.stackTraces = false) : ev_Snd X l ev_ms x_Jx4a65c_grow_92f84 tx_Jx4a65c_grow_92f84 31 (i_al 0 32) := s_aload_n dJx4a65c_grow_92f84_31 rfl
theorem s_Jx4a65c_grow_92f84_32 {X : ev_E} {l : Launch} (hG : ev_Good X) (hl : l.stackTraces = false) : ev_Snd X l ev_ms x_Jx4a65c_grow_92f84 tx_Jx4a65c_grow_92f84 32 (i_al 0 33) := s_aload_n dJx4a65c_grow_92f84_32 rfl
theorem s_Jx4a65c_grow_92f84_33 {X : ev_E} {l : Launch} (hG : ev_Good X) (hl : l.stackTraces = false) : ev_Snd X l ev_ms x_Jx4a65c_grow_92f84 tx_Jx4a65c_grow_92f84 33 (i_gf X 4 1 36) := s_getfield hG (ci := 4) (r := (RJx4a65c, TJx4a65c, 3)) rfl cw_4 (k := 1) (Nat.le_of_ble_eq_true rfl) w_1206 rfl (Or.inl rfl) dJx4a65c_grow_92f84_33
theorem s_Jx4a65c_grow_92f84_36 {X : ev_E} {l : Launch} (hG : ev_Good X) (hl : l.stackTraces = false) : ev_Snd X l ev_ms x_Jx4a65c_grow_92f84 tx_Jx4a65c_grow_92f84 36 (i_il 3 37) := s_iload_n dJx4a65c_grow_92f84_36 rfl
theorem s_Jx4a65c_grow_92f84_37 {X : ev_E} {l : Launch} (hG : ev_Good X) (hl : l.stackTraces = false) : ev_Snd X l ev_ms x_Jx4a65c_grow_92f84 tx_Jx4a65c_grow_92f84 37 (i_cS 128 2 2 40) := s_invokestatic hG (mi := 128) (n := 2) (cal_J7_copyOf_1904c (Nat.le_of_ble_eq_true rfl)) w_1360 w_1361 dJx4a65c_grow_92f84_37
theorem s_Jx4a65c_grow_92f84_40 {X : ev_E} {l : Launch} (hG : ev_Good X) (hl : l.stackTraces = false) : ev_Snd X l ev_ms x_Jx4a65c_grow_92f84 tx_Jx4a65c_grow_92f84 40 (i_dx1 41) := s_dup_x1 dJx4a65c_grow_92f84_40
theorem s_Jx4a65c_grow_92f84_41 {X : ev_E} {l : Launch} (hG : ev_Good X) (hl : l.stackTraces = false) : ev_Snd X l ev_ms x_Jx4a65c_grow_92f84 tx_Jx4a65c_grow_92f84 41 (i_pf 4 1 (.array (.object "java/lang/Object")) 44) := s_putfield hG (ci := 4) (r := (RJx4a65c, TJx4a65c, 3)) rfl cw_4 ap_4 (k := 1) (Nat.le_of_ble_eq_true rfl) rfl (by decide +kernel) w_1206 rfl (Or.inl rfl) dJx4a65c_grow_92f84_41
theorem s_Jx4a65c_grow_92f84_44 {X : ev_E} {l : Launch} (hG : ev_Good X) (hl : l.stackTraces = false) : ev_Snd X l ev_ms x_Jx4a65c_grow_92f84 tx_Jx4a65c_grow_92f84 44 (i_ar) := s_areturn (rt := (.array (.object "java/lang/Object"))) rfl (by first | exact Or.inl ⟨_, rfl⟩ | exact Or.inr ⟨_, rfl⟩) dJx4a65c_grow_92f84_44
theorem s_Jx4a65c_grow_92f84_45 {X : ev_E} {l : Launch} (hG : ev_Good X) (hl : l.stackTraces = false) : ev_Snd X l ev_ms x_Jx4a65c_grow_92f84 tx_Jx4a65c_grow_92f84 45 (i_al 0 46) := s_aload_n dJx4a65c_grow_92f84_45 rfl
theorem s_Jx4a65c_grow_92f84_46 {X : ev_E} {l : Launch} (hG : ev_Good X) (hl : l.stackTraces = false) : ev_Snd X l ev_ms x_Jx4a65c_grow_92f84 tx_Jx4a65c_grow_92f84 46 (i_psh (.int (10)) 48) := s_bipush dJx4a65c_grow_92f84_46 rfl
theorem s_Jx4a65c_grow_92f84_48 {X : ev_E} {l : Launch} (hG : ev_Good X) (hl : l.stackTraces = false) : ev_Snd X l ev_ms x_Jx4a65c_grow_92f84 tx_Jx4a65c_grow_92f84 48 (i_il 1 49) := s_iload_n dJx4a65c_grow_92f84_48 rfl
theorem s_Jx4a65c_grow_92f84_49 {X : ev_E} {l : Launch} (hG : ev_Good X) (hl : l.stackTraces = false) : ev_Snd X l ev_ms x_Jx4a65c_grow_92f84 tx_Jx4a65c_grow_92f84 49 (i_cS 16 2 2 52) := s_invokestatic hG (mi := 16) (n := 2) (cal_J9_max_7cf53 (Nat.le_of_ble_eq_true rfl)) w_1390 w_331 dJx4a65c_grow_92f84_49
theorem s_Jx4a65c_grow_92f84_52 {X : ev_E} {l : Launch} (hG : ev_Good X) (hl : l.stackTraces = false) : ev_Snd X l ev_ms x_Jx4a65c_grow_92f84 tx_Jx4a65c_grow_92f84 52 (i_na 2 .null 55) := s_anewarray hG (kd := 2) (Nat.le_of_ble_eq_true rfl) rfl dJx4a65c_grow_92f84_52 w_1391 rfl w_1388
theorem s_Jx4a65c_grow_92f84_55 {X : ev_E} {l : Launch} (hG : ev_Good X) (hl : l.stackTraces = false) : ev_Snd X l ev_ms x_Jx4a65c_grow_92f84 tx_Jx4a65c_grow_92f84 55 (i_dx1 56) := s_dup_x1 dJx4a65c_grow_92f84_55
theorem s_Jx4a65c_grow_92f84_56 {X : ev_E} {l : Launch} (hG : ev_Good X) (hl : l.stackTraces = false) : ev_Snd X l ev_ms x_Jx4a65c_grow_92f84 tx_Jx4a65c_grow_92f84 56 (i_pf 4 1 (.array (.object "java/lang/Object")) 59) := s_putfield hG (ci := 4) (r := (RJx4a65c, TJx4a65c, 3)) rfl cw_4 ap_4 (k := 1) (Nat.le_of_ble_eq_true rfl) rfl (by decide +kernel) w_1206 rfl (Or.inl rfl) dJx4a65c_grow_92f84_56
theorem s_Jx4a65c_grow_92f84_59 {X : ev_E} {l : Launch} (hG : ev_Good X) (hl : l.stackTraces = false) : ev_Snd X l ev_ms x_Jx4a65c_grow_92f84 tx_Jx4a65c_grow_92f84 59 (i_ar) := s_areturn (rt := (.array (.object "java/lang/Object"))) rfl (by first | exact Or.inl ⟨_, rfl⟩ | exact Or.inr ⟨_, rfl⟩) dJx4a65c_grow_92f84_59
theorem sa_Jx4a65c_grow_92f84 {X : ev_E} {l : Launch} (hG : ev_Good X) (hl : l.stackTraces = false) : ∀ q ∈ tb_Jx4a65c_grow_92f84 X, ev_Snd X l ev_ms x_Jx4a65c_grow_92f84 tx_Jx4a65c_grow_92f84 q.1 q.2 := by
  intro q hq
  unfold tb_Jx4a65c_grow_92f84 at hq
  simp only [List.mem_cons, List.not_mem_nil, or_false] at hq
  rcases hq with rfl | rfl | rfl | rfl | rfl | rfl | rfl | rfl | rfl | rfl | rfl | rfl | rfl | rfl | rfl | rfl | rfl | rfl | rfl | rfl | rfl | rfl | rfl | rfl | rfl | rfl | rfl | rfl | rfl | rfl | rfl | rfl | rfl | rfl | rfl
  · exact s_Jx4a65c_grow_92f84_0 hG hl
  · exact s_Jx4a65c_grow_92f84_1 hG hl
  · exact s_Jx4a65c_grow_92f84_4 hG hl
  · exact s_Jx4a65c_grow_92f84_5 hG hl
  · exact s_Jx4a65c_grow_92f84_6 hG hl
  · exact s_Jx4a65c_grow_92f84_7 hG hl
  · exact s_Jx4a65c_grow_92f84_10 hG hl
  · exact s_Jx4a65c_grow_92f84_11 hG hl
  · exact s_Jx4a65c_grow_92f84_14 hG hl
  · exact s_Jx4a65c_grow_92f84_17 hG hl
  · exact s_Jx4a65c_grow_92f84_20 hG hl
  · exact s_Jx4a65c_grow_92f84_21 hG hl
  · exact s_Jx4a65c_grow_92f84_22 hG hl
  · exact s_Jx4a65c_grow_92f84_23 hG hl
  · exact s_Jx4a65c_grow_92f84_24 hG hl
  · exact s_Jx4a65c_grow_92f84_25 hG hl
  · exact s_Jx4a65c_grow_92f84_26 hG hl
  · exact s_Jx4a65c_grow_92f84_27 hG hl
  · exact s_Jx4a65c_grow_92f84_30 hG hl
  · exact s_Jx4a65c_grow_92f84_31 hG hl
  · exact s_Jx4a65c_grow_92f84_32 hG hl
  · exact s_Jx4a65c_grow_92f84_33 hG hl
  · exact s_Jx4a65c_grow_92f84_36 hG hl
  · exact s_Jx4a65c_grow_92f84_37 hG hl
  · exact s_Jx4a65c_grow_92f84_40 hG hl
  · exact s_Jx4a65c_grow_92f84_41 hG hl
  · exact s_Jx4a65c_grow_92f84_44 hG hl
  · exact s_Jx4a65c_grow_92f84_45 hG hl
  · exact s_Jx4a65c_grow_92f84_46 hG hl
  · exact s_Jx4a65c_grow_92f84_48 hG hl
  · exact s_Jx4a65c_grow_92f84_49 hG hl
  · exact s_Jx4a65c_grow_92f84_52 hG hl
  · exact s_Jx4a65c_grow_92f84_55 hG hl
  · exact s_Jx4a65c_grow_92f84_56 hG hl
  · exact s_Jx4a65c_grow_92f84_59 hG hl
def tx_J1_inflate_0e8fd : ev_X := fun _ _ => some none
noncomputable def tb_J1_inflate_0e8fd (X : ev_E) : List (Nat × (ev_S → ev_N)) := [(0, i_al 0 1), (1, i_il 1 2), (2, i_al 2 3), (3, i_il 3 4), (4, i_il 4 6), (6, i_cS 174 5 6 9), (9, i_vr)]
theorem s_J1_inflate_0e8fd_0 {X : ev_E} {l : Launch} (hG : ev_Good X) (hl : l.stackTraces = false) : ev_Snd X l ev_ms x_J1_inflate_0e8fd tx_J1_inflate_0e8fd 0 (i_al 0 1) := s_aload_n dJ1_inflate_0e8fd_0 rfl
theorem s_J1_inflate_0e8fd_1 {X : ev_E} {l : Launch} (hG : ev_Good X) (hl : l.stackTraces = false) : ev_Snd X l ev_ms x_J1_inflate_0e8fd tx_J1_inflate_0e8fd 1 (i_il 1 2) := s_iload_n dJ1_inflate_0e8fd_1 rfl
theorem s_J1_inflate_0e8fd_2 {X : ev_E} {l : Launch} (hG : ev_Good X) (hl : l.stackTraces = false) : ev_Snd X l ev_ms x_J1_inflate_0e8fd tx_J1_inflate_0e8fd 2 (i_al 2 3) := s_aload_n dJ1_inflate_0e8fd_2 rfl
theorem s_J1_inflate_0e8fd_3 {X : ev_E} {l : Launch} (hG : ev_Good X) (hl : l.stackTraces = false) : ev_Snd X l ev_ms x_J1_inflate_0e8fd tx_J1_inflate_0e8fd 3 (i_il 3 4) := s_iload_n dJ1_inflate_0e8fd_3 rfl
theorem s_J1_inflate_0e8fd_4 {X : ev_E} {l : Launch} (hG : ev_Good X) (hl : l.stackTraces = false) : ev_Snd X l ev_ms x_J1_inflate_0e8fd tx_J1_inflate_0e8fd 4 (i_il 4 6) := s_iload dJ1_inflate_0e8fd_4
theorem s_J1_inflate_0e8fd_6 {X : ev_E} {l : Launch} (hG : ev_Good X) (hl : l.stackTraces = false) : ev_Snd X l ev_ms x_J1_inflate_0e8fd tx_J1_inflate_0e8fd 6 (i_cS 174 5 6 9) := s_invokestatic hG (mi := 174) (n := 5) (cal_J2_inflate_0e8fd (Nat.le_of_ble_eq_true rfl)) w_369 w_370 dJ1_inflate_0e8fd_6
theorem s_J1_inflate_0e8fd_9 {X : ev_E} {l : Launch} (hG : ev_Good X) (hl : l.stackTraces = false) : ev_Snd X l ev_ms x_J1_inflate_0e8fd tx_J1_inflate_0e8fd 9 (i_vr) := s_return rfl dJ1_inflate_0e8fd_9
theorem sa_J1_inflate_0e8fd {X : ev_E} {l : Launch} (hG : ev_Good X) (hl : l.stackTraces = false) : ∀ q ∈ tb_J1_inflate_0e8fd X, ev_Snd X l ev_ms x_J1_inflate_0e8fd tx_J1_inflate_0e8fd q.1 q.2 := by
  intro q hq
  unfold tb_J1_inflate_0e8fd at hq
  simp only [List.mem_cons, List.not_mem_nil, or_false] at hq
  rcases hq with rfl | rfl | rfl | rfl | rfl | rfl | rfl
  · exact s_J1_inflate_0e8fd_0 hG hl
  · exact s_J1_inflate_0e8fd_1 hG hl
  · exact s_J1_inflate_0e8fd_2 hG hl
  · exact s_J1_inflate_0e8fd_3 hG hl
  · exact s_J1_inflate_0e8fd_4 hG hl
  · exact s_J1_inflate_0e8fd_6 hG hl
  · exact s_J1_inflate_0e8fd_9 hG hl
def tx_J2_compress_39247 : ev_X := fun _ _ => some none
noncomputable def tb_J2_compress_39247 (X : ev_E) : List (Nat × (ev_S → ev_N)) := [(0, i_il 2 1), (1, i_na 1 (.int 0) 3), (3, i_as 3 4), (4, i_al 0 5), (5, i_il 1 6), (6, i_al 3 7), (7, i_psh (.int (0)) 8), (8, i_il 2 9), (9, i_cS 172 5 7 12), (12, i_is 4 14), (14, i_il 4 16), (16, i_il 2 17), (17, i_iceq 64 20), (20, i_al 0 21), (21, i_il 1 22), (22, i_psh (.int (1)) 23), (23, i_ii (fun a b => a <<< (b &&& 31)) 24), (24, i_il 1 25), (25, i_il 2 26), (26, i_ii (fun a b => a + b) 27), (27, i_cS 4 1 1 30), (30, i_cS 127 3 3 33), (33, i_as 5 35), (35, i_al 5 37), (37, i_il 4 39), (39, i_cS 77 2 2 42), (42, i_psh (.int (255)) 45), (45, i_icgt 61 48), (48, i_al 5 50), (50, i_psh (.int (0)) 51), (51, i_al 3 52), (52, i_psh (.int (0)) 53), (53, i_il 2 54), (54, i_cS 172 5 7 57), (57, i_il 2 58), (58, i_iceq 64 61), (61, i_al 5 63), (63, i_ar), (64, i_al 3 65), (65, i_ar)]
theorem s_J2_compress_39247_0 {X : ev_E} {l : Launch} (hG : ev_Good X) (hl : l.stackTraces = false) : ev_Snd X l ev_ms x_J2_compress_39247 tx_J2_compress_39247 0 (i_il 2 1) := s_iload_n dJ2_compress_39247_0 rfl
theorem s_J2_compress_39247_1 {X : ev_E} {l : Launch} (hG : ev_Good X) (hl : l.stackTraces = false) : ev_Snd X l ev_ms x_J2_compress_39247 tx_J2_compress_39247 1 (i_na 1 (.int 0) 3) := s_newarray hG (kd := 1) (at' := .byte) (Nat.le_of_ble_eq_true rfl) rfl (by decide) rfl dJ2_compress_39247_1 w_311
theorem s_J2_compress_39247_3 {X : ev_E} {l : Launch} (hG : ev_Good X) (hl : l.stackTraces = false) : ev_Snd X l ev_ms x_J2_compress_39247 tx_J2_compress_39247 3 (i_as 3 4) := s_astore_n dJ2_compress_39247_3 rfl (Nat.le_of_ble_eq_true rfl)
theorem s_J2_compress_39247_4 {X : ev_E} {l : Launch} (hG : ev_Good X) (hl : l.stackTraces = false) : ev_Snd X l ev_ms x_J2_compress_39247 tx_J2_compress_39247 4 (i_al 0 5) := s_aload_n dJ2_compress_39247_4 rfl
theorem s_J2_compress_39247_5 {X : ev_E} {l : Launch} (hG : ev_Good X) (hl : l.stackTraces = false) : ev_Snd X l ev_ms x_J2_compress_39247 tx_J2_compress_39247 5 (i_il 1 6) := s_iload_n dJ2_compress_39247_5 rfl
theorem s_J2_compress_39247_6 {X : ev_E} {l : Launch} (hG : ev_Good X) (hl : l.stackTraces = false) : ev_Snd X l ev_ms x_J2_compress_39247 tx_J2_compress_39247 6 (i_al 3 7) := s_aload_n dJ2_compress_39247_6 rfl
theorem s_J2_compress_39247_7 {X : ev_E} {l : Launch} (hG : ev_Good X) (hl : l.stackTraces = false) : ev_Snd X l ev_ms x_J2_compress_39247 tx_J2_compress_39247 7 (i_psh (.int (0)) 8) := s_iconst dJ2_compress_39247_7 rfl
theorem s_J2_compress_39247_8 {X : ev_E} {l : Launch} (hG : ev_Good X) (hl : l.stackTraces = false) : ev_Snd X l ev_ms x_J2_compress_39247 tx_J2_compress_39247 8 (i_il 2 9) := s_iload_n dJ2_compress_39247_8 rfl
theorem s_J2_compress_39247_9 {X : ev_E} {l : Launch} (hG : ev_Good X) (hl : l.stackTraces = false) : ev_Snd X l ev_ms x_J2_compress_39247 tx_J2_compress_39247 9 (i_cS 172 5 7 12) := s_invokestatic hG (mi := 172) (n := 5) (cal_J2_compress_5af95 (Nat.le_of_ble_eq_true rfl)) w_589 w_590 dJ2_compress_39247_9
theorem s_J2_compress_39247_12 {X : ev_E} {l : Launch} (hG : ev_Good X) (hl : l.stackTraces = false) : ev_Snd X l ev_ms x_J2_compress_39247 tx_J2_compress_39247 12 (i_is 4 14) := s_istore dJ2_compress_39247_12 (Nat.le_of_ble_eq_true rfl)
theorem s_J2_compress_39247_14 {X : ev_E} {l : Launch} (hG : ev_Good X) (hl : l.stackTraces = false) : ev_Snd X l ev_ms x_J2_compress_39247 tx_J2_compress_39247 14 (i_il 4 16) := s_iload dJ2_compress_39247_14
theorem s_J2_compress_39247_16 {X : ev_E} {l : Launch} (hG : ev_Good X) (hl : l.stackTraces = false) : ev_Snd X l ev_ms x_J2_compress_39247 tx_J2_compress_39247 16 (i_il 2 17) := s_iload_n dJ2_compress_39247_16 rfl
theorem s_J2_compress_39247_17 {X : ev_E} {l : Launch} (hG : ev_Good X) (hl : l.stackTraces = false) : ev_Snd X l ev_ms x_J2_compress_39247 tx_J2_compress_39247 17 (i_iceq 64 20) := s_iceq dJ2_compress_39247_17 rfl
theorem s_J2_compress_39247_20 {X : ev_E} {l : Launch} (hG : ev_Good X) (hl : l.stackTraces = false) : ev_Snd X l ev_ms x_J2_compress_39247 tx_J2_compress_39247 20 (i_al 0 21) := s_aload_n dJ2_compress_39247_20 rfl
theorem s_J2_compress_39247_21 {X : ev_E} {l : Launch} (hG : ev_Good X) (hl : l.stackTraces = false) : ev_Snd X l ev_ms x_J2_compress_39247 tx_J2_compress_39247 21 (i_il 1 22) := s_iload_n dJ2_compress_39247_21 rfl
theorem s_J2_compress_39247_22 {X : ev_E} {l : Launch} (hG : ev_Good X) (hl : l.stackTraces = false) : ev_Snd X l ev_ms x_J2_compress_39247 tx_J2_compress_39247 22 (i_psh (.int (1)) 23) := s_iconst dJ2_compress_39247_22 rfl
theorem s_J2_compress_39247_23 {X : ev_E} {l : Launch} (hG : ev_Good X) (hl : l.stackTraces = false) : ev_Snd X l ev_ms x_J2_compress_39247 tx_J2_compress_39247 23 (i_ii (fun a b => a <<< (b &&& 31)) 24) := s_ishl dJ2_compress_39247_23
theorem s_J2_compress_39247_24 {X : ev_E} {l : Launch} (hG : ev_Good X) (hl : l.stackTraces = false) : ev_Snd X l ev_ms x_J2_compress_39247 tx_J2_compress_39247 24 (i_il 1 25) := s_iload_n dJ2_compress_39247_24 rfl
theorem s_J2_compress_39247_25 {X : ev_E} {l : Launch} (hG : ev_Good X) (hl : l.stackTraces = false) : ev_Snd X l ev_ms x_J2_compress_39247 tx_J2_compress_39247 25 (i_il 2 26) := s_iload_n dJ2_compress_39247_25 rfl
theorem s_J2_compress_39247_26 {X : ev_E} {l : Launch} (hG : ev_Good X) (hl : l.stackTraces = false) : ev_Snd X l ev_ms x_J2_compress_39247 tx_J2_compress_39247 26 (i_ii (fun a b => a + b) 27) := s_iadd dJ2_compress_39247_26
theorem s_J2_compress_39247_27 {X : ev_E} {l : Launch} (hG : ev_Good X) (hl : l.stackTraces = false) : ev_Snd X l ev_ms x_J2_compress_39247 tx_J2_compress_39247 27 (i_cS 4 1 1 30) := s_invokestatic hG (mi := 4) (n := 1) (cal_J2_newBytesLength_0f7a4 (Nat.le_of_ble_eq_true rfl)) w_294 w_295 dJ2_compress_39247_27
theorem s_J2_compress_39247_30 {X : ev_E} {l : Launch} (hG : ev_Good X) (hl : l.stackTraces = false) : ev_Snd X l ev_ms x_J2_compress_39247 tx_J2_compress_39247 30 (i_cS 127 3 3 33) := s_invokestatic hG (mi := 127) (n := 3) (cal_J7_copyOfRange_39247 (Nat.le_of_ble_eq_true rfl)) w_595 w_469 dJ2_compress_39247_30
theorem s_J2_compress_39247_33 {X : ev_E} {l : Launch} (hG : ev_Good X) (hl : l.stackTraces = false) : ev_Snd X l ev_ms x_J2_compress_39247 tx_J2_compress_39247 33 (i_as 5 35) := s_astore dJ2_compress_39247_33 (Nat.le_of_ble_eq_true rfl)
theorem s_J2_compress_39247_35 {X : ev_E} {l : Launch} (hG : ev_Good X) (hl : l.stackTraces = false) : ev_Snd X l ev_ms x_J2_compress_39247 tx_J2_compress_39247 35 (i_al 5 37) := s_aload dJ2_compress_39247_35
theorem s_J2_compress_39247_37 {X : ev_E} {l : Launch} (hG : ev_Good X) (hl : l.stackTraces = false) : ev_Snd X l ev_ms x_J2_compress_39247 tx_J2_compress_39247 37 (i_il 4 39) := s_iload dJ2_compress_39247_37
theorem s_J2_compress_39247_39 {X : ev_E} {l : Launch} (hG : ev_Good X) (hl : l.stackTraces = false) : ev_Snd X l ev_ms x_J2_compress_39247 tx_J2_compress_39247 39 (i_cS 77 2 2 42) := s_invokestatic hG (mi := 77) (n := 2) (cal_J2_getChar_3b067 (Nat.le_of_ble_eq_true rfl)) w_592 w_593 dJ2_compress_39247_39
theorem s_J2_compress_39247_42 {X : ev_E} {l : Launch} (hG : ev_Good X) (hl : l.stackTraces = false) : ev_Snd X l ev_ms x_J2_compress_39247 tx_J2_compress_39247 42 (i_psh (.int (255)) 45) := s_sipush dJ2_compress_39247_42 rfl
theorem s_J2_compress_39247_45 {X : ev_E} {l : Launch} (hG : ev_Good X) (hl : l.stackTraces = false) : ev_Snd X l ev_ms x_J2_compress_39247 tx_J2_compress_39247 45 (i_icgt 61 48) := s_icgt dJ2_compress_39247_45 rfl
theorem s_J2_compress_39247_48 {X : ev_E} {l : Launch} (hG : ev_Good X) (hl : l.stackTraces = false) : ev_Snd X l ev_ms x_J2_compress_39247 tx_J2_compress_39247 48 (i_al 5 50) := s_aload dJ2_compress_39247_48
theorem s_J2_compress_39247_50 {X : ev_E} {l : Launch} (hG : ev_Good X) (hl : l.stackTraces = false) : ev_Snd X l ev_ms x_J2_compress_39247 tx_J2_compress_39247 50 (i_psh (.int (0)) 51) := s_iconst dJ2_compress_39247_50 rfl
theorem s_J2_compress_39247_51 {X : ev_E} {l : Launch} (hG : ev_Good X) (hl : l.stackTraces = false) : ev_Snd X l ev_ms x_J2_compress_39247 tx_J2_compress_39247 51 (i_al 3 52) := s_aload_n dJ2_compress_39247_51 rfl
theorem s_J2_compress_39247_52 {X : ev_E} {l : Launch} (hG : ev_Good X) (hl : l.stackTraces = false) : ev_Snd X l ev_ms x_J2_compress_39247 tx_J2_compress_39247 52 (i_psh (.int (0)) 53) := s_iconst dJ2_compress_39247_52 rfl
theorem s_J2_compress_39247_53 {X : ev_E} {l : Launch} (hG : ev_Good X) (hl : l.stackTraces = false) : ev_Snd X l ev_ms x_J2_compress_39247 tx_J2_compress_39247 53 (i_il 2 54) := s_iload_n dJ2_compress_39247_53 rfl
theorem s_J2_compress_39247_54 {X : ev_E} {l : Launch} (hG : ev_Good X) (hl : l.stackTraces = false) : ev_Snd X l ev_ms x_J2_compress_39247 tx_J2_compress_39247 54 (i_cS 172 5 7 57) := s_invokestatic hG (mi := 172) (n := 5) (cal_J2_compress_5af95 (Nat.le_of_ble_eq_true rfl)) w_589 w_590 dJ2_compress_39247_54
theorem s_J2_compress_39247_57 {X : ev_E} {l : Launch} (hG : ev_Good X) (hl : l.stackTraces = false) : ev_Snd X l ev_ms x_J2_compress_39247 tx_J2_compress_39247 57 (i_il 2 58) := s_iload_n dJ2_compress_39247_57 rfl
theorem s_J2_compress_39247_58 {X : ev_E} {l : Launch} (hG : ev_Good X) (hl : l.stackTraces = false) : ev_Snd X l ev_ms x_J2_compress_39247 tx_J2_compress_39247 58 (i_iceq 64 61) := s_iceq dJ2_compress_39247_58 rfl
theorem s_J2_compress_39247_61 {X : ev_E} {l : Launch} (hG : ev_Good X) (hl : l.stackTraces = false) : ev_Snd X l ev_ms x_J2_compress_39247 tx_J2_compress_39247 61 (i_al 5 63) := s_aload dJ2_compress_39247_61
theorem s_J2_compress_39247_63 {X : ev_E} {l : Launch} (hG : ev_Good X) (hl : l.stackTraces = false) : ev_Snd X l ev_ms x_J2_compress_39247 tx_J2_compress_39247 63 (i_ar) := s_areturn (rt := (.array .byte)) rfl (by first | exact Or.inl ⟨_, rfl⟩ | exact Or.inr ⟨_, rfl⟩) dJ2_compress_39247_63
theorem s_J2_compress_39247_64 {X : ev_E} {l : Launch} (hG : ev_Good X) (hl : l.stackTraces = false) : ev_Snd X l ev_ms x_J2_compress_39247 tx_J2_compress_39247 64 (i_al 3 65) := s_aload_n dJ2_compress_39247_64 rfl
theorem s_J2_compress_39247_65 {X : ev_E} {l : Launch} (hG : ev_Good X) (hl : l.stackTraces = false) : ev_Snd X l ev_ms x_J2_compress_39247 tx_J2_compress_39247 65 (i_ar) := s_areturn (rt := (.array .byte)) rfl (by first | exact Or.inl ⟨_, rfl⟩ | exact Or.inr ⟨_, rfl⟩) dJ2_compress_39247_65
theorem sa_J2_compress_39247 {X : ev_E} {l : Launch} (hG : ev_Good X) (hl : l.stackTraces = false) : ∀ q ∈ tb_J2_compress_39247 X, ev_Snd X l ev_ms x_J2_compress_39247 tx_J2_compress_39247 q.1 q.2 := by
  intro q hq
  unfold tb_J2_compress_39247 at hq
  simp only [List.mem_cons, List.not_mem_nil, or_false] at hq
  rcases hq with rfl | rfl | rfl | rfl | rfl | rfl | rfl | rfl | rfl | rfl | rfl | rfl | rfl | rfl | rfl | rfl | rfl | rfl | rfl | rfl | rfl | rfl | rfl | rfl | rfl | rfl | rfl | rfl | rfl | rfl | rfl | rfl | rfl | rfl | rfl | rfl | rfl | rfl | rfl | rfl
  · exact s_J2_compress_39247_0 hG hl
  · exact s_J2_compress_39247_1 hG hl
  · exact s_J2_compress_39247_3 hG hl
  · exact s_J2_compress_39247_4 hG hl
  · exact s_J2_compress_39247_5 hG hl
  · exact s_J2_compress_39247_6 hG hl
  · exact s_J2_compress_39247_7 hG hl
  · exact s_J2_compress_39247_8 hG hl
  · exact s_J2_compress_39247_9 hG hl
  · exact s_J2_compress_39247_12 hG hl
  · exact s_J2_compress_39247_14 hG hl
  · exact s_J2_compress_39247_16 hG hl
  · exact s_J2_compress_39247_17 hG hl
  · exact s_J2_compress_39247_20 hG hl
  · exact s_J2_compress_39247_21 hG hl
  · exact s_J2_compress_39247_22 hG hl
  · exact s_J2_compress_39247_23 hG hl
  · exact s_J2_compress_39247_24 hG hl
  · exact s_J2_compress_39247_25 hG hl
  · exact s_J2_compress_39247_26 hG hl
  · exact s_J2_compress_39247_27 hG hl
  · exact s_J2_compress_39247_30 hG hl
  · exact s_J2_compress_39247_33 hG hl
  · exact s_J2_compress_39247_35 hG hl
  · exact s_J2_compress_39247_37 hG hl
  · exact s_J2_compress_39247_39 hG hl
  · exact s_J2_compress_39247_42 hG hl
  · exact s_J2_compress_39247_45 hG hl
  · exact s_J2_compress_39247_48 hG hl
  · exact s_J2_compress_39247_50 hG hl
  · exact s_J2_compress_39247_51 hG hl
  · exact s_J2_compress_39247_52 hG hl
  · exact s_J2_compress_39247_53 hG hl
  · exact s_J2_compress_39247_54 hG hl
  · exact s_J2_compress_39247_57 hG hl
  · exact s_J2_compress_39247_58 hG hl
  · exact s_J2_compress_39247_61 hG hl
  · exact s_J2_compress_39247_63 hG hl
  · exact s_J2_compress_39247_64 hG hl
  · exact s_J2_compress_39247_65 hG hl
def tx_J5_appendNull_278bc : ev_X := fun _ _ => some none
noncomputable def tb_J5_appendNull_278bc (X : ev_E) : List (Nat × (ev_S → ev_N)) := [(0, i_al 0 1), (1, i_al 0 2), (2, i_gf X 1 3 5), (5, i_psh (.int (4)) 6), (6, i_ii (fun a b => a + b) 7), (7, i_cV X 178 1 1 3 10), (10, i_al 0 11), (11, i_gf X 1 3 14), (14, i_is 1 15), (15, i_al 0 16), (16, i_gf X 1 0 19), (19, i_as 2 20), (20, i_al 0 21), (21, i_cV X 9 0 1 1 24), (24, i_ifeq 62 27), (27, i_al 2 28), (28, i_il 1 29), (29, i_inc 1 (1) 32), (32, i_psh (.int (110)) 34), (34, i_ast ev_tB (vp_nar .byte) 35), (35, i_al 2 36), (36, i_il 1 37), (37, i_inc 1 (1) 40), (40, i_psh (.int (117)) 42), (42, i_ast ev_tB (vp_nar .byte) 43), (43, i_al 2 44), (44, i_il 1 45), (45, i_inc 1 (1) 48), (48, i_psh (.int (108)) 50), (50, i_ast ev_tB (vp_nar .byte) 51), (51, i_al 2 52), (52, i_il 1 53), (53, i_inc 1 (1) 56), (56, i_psh (.int (108)) 58), (58, i_ast ev_tB (vp_nar .byte) 59), (59, i_goto 76), (62, i_al 2 63), (63, i_il 1 64), (64, i_psh (.int (110)) 66), (66, i_psh (.int (117)) 68), (68, i_psh (.int (108)) 70), (70, i_psh (.int (108)) 72), (72, i_cS 176 6 7 75), (75, i_is 1 76), (76, i_al 0 77), (77, i_il 1 78), (78, i_pf 1 3 (.int) 81), (81, i_al 0 82), (82, i_ar)]
theorem s_J5_appendNull_278bc_0 {X : ev_E} {l : Launch} (hG : ev_Good X) (hl : l.stackTraces = false) : ev_Snd X l ev_ms x_J5_appendNull_278bc tx_J5_appendNull_278bc 0 (i_al 0 1) := s_aload_n dJ5_appendNull_278bc_0 rfl
theorem s_J5_appendNull_278bc_1 {X : ev_E} {l : Launch} (hG : ev_Good X) (hl : l.stackTraces = false) : ev_Snd X l ev_ms x_J5_appendNull_278bc tx_J5_appendNull_278bc 1 (i_al 0 2) := s_aload_n dJ5_appendNull_278bc_1 rfl
theorem s_J5_appendNull_278bc_2 {X : ev_E} {l : Launch} (hG : ev_Good X) (hl : l.stackTraces = false) : ev_Snd X l ev_ms x_J5_appendNull_278bc tx_J5_appendNull_278bc 2 (i_gf X 1 3 5) := s_getfield hG (ci := 1) (r := (RJ4, TJ4, 4)) rfl cw_1 (k := 3) (Nat.le_of_ble_eq_true rfl) w_301 rfl (Or.inl rfl) dJ5_appendNull_278bc_2
theorem s_J5_appendNull_278bc_5 {X : ev_E} {l : Launch} (hG : ev_Good X) (hl : l.stackTraces = false) : ev_Snd X l ev_ms x_J5_appendNull_278bc tx_J5_appendNull_278bc 5 (i_psh (.int (4)) 6) := s_iconst dJ5_appendNull_278bc_5 rfl
theorem s_J5_appendNull_278bc_6 {X : ev_E} {l : Launch} (hG : ev_Good X) (hl : l.stackTraces = false) : ev_Snd X l ev_ms x_J5_appendNull_278bc tx_J5_appendNull_278bc 6 (i_ii (fun a b => a + b) 7) := s_iadd dJ5_appendNull_278bc_6
theorem s_J5_appendNull_278bc_7 {X : ev_E} {l : Launch} (hG : ev_Good X) (hl : l.stackTraces = false) : ev_Snd X l ev_ms x_J5_appendNull_278bc tx_J5_appendNull_278bc 7 (i_cV X 178 1 1 3 10) := s_invokevirtualP hG (mi := 178) (n := 1) (ci := 1) (r := (RJ4, TJ4, 4)) rfl (cal_J5_ensureCapacityInternal_d00df (Nat.le_of_ble_eq_true rfl)) w_319 w_321 (z := ⟨"java/lang/AbstractStringBuilder", "isLatin1", "()Z"⟩) w_357 rfl w_320 dJ5_appendNull_278bc_7
theorem s_J5_appendNull_278bc_10 {X : ev_E} {l : Launch} (hG : ev_Good X) (hl : l.stackTraces = false) : ev_Snd X l ev_ms x_J5_appendNull_278bc tx_J5_appendNull_278bc 10 (i_al 0 11) := s_aload_n dJ5_appendNull_278bc_10 rfl
theorem s_J5_appendNull_278bc_11 {X : ev_E} {l : Launch} (hG : ev_Good X) (hl : l.stackTraces = false) : ev_Snd X l ev_ms x_J5_appendNull_278bc tx_J5_appendNull_278bc 11 (i_gf X 1 3 14) := s_getfield hG (ci := 1) (r := (RJ4, TJ4, 4)) rfl cw_1 (k := 3) (Nat.le_of_ble_eq_true rfl) w_301 rfl (Or.inl rfl) dJ5_appendNull_278bc_11
theorem s_J5_appendNull_278bc_14 {X : ev_E} {l : Launch} (hG : ev_Good X) (hl : l.stackTraces = false) : ev_Snd X l ev_ms x_J5_appendNull_278bc tx_J5_appendNull_278bc 14 (i_is 1 15) := s_istore_n dJ5_appendNull_278bc_14 rfl (Nat.le_of_ble_eq_true rfl)
theorem s_J5_appendNull_278bc_15 {X : ev_E} {l : Launch} (hG : ev_Good X) (hl : l.stackTraces = false) : ev_Snd X l ev_ms x_J5_appendNull_278bc tx_J5_appendNull_278bc 15 (i_al 0 16) := s_aload_n dJ5_appendNull_278bc_15 rfl
theorem s_J5_appendNull_278bc_16 {X : ev_E} {l : Launch} (hG : ev_Good X) (hl : l.stackTraces = false) : ev_Snd X l ev_ms x_J5_appendNull_278bc tx_J5_appendNull_278bc 16 (i_gf X 1 0 19) := s_getfield hG (ci := 1) (r := (RJ4, TJ4, 4)) rfl cw_1 (k := 0) (Nat.le_of_ble_eq_true rfl) w_298 rfl (Or.inl rfl) dJ5_appendNull_278bc_16
theorem s_J5_appendNull_278bc_19 {X : ev_E} {l : Launch} (hG : ev_Good X) (hl : l.stackTraces = false) : ev_Snd X l ev_ms x_J5_appendNull_278bc tx_J5_appendNull_278bc 19 (i_as 2 20) := s_astore_n dJ5_appendNull_278bc_19 rfl (Nat.le_of_ble_eq_true rfl)
theorem s_J5_appendNull_278bc_20 {X : ev_E} {l : Launch} (hG : ev_Good X) (hl : l.stackTraces = false) : ev_Snd X l ev_ms x_J5_appendNull_278bc tx_J5_appendNull_278bc 20 (i_al 0 21) := s_aload_n dJ5_appendNull_278bc_20 rfl
theorem s_J5_appendNull_278bc_21 {X : ev_E} {l : Launch} (hG : ev_Good X) (hl : l.stackTraces = false) : ev_Snd X l ev_ms x_J5_appendNull_278bc tx_J5_appendNull_278bc 21 (i_cV X 9 0 1 1 24) := s_invokevirtual hG (mi := 9) (n := 0) (ci := 1) (r := (RJ4, TJ4, 4)) rfl (cal_J5_isLatin1_aae02 (Nat.le_of_ble_eq_true rfl)) w_354 w_355 w_357 dJ5_appendNull_278bc_21
theorem s_J5_appendNull_278bc_24 {X : ev_E} {l : Launch} (hG : ev_Good X) (hl : l.stackTraces = false) : ev_Snd X l ev_ms x_J5_appendNull_278bc tx_J5_appendNull_278bc 24 (i_ifeq 62 27) := s_ifeq dJ5_appendNull_278bc_24 rfl
theorem s_J5_appendNull_278bc_27 {X : ev_E} {l : Launch} (hG : ev_Good X) (hl : l.stackTraces = false) : ev_Snd X l ev_ms x_J5_appendNull_278bc tx_J5_appendNull_278bc 27 (i_al 2 28) := s_aload_n dJ5_appendNull_278bc_27 rfl
theorem s_J5_appendNull_278bc_28 {X : ev_E} {l : Launch} (hG : ev_Good X) (hl : l.stackTraces = false) : ev_Snd X l ev_ms x_J5_appendNull_278bc tx_J5_appendNull_278bc 28 (i_il 1 29) := s_iload_n dJ5_appendNull_278bc_28 rfl
theorem s_J5_appendNull_278bc_29 {X : ev_E} {l : Launch} (hG : ev_Good X) (hl : l.stackTraces = false) : ev_Snd X l ev_ms x_J5_appendNull_278bc tx_J5_appendNull_278bc 29 (i_inc 1 (1) 32) := s_iinc dJ5_appendNull_278bc_29 rfl (Nat.le_of_ble_eq_true rfl)
theorem s_J5_appendNull_278bc_32 {X : ev_E} {l : Launch} (hG : ev_Good X) (hl : l.stackTraces = false) : ev_Snd X l ev_ms x_J5_appendNull_278bc tx_J5_appendNull_278bc 32 (i_psh (.int (110)) 34) := s_bipush dJ5_appendNull_278bc_32 rfl
theorem s_J5_appendNull_278bc_34 {X : ev_E} {l : Launch} (hG : ev_Good X) (hl : l.stackTraces = false) : ev_Snd X l ev_ms x_J5_appendNull_278bc tx_J5_appendNull_278bc 34 (i_ast ev_tB (vp_nar .byte) 35) := s_bastore hG dJ5_appendNull_278bc_34
theorem s_J5_appendNull_278bc_35 {X : ev_E} {l : Launch} (hG : ev_Good X) (hl : l.stackTraces = false) : ev_Snd X l ev_ms x_J5_appendNull_278bc tx_J5_appendNull_278bc 35 (i_al 2 36) := s_aload_n dJ5_appendNull_278bc_35 rfl
theorem s_J5_appendNull_278bc_36 {X : ev_E} {l : Launch} (hG : ev_Good X) (hl : l.stackTraces = false) : ev_Snd X l ev_ms x_J5_appendNull_278bc tx_J5_appendNull_278bc 36 (i_il 1 37) := s_iload_n dJ5_appendNull_278bc_36 rfl
theorem s_J5_appendNull_278bc_37 {X : ev_E} {l : Launch} (hG : ev_Good X) (hl : l.stackTraces = false) : ev_Snd X l ev_ms x_J5_appendNull_278bc tx_J5_appendNull_278bc 37 (i_inc 1 (1) 40) := s_iinc dJ5_appendNull_278bc_37 rfl (Nat.le_of_ble_eq_true rfl)
theorem s_J5_appendNull_278bc_40 {X : ev_E} {l : Launch} (hG : ev_Good X) (hl : l.stackTraces = false) : ev_Snd X l ev_ms x_J5_appendNull_278bc tx_J5_appendNull_278bc 40 (i_psh (.int (117)) 42) := s_bipush dJ5_appendNull_278bc_40 rfl
theorem s_J5_appendNull_278bc_42 {X : ev_E} {l : Launch} (hG : ev_Good X) (hl : l.stackTraces = false) : ev_Snd X l ev_ms x_J5_appendNull_278bc tx_J5_appendNull_278bc 42 (i_ast ev_tB (vp_nar .byte) 43) := s_bastore hG dJ5_appendNull_278bc_42
theorem s_J5_appendNull_278bc_43 {X : ev_E} {l : Launch} (hG : ev_Good X) (hl : l.stackTraces = false) : ev_Snd X l ev_ms x_J5_appendNull_278bc tx_J5_appendNull_278bc 43 (i_al 2 44) := s_aload_n dJ5_appendNull_278bc_43 rfl
theorem s_J5_appendNull_278bc_44 {X : ev_E} {l : Launch} (hG : ev_Good X) (hl : l.stackTraces = false) : ev_Snd X l ev_ms x_J5_appendNull_278bc tx_J5_appendNull_278bc 44 (i_il 1 45) := s_iload_n dJ5_appendNull_278bc_44 rfl
theorem s_J5_appendNull_278bc_45 {X : ev_E} {l : Launch} (hG : ev_Good X) (hl : l.stackTraces = false) : ev_Snd X l ev_ms x_J5_appendNull_278bc tx_J5_appendNull_278bc 45 (i_inc 1 (1) 48) := s_iinc dJ5_appendNull_278bc_45 rfl (Nat.le_of_ble_eq_true rfl)
theorem s_J5_appendNull_278bc_48 {X : ev_E} {l : Launch} (hG : ev_Good X) (hl : l.stackTraces = false) : ev_Snd X l ev_ms x_J5_appendNull_278bc tx_J5_appendNull_278bc 48 (i_psh (.int (108)) 50) := s_bipush dJ5_appendNull_278bc_48 rfl
theorem s_J5_appendNull_278bc_50 {X : ev_E} {l : Launch} (hG : ev_Good X) (hl : l.stackTraces = false) : ev_Snd X l ev_ms x_J5_appendNull_278bc tx_J5_appendNull_278bc 50 (i_ast ev_tB (vp_nar .byte) 51) := s_bastore hG dJ5_appendNull_278bc_50
theorem s_J5_appendNull_278bc_51 {X : ev_E} {l : Launch} (hG : ev_Good X) (hl : l.stackTraces = false) : ev_Snd X l ev_ms x_J5_appendNull_278bc tx_J5_appendNull_278bc 51 (i_al 2 52) := s_aload_n dJ5_appendNull_278bc_51 rfl
theorem s_J5_appendNull_278bc_52 {X : ev_E} {l : Launch} (hG : ev_Good X) (hl : l.stackTraces = false) : ev_Snd X l ev_ms x_J5_appendNull_278bc tx_J5_appendNull_278bc 52 (i_il 1 53) := s_iload_n dJ5_appendNull_278bc_52 rfl
theorem s_J5_appendNull_278bc_53 {X : ev_E} {l : Launch} (hG : ev_Good X) (hl : l.stackTraces = false) : ev_Snd X l ev_ms x_J5_appendNull_278bc tx_J5_appendNull_278bc 53 (i_inc 1 (1) 56) := s_iinc dJ5_appendNull_278bc_53 rfl (Nat.le_of_ble_eq_true rfl)
theorem s_J5_appendNull_278bc_56 {X : ev_E} {l : Launch} (hG : ev_Good X) (hl : l.stackTraces = false) : ev_Snd X l ev_ms x_J5_appendNull_278bc tx_J5_appendNull_278bc 56 (i_psh (.int (108)) 58) := s_bipush dJ5_appendNull_278bc_56 rfl
theorem s_J5_appendNull_278bc_58 {X : ev_E} {l : Launch} (hG : ev_Good X) (hl : l.stackTraces = false) : ev_Snd X l ev_ms x_J5_appendNull_278bc tx_J5_appendNull_278bc 58 (i_ast ev_tB (vp_nar .byte) 59) := s_bastore hG dJ5_appendNull_278bc_58
theorem s_J5_appendNull_278bc_59 {X : ev_E} {l : Launch} (hG : ev_Good X) (hl : l.stackTraces = false) : ev_Snd X l ev_ms x_J5_appendNull_278bc tx_J5_appendNull_278bc 59 (i_goto 76) := s_goto dJ5_appendNull_278bc_59 rfl
theorem s_J5_appendNull_278bc_62 {X : ev_E} {l : Launch} (hG : ev_Good X) (hl : l.stackTraces = false) : ev_Snd X l ev_ms x_J5_appendNull_278bc tx_J5_appendNull_278bc 62 (i_al 2 63) := s_aload_n dJ5_appendNull_278bc_62 rfl
theorem s_J5_appendNull_278bc_63 {X : ev_E} {l : Launch} (hG : ev_Good X) (hl : l.stackTraces = false) : ev_Snd X l ev_ms x_J5_appendNull_278bc tx_J5_appendNull_278bc 63 (i_il 1 64) := s_iload_n dJ5_appendNull_278bc_63 rfl
theorem s_J5_appendNull_278bc_64 {X : ev_E} {l : Launch} (hG : ev_Good X) (hl : l.stackTraces = false) : ev_Snd X l ev_ms x_J5_appendNull_278bc tx_J5_appendNull_278bc 64 (i_psh (.int (110)) 66) := s_bipush dJ5_appendNull_278bc_64 rfl
theorem s_J5_appendNull_278bc_66 {X : ev_E} {l : Launch} (hG : ev_Good X) (hl : l.stackTraces = false) : ev_Snd X l ev_ms x_J5_appendNull_278bc tx_J5_appendNull_278bc 66 (i_psh (.int (117)) 68) := s_bipush dJ5_appendNull_278bc_66 rfl
theorem s_J5_appendNull_278bc_68 {X : ev_E} {l : Launch} (hG : ev_Good X) (hl : l.stackTraces = false) : ev_Snd X l ev_ms x_J5_appendNull_278bc tx_J5_appendNull_278bc 68 (i_psh (.int (108)) 70) := s_bipush dJ5_appendNull_278bc_68 rfl
theorem s_J5_appendNull_278bc_70 {X : ev_E} {l : Launch} (hG : ev_Good X) (hl : l.stackTraces = false) : ev_Snd X l ev_ms x_J5_appendNull_278bc tx_J5_appendNull_278bc 70 (i_psh (.int (108)) 72) := s_bipush dJ5_appendNull_278bc_70 rfl
theorem s_J5_appendNull_278bc_72 {X : ev_E} {l : Launch} (hG : ev_Good X) (hl : l.stackTraces = false) : ev_Snd X l ev_ms x_J5_appendNull_278bc tx_J5_appendNull_278bc 72 (i_cS 176 6 7 75) := s_invokestatic hG (mi := 176) (n := 6) (cal_J2_putCharsAt_cd4e5 (Nat.le_of_ble_eq_true rfl)) w_533 w_534 dJ5_appendNull_278bc_72
theorem s_J5_appendNull_278bc_75 {X : ev_E} {l : Launch} (hG : ev_Good X) (hl : l.stackTraces = false) : ev_Snd X l ev_ms x_J5_appendNull_278bc tx_J5_appendNull_278bc 75 (i_is 1 76) := s_istore_n dJ5_appendNull_278bc_75 rfl (Nat.le_of_ble_eq_true rfl)
theorem s_J5_appendNull_278bc_76 {X : ev_E} {l : Launch} (hG : ev_Good X) (hl : l.stackTraces = false) : ev_Snd X l ev_ms x_J5_appendNull_278bc tx_J5_appendNull_278bc 76 (i_al 0 77) := s_aload_n dJ5_appendNull_278bc_76 rfl
theorem s_J5_appendNull_278bc_77 {X : ev_E} {l : Launch} (hG : ev_Good X) (hl : l.stackTraces = false) : ev_Snd X l ev_ms x_J5_appendNull_278bc tx_J5_appendNull_278bc 77 (i_il 1 78) := s_iload_n dJ5_appendNull_278bc_77 rfl
theorem s_J5_appendNull_278bc_78 {X : ev_E} {l : Launch} (hG : ev_Good X) (hl : l.stackTraces = false) : ev_Snd X l ev_ms x_J5_appendNull_278bc tx_J5_appendNull_278bc 78 (i_pf 1 3 (.int) 81) := s_putfield hG (ci := 1) (r := (RJ4, TJ4, 4)) rfl cw_1 ap_1 (k := 3) (Nat.le_of_ble_eq_true rfl) rfl (by decide +kernel) w_301 rfl (Or.inl rfl) dJ5_appendNull_278bc_78
theorem s_J5_appendNull_278bc_81 {X : ev_E} {l : Launch} (hG : ev_Good X) (hl : l.stackTraces = false) : ev_Snd X l ev_ms x_J5_appendNull_278bc tx_J5_appendNull_278bc 81 (i_al 0 82) := s_aload_n dJ5_appendNull_278bc_81 rfl
theorem s_J5_appendNull_278bc_82 {X : ev_E} {l : Launch} (hG : ev_Good X) (hl : l.stackTraces = false) : ev_Snd X l ev_ms x_J5_appendNull_278bc tx_J5_appendNull_278bc 82 (i_ar) := s_areturn (rt := (.object "java/lang/AbstractStringBuilder")) rfl (by first | exact Or.inl ⟨_, rfl⟩ | exact Or.inr ⟨_, rfl⟩) dJ5_appendNull_278bc_82
theorem sa_J5_appendNull_278bc {X : ev_E} {l : Launch} (hG : ev_Good X) (hl : l.stackTraces = false) : ∀ q ∈ tb_J5_appendNull_278bc X, ev_Snd X l ev_ms x_J5_appendNull_278bc tx_J5_appendNull_278bc q.1 q.2 := by
  intro q hq
  unfold tb_J5_appendNull_278bc at hq
  simp only [List.mem_cons, List.not_mem_nil, or_false] at hq
  rcases hq with rfl | rfl | rfl | rfl | rfl | rfl | rfl | rfl | rfl | rfl | rfl | rfl | rfl | rfl | rfl | rfl | rfl | rfl | rfl | rfl | rfl | rfl | rfl | rfl | rfl | rfl | rfl | rfl | rfl | rfl | rfl | rfl | rfl | rfl | rfl | rfl | rfl | rfl | rfl | rfl | rfl | rfl | rfl | rfl | rfl | rfl | rfl | rfl | rfl
  · exact s_J5_appendNull_278bc_0 hG hl
  · exact s_J5_appendNull_278bc_1 hG hl
  · exact s_J5_appendNull_278bc_2 hG hl
  · exact s_J5_appendNull_278bc_5 hG hl
  · exact s_J5_appendNull_278bc_6 hG hl
  · exact s_J5_appendNull_278bc_7 hG hl
  · exact s_J5_appendNull_278bc_10 hG hl
  · exact s_J5_appendNull_278bc_11 hG hl
  · exact s_J5_appendNull_278bc_14 hG hl
  · exact s_J5_appendNull_278bc_15 hG hl
  · exact s_J5_appendNull_278bc_16 hG hl
  · exact s_J5_appendNull_278bc_19 hG hl
  · exact s_J5_appendNull_278bc_20 hG hl
  · exact s_J5_appendNull_278bc_21 hG hl
  · exact s_J5_appendNull_278bc_24 hG hl
  · exact s_J5_appendNull_278bc_27 hG hl
  · exact s_J5_appendNull_278bc_28 hG hl
  · exact s_J5_appendNull_278bc_29 hG hl
  · exact s_J5_appendNull_278bc_32 hG hl
  · exact s_J5_appendNull_278bc_34 hG hl
  · exact s_J5_appendNull_278bc_35 hG hl
  · exact s_J5_appendNull_278bc_36 hG hl
  · exact s_J5_appendNull_278bc_37 hG hl
  · exact s_J5_appendNull_278bc_40 hG hl
  · exact s_J5_appendNull_278bc_42 hG hl
  · exact s_J5_appendNull_278bc_43 hG hl
  · exact s_J5_appendNull_278bc_44 hG hl
  · exact s_J5_appendNull_278bc_45 hG hl
  · exact s_J5_appendNull_278bc_48 hG hl
  · exact s_J5_appendNull_278bc_50 hG hl
  · exact s_J5_appendNull_278bc_51 hG hl
  · exact s_J5_appendNull_278bc_52 hG hl
  · exact s_J5_appendNull_278bc_53 hG hl
  · exact s_J5_appendNull_278bc_56 hG hl
  · exact s_J5_appendNull_278bc_58 hG hl
  · exact s_J5_appendNull_278bc_59 hG hl
  · exact s_J5_appendNull_278bc_62 hG hl
  · exact s_J5_appendNull_278bc_63 hG hl
  · exact s_J5_appendNull_278bc_64 hG hl
  · exact s_J5_appendNull_278bc_66 hG hl
  · exact s_J5_appendNull_278bc_68 hG hl
  · exact s_J5_appendNull_278bc_70 hG hl
  · exact s_J5_appendNull_278bc_72 hG hl
  · exact s_J5_appendNull_278bc_75 hG hl
  · exact s_J5_appendNull_278bc_76 hG hl
  · exact s_J5_appendNull_278bc_77 hG hl
  · exact s_J5_appendNull_278bc_78 hG hl
  · exact s_J5_appendNull_278bc_81 hG hl
  · exact s_J5_appendNull_278bc_82 hG hl
def tx_J5_append_c97b9 : ev_X := fun _ _ => some none
noncomputable def tb_J5_append_c97b9 (X : ev_E) : List (Nat × (ev_S → ev_N)) := [(0, i_al 0 1), (1, i_gf X 1 3 4), (4, i_is 2 5), (5, i_il 2 6), (6, i_il 1 7), (7, i_cS 13 1 4 10), (10, i_ii (fun a b => a + b) 11), (11, i_is 3 12), (12, i_al 0 13), (13, i_il 3 14), (14, i_cV X 178 1 1 3 17), (17, i_al 0 18), (18, i_cV X 9 0 1 1 21), (21, i_ifeq 37 24), (24, i_il 1 25), (25, i_il 3 26), (26, i_al 0 27), (27, i_gf X 1 0 30), (30, i_cS 11 3 7 33), (33, i_pop 34), (34, i_goto 48), (37, i_il 1 38), (38, i_il 2 39), (39, i_il 3 40), (40, i_al 0 41), (41, i_gf X 1 0 44), (44, i_cS 173 4 5 47), (47, i_pop 48), (48, i_al 0 49), (49, i_il 3 50), (50, i_pf 1 3 (.int) 53), (53, i_al 0 54), (54, i_ar)]
theorem s_J5_append_c97b9_0 {X : ev_E} {l : Launch} (hG : ev_Good X) (hl : l.stackTraces = false) : ev_Snd X l ev_ms x_J5_append_c97b9 tx_J5_append_c97b9 0 (i_al 0 1) := s_aload_n dJ5_append_c97b9_0 rfl
theorem s_J5_append_c97b9_1 {X : ev_E} {l : Launch} (hG : ev_Good X) (hl : l.stackTraces = false) : ev_Snd X l ev_ms x_J5_append_c97b9 tx_J5_append_c97b9 1 (i_gf X 1 3 4) := s_getfield hG (ci := 1) (r := (RJ4, TJ4, 4)) rfl cw_1 (k := 3) (Nat.le_of_ble_eq_true rfl) w_301 rfl (Or.inl rfl) dJ5_append_c97b9_1
theorem s_J5_append_c97b9_4 {X : ev_E} {l : Launch} (hG : ev_Good X) (hl : l.stackTraces = false) : ev_Snd X l ev_ms x_J5_append_c97b9 tx_J5_append_c97b9 4 (i_is 2 5) := s_istore_n dJ5_append_c97b9_4 rfl (Nat.le_of_ble_eq_true rfl)
theorem s_J5_append_c97b9_5 {X : ev_E} {l : Launch} (hG : ev_Good X) (hl : l.stackTraces = false) : ev_Snd X l ev_ms x_J5_append_c97b9 tx_J5_append_c97b9 5 (i_il 2 6) := s_iload_n dJ5_append_c97b9_5 rfl
theorem s_J5_append_c97b9_6 {X : ev_E} {l : Launch} (hG : ev_Good X) (hl : l.stackTraces = false) : ev_Snd X l ev_ms x_J5_append_c97b9 tx_J5_append_c97b9 6 (i_il 1 7) := s_iload_n dJ5_append_c97b9_6 rfl
theorem s_J5_append_c97b9_7 {X : ev_E} {l : Launch} (hG : ev_Good X) (hl : l.stackTraces = false) : ev_Snd X l ev_ms x_J5_append_c97b9 tx_J5_append_c97b9 7 (i_cS 13 1 4 10) := s_invokestatic hG (mi := 13) (n := 1) (cal_J6_stringSize_0f7a4 (Nat.le_of_ble_eq_true rfl)) w_414 w_415 dJ5_append_c97b9_7
theorem s_J5_append_c97b9_10 {X : ev_E} {l : Launch} (hG : ev_Good X) (hl : l.stackTraces = false) : ev_Snd X l ev_ms x_J5_append_c97b9 tx_J5_append_c97b9 10 (i_ii (fun a b => a + b) 11) := s_iadd dJ5_append_c97b9_10
theorem s_J5_append_c97b9_11 {X : ev_E} {l : Launch} (hG : ev_Good X) (hl : l.stackTraces = false) : ev_Snd X l ev_ms x_J5_append_c97b9 tx_J5_append_c97b9 11 (i_is 3 12) := s_istore_n dJ5_append_c97b9_11 rfl (Nat.le_of_ble_eq_true rfl)
theorem s_J5_append_c97b9_12 {X : ev_E} {l : Launch} (hG : ev_Good X) (hl : l.stackTraces = false) : ev_Snd X l ev_ms x_J5_append_c97b9 tx_J5_append_c97b9 12 (i_al 0 13) := s_aload_n dJ5_append_c97b9_12 rfl
theorem s_J5_append_c97b9_13 {X : ev_E} {l : Launch} (hG : ev_Good X) (hl : l.stackTraces = false) : ev_Snd X l ev_ms x_J5_append_c97b9 tx_J5_append_c97b9 13 (i_il 3 14) := s_iload_n dJ5_append_c97b9_13 rfl
theorem s_J5_append_c97b9_14 {X : ev_E} {l : Launch} (hG : ev_Good X) (hl : l.stackTraces = false) : ev_Snd X l ev_ms x_J5_append_c97b9 tx_J5_append_c97b9 14 (i_cV X 178 1 1 3 17) := s_invokevirtualP hG (mi := 178) (n := 1) (ci := 1) (r := (RJ4, TJ4, 4)) rfl (cal_J5_ensureCapacityInternal_d00df (Nat.le_of_ble_eq_true rfl)) w_319 w_321 (z := ⟨"java/lang/AbstractStringBuilder", "isLatin1", "()Z"⟩) w_357 rfl w_320 dJ5_append_c97b9_14
theorem s_J5_append_c97b9_17 {X : ev_E} {l : Launch} (hG : ev_Good X) (hl : l.stackTraces = false) : ev_Snd X l ev_ms x_J5_append_c97b9 tx_J5_append_c97b9 17 (i_al 0 18) := s_aload_n dJ5_append_c97b9_17 rfl
theorem s_J5_append_c97b9_18 {X : ev_E} {l : Launch} (hG : ev_Good X) (hl : l.stackTraces = false) : ev_Snd X l ev_ms x_J5_append_c97b9 tx_J5_append_c97b9 18 (i_cV X 9 0 1 1 21) := s_invokevirtual hG (mi := 9) (n := 0) (ci := 1) (r := (RJ4, TJ4, 4)) rfl (cal_J5_isLatin1_aae02 (Nat.le_of_ble_eq_true rfl)) w_354 w_355 w_357 dJ5_append_c97b9_18
theorem s_J5_append_c97b9_21 {X : ev_E} {l : Launch} (hG : ev_Good X) (hl : l.stackTraces = false) : ev_Snd X l ev_ms x_J5_append_c97b9 tx_J5_append_c97b9 21 (i_ifeq 37 24) := s_ifeq dJ5_append_c97b9_21 rfl
theorem s_J5_append_c97b9_24 {X : ev_E} {l : Launch} (hG : ev_Good X) (hl : l.stackTraces = false) : ev_Snd X l ev_ms x_J5_append_c97b9 tx_J5_append_c97b9 24 (i_il 1 25) := s_iload_n dJ5_append_c97b9_24 rfl
theorem s_J5_append_c97b9_25 {X : ev_E} {l : Launch} (hG : ev_Good X) (hl : l.stackTraces = false) : ev_Snd X l ev_ms x_J5_append_c97b9 tx_J5_append_c97b9 25 (i_il 3 26) := s_iload_n dJ5_append_c97b9_25 rfl
theorem s_J5_append_c97b9_26 {X : ev_E} {l : Launch} (hG : ev_Good X) (hl : l.stackTraces = false) : ev_Snd X l ev_ms x_J5_append_c97b9 tx_J5_append_c97b9 26 (i_al 0 27) := s_aload_n dJ5_append_c97b9_26 rfl
theorem s_J5_append_c97b9_27 {X : ev_E} {l : Launch} (hG : ev_Good X) (hl : l.stackTraces = false) : ev_Snd X l ev_ms x_J5_append_c97b9 tx_J5_append_c97b9 27 (i_gf X 1 0 30) := s_getfield hG (ci := 1) (r := (RJ4, TJ4, 4)) rfl cw_1 (k := 0) (Nat.le_of_ble_eq_true rfl) w_298 rfl (Or.inl rfl) dJ5_append_c97b9_27
theorem s_J5_append_c97b9_30 {X : ev_E} {l : Launch} (hG : ev_Good X) (hl : l.stackTraces = false) : ev_Snd X l ev_ms x_J5_append_c97b9 tx_J5_append_c97b9 30 (i_cS 11 3 7 33) := s_invokestatic hG (mi := 11) (n := 3) (cal_J6_getChars_ba4f3 (Nat.le_of_ble_eq_true rfl)) w_417 w_418 dJ5_append_c97b9_30
theorem s_J5_append_c97b9_33 {X : ev_E} {l : Launch} (hG : ev_Good X) (hl : l.stackTraces = false) : ev_Snd X l ev_ms x_J5_append_c97b9 tx_J5_append_c97b9 33 (i_pop 34) := s_pop dJ5_append_c97b9_33
theorem s_J5_append_c97b9_34 {X : ev_E} {l : Launch} (hG : ev_Good X) (hl : l.stackTraces = false) : ev_Snd X l ev_ms x_J5_append_c97b9 tx_J5_append_c97b9 34 (i_goto 48) := s_goto dJ5_append_c97b9_34 rfl
theorem s_J5_append_c97b9_37 {X : ev_E} {l : Launch} (hG : ev_Good X) (hl : l.stackTraces = false) : ev_Snd X l ev_ms x_J5_append_c97b9 tx_J5_append_c97b9 37 (i_il 1 38) := s_iload_n dJ5_append_c97b9_37 rfl
theorem s_J5_append_c97b9_38 {X : ev_E} {l : Launch} (hG : ev_Good X) (hl : l.stackTraces = false) : ev_Snd X l ev_ms x_J5_append_c97b9 tx_J5_append_c97b9 38 (i_il 2 39) := s_iload_n dJ5_append_c97b9_38 rfl
theorem s_J5_append_c97b9_39 {X : ev_E} {l : Launch} (hG : ev_Good X) (hl : l.stackTraces = false) : ev_Snd X l ev_ms x_J5_append_c97b9 tx_J5_append_c97b9 39 (i_il 3 40) := s_iload_n dJ5_append_c97b9_39 rfl
theorem s_J5_append_c97b9_40 {X : ev_E} {l : Launch} (hG : ev_Good X) (hl : l.stackTraces = false) : ev_Snd X l ev_ms x_J5_append_c97b9 tx_J5_append_c97b9 40 (i_al 0 41) := s_aload_n dJ5_append_c97b9_40 rfl
theorem s_J5_append_c97b9_41 {X : ev_E} {l : Launch} (hG : ev_Good X) (hl : l.stackTraces = false) : ev_Snd X l ev_ms x_J5_append_c97b9 tx_J5_append_c97b9 41 (i_gf X 1 0 44) := s_getfield hG (ci := 1) (r := (RJ4, TJ4, 4)) rfl cw_1 (k := 0) (Nat.le_of_ble_eq_true rfl) w_298 rfl (Or.inl rfl) dJ5_append_c97b9_41
theorem s_J5_append_c97b9_44 {X : ev_E} {l : Launch} (hG : ev_Good X) (hl : l.stackTraces = false) : ev_Snd X l ev_ms x_J5_append_c97b9 tx_J5_append_c97b9 44 (i_cS 173 4 5 47) := s_invokestatic hG (mi := 173) (n := 4) (cal_J2_getChars_46870 (Nat.le_of_ble_eq_true rfl)) w_424 w_425 dJ5_append_c97b9_44
theorem s_J5_append_c97b9_47 {X : ev_E} {l : Launch} (hG : ev_Good X) (hl : l.stackTraces = false) : ev_Snd X l ev_ms x_J5_append_c97b9 tx_J5_append_c97b9 47 (i_pop 48) := s_pop dJ5_append_c97b9_47
theorem s_J5_append_c97b9_48 {X : ev_E} {l : Launch} (hG : ev_Good X) (hl : l.stackTraces = false) : ev_Snd X l ev_ms x_J5_append_c97b9 tx_J5_append_c97b9 48 (i_al 0 49) := s_aload_n dJ5_append_c97b9_48 rfl
theorem s_J5_append_c97b9_49 {X : ev_E} {l : Launch} (hG : ev_Good X) (hl : l.stackTraces = false) : ev_Snd X l ev_ms x_J5_append_c97b9 tx_J5_append_c97b9 49 (i_il 3 50) := s_iload_n dJ5_append_c97b9_49 rfl
theorem s_J5_append_c97b9_50 {X : ev_E} {l : Launch} (hG : ev_Good X) (hl : l.stackTraces = false) : ev_Snd X l ev_ms x_J5_append_c97b9 tx_J5_append_c97b9 50 (i_pf 1 3 (.int) 53) := s_putfield hG (ci := 1) (r := (RJ4, TJ4, 4)) rfl cw_1 ap_1 (k := 3) (Nat.le_of_ble_eq_true rfl) rfl (by decide +kernel) w_301 rfl (Or.inl rfl) dJ5_append_c97b9_50
theorem s_J5_append_c97b9_53 {X : ev_E} {l : Launch} (hG : ev_Good X) (hl : l.stackTraces = false) : ev_Snd X l ev_ms x_J5_append_c97b9 tx_J5_append_c97b9 53 (i_al 0 54) := s_aload_n dJ5_append_c97b9_53 rfl
theorem s_J5_append_c97b9_54 {X : ev_E} {l : Launch} (hG : ev_Good X) (hl : l.stackTraces = false) : ev_Snd X l ev_ms x_J5_append_c97b9 tx_J5_append_c97b9 54 (i_ar) := s_areturn (rt := (.object "java/lang/AbstractStringBuilder")) rfl (by first | exact Or.inl ⟨_, rfl⟩ | exact Or.inr ⟨_, rfl⟩) dJ5_append_c97b9_54
theorem sa_J5_append_c97b9 {X : ev_E} {l : Launch} (hG : ev_Good X) (hl : l.stackTraces = false) : ∀ q ∈ tb_J5_append_c97b9 X, ev_Snd X l ev_ms x_J5_append_c97b9 tx_J5_append_c97b9 q.1 q.2 := by
  intro q hq
  unfold tb_J5_append_c97b9 at hq
  simp only [List.mem_cons, List.not_mem_nil, or_false] at hq
  rcases hq with rfl | rfl | rfl | rfl | rfl | rfl | rfl | rfl | rfl | rfl | rfl | rfl | rfl | rfl | rfl | rfl | rfl | rfl | rfl | rfl | rfl | rfl | rfl | rfl | rfl | rfl | rfl | rfl | rfl | rfl | rfl | rfl | rfl
  · exact s_J5_append_c97b9_0 hG hl
  · exact s_J5_append_c97b9_1 hG hl
  · exact s_J5_append_c97b9_4 hG hl
  · exact s_J5_append_c97b9_5 hG hl
  · exact s_J5_append_c97b9_6 hG hl
  · exact s_J5_append_c97b9_7 hG hl
  · exact s_J5_append_c97b9_10 hG hl
  · exact s_J5_append_c97b9_11 hG hl
  · exact s_J5_append_c97b9_12 hG hl
  · exact s_J5_append_c97b9_13 hG hl
  · exact s_J5_append_c97b9_14 hG hl
  · exact s_J5_append_c97b9_17 hG hl
  · exact s_J5_append_c97b9_18 hG hl
  · exact s_J5_append_c97b9_21 hG hl
  · exact s_J5_append_c97b9_24 hG hl
  · exact s_J5_append_c97b9_25 hG hl
  · exact s_J5_append_c97b9_26 hG hl
  · exact s_J5_append_c97b9_27 hG hl
  · exact s_J5_append_c97b9_30 hG hl
  · exact s_J5_append_c97b9_33 hG hl
  · exact s_J5_append_c97b9_34 hG hl
  · exact s_J5_append_c97b9_37 hG hl
  · exact s_J5_append_c97b9_38 hG hl
  · exact s_J5_append_c97b9_39 hG hl
  · exact s_J5_append_c97b9_40 hG hl
  · exact s_J5_append_c97b9_41 hG hl
  · exact s_J5_append_c97b9_44 hG hl
  · exact s_J5_append_c97b9_47 hG hl
  · exact s_J5_append_c97b9_48 hG hl
  · exact s_J5_append_c97b9_49 hG hl
  · exact s_J5_append_c97b9_50 hG hl
  · exact s_J5_append_c97b9_53 hG hl
  · exact s_J5_append_c97b9_54 hG hl
def tx_Jx4a65c_grow_d5877 : ev_X := fun _ _ => some none
noncomputable def tb_Jx4a65c_grow_d5877 (X : ev_E) : List (Nat × (ev_S → ev_N)) := [(0, i_al 0 1), (1, i_al 0 2), (2, i_gf X 4 2 5), (5, i_psh (.int (1)) 6), (6, i_ii (fun a b => a + b) 7), (7, i_cV X 179 1 4 4 10), (10, i_ar)]
theorem s_Jx4a65c_grow_d5877_0 {X : ev_E} {l : Launch} (hG : ev_Good X) (hl : l.stackTraces = false) : ev_Snd X l ev_ms x_Jx4a65c_grow_d5877 tx_Jx4a65c_grow_d5877 0 (i_al 0 1) := s_aload_n dJx4a65c_grow_d5877_0 rfl
theorem s_Jx4a65c_grow_d5877_1 {X : ev_E} {l : Launch} (hG : ev_Good X) (hl : l.stackTraces = false) : ev_Snd X l ev_ms x_Jx4a65c_grow_d5877 tx_Jx4a65c_grow_d5877 1 (i_al 0 2) := s_aload_n dJx4a65c_grow_d5877_1 rfl
theorem s_Jx4a65c_grow_d5877_2 {X : ev_E} {l : Launch} (hG : ev_Good X) (hl : l.stackTraces = false) : ev_Snd X l ev_ms x_Jx4a65c_grow_d5877 tx_Jx4a65c_grow_d5877 2 (i_gf X 4 2 5) := s_getfield hG (ci := 4) (r := (RJx4a65c, TJx4a65c, 3)) rfl cw_4 (k := 2) (Nat.le_of_ble_eq_true rfl) w_1209 rfl (Or.inl rfl) dJx4a65c_grow_d5877_2
theorem s_Jx4a65c_grow_d5877_5 {X : ev_E} {l : Launch} (hG : ev_Good X) (hl : l.stackTraces = false) : ev_Snd X l ev_ms x_Jx4a65c_grow_d5877 tx_Jx4a65c_grow_d5877 5 (i_psh (.int (1)) 6) := s_iconst dJx4a65c_grow_d5877_5 rfl
theorem s_Jx4a65c_grow_d5877_6 {X : ev_E} {l : Launch} (hG : ev_Good X) (hl : l.stackTraces = false) : ev_Snd X l ev_ms x_Jx4a65c_grow_d5877 tx_Jx4a65c_grow_d5877 6 (i_ii (fun a b => a + b) 7) := s_iadd dJx4a65c_grow_d5877_6
theorem s_Jx4a65c_grow_d5877_7 {X : ev_E} {l : Launch} (hG : ev_Good X) (hl : l.stackTraces = false) : ev_Snd X l ev_ms x_Jx4a65c_grow_d5877 tx_Jx4a65c_grow_d5877 7 (i_cV X 179 1 4 4 10) := s_invokevirtual hG (mi := 179) (n := 1) (ci := 4) (r := (RJx4a65c, TJx4a65c, 3)) rfl (cal_Jx4a65c_grow_92f84 (Nat.le_of_ble_eq_true rfl)) w_1355 w_1357 w_26 dJx4a65c_grow_d5877_7
theorem s_Jx4a65c_grow_d5877_10 {X : ev_E} {l : Launch} (hG : ev_Good X) (hl : l.stackTraces = false) : ev_Snd X l ev_ms x_Jx4a65c_grow_d5877 tx_Jx4a65c_grow_d5877 10 (i_ar) := s_areturn (rt := (.array (.object "java/lang/Object"))) rfl (by first | exact Or.inl ⟨_, rfl⟩ | exact Or.inr ⟨_, rfl⟩) dJx4a65c_grow_d5877_10
theorem sa_Jx4a65c_grow_d5877 {X : ev_E} {l : Launch} (hG : ev_Good X) (hl : l.stackTraces = false) : ∀ q ∈ tb_Jx4a65c_grow_d5877 X, ev_Snd X l ev_ms x_Jx4a65c_grow_d5877 tx_Jx4a65c_grow_d5877 q.1 q.2 := by
  intro q hq
  unfold tb_Jx4a65c_grow_d5877 at hq
  simp only [List.mem_cons, List.not_mem_nil, or_false] at hq
  rcases hq with rfl | rfl | rfl | rfl | rfl | rfl | rfl
  · exact s_Jx4a65c_grow_d5877_0 hG hl
  · exact s_Jx4a65c_grow_d5877_1 hG hl
  · exact s_Jx4a65c_grow_d5877_2 hG hl
  · exact s_Jx4a65c_grow_d5877_5 hG hl
  · exact s_Jx4a65c_grow_d5877_6 hG hl
  · exact s_Jx4a65c_grow_d5877_7 hG hl
  · exact s_Jx4a65c_grow_d5877_10 hG hl
def tx_J0_getBytes_840e7 : ev_X := fun _ _ => some none
noncomputable def tb_J0_getBytes_840e7 (X : ev_E) : List (Nat × (ev_S → ev_N)) := [(0, i_al 0 1), (1, i_cV X 0 0 0 1 4), (4, i_il 3 5), (5, i_icne 28 8), (8, i_al 0 9), (9, i_gf X 0 0 12), (12, i_psh (.int (0)) 13), (13, i_al 1 14), (14, i_il 2 15), (15, i_il 3 16), (16, i_ii (fun a b => a <<< (b &&& 31)) 17), (17, i_al 0 18), (18, i_gf X 0 0 21), (21, i_len X 22), (22, i_cpy X false 25), (25, i_goto 43), (28, i_al 0 29), (29, i_gf X 0 0 32), (32, i_psh (.int (0)) 33), (33, i_al 1 34), (34, i_il 2 35), (35, i_al 0 36), (36, i_gf X 0 0 39), (39, i_len X 40), (40, i_cS 216 5 5 43), (43, i_vr)]
theorem s_J0_getBytes_840e7_0 {X : ev_E} {l : Launch} (hG : ev_Good X) (hl : l.stackTraces = false) : ev_Snd X l ev_ms x_J0_getBytes_840e7 tx_J0_getBytes_840e7 0 (i_al 0 1) := s_aload_n dJ0_getBytes_840e7_0 rfl
theorem s_J0_getBytes_840e7_1 {X : ev_E} {l : Launch} (hG : ev_Good X) (hl : l.stackTraces = false) : ev_Snd X l ev_ms x_J0_getBytes_840e7 tx_J0_getBytes_840e7 1 (i_cV X 0 0 0 1 4) := s_invokevirtual hG (mi := 0) (n := 0) (ci := 0) (r := (RJ0, TJ0, 4)) rfl (cal_J0_coder_7d493 (Nat.le_of_ble_eq_true rfl)) w_540 w_541 w_542 dJ0_getBytes_840e7_1
theorem s_J0_getBytes_840e7_4 {X : ev_E} {l : Launch} (hG : ev_Good X) (hl : l.stackTraces = false) : ev_Snd X l ev_ms x_J0_getBytes_840e7 tx_J0_getBytes_840e7 4 (i_il 3 5) := s_iload_n dJ0_getBytes_840e7_4 rfl
theorem s_J0_getBytes_840e7_5 {X : ev_E} {l : Launch} (hG : ev_Good X) (hl : l.stackTraces = false) : ev_Snd X l ev_ms x_J0_getBytes_840e7 tx_J0_getBytes_840e7 5 (i_icne 28 8) := s_icne dJ0_getBytes_840e7_5 rfl
theorem s_J0_getBytes_840e7_8 {X : ev_E} {l : Launch} (hG : ev_Good X) (hl : l.stackTraces = false) : ev_Snd X l ev_ms x_J0_getBytes_840e7 tx_J0_getBytes_840e7 8 (i_al 0 9) := s_aload_n dJ0_getBytes_840e7_8 rfl
theorem s_J0_getBytes_840e7_9 {X : ev_E} {l : Launch} (hG : ev_Good X) (hl : l.stackTraces = false) : ev_Snd X l ev_ms x_J0_getBytes_840e7 tx_J0_getBytes_840e7 9 (i_gf X 0 0 12) := s_getfield hG (ci := 0) (r := (RJ0, TJ0, 4)) rfl cw_0 (k := 0) (Nat.le_of_ble_eq_true rfl) w_599 rfl (Or.inl rfl) dJ0_getBytes_840e7_9
theorem s_J0_getBytes_840e7_12 {X : ev_E} {l : Launch} (hG : ev_Good X) (hl : l.stackTraces = false) : ev_Snd X l ev_ms x_J0_getBytes_840e7 tx_J0_getBytes_840e7 12 (i_psh (.int (0)) 13) := s_iconst dJ0_getBytes_840e7_12 rfl
theorem s_J0_getBytes_840e7_13 {X : ev_E} {l : Launch} (hG : ev_Good X) (hl : l.stackTraces = false) : ev_Snd X l ev_ms x_J0_getBytes_840e7 tx_J0_getBytes_840e7 13 (i_al 1 14) := s_aload_n dJ0_getBytes_840e7_13 rfl
theorem s_J0_getBytes_840e7_14 {X : ev_E} {l : Launch} (hG : ev_Good X) (hl : l.stackTraces = false) : ev_Snd X l ev_ms x_J0_getBytes_840e7 tx_J0_getBytes_840e7 14 (i_il 2 15) := s_iload_n dJ0_getBytes_840e7_14 rfl
theorem s_J0_getBytes_840e7_15 {X : ev_E} {l : Launch} (hG : ev_Good X) (hl : l.stackTraces = false) : ev_Snd X l ev_ms x_J0_getBytes_840e7 tx_J0_getBytes_840e7 15 (i_il 3 16) := s_iload_n dJ0_getBytes_840e7_15 rfl
theorem s_J0_getBytes_840e7_16 {X : ev_E} {l : Launch} (hG : ev_Good X) (hl : l.stackTraces = false) : ev_Snd X l ev_ms x_J0_getBytes_840e7 tx_J0_getBytes_840e7 16 (i_ii (fun a b => a <<< (b &&& 31)) 17) := s_ishl dJ0_getBytes_840e7_16
theorem s_J0_getBytes_840e7_17 {X : ev_E} {l : Launch} (hG : ev_Good X) (hl : l.stackTraces = false) : ev_Snd X l ev_ms x_J0_getBytes_840e7 tx_J0_getBytes_840e7 17 (i_al 0 18) := s_aload_n dJ0_getBytes_840e7_17 rfl
theorem s_J0_getBytes_840e7_18 {X : ev_E} {l : Launch} (hG : ev_Good X) (hl : l.stackTraces = false) : ev_Snd X l ev_ms x_J0_getBytes_840e7 tx_J0_getBytes_840e7 18 (i_gf X 0 0 21) := s_getfield hG (ci := 0) (r := (RJ0, TJ0, 4)) rfl cw_0 (k := 0) (Nat.le_of_ble_eq_true rfl) w_599 rfl (Or.inl rfl) dJ0_getBytes_840e7_18
theorem s_J0_getBytes_840e7_21 {X : ev_E} {l : Launch} (hG : ev_Good X) (hl : l.stackTraces = false) : ev_Snd X l ev_ms x_J0_getBytes_840e7 tx_J0_getBytes_840e7 21 (i_len X 22) := s_arraylength hG dJ0_getBytes_840e7_21
theorem s_J0_getBytes_840e7_22 {X : ev_E} {l : Launch} (hG : ev_Good X) (hl : l.stackTraces = false) : ev_Snd X l ev_ms x_J0_getBytes_840e7 tx_J0_getBytes_840e7 22 (i_cpy X false 25) := s_arraycopy hG false w_1784 w_1765 w_558 w_353 rfl w_352 w_68 dJ0_getBytes_840e7_22
theorem s_J0_getBytes_840e7_25 {X : ev_E} {l : Launch} (hG : ev_Good X) (hl : l.stackTraces = false) : ev_Snd X l ev_ms x_J0_getBytes_840e7 tx_J0_getBytes_840e7 25 (i_goto 43) := s_goto dJ0_getBytes_840e7_25 rfl
theorem s_J0_getBytes_840e7_28 {X : ev_E} {l : Launch} (hG : ev_Good X) (hl : l.stackTraces = false) : ev_Snd X l ev_ms x_J0_getBytes_840e7 tx_J0_getBytes_840e7 28 (i_al 0 29) := s_aload_n dJ0_getBytes_840e7_28 rfl
theorem s_J0_getBytes_840e7_29 {X : ev_E} {l : Launch} (hG : ev_Good X) (hl : l.stackTraces = false) : ev_Snd X l ev_ms x_J0_getBytes_840e7 tx_J0_getBytes_840e7 29 (i_gf X 0 0 32) := s_getfield hG (ci := 0) (r := (RJ0, TJ0, 4)) rfl cw_0 (k := 0) (Nat.le_of_ble_eq_true rfl) w_599 rfl (Or.inl rfl) dJ0_getBytes_840e7_29
theorem s_J0_getBytes_840e7_32 {X : ev_E} {l : Launch} (hG : ev_Good X) (hl : l.stackTraces = false) : ev_Snd X l ev_ms x_J0_getBytes_840e7 tx_J0_getBytes_840e7 32 (i_psh (.int (0)) 33) := s_iconst dJ0_getBytes_840e7_32 rfl
theorem s_J0_getBytes_840e7_33 {X : ev_E} {l : Launch} (hG : ev_Good X) (hl : l.stackTraces = false) : ev_Snd X l ev_ms x_J0_getBytes_840e7 tx_J0_getBytes_840e7 33 (i_al 1 34) := s_aload_n dJ0_getBytes_840e7_33 rfl
theorem s_J0_getBytes_840e7_34 {X : ev_E} {l : Launch} (hG : ev_Good X) (hl : l.stackTraces = false) : ev_Snd X l ev_ms x_J0_getBytes_840e7 tx_J0_getBytes_840e7 34 (i_il 2 35) := s_iload_n dJ0_getBytes_840e7_34 rfl
theorem s_J0_getBytes_840e7_35 {X : ev_E} {l : Launch} (hG : ev_Good X) (hl : l.stackTraces = false) : ev_Snd X l ev_ms x_J0_getBytes_840e7 tx_J0_getBytes_840e7 35 (i_al 0 36) := s_aload_n dJ0_getBytes_840e7_35 rfl
theorem s_J0_getBytes_840e7_36 {X : ev_E} {l : Launch} (hG : ev_Good X) (hl : l.stackTraces = false) : ev_Snd X l ev_ms x_J0_getBytes_840e7 tx_J0_getBytes_840e7 36 (i_gf X 0 0 39) := s_getfield hG (ci := 0) (r := (RJ0, TJ0, 4)) rfl cw_0 (k := 0) (Nat.le_of_ble_eq_true rfl) w_599 rfl (Or.inl rfl) dJ0_getBytes_840e7_36
theorem s_J0_getBytes_840e7_39 {X : ev_E} {l : Launch} (hG : ev_Good X) (hl : l.stackTraces = false) : ev_Snd X l ev_ms x_J0_getBytes_840e7 tx_J0_getBytes_840e7 39 (i_len X 40) := s_arraylength hG dJ0_getBytes_840e7_39
theorem s_J0_getBytes_840e7_40 {X : ev_E} {l : Launch} (hG : ev_Good X) (hl : l.stackTraces = false) : ev_Snd X l ev_ms x_J0_getBytes_840e7 tx_J0_getBytes_840e7 40 (i_cS 216 5 5 43) := s_invokestatic hG (mi := 216) (n := 5) (cal_J1_inflate_0e8fd (Nat.le_of_ble_eq_true rfl)) w_559 w_367 dJ0_getBytes_840e7_40
theorem s_J0_getBytes_840e7_43 {X : ev_E} {l : Launch} (hG : ev_Good X) (hl : l.stackTraces = false) : ev_Snd X l ev_ms x_J0_getBytes_840e7 tx_J0_getBytes_840e7 43 (i_vr) := s_return rfl dJ0_getBytes_840e7_43
theorem sa_J0_getBytes_840e7 {X : ev_E} {l : Launch} (hG : ev_Good X) (hl : l.stackTraces = false) : ∀ q ∈ tb_J0_getBytes_840e7 X, ev_Snd X l ev_ms x_J0_getBytes_840e7 tx_J0_getBytes_840e7 q.1 q.2 := by
  intro q hq
  unfold tb_J0_getBytes_840e7 at hq
  simp only [List.mem_cons, List.not_mem_nil, or_false] at hq
  rcases hq with rfl | rfl | rfl | rfl | rfl | rfl | rfl | rfl | rfl | rfl | rfl | rfl | rfl | rfl | rfl | rfl | rfl | rfl | rfl | rfl | rfl | rfl | rfl | rfl | rfl | rfl
  · exact s_J0_getBytes_840e7_0 hG hl
  · exact s_J0_getBytes_840e7_1 hG hl
  · exact s_J0_getBytes_840e7_4 hG hl
  · exact s_J0_getBytes_840e7_5 hG hl
  · exact s_J0_getBytes_840e7_8 hG hl
  · exact s_J0_getBytes_840e7_9 hG hl
  · exact s_J0_getBytes_840e7_12 hG hl
  · exact s_J0_getBytes_840e7_13 hG hl
  · exact s_J0_getBytes_840e7_14 hG hl
  · exact s_J0_getBytes_840e7_15 hG hl
  · exact s_J0_getBytes_840e7_16 hG hl
  · exact s_J0_getBytes_840e7_17 hG hl
  · exact s_J0_getBytes_840e7_18 hG hl
  · exact s_J0_getBytes_840e7_21 hG hl
  · exact s_J0_getBytes_840e7_22 hG hl
  · exact s_J0_getBytes_840e7_25 hG hl
  · exact s_J0_getBytes_840e7_28 hG hl
  · exact s_J0_getBytes_840e7_29 hG hl
  · exact s_J0_getBytes_840e7_32 hG hl
  · exact s_J0_getBytes_840e7_33 hG hl
  · exact s_J0_getBytes_840e7_34 hG hl
  · exact s_J0_getBytes_840e7_35 hG hl
  · exact s_J0_getBytes_840e7_36 hG hl
  · exact s_J0_getBytes_840e7_39 hG hl
  · exact s_J0_getBytes_840e7_40 hG hl
  · exact s_J0_getBytes_840e7_43 hG hl
def tx_J0_init_db425 : ev_X := fun pc _ => bif List.elem pc [10] then none else some none
noncomputable def tb_J0_init_db425 (X : ev_E) : List (Nat × (ev_S → ev_N)) := [(0, i_al 0 1), (1, i_oi 4), (4, i_al 1 5), (5, i_cV X 8 0 1 1 8), (8, i_as 3 9), (9, i_al 1 10), (10, i_cV X 80 0 1 1 13), (13, i_is 4 15), (15, i_al 1 16), (16, i_cV X 9 0 1 1 19), (19, i_ifeq 41 22), (22, i_al 0 23), (23, i_psh (.int (0)) 24), (24, i_pf 0 1 (.byte) 27), (27, i_al 0 28), (28, i_al 3 29), (29, i_psh (.int (0)) 30), (30, i_il 4 32), (32, i_cS 127 3 3 35), (35, i_pf 0 0 (.array (.byte)) 38), (38, i_goto 97), (41, i_psh (.int 1) 44), (44, i_ifeq 79 47), (47, i_al 1 48), (48, i_gf X 1 2 51), (51, i_ifeq 79 54), (54, i_al 0 55), (55, i_al 3 56), (56, i_psh (.int (0)) 57), (57, i_il 4 59), (59, i_cS 217 3 6 62), (62, i_pf 0 0 (.array (.byte)) 65), (65, i_al 0 66), (66, i_al 0 67), (67, i_gf X 0 0 70), (70, i_il 4 72), (72, i_cS 2 2 2 75), (75, i_pf 0 1 (.byte) 78), (78, i_vr), (79, i_al 0 80), (80, i_psh (.int (1)) 81), (81, i_pf 0 1 (.byte) 84), (84, i_al 0 85), (85, i_al 3 86), (86, i_psh (.int (0)) 87), (87, i_il 4 89), (89, i_psh (.int (1)) 90), (90, i_ii (fun a b => a <<< (b &&& 31)) 91), (91, i_cS 127 3 3 94), (94, i_pf 0 0 (.array (.byte)) 97), (97, i_vr)]
theorem s_J0_init_db425_0 {X : ev_E} {l : Launch} (hG : ev_Good X) (hl : l.stackTraces = false) : ev_Snd X l ev_ms x_J0_init_db425 tx_J0_init_db425 0 (i_al 0 1) := s_aload_n dJ0_init_db425_0 rfl
theorem s_J0_init_db425_1 {X : ev_E} {l : Launch} (hG : ev_Good X) (hl : l.stackTraces = false) : ev_Snd X l ev_ms x_J0_init_db425 tx_J0_init_db425 1 (i_oi 4) := s_objinit hG w_453 w_88 w_89 dJ0_init_db425_1
theorem s_J0_init_db425_4 {X : ev_E} {l : Launch} (hG : ev_Good X) (hl : l.stackTraces = false) : ev_Snd X l ev_ms x_J0_init_db425 tx_J0_init_db425 4 (i_al 1 5) := s_aload_n dJ0_init_db425_4 rfl
theorem s_J0_init_db425_5 {X : ev_E} {l : Launch} (hG : ev_Good X) (hl : l.stackTraces = false) : ev_Snd X l ev_ms x_J0_init_db425 tx_J0_init_db425 5 (i_cV X 8 0 1 1 8) := s_invokevirtual hG (mi := 8) (n := 0) (ci := 1) (r := (RJ4, TJ4, 4)) rfl (cal_J5_getValue_6d5f1 (Nat.le_of_ble_eq_true rfl)) w_454 w_455 w_457 dJ0_init_db425_5
theorem s_J0_init_db425_8 {X : ev_E} {l : Launch} (hG : ev_Good X) (hl : l.stackTraces = false) : ev_Snd X l ev_ms x_J0_init_db425 tx_J0_init_db425 8 (i_as 3 9) := s_astore_n dJ0_init_db425_8 rfl (Nat.le_of_ble_eq_true rfl)
theorem s_J0_init_db425_9 {X : ev_E} {l : Launch} (hG : ev_Good X) (hl : l.stackTraces = false) : ev_Snd X l ev_ms x_J0_init_db425 tx_J0_init_db425 9 (i_al 1 10) := s_aload_n dJ0_init_db425_9 rfl
theorem s_J0_init_db425_10 {X : ev_E} {l : Launch} (hG : ev_Good X) (hl : l.stackTraces = false) : ev_Snd X l ev_ms x_J0_init_db425 tx_J0_init_db425 10 (i_cV X 80 0 1 1 13) := s_invokeU hG (mi := 80) (n := 0) (ci := 1) (r := (RJ4, TJ4, 4)) rfl (cal_J4_length_8abf5 (Nat.le_of_ble_eq_true rfl)) (y := ⟨"java/lang/AbstractStringBuilder", "length", "()I"⟩) w_459 w_461 rfl w_460 w_466 w_462 rfl w_463 (by decide +kernel) rfl (fun _ => rfl) dJ0_init_db425_10
theorem s_J0_init_db425_13 {X : ev_E} {l : Launch} (hG : ev_Good X) (hl : l.stackTraces = false) : ev_Snd X l ev_ms x_J0_init_db425 tx_J0_init_db425 13 (i_is 4 15) := s_istore dJ0_init_db425_13 (Nat.le_of_ble_eq_true rfl)
theorem s_J0_init_db425_15 {X : ev_E} {l : Launch} (hG : ev_Good X) (hl : l.stackTraces = false) : ev_Snd X l ev_ms x_J0_init_db425 tx_J0_init_db425 15 (i_al 1 16) := s_aload_n dJ0_init_db425_15 rfl
theorem s_J0_init_db425_16 {X : ev_E} {l : Launch} (hG : ev_Good X) (hl : l.stackTraces = false) : ev_Snd X l ev_ms x_J0_init_db425 tx_J0_init_db425 16 (i_cV X 9 0 1 1 19) := s_invokevirtual hG (mi := 9) (n := 0) (ci := 1) (r := (RJ4, TJ4, 4)) rfl (cal_J5_isLatin1_aae02 (Nat.le_of_ble_eq_true rfl)) w_467 w_355 w_357 dJ0_init_db425_16
theorem s_J0_init_db425_19 {X : ev_E} {l : Launch} (hG : ev_Good X) (hl : l.stackTraces = false) : ev_Snd X l ev_ms x_J0_init_db425 tx_J0_init_db425 19 (i_ifeq 41 22) := s_ifeq dJ0_init_db425_19 rfl
theorem s_J0_init_db425_22 {X : ev_E} {l : Launch} (hG : ev_Good X) (hl : l.stackTraces = false) : ev_Snd X l ev_ms x_J0_init_db425 tx_J0_init_db425 22 (i_al 0 23) := s_aload_n dJ0_init_db425_22 rfl
theorem s_J0_init_db425_23 {X : ev_E} {l : Launch} (hG : ev_Good X) (hl : l.stackTraces = false) : ev_Snd X l ev_ms x_J0_init_db425 tx_J0_init_db425 23 (i_psh (.int (0)) 24) := s_iconst dJ0_init_db425_23 rfl
theorem s_J0_init_db425_24 {X : ev_E} {l : Launch} (hG : ev_Good X) (hl : l.stackTraces = false) : ev_Snd X l ev_ms x_J0_init_db425 tx_J0_init_db425 24 (i_pf 0 1 (.byte) 27) := s_putfieldF hG (ci := 0) (r := (RJ0, TJ0, 4)) rfl cw_0 ap_0 (k := 1) (Nat.le_of_ble_eq_true rfl) rfl rfl rfl (by decide +kernel) w_600 rfl dJ0_init_db425_24
theorem s_J0_init_db425_27 {X : ev_E} {l : Launch} (hG : ev_Good X) (hl : l.stackTraces = false) : ev_Snd X l ev_ms x_J0_init_db425 tx_J0_init_db425 27 (i_al 0 28) := s_aload_n dJ0_init_db425_27 rfl
theorem s_J0_init_db425_28 {X : ev_E} {l : Launch} (hG : ev_Good X) (hl : l.stackTraces = false) : ev_Snd X l ev_ms x_J0_init_db425 tx_J0_init_db425 28 (i_al 3 29) := s_aload_n dJ0_init_db425_28 rfl
theorem s_J0_init_db425_29 {X : ev_E} {l : Launch} (hG : ev_Good X) (hl : l.stackTraces = false) : ev_Snd X l ev_ms x_J0_init_db425 tx_J0_init_db425 29 (i_psh (.int (0)) 30) := s_iconst dJ0_init_db425_29 rfl
theorem s_J0_init_db425_30 {X : ev_E} {l : Launch} (hG : ev_Good X) (hl : l.stackTraces = false) : ev_Snd X l ev_ms x_J0_init_db425 tx_J0_init_db425 30 (i_il 4 32) := s_iload dJ0_init_db425_30
theorem s_J0_init_db425_32 {X : ev_E} {l : Launch} (hG : ev_Good X) (hl : l.stackTraces = false) : ev_Snd X l ev_ms x_J0_init_db425 tx_J0_init_db425 32 (i_cS 127 3 3 35) := s_invokestatic hG (mi := 127) (n := 3) (cal_J7_copyOfRange_39247 (Nat.le_of_ble_eq_true rfl)) w_468 w_469 dJ0_init_db425_32
theorem s_J0_init_db425_35 {X : ev_E} {l : Launch} (hG : ev_Good X) (hl : l.stackTraces = false) : ev_Snd X l ev_ms x_J0_init_db425 tx_J0_init_db425 35 (i_pf 0 0 (.array (.byte)) 38) := s_putfieldF hG (ci := 0) (r := (RJ0, TJ0, 4)) rfl cw_0 ap_0 (k := 0) (Nat.le_of_ble_eq_true rfl) rfl rfl rfl (by decide +kernel) w_599 rfl dJ0_init_db425_35
theorem s_J0_init_db425_38 {X : ev_E} {l : Launch} (hG : ev_Good X) (hl : l.stackTraces = false) : ev_Snd X l ev_ms x_J0_init_db425 tx_J0_init_db425 38 (i_goto 97) := s_goto dJ0_init_db425_38 rfl
theorem s_J0_init_db425_41 {X : ev_E} {l : Launch} (hG : ev_Good X) (hl : l.stackTraces = false) : ev_Snd X l ev_ms x_J0_init_db425 tx_J0_init_db425 41 (i_psh (.int 1) 44) := s_getstatic hG (hG.2.2.2.2.2.2.2.2.2.1) rfl w_544 dJ0_init_db425_41
theorem s_J0_init_db425_44 {X : ev_E} {l : Launch} (hG : ev_Good X) (hl : l.stackTraces = false) : ev_Snd X l ev_ms x_J0_init_db425 tx_J0_init_db425 44 (i_ifeq 79 47) := s_ifeq dJ0_init_db425_44 rfl
theorem s_J0_init_db425_47 {X : ev_E} {l : Launch} (hG : ev_Good X) (hl : l.stackTraces = false) : ev_Snd X l ev_ms x_J0_init_db425 tx_J0_init_db425 47 (i_al 1 48) := s_aload_n dJ0_init_db425_47 rfl
theorem s_J0_init_db425_48 {X : ev_E} {l : Launch} (hG : ev_Good X) (hl : l.stackTraces = false) : ev_Snd X l ev_ms x_J0_init_db425 tx_J0_init_db425 48 (i_gf X 1 2 51) := s_getfield hG (ci := 1) (r := (RJ4, TJ4, 4)) rfl cw_1 (k := 2) (Nat.le_of_ble_eq_true rfl) w_300 rfl (Or.inl rfl) dJ0_init_db425_48
theorem s_J0_init_db425_51 {X : ev_E} {l : Launch} (hG : ev_Good X) (hl : l.stackTraces = false) : ev_Snd X l ev_ms x_J0_init_db425 tx_J0_init_db425 51 (i_ifeq 79 54) := s_ifeq dJ0_init_db425_51 rfl
theorem s_J0_init_db425_54 {X : ev_E} {l : Launch} (hG : ev_Good X) (hl : l.stackTraces = false) : ev_Snd X l ev_ms x_J0_init_db425 tx_J0_init_db425 54 (i_al 0 55) := s_aload_n dJ0_init_db425_54 rfl
theorem s_J0_init_db425_55 {X : ev_E} {l : Launch} (hG : ev_Good X) (hl : l.stackTraces = false) : ev_Snd X l ev_ms x_J0_init_db425 tx_J0_init_db425 55 (i_al 3 56) := s_aload_n dJ0_init_db425_55 rfl
theorem s_J0_init_db425_56 {X : ev_E} {l : Launch} (hG : ev_Good X) (hl : l.stackTraces = false) : ev_Snd X l ev_ms x_J0_init_db425 tx_J0_init_db425 56 (i_psh (.int (0)) 57) := s_iconst dJ0_init_db425_56 rfl
theorem s_J0_init_db425_57 {X : ev_E} {l : Launch} (hG : ev_Good X) (hl : l.stackTraces = false) : ev_Snd X l ev_ms x_J0_init_db425 tx_J0_init_db425 57 (i_il 4 59) := s_iload dJ0_init_db425_57
theorem s_J0_init_db425_59 {X : ev_E} {l : Launch} (hG : ev_Good X) (hl : l.stackTraces = false) : ev_Snd X l ev_ms x_J0_init_db425 tx_J0_init_db425 59 (i_cS 217 3 6 62) := s_invokestatic hG (mi := 217) (n := 3) (cal_J2_compress_39247 (Nat.le_of_ble_eq_true rfl)) w_586 w_587 dJ0_init_db425_59
theorem s_J0_init_db425_62 {X : ev_E} {l : Launch} (hG : ev_Good X) (hl : l.stackTraces = false) : ev_Snd X l ev_ms x_J0_init_db425 tx_J0_init_db425 62 (i_pf 0 0 (.array (.byte)) 65) := s_putfieldF hG (ci := 0) (r := (RJ0, TJ0, 4)) rfl cw_0 ap_0 (k := 0) (Nat.le_of_ble_eq_true rfl) rfl rfl rfl (by decide +kernel) w_599 rfl dJ0_init_db425_62
theorem s_J0_init_db425_65 {X : ev_E} {l : Launch} (hG : ev_Good X) (hl : l.stackTraces = false) : ev_Snd X l ev_ms x_J0_init_db425 tx_J0_init_db425 65 (i_al 0 66) := s_aload_n dJ0_init_db425_65 rfl
theorem s_J0_init_db425_66 {X : ev_E} {l : Launch} (hG : ev_Good X) (hl : l.stackTraces = false) : ev_Snd X l ev_ms x_J0_init_db425 tx_J0_init_db425 66 (i_al 0 67) := s_aload_n dJ0_init_db425_66 rfl
theorem s_J0_init_db425_67 {X : ev_E} {l : Launch} (hG : ev_Good X) (hl : l.stackTraces = false) : ev_Snd X l ev_ms x_J0_init_db425 tx_J0_init_db425 67 (i_gf X 0 0 70) := s_getfield hG (ci := 0) (r := (RJ0, TJ0, 4)) rfl cw_0 (k := 0) (Nat.le_of_ble_eq_true rfl) w_599 rfl (Or.inl rfl) dJ0_init_db425_67
theorem s_J0_init_db425_70 {X : ev_E} {l : Launch} (hG : ev_Good X) (hl : l.stackTraces = false) : ev_Snd X l ev_ms x_J0_init_db425 tx_J0_init_db425 70 (i_il 4 72) := s_iload dJ0_init_db425_70
theorem s_J0_init_db425_72 {X : ev_E} {l : Launch} (hG : ev_Good X) (hl : l.stackTraces = false) : ev_Snd X l ev_ms x_J0_init_db425 tx_J0_init_db425 72 (i_cS 2 2 2 75) := s_invokestatic hG (mi := 2) (n := 2) (cal_J2_coderFromArrayLen_85cad (Nat.le_of_ble_eq_true rfl)) w_596 w_597 dJ0_init_db425_72
theorem s_J0_init_db425_75 {X : ev_E} {l : Launch} (hG : ev_Good X) (hl : l.stackTraces = false) : ev_Snd X l ev_ms x_J0_init_db425 tx_J0_init_db425 75 (i_pf 0 1 (.byte) 78) := s_putfieldF hG (ci := 0) (r := (RJ0, TJ0, 4)) rfl cw_0 ap_0 (k := 1) (Nat.le_of_ble_eq_true rfl) rfl rfl rfl (by decide +kernel) w_600 rfl dJ0_init_db425_75
theorem s_J0_init_db425_78 {X : ev_E} {l : Launch} (hG : ev_Good X) (hl : l.stackTraces = false) : ev_Snd X l ev_ms x_J0_init_db425 tx_J0_init_db425 78 (i_vr) := s_return rfl dJ0_init_db425_78
theorem s_J0_init_db425_79 {X : ev_E} {l : Launch} (hG : ev_Good X) (hl : l.stackTraces = false) : ev_Snd X l ev_ms x_J0_init_db425 tx_J0_init_db425 79 (i_al 0 80) := s_aload_n dJ0_init_db425_79 rfl
theorem s_J0_init_db425_80 {X : ev_E} {l : Launch} (hG : ev_Good X) (hl : l.stackTraces = false) : ev_Snd X l ev_ms x_J0_init_db425 tx_J0_init_db425 80 (i_psh (.int (1)) 81) := s_iconst dJ0_init_db425_80 rfl
theorem s_J0_init_db425_81 {X : ev_E} {l : Launch} (hG : ev_Good X) (hl : l.stackTraces = false) : ev_Snd X l ev_ms x_J0_init_db425 tx_J0_init_db425 81 (i_pf 0 1 (.byte) 84) := s_putfieldF hG (ci := 0) (r := (RJ0, TJ0, 4)) rfl cw_0 ap_0 (k := 1) (Nat.le_of_ble_eq_true rfl) rfl rfl rfl (by decide +kernel) w_600 rfl dJ0_init_db425_81
theorem s_J0_init_db425_84 {X : ev_E} {l : Launch} (hG : ev_Good X) (hl : l.stackTraces = false) : ev_Snd X l ev_ms x_J0_init_db425 tx_J0_init_db425 84 (i_al 0 85) := s_aload_n dJ0_init_db425_84 rfl
theorem s_J0_init_db425_85 {X : ev_E} {l : Launch} (hG : ev_Good X) (hl : l.stackTraces = false) : ev_Snd X l ev_ms x_J0_init_db425 tx_J0_init_db425 85 (i_al 3 86) := s_aload_n dJ0_init_db425_85 rfl
theorem s_J0_init_db425_86 {X : ev_E} {l : Launch} (hG : ev_Good X) (hl : l.stackTraces = false) : ev_Snd X l ev_ms x_J0_init_db425 tx_J0_init_db425 86 (i_psh (.int (0)) 87) := s_iconst dJ0_init_db425_86 rfl
theorem s_J0_init_db425_87 {X : ev_E} {l : Launch} (hG : ev_Good X) (hl : l.stackTraces = false) : ev_Snd X l ev_ms x_J0_init_db425 tx_J0_init_db425 87 (i_il 4 89) := s_iload dJ0_init_db425_87
theorem s_J0_init_db425_89 {X : ev_E} {l : Launch} (hG : ev_Good X) (hl : l.stackTraces = false) : ev_Snd X l ev_ms x_J0_init_db425 tx_J0_init_db425 89 (i_psh (.int (1)) 90) := s_iconst dJ0_init_db425_89 rfl
theorem s_J0_init_db425_90 {X : ev_E} {l : Launch} (hG : ev_Good X) (hl : l.stackTraces = false) : ev_Snd X l ev_ms x_J0_init_db425 tx_J0_init_db425 90 (i_ii (fun a b => a <<< (b &&& 31)) 91) := s_ishl dJ0_init_db425_90
theorem s_J0_init_db425_91 {X : ev_E} {l : Launch} (hG : ev_Good X) (hl : l.stackTraces = false) : ev_Snd X l ev_ms x_J0_init_db425 tx_J0_init_db425 91 (i_cS 127 3 3 94) := s_invokestatic hG (mi := 127) (n := 3) (cal_J7_copyOfRange_39247 (Nat.le_of_ble_eq_true rfl)) w_468 w_469 dJ0_init_db425_91
theorem s_J0_init_db425_94 {X : ev_E} {l : Launch} (hG : ev_Good X) (hl : l.stackTraces = false) : ev_Snd X l ev_ms x_J0_init_db425 tx_J0_init_db425 94 (i_pf 0 0 (.array (.byte)) 97) := s_putfieldF hG (ci := 0) (r := (RJ0, TJ0, 4)) rfl cw_0 ap_0 (k := 0) (Nat.le_of_ble_eq_true rfl) rfl rfl rfl (by decide +kernel) w_599 rfl dJ0_init_db425_94
theorem s_J0_init_db425_97 {X : ev_E} {l : Launch} (hG : ev_Good X) (hl : l.stackTraces = false) : ev_Snd X l ev_ms x_J0_init_db425 tx_J0_init_db425 97 (i_vr) := s_return rfl dJ0_init_db425_97
theorem sa_J0_init_db425 {X : ev_E} {l : Launch} (hG : ev_Good X) (hl : l.stackTraces = false) : ∀ q ∈ tb_J0_init_db425 X, ev_Snd X l ev_ms x_J0_init_db425 tx_J0_init_db425 q.1 q.2 := by
  intro q hq
  unfold tb_J0_init_db425 at hq
  simp only [List.mem_cons, List.not_mem_nil, or_false] at hq
  rcases hq with rfl | rfl | rfl | rfl | rfl | rfl | rfl | rfl | rfl | rfl | rfl | rfl | rfl | rfl | rfl | rfl | rfl | rfl | rfl | rfl | rfl | rfl | rfl | rfl | rfl | rfl | rfl | rfl | rfl | rfl | rfl | rfl | rfl | rfl | rfl | rfl | rfl | rfl | rfl | rfl | rfl | rfl | rfl | rfl | rfl | rfl | rfl | rfl | rfl | rfl | rfl
  · exact s_J0_init_db425_0 hG hl
  · exact s_J0_init_db425_1 hG hl
  · exact s_J0_init_db425_4 hG hl
  · exact s_J0_init_db425_5 hG hl
  · exact s_J0_init_db425_8 hG hl
  · exact s_J0_init_db425_9 hG hl
  · exact s_J0_init_db425_10 hG hl
  · exact s_J0_init_db425_13 hG hl
  · exact s_J0_init_db425_15 hG hl
  · exact s_J0_init_db425_16 hG hl
  · exact s_J0_init_db425_19 hG hl
  · exact s_J0_init_db425_22 hG hl
  · exact s_J0_init_db425_23 hG hl
  · exact s_J0_init_db425_24 hG hl
  · exact s_J0_init_db425_27 hG hl
  · exact s_J0_init_db425_28 hG hl
  · exact s_J0_init_db425_29 hG hl
  · exact s_J0_init_db425_30 hG hl
  · exact s_J0_init_db425_32 hG hl
  · exact s_J0_init_db425_35 hG hl
  · exact s_J0_init_db425_38 hG hl
  · exact s_J0_init_db425_41 hG hl
  · exact s_J0_init_db425_44 hG hl
  · exact s_J0_init_db425_47 hG hl
  · exact s_J0_init_db425_48 hG hl
  · exact s_J0_init_db425_51 hG hl
  · exact s_J0_init_db425_54 hG hl
  · exact s_J0_init_db425_55 hG hl
  · exact s_J0_init_db425_56 hG hl
  · exact s_J0_init_db425_57 hG hl
  · exact s_J0_init_db425_59 hG hl
  · exact s_J0_init_db425_62 hG hl
  · exact s_J0_init_db425_65 hG hl
  · exact s_J0_init_db425_66 hG hl
  · exact s_J0_init_db425_67 hG hl
  · exact s_J0_init_db425_70 hG hl
  · exact s_J0_init_db425_72 hG hl
  · exact s_J0_init_db425_75 hG hl
  · exact s_J0_init_db425_78 hG hl
  · exact s_J0_init_db425_79 hG hl
  · exact s_J0_init_db425_80 hG hl
  · exact s_J0_init_db425_81 hG hl
  · exact s_J0_init_db425_84 hG hl
  · exact s_J0_init_db425_85 hG hl
  · exact s_J0_init_db425_86 hG hl
  · exact s_J0_init_db425_87 hG hl
  · exact s_J0_init_db425_89 hG hl
  · exact s_J0_init_db425_90 hG hl
  · exact s_J0_init_db425_91 hG hl
  · exact s_J0_init_db425_94 hG hl
  · exact s_J0_init_db425_97 hG hl
def tx_J4_append_bf812 : ev_X := fun pc _ => bif List.elem pc [2] then none else some none
noncomputable def tb_J4_append_bf812 (X : ev_E) : List (Nat × (ev_S → ev_N)) := [(0, i_al 0 1), (1, i_il 1 2), (2, i_cV X 219 1 1 4 5), (5, i_pop 6), (6, i_al 0 7), (7, i_ar)]
theorem s_J4_append_bf812_0 {X : ev_E} {l : Launch} (hG : ev_Good X) (hl : l.stackTraces = false) : ev_Snd X l ev_ms x_J4_append_bf812 tx_J4_append_bf812 0 (i_al 0 1) := s_aload_n dJ4_append_bf812_0 rfl
theorem s_J4_append_bf812_1 {X : ev_E} {l : Launch} (hG : ev_Good X) (hl : l.stackTraces = false) : ev_Snd X l ev_ms x_J4_append_bf812 tx_J4_append_bf812 1 (i_il 1 2) := s_iload_n dJ4_append_bf812_1 rfl
theorem s_J4_append_bf812_2 {X : ev_E} {l : Launch} (hG : ev_Good X) (hl : l.stackTraces = false) : ev_Snd X l ev_ms x_J4_append_bf812 tx_J4_append_bf812 2 (i_cV X 219 1 1 4 5) := s_super hG (mi := 219) (n := 1) (ci := 1) (r := (RJ4, TJ4, 4)) rfl (cal_J5_append_c97b9 (Nat.le_of_ble_eq_true rfl)) w_411 w_1755 rfl w_310 w_412 (by decide +kernel) (fun _ => rfl) dJ4_append_bf812_2
theorem s_J4_append_bf812_5 {X : ev_E} {l : Launch} (hG : ev_Good X) (hl : l.stackTraces = false) : ev_Snd X l ev_ms x_J4_append_bf812 tx_J4_append_bf812 5 (i_pop 6) := s_pop dJ4_append_bf812_5
theorem s_J4_append_bf812_6 {X : ev_E} {l : Launch} (hG : ev_Good X) (hl : l.stackTraces = false) : ev_Snd X l ev_ms x_J4_append_bf812 tx_J4_append_bf812 6 (i_al 0 7) := s_aload_n dJ4_append_bf812_6 rfl
theorem s_J4_append_bf812_7 {X : ev_E} {l : Launch} (hG : ev_Good X) (hl : l.stackTraces = false) : ev_Snd X l ev_ms x_J4_append_bf812 tx_J4_append_bf812 7 (i_ar) := s_areturn (rt := (.object "java/lang/StringBuilder")) rfl (by first | exact Or.inl ⟨_, rfl⟩ | exact Or.inr ⟨_, rfl⟩) dJ4_append_bf812_7
theorem sa_J4_append_bf812 {X : ev_E} {l : Launch} (hG : ev_Good X) (hl : l.stackTraces = false) : ∀ q ∈ tb_J4_append_bf812 X, ev_Snd X l ev_ms x_J4_append_bf812 tx_J4_append_bf812 q.1 q.2 := by
  intro q hq
  unfold tb_J4_append_bf812 at hq
  simp only [List.mem_cons, List.not_mem_nil, or_false] at hq
  rcases hq with rfl | rfl | rfl | rfl | rfl | rfl
  · exact s_J4_append_bf812_0 hG hl
  · exact s_J4_append_bf812_1 hG hl
  · exact s_J4_append_bf812_2 hG hl
  · exact s_J4_append_bf812_5 hG hl
  · exact s_J4_append_bf812_6 hG hl
  · exact s_J4_append_bf812_7 hG hl
def tx_J5_inflate_da8c8 : ev_X := fun _ _ => some none
noncomputable def tb_J5_inflate_da8c8 (X : ev_E) : List (Nat × (ev_S → ev_N)) := [(0, i_al 0 1), (1, i_cV X 9 0 1 1 4), (4, i_ifne 8 7), (7, i_vr), (8, i_al 0 9), (9, i_gf X 1 0 12), (12, i_len X 13), (13, i_cS 78 1 1 16), (16, i_as 1 17), (17, i_al 0 18), (18, i_gf X 1 0 21), (21, i_psh (.int (0)) 22), (22, i_al 1 23), (23, i_psh (.int (0)) 24), (24, i_al 0 25), (25, i_gf X 1 3 28), (28, i_cS 216 5 5 31), (31, i_al 0 32), (32, i_al 1 33), (33, i_pf 1 0 (.array (.byte)) 36), (36, i_al 0 37), (37, i_psh (.int (1)) 38), (38, i_pf 1 1 (.byte) 41), (41, i_vr)]
theorem s_J5_inflate_da8c8_0 {X : ev_E} {l : Launch} (hG : ev_Good X) (hl : l.stackTraces = false) : ev_Snd X l ev_ms x_J5_inflate_da8c8 tx_J5_inflate_da8c8 0 (i_al 0 1) := s_aload_n dJ5_inflate_da8c8_0 rfl
theorem s_J5_inflate_da8c8_1 {X : ev_E} {l : Launch} (hG : ev_Good X) (hl : l.stackTraces = false) : ev_Snd X l ev_ms x_J5_inflate_da8c8 tx_J5_inflate_da8c8 1 (i_cV X 9 0 1 1 4) := s_invokevirtual hG (mi := 9) (n := 0) (ci := 1) (r := (RJ4, TJ4, 4)) rfl (cal_J5_isLatin1_aae02 (Nat.le_of_ble_eq_true rfl)) w_354 w_355 w_357 dJ5_inflate_da8c8_1
theorem s_J5_inflate_da8c8_4 {X : ev_E} {l : Launch} (hG : ev_Good X) (hl : l.stackTraces = false) : ev_Snd X l ev_ms x_J5_inflate_da8c8 tx_J5_inflate_da8c8 4 (i_ifne 8 7) := s_ifne dJ5_inflate_da8c8_4 rfl
theorem s_J5_inflate_da8c8_7 {X : ev_E} {l : Launch} (hG : ev_Good X) (hl : l.stackTraces = false) : ev_Snd X l ev_ms x_J5_inflate_da8c8 tx_J5_inflate_da8c8 7 (i_vr) := s_return rfl dJ5_inflate_da8c8_7
theorem s_J5_inflate_da8c8_8 {X : ev_E} {l : Launch} (hG : ev_Good X) (hl : l.stackTraces = false) : ev_Snd X l ev_ms x_J5_inflate_da8c8 tx_J5_inflate_da8c8 8 (i_al 0 9) := s_aload_n dJ5_inflate_da8c8_8 rfl
theorem s_J5_inflate_da8c8_9 {X : ev_E} {l : Launch} (hG : ev_Good X) (hl : l.stackTraces = false) : ev_Snd X l ev_ms x_J5_inflate_da8c8 tx_J5_inflate_da8c8 9 (i_gf X 1 0 12) := s_getfield hG (ci := 1) (r := (RJ4, TJ4, 4)) rfl cw_1 (k := 0) (Nat.le_of_ble_eq_true rfl) w_298 rfl (Or.inl rfl) dJ5_inflate_da8c8_9
theorem s_J5_inflate_da8c8_12 {X : ev_E} {l : Launch} (hG : ev_Good X) (hl : l.stackTraces = false) : ev_Snd X l ev_ms x_J5_inflate_da8c8 tx_J5_inflate_da8c8 12 (i_len X 13) := s_arraylength hG dJ5_inflate_da8c8_12
theorem s_J5_inflate_da8c8_13 {X : ev_E} {l : Launch} (hG : ev_Good X) (hl : l.stackTraces = false) : ev_Snd X l ev_ms x_J5_inflate_da8c8 tx_J5_inflate_da8c8 13 (i_cS 78 1 1 16) := s_invokestatic hG (mi := 78) (n := 1) (cal_J2_newBytesFor_77867 (Nat.le_of_ble_eq_true rfl)) w_291 w_292 dJ5_inflate_da8c8_13
theorem s_J5_inflate_da8c8_16 {X : ev_E} {l : Launch} (hG : ev_Good X) (hl : l.stackTraces = false) : ev_Snd X l ev_ms x_J5_inflate_da8c8 tx_J5_inflate_da8c8 16 (i_as 1 17) := s_astore_n dJ5_inflate_da8c8_16 rfl (Nat.le_of_ble_eq_true rfl)
theorem s_J5_inflate_da8c8_17 {X : ev_E} {l : Launch} (hG : ev_Good X) (hl : l.stackTraces = false) : ev_Snd X l ev_ms x_J5_inflate_da8c8 tx_J5_inflate_da8c8 17 (i_al 0 18) := s_aload_n dJ5_inflate_da8c8_17 rfl
theorem s_J5_inflate_da8c8_18 {X : ev_E} {l : Launch} (hG : ev_Good X) (hl : l.stackTraces = false) : ev_Snd X l ev_ms x_J5_inflate_da8c8 tx_J5_inflate_da8c8 18 (i_gf X 1 0 21) := s_getfield hG (ci := 1) (r := (RJ4, TJ4, 4)) rfl cw_1 (k := 0) (Nat.le_of_ble_eq_true rfl) w_298 rfl (Or.inl rfl) dJ5_inflate_da8c8_18
theorem s_J5_inflate_da8c8_21 {X : ev_E} {l : Launch} (hG : ev_Good X) (hl : l.stackTraces = false) : ev_Snd X l ev_ms x_J5_inflate_da8c8 tx_J5_inflate_da8c8 21 (i_psh (.int (0)) 22) := s_iconst dJ5_inflate_da8c8_21 rfl
theorem s_J5_inflate_da8c8_22 {X : ev_E} {l : Launch} (hG : ev_Good X) (hl : l.stackTraces = false) : ev_Snd X l ev_ms x_J5_inflate_da8c8 tx_J5_inflate_da8c8 22 (i_al 1 23) := s_aload_n dJ5_inflate_da8c8_22 rfl
theorem s_J5_inflate_da8c8_23 {X : ev_E} {l : Launch} (hG : ev_Good X) (hl : l.stackTraces = false) : ev_Snd X l ev_ms x_J5_inflate_da8c8 tx_J5_inflate_da8c8 23 (i_psh (.int (0)) 24) := s_iconst dJ5_inflate_da8c8_23 rfl
theorem s_J5_inflate_da8c8_24 {X : ev_E} {l : Launch} (hG : ev_Good X) (hl : l.stackTraces = false) : ev_Snd X l ev_ms x_J5_inflate_da8c8 tx_J5_inflate_da8c8 24 (i_al 0 25) := s_aload_n dJ5_inflate_da8c8_24 rfl
theorem s_J5_inflate_da8c8_25 {X : ev_E} {l : Launch} (hG : ev_Good X) (hl : l.stackTraces = false) : ev_Snd X l ev_ms x_J5_inflate_da8c8 tx_J5_inflate_da8c8 25 (i_gf X 1 3 28) := s_getfield hG (ci := 1) (r := (RJ4, TJ4, 4)) rfl cw_1 (k := 3) (Nat.le_of_ble_eq_true rfl) w_301 rfl (Or.inl rfl) dJ5_inflate_da8c8_25
theorem s_J5_inflate_da8c8_28 {X : ev_E} {l : Launch} (hG : ev_Good X) (hl : l.stackTraces = false) : ev_Snd X l ev_ms x_J5_inflate_da8c8 tx_J5_inflate_da8c8 28 (i_cS 216 5 5 31) := s_invokestatic hG (mi := 216) (n := 5) (cal_J1_inflate_0e8fd (Nat.le_of_ble_eq_true rfl)) w_366 w_367 dJ5_inflate_da8c8_28
theorem s_J5_inflate_da8c8_31 {X : ev_E} {l : Launch} (hG : ev_Good X) (hl : l.stackTraces = false) : ev_Snd X l ev_ms x_J5_inflate_da8c8 tx_J5_inflate_da8c8 31 (i_al 0 32) := s_aload_n dJ5_inflate_da8c8_31 rfl
theorem s_J5_inflate_da8c8_32 {X : ev_E} {l : Launch} (hG : ev_Good X) (hl : l.stackTraces = false) : ev_Snd X l ev_ms x_J5_inflate_da8c8 tx_J5_inflate_da8c8 32 (i_al 1 33) := s_aload_n dJ5_inflate_da8c8_32 rfl
theorem s_J5_inflate_da8c8_33 {X : ev_E} {l : Launch} (hG : ev_Good X) (hl : l.stackTraces = false) : ev_Snd X l ev_ms x_J5_inflate_da8c8 tx_J5_inflate_da8c8 33 (i_pf 1 0 (.array (.byte)) 36) := s_putfield hG (ci := 1) (r := (RJ4, TJ4, 4)) rfl cw_1 ap_1 (k := 0) (Nat.le_of_ble_eq_true rfl) rfl (by decide +kernel) w_298 rfl (Or.inl rfl) dJ5_inflate_da8c8_33
theorem s_J5_inflate_da8c8_36 {X : ev_E} {l : Launch} (hG : ev_Good X) (hl : l.stackTraces = false) : ev_Snd X l ev_ms x_J5_inflate_da8c8 tx_J5_inflate_da8c8 36 (i_al 0 37) := s_aload_n dJ5_inflate_da8c8_36 rfl
theorem s_J5_inflate_da8c8_37 {X : ev_E} {l : Launch} (hG : ev_Good X) (hl : l.stackTraces = false) : ev_Snd X l ev_ms x_J5_inflate_da8c8 tx_J5_inflate_da8c8 37 (i_psh (.int (1)) 38) := s_iconst dJ5_inflate_da8c8_37 rfl
theorem s_J5_inflate_da8c8_38 {X : ev_E} {l : Launch} (hG : ev_Good X) (hl : l.stackTraces = false) : ev_Snd X l ev_ms x_J5_inflate_da8c8 tx_J5_inflate_da8c8 38 (i_pf 1 1 (.byte) 41) := s_putfield hG (ci := 1) (r := (RJ4, TJ4, 4)) rfl cw_1 ap_1 (k := 1) (Nat.le_of_ble_eq_true rfl) rfl (by decide +kernel) w_299 rfl (Or.inl rfl) dJ5_inflate_da8c8_38
theorem s_J5_inflate_da8c8_41 {X : ev_E} {l : Launch} (hG : ev_Good X) (hl : l.stackTraces = false) : ev_Snd X l ev_ms x_J5_inflate_da8c8 tx_J5_inflate_da8c8 41 (i_vr) := s_return rfl dJ5_inflate_da8c8_41
theorem sa_J5_inflate_da8c8 {X : ev_E} {l : Launch} (hG : ev_Good X) (hl : l.stackTraces = false) : ∀ q ∈ tb_J5_inflate_da8c8 X, ev_Snd X l ev_ms x_J5_inflate_da8c8 tx_J5_inflate_da8c8 q.1 q.2 := by
  intro q hq
  unfold tb_J5_inflate_da8c8 at hq
  simp only [List.mem_cons, List.not_mem_nil, or_false] at hq
  rcases hq with rfl | rfl | rfl | rfl | rfl | rfl | rfl | rfl | rfl | rfl | rfl | rfl | rfl | rfl | rfl | rfl | rfl | rfl | rfl | rfl | rfl | rfl | rfl | rfl
  · exact s_J5_inflate_da8c8_0 hG hl
  · exact s_J5_inflate_da8c8_1 hG hl
  · exact s_J5_inflate_da8c8_4 hG hl
  · exact s_J5_inflate_da8c8_7 hG hl
  · exact s_J5_inflate_da8c8_8 hG hl
  · exact s_J5_inflate_da8c8_9 hG hl
  · exact s_J5_inflate_da8c8_12 hG hl
  · exact s_J5_inflate_da8c8_13 hG hl
  · exact s_J5_inflate_da8c8_16 hG hl
  · exact s_J5_inflate_da8c8_17 hG hl
  · exact s_J5_inflate_da8c8_18 hG hl
  · exact s_J5_inflate_da8c8_21 hG hl
  · exact s_J5_inflate_da8c8_22 hG hl
  · exact s_J5_inflate_da8c8_23 hG hl
  · exact s_J5_inflate_da8c8_24 hG hl
  · exact s_J5_inflate_da8c8_25 hG hl
  · exact s_J5_inflate_da8c8_28 hG hl
  · exact s_J5_inflate_da8c8_31 hG hl
  · exact s_J5_inflate_da8c8_32 hG hl
  · exact s_J5_inflate_da8c8_33 hG hl
  · exact s_J5_inflate_da8c8_36 hG hl
  · exact s_J5_inflate_da8c8_37 hG hl
  · exact s_J5_inflate_da8c8_38 hG hl
  · exact s_J5_inflate_da8c8_41 hG hl
def tx_Jx4a65c_add_72be8 : ev_X := fun _ _ => some none
noncomputable def tb_Jx4a65c_add_72be8 (X : ev_E) : List (Nat × (ev_S → ev_N)) := [(0, i_il 3 1), (1, i_al 2 2), (2, i_len X 3), (3, i_icne 11 6), (6, i_al 0 7), (7, i_cV X 220 0 4 1 10), (10, i_as 2 11), (11, i_al 2 12), (12, i_il 3 13), (13, i_al 1 14), (14, i_aasto X 15), (15, i_al 0 16), (16, i_il 3 17), (17, i_psh (.int (1)) 18), (18, i_ii (fun a b => a + b) 19), (19, i_pf 4 2 (.int) 22), (22, i_vr)]
theorem s_Jx4a65c_add_72be8_0 {X : ev_E} {l : Launch} (hG : ev_Good X) (hl : l.stackTraces = false) : ev_Snd X l ev_ms x_Jx4a65c_add_72be8 tx_Jx4a65c_add_72be8 0 (i_il 3 1) := s_iload_n dJx4a65c_add_72be8_0 rfl
theorem s_Jx4a65c_add_72be8_1 {X : ev_E} {l : Launch} (hG : ev_Good X) (hl : l.stackTraces = false) : ev_Snd X l ev_ms x_Jx4a65c_add_72be8 tx_Jx4a65c_add_72be8 1 (i_al 2 2) := s_aload_n dJx4a65c_add_72be8_1 rfl
theorem s_Jx4a65c_add_72be8_2 {X : ev_E} {l : Launch} (hG : ev_Good X) (hl : l.stackTraces = false) : ev_Snd X l ev_ms x_Jx4a65c_add_72be8 tx_Jx4a65c_add_72be8 2 (i_len X 3) := s_arraylength hG dJx4a65c_add_72be8_2
theorem s_Jx4a65c_add_72be8_3 {X : ev_E} {l : Launch} (hG : ev_Good X) (hl : l.stackTraces = false) : ev_Snd X l ev_ms x_Jx4a65c_add_72be8 tx_Jx4a65c_add_72be8 3 (i_icne 11 6) := s_icne dJx4a65c_add_72be8_3 rfl
theorem s_Jx4a65c_add_72be8_6 {X : ev_E} {l : Launch} (hG : ev_Good X) (hl : l.stackTraces = false) : ev_Snd X l ev_ms x_Jx4a65c_add_72be8 tx_Jx4a65c_add_72be8 6 (i_al 0 7) := s_aload_n dJx4a65c_add_72be8_6 rfl
theorem s_Jx4a65c_add_72be8_7 {X : ev_E} {l : Launch} (hG : ev_Good X) (hl : l.stackTraces = false) : ev_Snd X l ev_ms x_Jx4a65c_add_72be8 tx_Jx4a65c_add_72be8 7 (i_cV X 220 0 4 1 10) := s_invokevirtual hG (mi := 220) (n := 0) (ci := 4) (r := (RJx4a65c, TJx4a65c, 3)) rfl (cal_Jx4a65c_grow_d5877 (Nat.le_of_ble_eq_true rfl)) w_1351 w_1353 w_25 dJx4a65c_add_72be8_7
theorem s_Jx4a65c_add_72be8_10 {X : ev_E} {l : Launch} (hG : ev_Good X) (hl : l.stackTraces = false) : ev_Snd X l ev_ms x_Jx4a65c_add_72be8 tx_Jx4a65c_add_72be8 10 (i_as 2 11) := s_astore_n dJx4a65c_add_72be8_10 rfl (Nat.le_of_ble_eq_true rfl)
theorem s_Jx4a65c_add_72be8_11 {X : ev_E} {l : Launch} (hG : ev_Good X) (hl : l.stackTraces = false) : ev_Snd X l ev_ms x_Jx4a65c_add_72be8 tx_Jx4a65c_add_72be8 11 (i_al 2 12) := s_aload_n dJx4a65c_add_72be8_11 rfl
theorem s_Jx4a65c_add_72be8_12 {X : ev_E} {l : Launch} (hG : ev_Good X) (hl : l.stackTraces = false) : ev_Snd X l ev_ms x_Jx4a65c_add_72be8 tx_Jx4a65c_add_72be8 12 (i_il 3 13) := s_iload_n dJx4a65c_add_72be8_12 rfl
theorem s_Jx4a65c_add_72be8_13 {X : ev_E} {l : Launch} (hG : ev_Good X) (hl : l.stackTraces = false) : ev_Snd X l ev_ms x_Jx4a65c_add_72be8 tx_Jx4a65c_add_72be8 13 (i_al 1 14) := s_aload_n dJx4a65c_add_72be8_13 rfl
theorem s_Jx4a65c_add_72be8_14 {X : ev_E} {l : Launch} (hG : ev_Good X) (hl : l.stackTraces = false) : ev_Snd X l ev_ms x_Jx4a65c_add_72be8 tx_Jx4a65c_add_72be8 14 (i_aasto X 15) := s_aastoreO hG w_1784 w_1765 dJx4a65c_add_72be8_14
theorem s_Jx4a65c_add_72be8_15 {X : ev_E} {l : Launch} (hG : ev_Good X) (hl : l.stackTraces = false) : ev_Snd X l ev_ms x_Jx4a65c_add_72be8 tx_Jx4a65c_add_72be8 15 (i_al 0 16) := s_aload_n dJx4a65c_add_72be8_15 rfl
theorem s_Jx4a65c_add_72be8_16 {X : ev_E} {l : Launch} (hG : ev_Good X) (hl : l.stackTraces = false) : ev_Snd X l ev_ms x_Jx4a65c_add_72be8 tx_Jx4a65c_add_72be8 16 (i_il 3 17) := s_iload_n dJx4a65c_add_72be8_16 rfl
theorem s_Jx4a65c_add_72be8_17 {X : ev_E} {l : Launch} (hG : ev_Good X) (hl : l.stackTraces = false) : ev_Snd X l ev_ms x_Jx4a65c_add_72be8 tx_Jx4a65c_add_72be8 17 (i_psh (.int (1)) 18) := s_iconst dJx4a65c_add_72be8_17 rfl
theorem s_Jx4a65c_add_72be8_18 {X : ev_E} {l : Launch} (hG : ev_Good X) (hl : l.stackTraces = false) : ev_Snd X l ev_ms x_Jx4a65c_add_72be8 tx_Jx4a65c_add_72be8 18 (i_ii (fun a b => a + b) 19) := s_iadd dJx4a65c_add_72be8_18
theorem s_Jx4a65c_add_72be8_19 {X : ev_E} {l : Launch} (hG : ev_Good X) (hl : l.stackTraces = false) : ev_Snd X l ev_ms x_Jx4a65c_add_72be8 tx_Jx4a65c_add_72be8 19 (i_pf 4 2 (.int) 22) := s_putfield hG (ci := 4) (r := (RJx4a65c, TJx4a65c, 3)) rfl cw_4 ap_4 (k := 2) (Nat.le_of_ble_eq_true rfl) rfl (by decide +kernel) w_1209 rfl (Or.inl rfl) dJx4a65c_add_72be8_19
theorem s_Jx4a65c_add_72be8_22 {X : ev_E} {l : Launch} (hG : ev_Good X) (hl : l.stackTraces = false) : ev_Snd X l ev_ms x_Jx4a65c_add_72be8 tx_Jx4a65c_add_72be8 22 (i_vr) := s_return rfl dJx4a65c_add_72be8_22
theorem sa_Jx4a65c_add_72be8 {X : ev_E} {l : Launch} (hG : ev_Good X) (hl : l.stackTraces = false) : ∀ q ∈ tb_Jx4a65c_add_72be8 X, ev_Snd X l ev_ms x_Jx4a65c_add_72be8 tx_Jx4a65c_add_72be8 q.1 q.2 := by
  intro q hq
  unfold tb_Jx4a65c_add_72be8 at hq
  simp only [List.mem_cons, List.not_mem_nil, or_false] at hq
  rcases hq with rfl | rfl | rfl | rfl | rfl | rfl | rfl | rfl | rfl | rfl | rfl | rfl | rfl | rfl | rfl | rfl | rfl
  · exact s_Jx4a65c_add_72be8_0 hG hl
  · exact s_Jx4a65c_add_72be8_1 hG hl
  · exact s_Jx4a65c_add_72be8_2 hG hl
  · exact s_Jx4a65c_add_72be8_3 hG hl
  · exact s_Jx4a65c_add_72be8_6 hG hl
  · exact s_Jx4a65c_add_72be8_7 hG hl
  · exact s_Jx4a65c_add_72be8_10 hG hl
  · exact s_Jx4a65c_add_72be8_11 hG hl
  · exact s_Jx4a65c_add_72be8_12 hG hl
  · exact s_Jx4a65c_add_72be8_13 hG hl
  · exact s_Jx4a65c_add_72be8_14 hG hl
  · exact s_Jx4a65c_add_72be8_15 hG hl
  · exact s_Jx4a65c_add_72be8_16 hG hl
  · exact s_Jx4a65c_add_72be8_17 hG hl
  · exact s_Jx4a65c_add_72be8_18 hG hl
  · exact s_Jx4a65c_add_72be8_19 hG hl
  · exact s_Jx4a65c_add_72be8_22 hG hl
def tx_J0_init_81219 : ev_X := fun pc _ => bif List.elem pc [3] then none else some none
noncomputable def tb_J0_init_81219 (X : ev_E) : List (Nat × (ev_S → ev_N)) := [(0, i_al 0 1), (1, i_al 1 2), (2, i_psh .null 3), (3, i_cI 246 2 5 6), (6, i_vr)]
theorem s_J0_init_81219_0 {X : ev_E} {l : Launch} (hG : ev_Good X) (hl : l.stackTraces = false) : ev_Snd X l ev_ms x_J0_init_81219 tx_J0_init_81219 0 (i_al 0 1) := s_aload_n dJ0_init_81219_0 rfl
theorem s_J0_init_81219_1 {X : ev_E} {l : Launch} (hG : ev_Good X) (hl : l.stackTraces = false) : ev_Snd X l ev_ms x_J0_init_81219 tx_J0_init_81219 1 (i_al 1 2) := s_aload_n dJ0_init_81219_1 rfl
theorem s_J0_init_81219_2 {X : ev_E} {l : Launch} (hG : ev_Good X) (hl : l.stackTraces = false) : ev_Snd X l ev_ms x_J0_init_81219 tx_J0_init_81219 2 (i_psh .null 3) := s_null dJ0_init_81219_2
theorem s_J0_init_81219_3 {X : ev_E} {l : Launch} (hG : ev_Good X) (hl : l.stackTraces = false) : ev_Snd X l ev_ms x_J0_init_81219 tx_J0_init_81219 3 (i_cI 246 2 5 6) := s_invokeinit hG (mi := 246) (n := 2) (cal_J0_init_db425 (Nat.le_of_ble_eq_true rfl)) rfl w_450 w_451 rfl (fun _ => rfl) dJ0_init_81219_3
theorem s_J0_init_81219_6 {X : ev_E} {l : Launch} (hG : ev_Good X) (hl : l.stackTraces = false) : ev_Snd X l ev_ms x_J0_init_81219 tx_J0_init_81219 6 (i_vr) := s_return rfl dJ0_init_81219_6
theorem sa_J0_init_81219 {X : ev_E} {l : Launch} (hG : ev_Good X) (hl : l.stackTraces = false) : ∀ q ∈ tb_J0_init_81219 X, ev_Snd X l ev_ms x_J0_init_81219 tx_J0_init_81219 q.1 q.2 := by
  intro q hq
  unfold tb_J0_init_81219 at hq
  simp only [List.mem_cons, List.not_mem_nil, or_false] at hq
  rcases hq with rfl | rfl | rfl | rfl | rfl
  · exact s_J0_init_81219_0 hG hl
  · exact s_J0_init_81219_1 hG hl
  · exact s_J0_init_81219_2 hG hl
  · exact s_J0_init_81219_3 hG hl
  · exact s_J0_init_81219_6 hG hl
def tx_J5_append_3fe6f : ev_X := fun _ _ => some none
noncomputable def tb_J5_append_3fe6f (X : ev_E) : List (Nat × (ev_S → ev_N)) := [(0, i_al 0 1), (1, i_al 0 2), (2, i_gf X 1 3 5), (5, i_psh (.int (1)) 6), (6, i_ii (fun a b => a + b) 7), (7, i_cV X 178 1 1 3 10), (10, i_al 0 11), (11, i_cV X 9 0 1 1 14), (14, i_ifeq 45 17), (17, i_il 1 18), (18, i_cS 1 1 1 21), (21, i_ifeq 45 24), (24, i_al 0 25), (25, i_gf X 1 0 28), (28, i_al 0 29), (29, i_dup 30), (30, i_gf X 1 3 33), (33, i_dx1 34), (34, i_psh (.int (1)) 35), (35, i_ii (fun a b => a + b) 36), (36, i_pf 1 3 (.int) 39), (39, i_il 1 40), (40, i_i1 (fun a => a.toInt8.toInt32) 41), (41, i_ast ev_tB (vp_nar .byte) 42), (42, i_goto 75), (45, i_al 0 46), (46, i_cV X 9 0 1 1 49), (49, i_ifeq 56 52), (52, i_al 0 53), (53, i_cV X 248 0 1 2 56), (56, i_al 0 57), (57, i_gf X 1 0 60), (60, i_al 0 61), (61, i_dup 62), (62, i_gf X 1 3 65), (65, i_dx1 66), (66, i_psh (.int (1)) 67), (67, i_ii (fun a b => a + b) 68), (68, i_pf 1 3 (.int) 71), (71, i_il 1 72), (72, i_cS 175 3 3 75), (75, i_al 0 76), (76, i_ar)]
theorem s_J5_append_3fe6f_0 {X : ev_E} {l : Launch} (hG : ev_Good X) (hl : l.stackTraces = false) : ev_Snd X l ev_ms x_J5_append_3fe6f tx_J5_append_3fe6f 0 (i_al 0 1) := s_aload_n dJ5_append_3fe6f_0 rfl
theorem s_J5_append_3fe6f_1 {X : ev_E} {l : Launch} (hG : ev_Good X) (hl : l.stackTraces = false) : ev_Snd X l ev_ms x_J5_append_3fe6f tx_J5_append_3fe6f 1 (i_al 0 2) := s_aload_n dJ5_append_3fe6f_1 rfl
theorem s_J5_append_3fe6f_2 {X : ev_E} {l : Launch} (hG : ev_Good X) (hl : l.stackTraces = false) : ev_Snd X l ev_ms x_J5_append_3fe6f tx_J5_append_3fe6f 2 (i_gf X 1 3 5) := s_getfield hG (ci := 1) (r := (RJ4, TJ4, 4)) rfl cw_1 (k := 3) (Nat.le_of_ble_eq_true rfl) w_301 rfl (Or.inl rfl) dJ5_append_3fe6f_2
theorem s_J5_append_3fe6f_5 {X : ev_E} {l : Launch} (hG : ev_Good X) (hl : l.stackTraces = false) : ev_Snd X l ev_ms x_J5_append_3fe6f tx_J5_append_3fe6f 5 (i_psh (.int (1)) 6) := s_iconst dJ5_append_3fe6f_5 rfl
theorem s_J5_append_3fe6f_6 {X : ev_E} {l : Launch} (hG : ev_Good X) (hl : l.stackTraces = false) : ev_Snd X l ev_ms x_J5_append_3fe6f tx_J5_append_3fe6f 6 (i_ii (fun a b => a + b) 7) := s_iadd dJ5_append_3fe6f_6
theorem s_J5_append_3fe6f_7 {X : ev_E} {l : Launch} (hG : ev_Good X) (hl : l.stackTraces = false) : ev_Snd X l ev_ms x_J5_append_3fe6f tx_J5_append_3fe6f 7 (i_cV X 178 1 1 3 10) := s_invokevirtualP hG (mi := 178) (n := 1) (ci := 1) (r := (RJ4, TJ4, 4)) rfl (cal_J5_ensureCapacityInternal_d00df (Nat.le_of_ble_eq_true rfl)) w_319 w_321 (z := ⟨"java/lang/AbstractStringBuilder", "isLatin1", "()Z"⟩) w_357 rfl w_320 dJ5_append_3fe6f_7
theorem s_J5_append_3fe6f_10 {X : ev_E} {l : Launch} (hG : ev_Good X) (hl : l.stackTraces = false) : ev_Snd X l ev_ms x_J5_append_3fe6f tx_J5_append_3fe6f 10 (i_al 0 11) := s_aload_n dJ5_append_3fe6f_10 rfl
theorem s_J5_append_3fe6f_11 {X : ev_E} {l : Launch} (hG : ev_Good X) (hl : l.stackTraces = false) : ev_Snd X l ev_ms x_J5_append_3fe6f tx_J5_append_3fe6f 11 (i_cV X 9 0 1 1 14) := s_invokevirtual hG (mi := 9) (n := 0) (ci := 1) (r := (RJ4, TJ4, 4)) rfl (cal_J5_isLatin1_aae02 (Nat.le_of_ble_eq_true rfl)) w_354 w_355 w_357 dJ5_append_3fe6f_11
theorem s_J5_append_3fe6f_14 {X : ev_E} {l : Launch} (hG : ev_Good X) (hl : l.stackTraces = false) : ev_Snd X l ev_ms x_J5_append_3fe6f tx_J5_append_3fe6f 14 (i_ifeq 45 17) := s_ifeq dJ5_append_3fe6f_14 rfl
theorem s_J5_append_3fe6f_17 {X : ev_E} {l : Launch} (hG : ev_Good X) (hl : l.stackTraces = false) : ev_Snd X l ev_ms x_J5_append_3fe6f tx_J5_append_3fe6f 17 (i_il 1 18) := s_iload_n dJ5_append_3fe6f_17 rfl
theorem s_J5_append_3fe6f_18 {X : ev_E} {l : Launch} (hG : ev_Good X) (hl : l.stackTraces = false) : ev_Snd X l ev_ms x_J5_append_3fe6f tx_J5_append_3fe6f 18 (i_cS 1 1 1 21) := s_invokestatic hG (mi := 1) (n := 1) (cal_J1_canEncode_fc78d (Nat.le_of_ble_eq_true rfl)) w_359 w_360 dJ5_append_3fe6f_18
theorem s_J5_append_3fe6f_21 {X : ev_E} {l : Launch} (hG : ev_Good X) (hl : l.stackTraces = false) : ev_Snd X l ev_ms x_J5_append_3fe6f tx_J5_append_3fe6f 21 (i_ifeq 45 24) := s_ifeq dJ5_append_3fe6f_21 rfl
theorem s_J5_append_3fe6f_24 {X : ev_E} {l : Launch} (hG : ev_Good X) (hl : l.stackTraces = false) : ev_Snd X l ev_ms x_J5_append_3fe6f tx_J5_append_3fe6f 24 (i_al 0 25) := s_aload_n dJ5_append_3fe6f_24 rfl
theorem s_J5_append_3fe6f_25 {X : ev_E} {l : Launch} (hG : ev_Good X) (hl : l.stackTraces = false) : ev_Snd X l ev_ms x_J5_append_3fe6f tx_J5_append_3fe6f 25 (i_gf X 1 0 28) := s_getfield hG (ci := 1) (r := (RJ4, TJ4, 4)) rfl cw_1 (k := 0) (Nat.le_of_ble_eq_true rfl) w_298 rfl (Or.inl rfl) dJ5_append_3fe6f_25
theorem s_J5_append_3fe6f_28 {X : ev_E} {l : Launch} (hG : ev_Good X) (hl : l.stackTraces = false) : ev_Snd X l ev_ms x_J5_append_3fe6f tx_J5_append_3fe6f 28 (i_al 0 29) := s_aload_n dJ5_append_3fe6f_28 rfl
theorem s_J5_append_3fe6f_29 {X : ev_E} {l : Launch} (hG : ev_Good X) (hl : l.stackTraces = false) : ev_Snd X l ev_ms x_J5_append_3fe6f tx_J5_append_3fe6f 29 (i_dup 30) := s_dup dJ5_append_3fe6f_29
theorem s_J5_append_3fe6f_30 {X : ev_E} {l : Launch} (hG : ev_Good X) (hl : l.stackTraces = false) : ev_Snd X l ev_ms x_J5_append_3fe6f tx_J5_append_3fe6f 30 (i_gf X 1 3 33) := s_getfield hG (ci := 1) (r := (RJ4, TJ4, 4)) rfl cw_1 (k := 3) (Nat.le_of_ble_eq_true rfl) w_301 rfl (Or.inl rfl) dJ5_append_3fe6f_30
theorem s_J5_append_3fe6f_33 {X : ev_E} {l : Launch} (hG : ev_Good X) (hl : l.stackTraces = false) : ev_Snd X l ev_ms x_J5_append_3fe6f tx_J5_append_3fe6f 33 (i_dx1 34) := s_dup_x1 dJ5_append_3fe6f_33
theorem s_J5_append_3fe6f_34 {X : ev_E} {l : Launch} (hG : ev_Good X) (hl : l.stackTraces = false) : ev_Snd X l ev_ms x_J5_append_3fe6f tx_J5_append_3fe6f 34 (i_psh (.int (1)) 35) := s_iconst dJ5_append_3fe6f_34 rfl
theorem s_J5_append_3fe6f_35 {X : ev_E} {l : Launch} (hG : ev_Good X) (hl : l.stackTraces = false) : ev_Snd X l ev_ms x_J5_append_3fe6f tx_J5_append_3fe6f 35 (i_ii (fun a b => a + b) 36) := s_iadd dJ5_append_3fe6f_35
theorem s_J5_append_3fe6f_36 {X : ev_E} {l : Launch} (hG : ev_Good X) (hl : l.stackTraces = false) : ev_Snd X l ev_ms x_J5_append_3fe6f tx_J5_append_3fe6f 36 (i_pf 1 3 (.int) 39) := s_putfield hG (ci := 1) (r := (RJ4, TJ4, 4)) rfl cw_1 ap_1 (k := 3) (Nat.le_of_ble_eq_true rfl) rfl (by decide +kernel) w_301 rfl (Or.inl rfl) dJ5_append_3fe6f_36
theorem s_J5_append_3fe6f_39 {X : ev_E} {l : Launch} (hG : ev_Good X) (hl : l.stackTraces = false) : ev_Snd X l ev_ms x_J5_append_3fe6f tx_J5_append_3fe6f 39 (i_il 1 40) := s_iload_n dJ5_append_3fe6f_39 rfl
theorem s_J5_append_3fe6f_40 {X : ev_E} {l : Launch} (hG : ev_Good X) (hl : l.stackTraces = false) : ev_Snd X l ev_ms x_J5_append_3fe6f tx_J5_append_3fe6f 40 (i_i1 (fun a => a.toInt8.toInt32) 41) := s_i2b dJ5_append_3fe6f_40
theorem s_J5_append_3fe6f_41 {X : ev_E} {l : Launch} (hG : ev_Good X) (hl : l.stackTraces = false) : ev_Snd X l ev_ms x_J5_append_3fe6f tx_J5_append_3fe6f 41 (i_ast ev_tB (vp_nar .byte) 42) := s_bastore hG dJ5_append_3fe6f_41
theorem s_J5_append_3fe6f_42 {X : ev_E} {l : Launch} (hG : ev_Good X) (hl : l.stackTraces = false) : ev_Snd X l ev_ms x_J5_append_3fe6f tx_J5_append_3fe6f 42 (i_goto 75) := s_goto dJ5_append_3fe6f_42 rfl
theorem s_J5_append_3fe6f_45 {X : ev_E} {l : Launch} (hG : ev_Good X) (hl : l.stackTraces = false) : ev_Snd X l ev_ms x_J5_append_3fe6f tx_J5_append_3fe6f 45 (i_al 0 46) := s_aload_n dJ5_append_3fe6f_45 rfl
theorem s_J5_append_3fe6f_46 {X : ev_E} {l : Launch} (hG : ev_Good X) (hl : l.stackTraces = false) : ev_Snd X l ev_ms x_J5_append_3fe6f tx_J5_append_3fe6f 46 (i_cV X 9 0 1 1 49) := s_invokevirtual hG (mi := 9) (n := 0) (ci := 1) (r := (RJ4, TJ4, 4)) rfl (cal_J5_isLatin1_aae02 (Nat.le_of_ble_eq_true rfl)) w_354 w_355 w_357 dJ5_append_3fe6f_46
theorem s_J5_append_3fe6f_49 {X : ev_E} {l : Launch} (hG : ev_Good X) (hl : l.stackTraces = false) : ev_Snd X l ev_ms x_J5_append_3fe6f tx_J5_append_3fe6f 49 (i_ifeq 56 52) := s_ifeq dJ5_append_3fe6f_49 rfl
theorem s_J5_append_3fe6f_52 {X : ev_E} {l : Launch} (hG : ev_Good X) (hl : l.stackTraces = false) : ev_Snd X l ev_ms x_J5_append_3fe6f tx_J5_append_3fe6f 52 (i_al 0 53) := s_aload_n dJ5_append_3fe6f_52 rfl
theorem s_J5_append_3fe6f_53 {X : ev_E} {l : Launch} (hG : ev_Good X) (hl : l.stackTraces = false) : ev_Snd X l ev_ms x_J5_append_3fe6f tx_J5_append_3fe6f 53 (i_cV X 248 0 1 2 56) := s_invokevirtualP hG (mi := 248) (n := 0) (ci := 1) (r := (RJ4, TJ4, 4)) rfl (cal_J5_inflate_da8c8 (Nat.le_of_ble_eq_true rfl)) w_362 w_364 (z := ⟨"java/lang/AbstractStringBuilder", "isLatin1", "()Z"⟩) w_357 rfl w_363 dJ5_append_3fe6f_53
theorem s_J5_append_3fe6f_56 {X : ev_E} {l : Launch} (hG : ev_Good X) (hl : l.stackTraces = false) : ev_Snd X l ev_ms x_J5_append_3fe6f tx_J5_append_3fe6f 56 (i_al 0 57) := s_aload_n dJ5_append_3fe6f_56 rfl
theorem s_J5_append_3fe6f_57 {X : ev_E} {l : Launch} (hG : ev_Good X) (hl : l.stackTraces = false) : ev_Snd X l ev_ms x_J5_append_3fe6f tx_J5_append_3fe6f 57 (i_gf X 1 0 60) := s_getfield hG (ci := 1) (r := (RJ4, TJ4, 4)) rfl cw_1 (k := 0) (Nat.le_of_ble_eq_true rfl) w_298 rfl (Or.inl rfl) dJ5_append_3fe6f_57
theorem s_J5_append_3fe6f_60 {X : ev_E} {l : Launch} (hG : ev_Good X) (hl : l.stackTraces = false) : ev_Snd X l ev_ms x_J5_append_3fe6f tx_J5_append_3fe6f 60 (i_al 0 61) := s_aload_n dJ5_append_3fe6f_60 rfl
theorem s_J5_append_3fe6f_61 {X : ev_E} {l : Launch} (hG : ev_Good X) (hl : l.stackTraces = false) : ev_Snd X l ev_ms x_J5_append_3fe6f tx_J5_append_3fe6f 61 (i_dup 62) := s_dup dJ5_append_3fe6f_61
theorem s_J5_append_3fe6f_62 {X : ev_E} {l : Launch} (hG : ev_Good X) (hl : l.stackTraces = false) : ev_Snd X l ev_ms x_J5_append_3fe6f tx_J5_append_3fe6f 62 (i_gf X 1 3 65) := s_getfield hG (ci := 1) (r := (RJ4, TJ4, 4)) rfl cw_1 (k := 3) (Nat.le_of_ble_eq_true rfl) w_301 rfl (Or.inl rfl) dJ5_append_3fe6f_62
theorem s_J5_append_3fe6f_65 {X : ev_E} {l : Launch} (hG : ev_Good X) (hl : l.stackTraces = false) : ev_Snd X l ev_ms x_J5_append_3fe6f tx_J5_append_3fe6f 65 (i_dx1 66) := s_dup_x1 dJ5_append_3fe6f_65
theorem s_J5_append_3fe6f_66 {X : ev_E} {l : Launch} (hG : ev_Good X) (hl : l.stackTraces = false) : ev_Snd X l ev_ms x_J5_append_3fe6f tx_J5_append_3fe6f 66 (i_psh (.int (1)) 67) := s_iconst dJ5_append_3fe6f_66 rfl
theorem s_J5_append_3fe6f_67 {X : ev_E} {l : Launch} (hG : ev_Good X) (hl : l.stackTraces = false) : ev_Snd X l ev_ms x_J5_append_3fe6f tx_J5_append_3fe6f 67 (i_ii (fun a b => a + b) 68) := s_iadd dJ5_append_3fe6f_67
theorem s_J5_append_3fe6f_68 {X : ev_E} {l : Launch} (hG : ev_Good X) (hl : l.stackTraces = false) : ev_Snd X l ev_ms x_J5_append_3fe6f tx_J5_append_3fe6f 68 (i_pf 1 3 (.int) 71) := s_putfield hG (ci := 1) (r := (RJ4, TJ4, 4)) rfl cw_1 ap_1 (k := 3) (Nat.le_of_ble_eq_true rfl) rfl (by decide +kernel) w_301 rfl (Or.inl rfl) dJ5_append_3fe6f_68
theorem s_J5_append_3fe6f_71 {X : ev_E} {l : Launch} (hG : ev_Good X) (hl : l.stackTraces = false) : ev_Snd X l ev_ms x_J5_append_3fe6f tx_J5_append_3fe6f 71 (i_il 1 72) := s_iload_n dJ5_append_3fe6f_71 rfl
theorem s_J5_append_3fe6f_72 {X : ev_E} {l : Launch} (hG : ev_Good X) (hl : l.stackTraces = false) : ev_Snd X l ev_ms x_J5_append_3fe6f tx_J5_append_3fe6f 72 (i_cS 175 3 3 75) := s_invokestatic hG (mi := 175) (n := 3) (cal_J2_putCharSB_b72d1 (Nat.le_of_ble_eq_true rfl)) w_395 w_396 dJ5_append_3fe6f_72
theorem s_J5_append_3fe6f_75 {X : ev_E} {l : Launch} (hG : ev_Good X) (hl : l.stackTraces = false) : ev_Snd X l ev_ms x_J5_append_3fe6f tx_J5_append_3fe6f 75 (i_al 0 76) := s_aload_n dJ5_append_3fe6f_75 rfl
theorem s_J5_append_3fe6f_76 {X : ev_E} {l : Launch} (hG : ev_Good X) (hl : l.stackTraces = false) : ev_Snd X l ev_ms x_J5_append_3fe6f tx_J5_append_3fe6f 76 (i_ar) := s_areturn (rt := (.object "java/lang/AbstractStringBuilder")) rfl (by first | exact Or.inl ⟨_, rfl⟩ | exact Or.inr ⟨_, rfl⟩) dJ5_append_3fe6f_76
theorem sa_J5_append_3fe6f {X : ev_E} {l : Launch} (hG : ev_Good X) (hl : l.stackTraces = false) : ∀ q ∈ tb_J5_append_3fe6f X, ev_Snd X l ev_ms x_J5_append_3fe6f tx_J5_append_3fe6f q.1 q.2 := by
  intro q hq
  unfold tb_J5_append_3fe6f at hq
  simp only [List.mem_cons, List.not_mem_nil, or_false] at hq
  rcases hq with rfl | rfl | rfl | rfl | rfl | rfl | rfl | rfl | rfl | rfl | rfl | rfl | rfl | rfl | rfl | rfl | rfl | rfl | rfl | rfl | rfl | rfl | rfl | rfl | rfl | rfl | rfl | rfl | rfl | rfl | rfl | rfl | rfl | rfl | rfl | rfl | rfl | rfl | rfl | rfl | rfl | rfl | rfl
  · exact s_J5_append_3fe6f_0 hG hl
  · exact s_J5_append_3fe6f_1 hG hl
  · exact s_J5_append_3fe6f_2 hG hl
  · exact s_J5_append_3fe6f_5 hG hl
  · exact s_J5_append_3fe6f_6 hG hl
  · exact s_J5_append_3fe6f_7 hG hl
  · exact s_J5_append_3fe6f_10 hG hl
  · exact s_J5_append_3fe6f_11 hG hl
  · exact s_J5_append_3fe6f_14 hG hl
  · exact s_J5_append_3fe6f_17 hG hl
  · exact s_J5_append_3fe6f_18 hG hl
  · exact s_J5_append_3fe6f_21 hG hl
  · exact s_J5_append_3fe6f_24 hG hl
  · exact s_J5_append_3fe6f_25 hG hl
  · exact s_J5_append_3fe6f_28 hG hl
  · exact s_J5_append_3fe6f_29 hG hl
  · exact s_J5_append_3fe6f_30 hG hl
  · exact s_J5_append_3fe6f_33 hG hl
  · exact s_J5_append_3fe6f_34 hG hl
  · exact s_J5_append_3fe6f_35 hG hl
  · exact s_J5_append_3fe6f_36 hG hl
  · exact s_J5_append_3fe6f_39 hG hl
  · exact s_J5_append_3fe6f_40 hG hl
  · exact s_J5_append_3fe6f_41 hG hl
  · exact s_J5_append_3fe6f_42 hG hl
  · exact s_J5_append_3fe6f_45 hG hl
  · exact s_J5_append_3fe6f_46 hG hl
  · exact s_J5_append_3fe6f_49 hG hl
  · exact s_J5_append_3fe6f_52 hG hl
  · exact s_J5_append_3fe6f_53 hG hl
  · exact s_J5_append_3fe6f_56 hG hl
  · exact s_J5_append_3fe6f_57 hG hl
  · exact s_J5_append_3fe6f_60 hG hl
  · exact s_J5_append_3fe6f_61 hG hl
  · exact s_J5_append_3fe6f_62 hG hl
  · exact s_J5_append_3fe6f_65 hG hl
  · exact s_J5_append_3fe6f_66 hG hl
  · exact s_J5_append_3fe6f_67 hG hl
  · exact s_J5_append_3fe6f_68 hG hl
  · exact s_J5_append_3fe6f_71 hG hl
  · exact s_J5_append_3fe6f_72 hG hl
  · exact s_J5_append_3fe6f_75 hG hl
  · exact s_J5_append_3fe6f_76 hG hl
def tx_J5_inflateIfNeededFor_a7421 : ev_X := fun _ _ => some none
noncomputable def tb_J5_inflateIfNeededFor_a7421 (X : ev_E) : List (Nat × (ev_S → ev_N)) := [(0, i_psh (.int 1) 3), (3, i_ifeq 21 6), (6, i_al 0 7), (7, i_gf X 1 1 10), (10, i_al 1 11), (11, i_cV X 0 0 0 1 14), (14, i_iceq 21 17), (17, i_al 0 18), (18, i_cV X 248 0 1 2 21), (21, i_vr)]
theorem s_J5_inflateIfNeededFor_a7421_0 {X : ev_E} {l : Launch} (hG : ev_Good X) (hl : l.stackTraces = false) : ev_Snd X l ev_ms x_J5_inflateIfNeededFor_a7421 tx_J5_inflateIfNeededFor_a7421 0 (i_psh (.int 1) 3) := s_getstatic hG (hG.2.2.2.2.2.2.2.2.2.1) rfl w_289 dJ5_inflateIfNeededFor_a7421_0
theorem s_J5_inflateIfNeededFor_a7421_3 {X : ev_E} {l : Launch} (hG : ev_Good X) (hl : l.stackTraces = false) : ev_Snd X l ev_ms x_J5_inflateIfNeededFor_a7421 tx_J5_inflateIfNeededFor_a7421 3 (i_ifeq 21 6) := s_ifeq dJ5_inflateIfNeededFor_a7421_3 rfl
theorem s_J5_inflateIfNeededFor_a7421_6 {X : ev_E} {l : Launch} (hG : ev_Good X) (hl : l.stackTraces = false) : ev_Snd X l ev_ms x_J5_inflateIfNeededFor_a7421 tx_J5_inflateIfNeededFor_a7421 6 (i_al 0 7) := s_aload_n dJ5_inflateIfNeededFor_a7421_6 rfl
theorem s_J5_inflateIfNeededFor_a7421_7 {X : ev_E} {l : Launch} (hG : ev_Good X) (hl : l.stackTraces = false) : ev_Snd X l ev_ms x_J5_inflateIfNeededFor_a7421 tx_J5_inflateIfNeededFor_a7421 7 (i_gf X 1 1 10) := s_getfield hG (ci := 1) (r := (RJ4, TJ4, 4)) rfl cw_1 (k := 1) (Nat.le_of_ble_eq_true rfl) w_299 rfl (Or.inl rfl) dJ5_inflateIfNeededFor_a7421_7
theorem s_J5_inflateIfNeededFor_a7421_10 {X : ev_E} {l : Launch} (hG : ev_Good X) (hl : l.stackTraces = false) : ev_Snd X l ev_ms x_J5_inflateIfNeededFor_a7421 tx_J5_inflateIfNeededFor_a7421 10 (i_al 1 11) := s_aload_n dJ5_inflateIfNeededFor_a7421_10 rfl
theorem s_J5_inflateIfNeededFor_a7421_11 {X : ev_E} {l : Launch} (hG : ev_Good X) (hl : l.stackTraces = false) : ev_Snd X l ev_ms x_J5_inflateIfNeededFor_a7421 tx_J5_inflateIfNeededFor_a7421 11 (i_cV X 0 0 0 1 14) := s_invokevirtual hG (mi := 0) (n := 0) (ci := 0) (r := (RJ0, TJ0, 4)) rfl (cal_J0_coder_7d493 (Nat.le_of_ble_eq_true rfl)) w_553 w_541 w_542 dJ5_inflateIfNeededFor_a7421_11
theorem s_J5_inflateIfNeededFor_a7421_14 {X : ev_E} {l : Launch} (hG : ev_Good X) (hl : l.stackTraces = false) : ev_Snd X l ev_ms x_J5_inflateIfNeededFor_a7421 tx_J5_inflateIfNeededFor_a7421 14 (i_iceq 21 17) := s_iceq dJ5_inflateIfNeededFor_a7421_14 rfl
theorem s_J5_inflateIfNeededFor_a7421_17 {X : ev_E} {l : Launch} (hG : ev_Good X) (hl : l.stackTraces = false) : ev_Snd X l ev_ms x_J5_inflateIfNeededFor_a7421 tx_J5_inflateIfNeededFor_a7421 17 (i_al 0 18) := s_aload_n dJ5_inflateIfNeededFor_a7421_17 rfl
theorem s_J5_inflateIfNeededFor_a7421_18 {X : ev_E} {l : Launch} (hG : ev_Good X) (hl : l.stackTraces = false) : ev_Snd X l ev_ms x_J5_inflateIfNeededFor_a7421 tx_J5_inflateIfNeededFor_a7421 18 (i_cV X 248 0 1 2 21) := s_invokevirtualP hG (mi := 248) (n := 0) (ci := 1) (r := (RJ4, TJ4, 4)) rfl (cal_J5_inflate_da8c8 (Nat.le_of_ble_eq_true rfl)) w_362 w_364 (z := ⟨"java/lang/AbstractStringBuilder", "isLatin1", "()Z"⟩) w_357 rfl w_363 dJ5_inflateIfNeededFor_a7421_18
theorem s_J5_inflateIfNeededFor_a7421_21 {X : ev_E} {l : Launch} (hG : ev_Good X) (hl : l.stackTraces = false) : ev_Snd X l ev_ms x_J5_inflateIfNeededFor_a7421 tx_J5_inflateIfNeededFor_a7421 21 (i_vr) := s_return rfl dJ5_inflateIfNeededFor_a7421_21
theorem sa_J5_inflateIfNeededFor_a7421 {X : ev_E} {l : Launch} (hG : ev_Good X) (hl : l.stackTraces = false) : ∀ q ∈ tb_J5_inflateIfNeededFor_a7421 X, ev_Snd X l ev_ms x_J5_inflateIfNeededFor_a7421 tx_J5_inflateIfNeededFor_a7421 q.1 q.2 := by
  intro q hq
  unfold tb_J5_inflateIfNeededFor_a7421 at hq
  simp only [List.mem_cons, List.not_mem_nil, or_false] at hq
  rcases hq with rfl | rfl | rfl | rfl | rfl | rfl | rfl | rfl | rfl | rfl
  · exact s_J5_inflateIfNeededFor_a7421_0 hG hl
  · exact s_J5_inflateIfNeededFor_a7421_3 hG hl
  · exact s_J5_inflateIfNeededFor_a7421_6 hG hl
  · exact s_J5_inflateIfNeededFor_a7421_7 hG hl
  · exact s_J5_inflateIfNeededFor_a7421_10 hG hl
  · exact s_J5_inflateIfNeededFor_a7421_11 hG hl
  · exact s_J5_inflateIfNeededFor_a7421_14 hG hl
  · exact s_J5_inflateIfNeededFor_a7421_17 hG hl
  · exact s_J5_inflateIfNeededFor_a7421_18 hG hl
  · exact s_J5_inflateIfNeededFor_a7421_21 hG hl
def tx_Jx4a65c_add_9ea2d : ev_X := fun _ _ => some none
noncomputable def tb_Jx4a65c_add_9ea2d (X : ev_E) : List (Nat × (ev_S → ev_N)) := [(0, i_al 0 1), (1, i_dup 2), (2, i_gf X 4 0 5), (5, i_psh (.int (1)) 6), (6, i_ii (fun a b => a + b) 7), (7, i_pf 4 0 (.int) 10), (10, i_al 0 11), (11, i_al 1 12), (12, i_al 0 13), (13, i_gf X 4 1 16), (16, i_al 0 17), (17, i_gf X 4 2 20), (20, i_cV X 249 3 4 4 23), (23, i_psh (.int (1)) 24), (24, i_ir (.boolean))]
theorem s_Jx4a65c_add_9ea2d_0 {X : ev_E} {l : Launch} (hG : ev_Good X) (hl : l.stackTraces = false) : ev_Snd X l ev_ms x_Jx4a65c_add_9ea2d tx_Jx4a65c_add_9ea2d 0 (i_al 0 1) := s_aload_n dJx4a65c_add_9ea2d_0 rfl
theorem s_Jx4a65c_add_9ea2d_1 {X : ev_E} {l : Launch} (hG : ev_Good X) (hl : l.stackTraces = false) : ev_Snd X l ev_ms x_Jx4a65c_add_9ea2d tx_Jx4a65c_add_9ea2d 1 (i_dup 2) := s_dup dJx4a65c_add_9ea2d_1
theorem s_Jx4a65c_add_9ea2d_2 {X : ev_E} {l : Launch} (hG : ev_Good X) (hl : l.stackTraces = false) : ev_Snd X l ev_ms x_Jx4a65c_add_9ea2d tx_Jx4a65c_add_9ea2d 2 (i_gf X 4 0 5) := s_getfield hG (ci := 4) (r := (RJx4a65c, TJx4a65c, 3)) rfl cw_4 (k := 0) (Nat.le_of_ble_eq_true rfl) w_1213 rfl (Or.inr ⟨w_1212, rfl⟩) dJx4a65c_add_9ea2d_2
theorem s_Jx4a65c_add_9ea2d_5 {X : ev_E} {l : Launch} (hG : ev_Good X) (hl : l.stackTraces = false) : ev_Snd X l ev_ms x_Jx4a65c_add_9ea2d tx_Jx4a65c_add_9ea2d 5 (i_psh (.int (1)) 6) := s_iconst dJx4a65c_add_9ea2d_5 rfl
theorem s_Jx4a65c_add_9ea2d_6 {X : ev_E} {l : Launch} (hG : ev_Good X) (hl : l.stackTraces = false) : ev_Snd X l ev_ms x_Jx4a65c_add_9ea2d tx_Jx4a65c_add_9ea2d 6 (i_ii (fun a b => a + b) 7) := s_iadd dJx4a65c_add_9ea2d_6
theorem s_Jx4a65c_add_9ea2d_7 {X : ev_E} {l : Launch} (hG : ev_Good X) (hl : l.stackTraces = false) : ev_Snd X l ev_ms x_Jx4a65c_add_9ea2d tx_Jx4a65c_add_9ea2d 7 (i_pf 4 0 (.int) 10) := s_putfield hG (ci := 4) (r := (RJx4a65c, TJx4a65c, 3)) rfl cw_4 ap_4 (k := 0) (Nat.le_of_ble_eq_true rfl) rfl (by decide +kernel) w_1213 rfl (Or.inr ⟨w_1212, rfl⟩) dJx4a65c_add_9ea2d_7
theorem s_Jx4a65c_add_9ea2d_10 {X : ev_E} {l : Launch} (hG : ev_Good X) (hl : l.stackTraces = false) : ev_Snd X l ev_ms x_Jx4a65c_add_9ea2d tx_Jx4a65c_add_9ea2d 10 (i_al 0 11) := s_aload_n dJx4a65c_add_9ea2d_10 rfl
theorem s_Jx4a65c_add_9ea2d_11 {X : ev_E} {l : Launch} (hG : ev_Good X) (hl : l.stackTraces = false) : ev_Snd X l ev_ms x_Jx4a65c_add_9ea2d tx_Jx4a65c_add_9ea2d 11 (i_al 1 12) := s_aload_n dJx4a65c_add_9ea2d_11 rfl
theorem s_Jx4a65c_add_9ea2d_12 {X : ev_E} {l : Launch} (hG : ev_Good X) (hl : l.stackTraces = false) : ev_Snd X l ev_ms x_Jx4a65c_add_9ea2d tx_Jx4a65c_add_9ea2d 12 (i_al 0 13) := s_aload_n dJx4a65c_add_9ea2d_12 rfl
theorem s_Jx4a65c_add_9ea2d_13 {X : ev_E} {l : Launch} (hG : ev_Good X) (hl : l.stackTraces = false) : ev_Snd X l ev_ms x_Jx4a65c_add_9ea2d tx_Jx4a65c_add_9ea2d 13 (i_gf X 4 1 16) := s_getfield hG (ci := 4) (r := (RJx4a65c, TJx4a65c, 3)) rfl cw_4 (k := 1) (Nat.le_of_ble_eq_true rfl) w_1206 rfl (Or.inl rfl) dJx4a65c_add_9ea2d_13
theorem s_Jx4a65c_add_9ea2d_16 {X : ev_E} {l : Launch} (hG : ev_Good X) (hl : l.stackTraces = false) : ev_Snd X l ev_ms x_Jx4a65c_add_9ea2d tx_Jx4a65c_add_9ea2d 16 (i_al 0 17) := s_aload_n dJx4a65c_add_9ea2d_16 rfl
theorem s_Jx4a65c_add_9ea2d_17 {X : ev_E} {l : Launch} (hG : ev_Good X) (hl : l.stackTraces = false) : ev_Snd X l ev_ms x_Jx4a65c_add_9ea2d tx_Jx4a65c_add_9ea2d 17 (i_gf X 4 2 20) := s_getfield hG (ci := 4) (r := (RJx4a65c, TJx4a65c, 3)) rfl cw_4 (k := 2) (Nat.le_of_ble_eq_true rfl) w_1209 rfl (Or.inl rfl) dJx4a65c_add_9ea2d_17
theorem s_Jx4a65c_add_9ea2d_20 {X : ev_E} {l : Launch} (hG : ev_Good X) (hl : l.stackTraces = false) : ev_Snd X l ev_ms x_Jx4a65c_add_9ea2d tx_Jx4a65c_add_9ea2d 20 (i_cV X 249 3 4 4 23) := s_invokevirtual hG (mi := 249) (n := 3) (ci := 4) (r := (RJx4a65c, TJx4a65c, 3)) rfl (cal_Jx4a65c_add_72be8 (Nat.le_of_ble_eq_true rfl)) w_1347 w_1349 w_24 dJx4a65c_add_9ea2d_20
theorem s_Jx4a65c_add_9ea2d_23 {X : ev_E} {l : Launch} (hG : ev_Good X) (hl : l.stackTraces = false) : ev_Snd X l ev_ms x_Jx4a65c_add_9ea2d tx_Jx4a65c_add_9ea2d 23 (i_psh (.int (1)) 24) := s_iconst dJx4a65c_add_9ea2d_23 rfl
theorem s_Jx4a65c_add_9ea2d_24 {X : ev_E} {l : Launch} (hG : ev_Good X) (hl : l.stackTraces = false) : ev_Snd X l ev_ms x_Jx4a65c_add_9ea2d tx_Jx4a65c_add_9ea2d 24 (i_ir (.boolean)) := s_ireturn rfl dJx4a65c_add_9ea2d_24
theorem sa_Jx4a65c_add_9ea2d {X : ev_E} {l : Launch} (hG : ev_Good X) (hl : l.stackTraces = false) : ∀ q ∈ tb_Jx4a65c_add_9ea2d X, ev_Snd X l ev_ms x_Jx4a65c_add_9ea2d tx_Jx4a65c_add_9ea2d q.1 q.2 := by
  intro q hq
  unfold tb_Jx4a65c_add_9ea2d at hq
  simp only [List.mem_cons, List.not_mem_nil, or_false] at hq
  rcases hq with rfl | rfl | rfl | rfl | rfl | rfl | rfl | rfl | rfl | rfl | rfl | rfl | rfl | rfl | rfl
  · exact s_Jx4a65c_add_9ea2d_0 hG hl
  · exact s_Jx4a65c_add_9ea2d_1 hG hl
  · exact s_Jx4a65c_add_9ea2d_2 hG hl
  · exact s_Jx4a65c_add_9ea2d_5 hG hl
  · exact s_Jx4a65c_add_9ea2d_6 hG hl
  · exact s_Jx4a65c_add_9ea2d_7 hG hl
  · exact s_Jx4a65c_add_9ea2d_10 hG hl
  · exact s_Jx4a65c_add_9ea2d_11 hG hl
  · exact s_Jx4a65c_add_9ea2d_12 hG hl
  · exact s_Jx4a65c_add_9ea2d_13 hG hl
  · exact s_Jx4a65c_add_9ea2d_16 hG hl
  · exact s_Jx4a65c_add_9ea2d_17 hG hl
  · exact s_Jx4a65c_add_9ea2d_20 hG hl
  · exact s_Jx4a65c_add_9ea2d_23 hG hl
  · exact s_Jx4a65c_add_9ea2d_24 hG hl
def tx_J4_append_cf468 : ev_X := fun pc _ => bif List.elem pc [2] then none else some none
noncomputable def tb_J4_append_cf468 (X : ev_E) : List (Nat × (ev_S → ev_N)) := [(0, i_al 0 1), (1, i_il 1 2), (2, i_cV X 260 1 1 2 5), (5, i_pop 6), (6, i_al 0 7), (7, i_ar)]
theorem s_J4_append_cf468_0 {X : ev_E} {l : Launch} (hG : ev_Good X) (hl : l.stackTraces = false) : ev_Snd X l ev_ms x_J4_append_cf468 tx_J4_append_cf468 0 (i_al 0 1) := s_aload_n dJ4_append_cf468_0 rfl
theorem s_J4_append_cf468_1 {X : ev_E} {l : Launch} (hG : ev_Good X) (hl : l.stackTraces = false) : ev_Snd X l ev_ms x_J4_append_cf468 tx_J4_append_cf468 1 (i_il 1 2) := s_iload_n dJ4_append_cf468_1 rfl
theorem s_J4_append_cf468_2 {X : ev_E} {l : Launch} (hG : ev_Good X) (hl : l.stackTraces = false) : ev_Snd X l ev_ms x_J4_append_cf468 tx_J4_append_cf468 2 (i_cV X 260 1 1 2 5) := s_super hG (mi := 260) (n := 1) (ci := 1) (r := (RJ4, TJ4, 4)) rfl (cal_J5_append_3fe6f (Nat.le_of_ble_eq_true rfl)) w_316 w_1751 rfl w_310 w_317 (by decide +kernel) (fun _ => rfl) dJ4_append_cf468_2
theorem s_J4_append_cf468_5 {X : ev_E} {l : Launch} (hG : ev_Good X) (hl : l.stackTraces = false) : ev_Snd X l ev_ms x_J4_append_cf468 tx_J4_append_cf468 5 (i_pop 6) := s_pop dJ4_append_cf468_5
theorem s_J4_append_cf468_6 {X : ev_E} {l : Launch} (hG : ev_Good X) (hl : l.stackTraces = false) : ev_Snd X l ev_ms x_J4_append_cf468 tx_J4_append_cf468 6 (i_al 0 7) := s_aload_n dJ4_append_cf468_6 rfl
theorem s_J4_append_cf468_7 {X : ev_E} {l : Launch} (hG : ev_Good X) (hl : l.stackTraces = false) : ev_Snd X l ev_ms x_J4_append_cf468 tx_J4_append_cf468 7 (i_ar) := s_areturn (rt := (.object "java/lang/StringBuilder")) rfl (by first | exact Or.inl ⟨_, rfl⟩ | exact Or.inr ⟨_, rfl⟩) dJ4_append_cf468_7
theorem sa_J4_append_cf468 {X : ev_E} {l : Launch} (hG : ev_Good X) (hl : l.stackTraces = false) : ∀ q ∈ tb_J4_append_cf468 X, ev_Snd X l ev_ms x_J4_append_cf468 tx_J4_append_cf468 q.1 q.2 := by
  intro q hq
  unfold tb_J4_append_cf468 at hq
  simp only [List.mem_cons, List.not_mem_nil, or_false] at hq
  rcases hq with rfl | rfl | rfl | rfl | rfl | rfl
  · exact s_J4_append_cf468_0 hG hl
  · exact s_J4_append_cf468_1 hG hl
  · exact s_J4_append_cf468_2 hG hl
  · exact s_J4_append_cf468_5 hG hl
  · exact s_J4_append_cf468_6 hG hl
  · exact s_J4_append_cf468_7 hG hl
def tx_J4_toString_0e30d : ev_X := fun pc _ => bif List.elem pc [5] then none else some none
noncomputable def tb_J4_toString_0e30d (X : ev_E) : List (Nat × (ev_S → ev_N)) := [(0, i_nw 0 4 [.null, .int 0, .int 0, .int 0] 3), (3, i_dup 4), (4, i_al 0 5), (5, i_cI 259 1 2 8), (8, i_ar)]
theorem s_J4_toString_0e30d_0 {X : ev_E} {l : Launch} (hG : ev_Good X) (hl : l.stackTraces = false) : ev_Snd X l ev_ms x_J4_toString_0e30d tx_J4_toString_0e30d 0 (i_nw 0 4 [.null, .int 0, .int 0, .int 0] 3) := s_new hG (ci := 0) (r := (RJ0, TJ0, 4)) rfl cw_0 tyJ0 tyJ0_ok (fun j hj => nw_0 j hj) w_445 rfl w_446 rfl w_76 rfl dJ4_toString_0e30d_0
theorem s_J4_toString_0e30d_3 {X : ev_E} {l : Launch} (hG : ev_Good X) (hl : l.stackTraces = false) : ev_Snd X l ev_ms x_J4_toString_0e30d tx_J4_toString_0e30d 3 (i_dup 4) := s_dup dJ4_toString_0e30d_3
theorem s_J4_toString_0e30d_4 {X : ev_E} {l : Launch} (hG : ev_Good X) (hl : l.stackTraces = false) : ev_Snd X l ev_ms x_J4_toString_0e30d tx_J4_toString_0e30d 4 (i_al 0 5) := s_aload_n dJ4_toString_0e30d_4 rfl
theorem s_J4_toString_0e30d_5 {X : ev_E} {l : Launch} (hG : ev_Good X) (hl : l.stackTraces = false) : ev_Snd X l ev_ms x_J4_toString_0e30d tx_J4_toString_0e30d 5 (i_cI 259 1 2 8) := s_invokeinit hG (mi := 259) (n := 1) (cal_J0_init_81219 (Nat.le_of_ble_eq_true rfl)) rfl w_447 w_448 rfl (fun _ => rfl) dJ4_toString_0e30d_5
theorem s_J4_toString_0e30d_8 {X : ev_E} {l : Launch} (hG : ev_Good X) (hl : l.stackTraces = false) : ev_Snd X l ev_ms x_J4_toString_0e30d tx_J4_toString_0e30d 8 (i_ar) := s_areturn (rt := (.object "java/lang/String")) rfl (by first | exact Or.inl ⟨_, rfl⟩ | exact Or.inr ⟨_, rfl⟩) dJ4_toString_0e30d_8
theorem sa_J4_toString_0e30d {X : ev_E} {l : Launch} (hG : ev_Good X) (hl : l.stackTraces = false) : ∀ q ∈ tb_J4_toString_0e30d X, ev_Snd X l ev_ms x_J4_toString_0e30d tx_J4_toString_0e30d q.1 q.2 := by
  intro q hq
  unfold tb_J4_toString_0e30d at hq
  simp only [List.mem_cons, List.not_mem_nil, or_false] at hq
  rcases hq with rfl | rfl | rfl | rfl | rfl
  · exact s_J4_toString_0e30d_0 hG hl
  · exact s_J4_toString_0e30d_3 hG hl
  · exact s_J4_toString_0e30d_4 hG hl
  · exact s_J4_toString_0e30d_5 hG hl
  · exact s_J4_toString_0e30d_8 hG hl
def tx_J5_putStringAt_47b60 : ev_X := fun _ _ => some none
noncomputable def tb_J5_putStringAt_47b60 (X : ev_E) : List (Nat × (ev_S → ev_N)) := [(0, i_al 0 1), (1, i_al 2 2), (2, i_cV X 261 1 1 2 5), (5, i_al 2 6), (6, i_al 0 7), (7, i_gf X 1 0 10), (10, i_il 1 11), (11, i_al 0 12), (12, i_gf X 1 1 15), (15, i_cV X 245 3 0 4 18), (18, i_vr)]
theorem s_J5_putStringAt_47b60_0 {X : ev_E} {l : Launch} (hG : ev_Good X) (hl : l.stackTraces = false) : ev_Snd X l ev_ms x_J5_putStringAt_47b60 tx_J5_putStringAt_47b60 0 (i_al 0 1) := s_aload_n dJ5_putStringAt_47b60_0 rfl
theorem s_J5_putStringAt_47b60_1 {X : ev_E} {l : Launch} (hG : ev_Good X) (hl : l.stackTraces = false) : ev_Snd X l ev_ms x_J5_putStringAt_47b60 tx_J5_putStringAt_47b60 1 (i_al 2 2) := s_aload_n dJ5_putStringAt_47b60_1 rfl
theorem s_J5_putStringAt_47b60_2 {X : ev_E} {l : Launch} (hG : ev_Good X) (hl : l.stackTraces = false) : ev_Snd X l ev_ms x_J5_putStringAt_47b60 tx_J5_putStringAt_47b60 2 (i_cV X 261 1 1 2 5) := s_invokevirtualP hG (mi := 261) (n := 1) (ci := 1) (r := (RJ4, TJ4, 4)) rfl (cal_J5_inflateIfNeededFor_a7421 (Nat.le_of_ble_eq_true rfl)) w_549 w_551 (z := ⟨"java/lang/AbstractStringBuilder", "isLatin1", "()Z"⟩) w_357 rfl w_550 dJ5_putStringAt_47b60_2
theorem s_J5_putStringAt_47b60_5 {X : ev_E} {l : Launch} (hG : ev_Good X) (hl : l.stackTraces = false) : ev_Snd X l ev_ms x_J5_putStringAt_47b60 tx_J5_putStringAt_47b60 5 (i_al 2 6) := s_aload_n dJ5_putStringAt_47b60_5 rfl
theorem s_J5_putStringAt_47b60_6 {X : ev_E} {l : Launch} (hG : ev_Good X) (hl : l.stackTraces = false) : ev_Snd X l ev_ms x_J5_putStringAt_47b60 tx_J5_putStringAt_47b60 6 (i_al 0 7) := s_aload_n dJ5_putStringAt_47b60_6 rfl
theorem s_J5_putStringAt_47b60_7 {X : ev_E} {l : Launch} (hG : ev_Good X) (hl : l.stackTraces = false) : ev_Snd X l ev_ms x_J5_putStringAt_47b60 tx_J5_putStringAt_47b60 7 (i_gf X 1 0 10) := s_getfield hG (ci := 1) (r := (RJ4, TJ4, 4)) rfl cw_1 (k := 0) (Nat.le_of_ble_eq_true rfl) w_298 rfl (Or.inl rfl) dJ5_putStringAt_47b60_7
theorem s_J5_putStringAt_47b60_10 {X : ev_E} {l : Launch} (hG : ev_Good X) (hl : l.stackTraces = false) : ev_Snd X l ev_ms x_J5_putStringAt_47b60 tx_J5_putStringAt_47b60 10 (i_il 1 11) := s_iload_n dJ5_putStringAt_47b60_10 rfl
theorem s_J5_putStringAt_47b60_11 {X : ev_E} {l : Launch} (hG : ev_Good X) (hl : l.stackTraces = false) : ev_Snd X l ev_ms x_J5_putStringAt_47b60 tx_J5_putStringAt_47b60 11 (i_al 0 12) := s_aload_n dJ5_putStringAt_47b60_11 rfl
theorem s_J5_putStringAt_47b60_12 {X : ev_E} {l : Launch} (hG : ev_Good X) (hl : l.stackTraces = false) : ev_Snd X l ev_ms x_J5_putStringAt_47b60 tx_J5_putStringAt_47b60 12 (i_gf X 1 1 15) := s_getfield hG (ci := 1) (r := (RJ4, TJ4, 4)) rfl cw_1 (k := 1) (Nat.le_of_ble_eq_true rfl) w_299 rfl (Or.inl rfl) dJ5_putStringAt_47b60_12
theorem s_J5_putStringAt_47b60_15 {X : ev_E} {l : Launch} (hG : ev_Good X) (hl : l.stackTraces = false) : ev_Snd X l ev_ms x_J5_putStringAt_47b60 tx_J5_putStringAt_47b60 15 (i_cV X 245 3 0 4 18) := s_invokevirtual hG (mi := 245) (n := 3) (ci := 0) (r := (RJ0, TJ0, 4)) rfl (cal_J0_getBytes_840e7 (Nat.le_of_ble_eq_true rfl)) w_554 w_555 w_556 dJ5_putStringAt_47b60_15
theorem s_J5_putStringAt_47b60_18 {X : ev_E} {l : Launch} (hG : ev_Good X) (hl : l.stackTraces = false) : ev_Snd X l ev_ms x_J5_putStringAt_47b60 tx_J5_putStringAt_47b60 18 (i_vr) := s_return rfl dJ5_putStringAt_47b60_18
theorem sa_J5_putStringAt_47b60 {X : ev_E} {l : Launch} (hG : ev_Good X) (hl : l.stackTraces = false) : ∀ q ∈ tb_J5_putStringAt_47b60 X, ev_Snd X l ev_ms x_J5_putStringAt_47b60 tx_J5_putStringAt_47b60 q.1 q.2 := by
  intro q hq
  unfold tb_J5_putStringAt_47b60 at hq
  simp only [List.mem_cons, List.not_mem_nil, or_false] at hq
  rcases hq with rfl | rfl | rfl | rfl | rfl | rfl | rfl | rfl | rfl | rfl | rfl
  · exact s_J5_putStringAt_47b60_0 hG hl
  · exact s_J5_putStringAt_47b60_1 hG hl
  · exact s_J5_putStringAt_47b60_2 hG hl
  · exact s_J5_putStringAt_47b60_5 hG hl
  · exact s_J5_putStringAt_47b60_6 hG hl
  · exact s_J5_putStringAt_47b60_7 hG hl
  · exact s_J5_putStringAt_47b60_10 hG hl
  · exact s_J5_putStringAt_47b60_11 hG hl
  · exact s_J5_putStringAt_47b60_12 hG hl
  · exact s_J5_putStringAt_47b60_15 hG hl
  · exact s_J5_putStringAt_47b60_18 hG hl
def tx_J5_append_cf1ce : ev_X := fun _ _ => some none
noncomputable def tb_J5_append_cf1ce (X : ev_E) : List (Nat × (ev_S → ev_N)) := [(0, i_al 1 1), (1, i_nonnull 9), (4, i_al 0 5), (5, i_cV X 218 0 1 3 8), (8, i_ar), (9, i_al 1 10), (10, i_cV X 75 0 0 1 13), (13, i_is 2 14), (14, i_al 0 15), (15, i_al 0 16), (16, i_gf X 1 3 19), (19, i_il 2 20), (20, i_ii (fun a b => a + b) 21), (21, i_cV X 178 1 1 3 24), (24, i_al 0 25), (25, i_al 0 26), (26, i_gf X 1 3 29), (29, i_al 1 30), (30, i_cV X 275 2 1 3 33), (33, i_al 0 34), (34, i_dup 35), (35, i_gf X 1 3 38), (38, i_il 2 39), (39, i_ii (fun a b => a + b) 40), (40, i_pf 1 3 (.int) 43), (43, i_al 0 44), (44, i_ar)]
theorem s_J5_append_cf1ce_0 {X : ev_E} {l : Launch} (hG : ev_Good X) (hl : l.stackTraces = false) : ev_Snd X l ev_ms x_J5_append_cf1ce tx_J5_append_cf1ce 0 (i_al 1 1) := s_aload_n dJ5_append_cf1ce_0 rfl
theorem s_J5_append_cf1ce_1 {X : ev_E} {l : Launch} (hG : ev_Good X) (hl : l.stackTraces = false) : ev_Snd X l ev_ms x_J5_append_cf1ce tx_J5_append_cf1ce 1 (i_nonnull 9) := s_ifnonnull dJ5_append_cf1ce_1 rfl
theorem s_J5_append_cf1ce_4 {X : ev_E} {l : Launch} (hG : ev_Good X) (hl : l.stackTraces = false) : ev_Snd X l ev_ms x_J5_append_cf1ce tx_J5_append_cf1ce 4 (i_al 0 5) := s_aload_n dJ5_append_cf1ce_4 rfl
theorem s_J5_append_cf1ce_5 {X : ev_E} {l : Launch} (hG : ev_Good X) (hl : l.stackTraces = false) : ev_Snd X l ev_ms x_J5_append_cf1ce tx_J5_append_cf1ce 5 (i_cV X 218 0 1 3 8) := s_invokevirtualP hG (mi := 218) (n := 0) (ci := 1) (r := (RJ4, TJ4, 4)) rfl (cal_J5_appendNull_278bc (Nat.le_of_ble_eq_true rfl)) w_529 w_531 (z := ⟨"java/lang/AbstractStringBuilder", "isLatin1", "()Z"⟩) w_357 rfl w_530 dJ5_append_cf1ce_5
theorem s_J5_append_cf1ce_8 {X : ev_E} {l : Launch} (hG : ev_Good X) (hl : l.stackTraces = false) : ev_Snd X l ev_ms x_J5_append_cf1ce tx_J5_append_cf1ce 8 (i_ar) := s_areturn (rt := (.object "java/lang/AbstractStringBuilder")) rfl (by first | exact Or.inl ⟨_, rfl⟩ | exact Or.inr ⟨_, rfl⟩) dJ5_append_cf1ce_8
theorem s_J5_append_cf1ce_9 {X : ev_E} {l : Launch} (hG : ev_Good X) (hl : l.stackTraces = false) : ev_Snd X l ev_ms x_J5_append_cf1ce tx_J5_append_cf1ce 9 (i_al 1 10) := s_aload_n dJ5_append_cf1ce_9 rfl
theorem s_J5_append_cf1ce_10 {X : ev_E} {l : Launch} (hG : ev_Good X) (hl : l.stackTraces = false) : ev_Snd X l ev_ms x_J5_append_cf1ce tx_J5_append_cf1ce 10 (i_cV X 75 0 0 1 13) := s_invokevirtual hG (mi := 75) (n := 0) (ci := 0) (r := (RJ0, TJ0, 4)) rfl (cal_J0_length_8abf5 (Nat.le_of_ble_eq_true rfl)) w_536 w_537 w_538 dJ5_append_cf1ce_10
theorem s_J5_append_cf1ce_13 {X : ev_E} {l : Launch} (hG : ev_Good X) (hl : l.stackTraces = false) : ev_Snd X l ev_ms x_J5_append_cf1ce tx_J5_append_cf1ce 13 (i_is 2 14) := s_istore_n dJ5_append_cf1ce_13 rfl (Nat.le_of_ble_eq_true rfl)
theorem s_J5_append_cf1ce_14 {X : ev_E} {l : Launch} (hG : ev_Good X) (hl : l.stackTraces = false) : ev_Snd X l ev_ms x_J5_append_cf1ce tx_J5_append_cf1ce 14 (i_al 0 15) := s_aload_n dJ5_append_cf1ce_14 rfl
theorem s_J5_append_cf1ce_15 {X : ev_E} {l : Launch} (hG : ev_Good X) (hl : l.stackTraces = false) : ev_Snd X l ev_ms x_J5_append_cf1ce tx_J5_append_cf1ce 15 (i_al 0 16) := s_aload_n dJ5_append_cf1ce_15 rfl
theorem s_J5_append_cf1ce_16 {X : ev_E} {l : Launch} (hG : ev_Good X) (hl : l.stackTraces = false) : ev_Snd X l ev_ms x_J5_append_cf1ce tx_J5_append_cf1ce 16 (i_gf X 1 3 19) := s_getfield hG (ci := 1) (r := (RJ4, TJ4, 4)) rfl cw_1 (k := 3) (Nat.le_of_ble_eq_true rfl) w_301 rfl (Or.inl rfl) dJ5_append_cf1ce_16
theorem s_J5_append_cf1ce_19 {X : ev_E} {l : Launch} (hG : ev_Good X) (hl : l.stackTraces = false) : ev_Snd X l ev_ms x_J5_append_cf1ce tx_J5_append_cf1ce 19 (i_il 2 20) := s_iload_n dJ5_append_cf1ce_19 rfl
theorem s_J5_append_cf1ce_20 {X : ev_E} {l : Launch} (hG : ev_Good X) (hl : l.stackTraces = false) : ev_Snd X l ev_ms x_J5_append_cf1ce tx_J5_append_cf1ce 20 (i_ii (fun a b => a + b) 21) := s_iadd dJ5_append_cf1ce_20
theorem s_J5_append_cf1ce_21 {X : ev_E} {l : Launch} (hG : ev_Good X) (hl : l.stackTraces = false) : ev_Snd X l ev_ms x_J5_append_cf1ce tx_J5_append_cf1ce 21 (i_cV X 178 1 1 3 24) := s_invokevirtualP hG (mi := 178) (n := 1) (ci := 1) (r := (RJ4, TJ4, 4)) rfl (cal_J5_ensureCapacityInternal_d00df (Nat.le_of_ble_eq_true rfl)) w_319 w_321 (z := ⟨"java/lang/AbstractStringBuilder", "isLatin1", "()Z"⟩) w_357 rfl w_320 dJ5_append_cf1ce_21
theorem s_J5_append_cf1ce_24 {X : ev_E} {l : Launch} (hG : ev_Good X) (hl : l.stackTraces = false) : ev_Snd X l ev_ms x_J5_append_cf1ce tx_J5_append_cf1ce 24 (i_al 0 25) := s_aload_n dJ5_append_cf1ce_24 rfl
theorem s_J5_append_cf1ce_25 {X : ev_E} {l : Launch} (hG : ev_Good X) (hl : l.stackTraces = false) : ev_Snd X l ev_ms x_J5_append_cf1ce tx_J5_append_cf1ce 25 (i_al 0 26) := s_aload_n dJ5_append_cf1ce_25 rfl
theorem s_J5_append_cf1ce_26 {X : ev_E} {l : Launch} (hG : ev_Good X) (hl : l.stackTraces = false) : ev_Snd X l ev_ms x_J5_append_cf1ce tx_J5_append_cf1ce 26 (i_gf X 1 3 29) := s_getfield hG (ci := 1) (r := (RJ4, TJ4, 4)) rfl cw_1 (k := 3) (Nat.le_of_ble_eq_true rfl) w_301 rfl (Or.inl rfl) dJ5_append_cf1ce_26
theorem s_J5_append_cf1ce_29 {X : ev_E} {l : Launch} (hG : ev_Good X) (hl : l.stackTraces = false) : ev_Snd X l ev_ms x_J5_append_cf1ce tx_J5_append_cf1ce 29 (i_al 1 30) := s_aload_n dJ5_append_cf1ce_29 rfl
theorem s_J5_append_cf1ce_30 {X : ev_E} {l : Launch} (hG : ev_Good X) (hl : l.stackTraces = false) : ev_Snd X l ev_ms x_J5_append_cf1ce tx_J5_append_cf1ce 30 (i_cV X 275 2 1 3 33) := s_invokevirtualP hG (mi := 275) (n := 2) (ci := 1) (r := (RJ4, TJ4, 4)) rfl (cal_J5_putStringAt_47b60 (Nat.le_of_ble_eq_true rfl)) w_545 w_547 (z := ⟨"java/lang/AbstractStringBuilder", "isLatin1", "()Z"⟩) w_357 rfl w_546 dJ5_append_cf1ce_30
theorem s_J5_append_cf1ce_33 {X : ev_E} {l : Launch} (hG : ev_Good X) (hl : l.stackTraces = false) : ev_Snd X l ev_ms x_J5_append_cf1ce tx_J5_append_cf1ce 33 (i_al 0 34) := s_aload_n dJ5_append_cf1ce_33 rfl
theorem s_J5_append_cf1ce_34 {X : ev_E} {l : Launch} (hG : ev_Good X) (hl : l.stackTraces = false) : ev_Snd X l ev_ms x_J5_append_cf1ce tx_J5_append_cf1ce 34 (i_dup 35) := s_dup dJ5_append_cf1ce_34
theorem s_J5_append_cf1ce_35 {X : ev_E} {l : Launch} (hG : ev_Good X) (hl : l.stackTraces = false) : ev_Snd X l ev_ms x_J5_append_cf1ce tx_J5_append_cf1ce 35 (i_gf X 1 3 38) := s_getfield hG (ci := 1) (r := (RJ4, TJ4, 4)) rfl cw_1 (k := 3) (Nat.le_of_ble_eq_true rfl) w_301 rfl (Or.inl rfl) dJ5_append_cf1ce_35
theorem s_J5_append_cf1ce_38 {X : ev_E} {l : Launch} (hG : ev_Good X) (hl : l.stackTraces = false) : ev_Snd X l ev_ms x_J5_append_cf1ce tx_J5_append_cf1ce 38 (i_il 2 39) := s_iload_n dJ5_append_cf1ce_38 rfl
theorem s_J5_append_cf1ce_39 {X : ev_E} {l : Launch} (hG : ev_Good X) (hl : l.stackTraces = false) : ev_Snd X l ev_ms x_J5_append_cf1ce tx_J5_append_cf1ce 39 (i_ii (fun a b => a + b) 40) := s_iadd dJ5_append_cf1ce_39
theorem s_J5_append_cf1ce_40 {X : ev_E} {l : Launch} (hG : ev_Good X) (hl : l.stackTraces = false) : ev_Snd X l ev_ms x_J5_append_cf1ce tx_J5_append_cf1ce 40 (i_pf 1 3 (.int) 43) := s_putfield hG (ci := 1) (r := (RJ4, TJ4, 4)) rfl cw_1 ap_1 (k := 3) (Nat.le_of_ble_eq_true rfl) rfl (by decide +kernel) w_301 rfl (Or.inl rfl) dJ5_append_cf1ce_40
theorem s_J5_append_cf1ce_43 {X : ev_E} {l : Launch} (hG : ev_Good X) (hl : l.stackTraces = false) : ev_Snd X l ev_ms x_J5_append_cf1ce tx_J5_append_cf1ce 43 (i_al 0 44) := s_aload_n dJ5_append_cf1ce_43 rfl
theorem s_J5_append_cf1ce_44 {X : ev_E} {l : Launch} (hG : ev_Good X) (hl : l.stackTraces = false) : ev_Snd X l ev_ms x_J5_append_cf1ce tx_J5_append_cf1ce 44 (i_ar) := s_areturn (rt := (.object "java/lang/AbstractStringBuilder")) rfl (by first | exact Or.inl ⟨_, rfl⟩ | exact Or.inr ⟨_, rfl⟩) dJ5_append_cf1ce_44
theorem sa_J5_append_cf1ce {X : ev_E} {l : Launch} (hG : ev_Good X) (hl : l.stackTraces = false) : ∀ q ∈ tb_J5_append_cf1ce X, ev_Snd X l ev_ms x_J5_append_cf1ce tx_J5_append_cf1ce q.1 q.2 := by
  intro q hq
  unfold tb_J5_append_cf1ce at hq
  simp only [List.mem_cons, List.not_mem_nil, or_false] at hq
  rcases hq with rfl | rfl | rfl | rfl | rfl | rfl | rfl | rfl | rfl | rfl | rfl | rfl | rfl | rfl | rfl | rfl | rfl | rfl | rfl | rfl | rfl | rfl | rfl | rfl | rfl | rfl | rfl
  · exact s_J5_append_cf1ce_0 hG hl
  · exact s_J5_append_cf1ce_1 hG hl
  · exact s_J5_append_cf1ce_4 hG hl
  · exact s_J5_append_cf1ce_5 hG hl
  · exact s_J5_append_cf1ce_8 hG hl
  · exact s_J5_append_cf1ce_9 hG hl
  · exact s_J5_append_cf1ce_10 hG hl
  · exact s_J5_append_cf1ce_13 hG hl
  · exact s_J5_append_cf1ce_14 hG hl
  · exact s_J5_append_cf1ce_15 hG hl
  · exact s_J5_append_cf1ce_16 hG hl
  · exact s_J5_append_cf1ce_19 hG hl
  · exact s_J5_append_cf1ce_20 hG hl
  · exact s_J5_append_cf1ce_21 hG hl
  · exact s_J5_append_cf1ce_24 hG hl
  · exact s_J5_append_cf1ce_25 hG hl
  · exact s_J5_append_cf1ce_26 hG hl
  · exact s_J5_append_cf1ce_29 hG hl
  · exact s_J5_append_cf1ce_30 hG hl
  · exact s_J5_append_cf1ce_33 hG hl
  · exact s_J5_append_cf1ce_34 hG hl
  · exact s_J5_append_cf1ce_35 hG hl
  · exact s_J5_append_cf1ce_38 hG hl
  · exact s_J5_append_cf1ce_39 hG hl
  · exact s_J5_append_cf1ce_40 hG hl
  · exact s_J5_append_cf1ce_43 hG hl
  · exact s_J5_append_cf1ce_44 hG hl
def tx_J4_append_15ec4 : ev_X := fun pc _ => bif List.elem pc [2] then none else some none
noncomputable def tb_J4_append_15ec4 (X : ev_E) : List (Nat × (ev_S → ev_N)) := [(0, i_al 0 1), (1, i_al 1 2), (2, i_cV X 285 1 1 3 5), (5, i_pop 6), (6, i_al 0 7), (7, i_ar)]
theorem s_J4_append_15ec4_0 {X : ev_E} {l : Launch} (hG : ev_Good X) (hl : l.stackTraces = false) : ev_Snd X l ev_ms x_J4_append_15ec4 tx_J4_append_15ec4 0 (i_al 0 1) := s_aload_n dJ4_append_15ec4_0 rfl
theorem s_J4_append_15ec4_1 {X : ev_E} {l : Launch} (hG : ev_Good X) (hl : l.stackTraces = false) : ev_Snd X l ev_ms x_J4_append_15ec4 tx_J4_append_15ec4 1 (i_al 1 2) := s_aload_n dJ4_append_15ec4_1 rfl
theorem s_J4_append_15ec4_2 {X : ev_E} {l : Launch} (hG : ev_Good X) (hl : l.stackTraces = false) : ev_Snd X l ev_ms x_J4_append_15ec4 tx_J4_append_15ec4 2 (i_cV X 285 1 1 3 5) := s_super hG (mi := 285) (n := 1) (ci := 1) (r := (RJ4, TJ4, 4)) rfl (cal_J5_append_cf1ce (Nat.le_of_ble_eq_true rfl)) w_526 w_1757 rfl w_310 w_527 (by decide +kernel) (fun _ => rfl) dJ4_append_15ec4_2
theorem s_J4_append_15ec4_5 {X : ev_E} {l : Launch} (hG : ev_Good X) (hl : l.stackTraces = false) : ev_Snd X l ev_ms x_J4_append_15ec4 tx_J4_append_15ec4 5 (i_pop 6) := s_pop dJ4_append_15ec4_5
theorem s_J4_append_15ec4_6 {X : ev_E} {l : Launch} (hG : ev_Good X) (hl : l.stackTraces = false) : ev_Snd X l ev_ms x_J4_append_15ec4 tx_J4_append_15ec4 6 (i_al 0 7) := s_aload_n dJ4_append_15ec4_6 rfl
theorem s_J4_append_15ec4_7 {X : ev_E} {l : Launch} (hG : ev_Good X) (hl : l.stackTraces = false) : ev_Snd X l ev_ms x_J4_append_15ec4 tx_J4_append_15ec4 7 (i_ar) := s_areturn (rt := (.object "java/lang/StringBuilder")) rfl (by first | exact Or.inl ⟨_, rfl⟩ | exact Or.inr ⟨_, rfl⟩) dJ4_append_15ec4_7
theorem sa_J4_append_15ec4 {X : ev_E} {l : Launch} (hG : ev_Good X) (hl : l.stackTraces = false) : ∀ q ∈ tb_J4_append_15ec4 X, ev_Snd X l ev_ms x_J4_append_15ec4 tx_J4_append_15ec4 q.1 q.2 := by
  intro q hq
  unfold tb_J4_append_15ec4 at hq
  simp only [List.mem_cons, List.not_mem_nil, or_false] at hq
  rcases hq with rfl | rfl | rfl | rfl | rfl | rfl
  · exact s_J4_append_15ec4_0 hG hl
  · exact s_J4_append_15ec4_1 hG hl
  · exact s_J4_append_15ec4_2 hG hl
  · exact s_J4_append_15ec4_5 hG hl
  · exact s_J4_append_15ec4_6 hG hl
  · exact s_J4_append_15ec4_7 hG hl
