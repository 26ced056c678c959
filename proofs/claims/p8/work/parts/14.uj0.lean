def tx_J0_coder_7d493 : ev_X := fun _ _ => some none
noncomputable def tb_J0_coder_7d493 (X : ev_E) : List (Nat × (ev_S → ev_N)) := [(0, i_psh (.int 1) 3), (3, i_ifeq 13 6), (6, i_al 0 7), (7, i_gf X 0 1 10), (10, i_goto 14), (13, i_psh (.int (1)) 14), (14, i_ir (.byte))]
theorem s_J0_coder_7d493_0 {X : ev_E} {l : Launch} (hG : ev_Good X) (hl : l.stackTraces = false) : ev_Snd X l ev_ms x_J0_coder_7d493 tx_J0_coder_7d493 0 (i_psh (.int 1) 3) := s_getstatic hG (hG.2.2.2.2.2.2.2.2.2.1) rfl w_544 dJ0_coder_7d493_0
theorem s_J0_coder_7d493_3 {X : ev_E} {l : Launch} (hG : ev_Good X) (hl : l.stackTraces = false) : ev_Snd X l ev_ms x_J0_coder_7d493 tx_J0_coder_7d493 3 (i_ifeq 13 6) := s_ifeq dJ0_coder_7d493_3 rfl
theorem s_J0_coder_7d493_6 {X : ev_E} {l : Launch} (hG : ev_Good X) (hl : l.stackTraces = false) : ev_Snd X l ev_ms x_J0_coder_7d493 tx_J0_coder_7d493 6 (i_al 0 7) := s_aload_n dJ0_coder_7d493_6 rfl
theorem s_J0_coder_7d493_7 {X : ev_E} {l : Launch} (hG : ev_Good X) (hl : l.stackTraces = false) : ev_Snd X l ev_ms x_J0_coder_7d493 tx_J0_coder_7d493 7 (i_gf X 0 1 10) := s_getfield hG (ci := 0) (r := (RJ0, TJ0, 4)) rfl cw_0 (k := 1) (Nat.le_of_ble_eq_true rfl) w_600 rfl (Or.inl rfl) dJ0_coder_7d493_7
theorem s_J0_coder_7d493_10 {X : ev_E} {l : Launch} (hG : ev_Good X) (hl : l.stackTraces = false) : ev_Snd X l ev_ms x_J0_coder_7d493 tx_J0_coder_7d493 10 (i_goto 14) := s_goto dJ0_coder_7d493_10 rfl
theorem s_J0_coder_7d493_13 {X : ev_E} {l : Launch} (hG : ev_Good X) (hl : l.stackTraces = false) : ev_Snd X l ev_ms x_J0_coder_7d493 tx_J0_coder_7d493 13 (i_psh (.int (1)) 14) := s_iconst dJ0_coder_7d493_13 rfl
theorem s_J0_coder_7d493_14 {X : ev_E} {l : Launch} (hG : ev_Good X) (hl : l.stackTraces = false) : ev_Snd X l ev_ms x_J0_coder_7d493 tx_J0_coder_7d493 14 (i_ir (.byte)) := s_ireturn rfl dJ0_coder_7d493_14
theorem sa_J0_coder_7d493 {X : ev_E} {l : Launch} (hG : ev_Good X) (hl : l.stackTraces = false) : ∀ q ∈ tb_J0_coder_7d493 X, ev_Snd X l ev_ms x_J0_coder_7d493 tx_J0_coder_7d493 q.1 q.2 := by
  intro q hq
  unfold tb_J0_coder_7d493 at hq
  simp only [List.mem_cons, List.not_mem_nil, or_false] at hq
  rcases hq with rfl | rfl | rfl | rfl | rfl | rfl | rfl
  · exact s_J0_coder_7d493_0 hG hl
  · exact s_J0_coder_7d493_3 hG hl
  · exact s_J0_coder_7d493_6 hG hl
  · exact s_J0_coder_7d493_7 hG hl
  · exact s_J0_coder_7d493_10 hG hl
  · exact s_J0_coder_7d493_13 hG hl
  · exact s_J0_coder_7d493_14 hG hl
def tx_J1_canEncode_fc78d : ev_X := fun _ _ => some none
noncomputable def tb_J1_canEncode_fc78d (X : ev_E) : List (Nat × (ev_S → ev_N)) := [(0, i_il 0 1), (1, i_psh (.int (255)) 4), (4, i_icgt 11 7), (7, i_psh (.int (1)) 8), (8, i_goto 12), (11, i_psh (.int (0)) 12), (12, i_ir (.boolean))]
theorem s_J1_canEncode_fc78d_0 {X : ev_E} {l : Launch} (hG : ev_Good X) (hl : l.stackTraces = false) : ev_Snd X l ev_ms x_J1_canEncode_fc78d tx_J1_canEncode_fc78d 0 (i_il 0 1) := s_iload_n dJ1_canEncode_fc78d_0 rfl
theorem s_J1_canEncode_fc78d_1 {X : ev_E} {l : Launch} (hG : ev_Good X) (hl : l.stackTraces = false) : ev_Snd X l ev_ms x_J1_canEncode_fc78d tx_J1_canEncode_fc78d 1 (i_psh (.int (255)) 4) := s_sipush dJ1_canEncode_fc78d_1 rfl
theorem s_J1_canEncode_fc78d_4 {X : ev_E} {l : Launch} (hG : ev_Good X) (hl : l.stackTraces = false) : ev_Snd X l ev_ms x_J1_canEncode_fc78d tx_J1_canEncode_fc78d 4 (i_icgt 11 7) := s_icgt dJ1_canEncode_fc78d_4 rfl
theorem s_J1_canEncode_fc78d_7 {X : ev_E} {l : Launch} (hG : ev_Good X) (hl : l.stackTraces = false) : ev_Snd X l ev_ms x_J1_canEncode_fc78d tx_J1_canEncode_fc78d 7 (i_psh (.int (1)) 8) := s_iconst dJ1_canEncode_fc78d_7 rfl
theorem s_J1_canEncode_fc78d_8 {X : ev_E} {l : Launch} (hG : ev_Good X) (hl : l.stackTraces = false) : ev_Snd X l ev_ms x_J1_canEncode_fc78d tx_J1_canEncode_fc78d 8 (i_goto 12) := s_goto dJ1_canEncode_fc78d_8 rfl
theorem s_J1_canEncode_fc78d_11 {X : ev_E} {l : Launch} (hG : ev_Good X) (hl : l.stackTraces = false) : ev_Snd X l ev_ms x_J1_canEncode_fc78d tx_J1_canEncode_fc78d 11 (i_psh (.int (0)) 12) := s_iconst dJ1_canEncode_fc78d_11 rfl
theorem s_J1_canEncode_fc78d_12 {X : ev_E} {l : Launch} (hG : ev_Good X) (hl : l.stackTraces = false) : ev_Snd X l ev_ms x_J1_canEncode_fc78d tx_J1_canEncode_fc78d 12 (i_ir (.boolean)) := s_ireturn rfl dJ1_canEncode_fc78d_12
theorem sa_J1_canEncode_fc78d {X : ev_E} {l : Launch} (hG : ev_Good X) (hl : l.stackTraces = false) : ∀ q ∈ tb_J1_canEncode_fc78d X, ev_Snd X l ev_ms x_J1_canEncode_fc78d tx_J1_canEncode_fc78d q.1 q.2 := by
  intro q hq
  unfold tb_J1_canEncode_fc78d at hq
  simp only [List.mem_cons, List.not_mem_nil, or_false] at hq
  rcases hq with rfl | rfl | rfl | rfl | rfl | rfl | rfl
  · exact s_J1_canEncode_fc78d_0 hG hl
  · exact s_J1_canEncode_fc78d_1 hG hl
  · exact s_J1_canEncode_fc78d_4 hG hl
  · exact s_J1_canEncode_fc78d_7 hG hl
  · exact s_J1_canEncode_fc78d_8 hG hl
  · exact s_J1_canEncode_fc78d_11 hG hl
  · exact s_J1_canEncode_fc78d_12 hG hl
def tx_J2_coderFromArrayLen_85cad : ev_X := fun _ _ => some none
noncomputable def tb_J2_coderFromArrayLen_85cad (X : ev_E) : List (Nat × (ev_S → ev_N)) := [(0, i_il 1 1), (1, i_al 0 2), (2, i_len X 3), (3, i_ii (fun a b => a - b) 4), (4, i_psh (.int (31)) 6), (6, i_ii (fun a b => (a.toUInt32 >>> (b.toUInt32 &&& Int32.toUInt32 31)).toInt32) 7), (7, i_i1 (fun a => a.toInt8.toInt32) 8), (8, i_ir (.byte))]
theorem s_J2_coderFromArrayLen_85cad_0 {X : ev_E} {l : Launch} (hG : ev_Good X) (hl : l.stackTraces = false) : ev_Snd X l ev_ms x_J2_coderFromArrayLen_85cad tx_J2_coderFromArrayLen_85cad 0 (i_il 1 1) := s_iload_n dJ2_coderFromArrayLen_85cad_0 rfl
theorem s_J2_coderFromArrayLen_85cad_1 {X : ev_E} {l : Launch} (hG : ev_Good X) (hl : l.stackTraces = false) : ev_Snd X l ev_ms x_J2_coderFromArrayLen_85cad tx_J2_coderFromArrayLen_85cad 1 (i_al 0 2) := s_aload_n dJ2_coderFromArrayLen_85cad_1 rfl
theorem s_J2_coderFromArrayLen_85cad_2 {X : ev_E} {l : Launch} (hG : ev_Good X) (hl : l.stackTraces = false) : ev_Snd X l ev_ms x_J2_coderFromArrayLen_85cad tx_J2_coderFromArrayLen_85cad 2 (i_len X 3) := s_arraylength hG dJ2_coderFromArrayLen_85cad_2
theorem s_J2_coderFromArrayLen_85cad_3 {X : ev_E} {l : Launch} (hG : ev_Good X) (hl : l.stackTraces = false) : ev_Snd X l ev_ms x_J2_coderFromArrayLen_85cad tx_J2_coderFromArrayLen_85cad 3 (i_ii (fun a b => a - b) 4) := s_isub dJ2_coderFromArrayLen_85cad_3
theorem s_J2_coderFromArrayLen_85cad_4 {X : ev_E} {l : Launch} (hG : ev_Good X) (hl : l.stackTraces = false) : ev_Snd X l ev_ms x_J2_coderFromArrayLen_85cad tx_J2_coderFromArrayLen_85cad 4 (i_psh (.int (31)) 6) := s_bipush dJ2_coderFromArrayLen_85cad_4 rfl
theorem s_J2_coderFromArrayLen_85cad_6 {X : ev_E} {l : Launch} (hG : ev_Good X) (hl : l.stackTraces = false) : ev_Snd X l ev_ms x_J2_coderFromArrayLen_85cad tx_J2_coderFromArrayLen_85cad 6 (i_ii (fun a b => (a.toUInt32 >>> (b.toUInt32 &&& Int32.toUInt32 31)).toInt32) 7) := s_iushr dJ2_coderFromArrayLen_85cad_6
theorem s_J2_coderFromArrayLen_85cad_7 {X : ev_E} {l : Launch} (hG : ev_Good X) (hl : l.stackTraces = false) : ev_Snd X l ev_ms x_J2_coderFromArrayLen_85cad tx_J2_coderFromArrayLen_85cad 7 (i_i1 (fun a => a.toInt8.toInt32) 8) := s_i2b dJ2_coderFromArrayLen_85cad_7
theorem s_J2_coderFromArrayLen_85cad_8 {X : ev_E} {l : Launch} (hG : ev_Good X) (hl : l.stackTraces = false) : ev_Snd X l ev_ms x_J2_coderFromArrayLen_85cad tx_J2_coderFromArrayLen_85cad 8 (i_ir (.byte)) := s_ireturn rfl dJ2_coderFromArrayLen_85cad_8
theorem sa_J2_coderFromArrayLen_85cad {X : ev_E} {l : Launch} (hG : ev_Good X) (hl : l.stackTraces = false) : ∀ q ∈ tb_J2_coderFromArrayLen_85cad X, ev_Snd X l ev_ms x_J2_coderFromArrayLen_85cad tx_J2_coderFromArrayLen_85cad q.1 q.2 := by
  intro q hq
  unfold tb_J2_coderFromArrayLen_85cad at hq
  simp only [List.mem_cons, List.not_mem_nil, or_false] at hq
  rcases hq with rfl | rfl | rfl | rfl | rfl | rfl | rfl | rfl
  · exact s_J2_coderFromArrayLen_85cad_0 hG hl
  · exact s_J2_coderFromArrayLen_85cad_1 hG hl
  · exact s_J2_coderFromArrayLen_85cad_2 hG hl
  · exact s_J2_coderFromArrayLen_85cad_3 hG hl
  · exact s_J2_coderFromArrayLen_85cad_4 hG hl
  · exact s_J2_coderFromArrayLen_85cad_6 hG hl
  · exact s_J2_coderFromArrayLen_85cad_7 hG hl
  · exact s_J2_coderFromArrayLen_85cad_8 hG hl
def tx_J2_length_9d52b : ev_X := fun _ _ => some none
noncomputable def tb_J2_length_9d52b (X : ev_E) : List (Nat × (ev_S → ev_N)) := [(0, i_al 0 1), (1, i_len X 2), (2, i_psh (.int (1)) 3), (3, i_ii (fun a b => a >>> (b &&& 31)) 4), (4, i_ir (.int))]
theorem s_J2_length_9d52b_0 {X : ev_E} {l : Launch} (hG : ev_Good X) (hl : l.stackTraces = false) : ev_Snd X l ev_ms x_J2_length_9d52b tx_J2_length_9d52b 0 (i_al 0 1) := s_aload_n dJ2_length_9d52b_0 rfl
theorem s_J2_length_9d52b_1 {X : ev_E} {l : Launch} (hG : ev_Good X) (hl : l.stackTraces = false) : ev_Snd X l ev_ms x_J2_length_9d52b tx_J2_length_9d52b 1 (i_len X 2) := s_arraylength hG dJ2_length_9d52b_1
theorem s_J2_length_9d52b_2 {X : ev_E} {l : Launch} (hG : ev_Good X) (hl : l.stackTraces = false) : ev_Snd X l ev_ms x_J2_length_9d52b tx_J2_length_9d52b 2 (i_psh (.int (1)) 3) := s_iconst dJ2_length_9d52b_2 rfl
theorem s_J2_length_9d52b_3 {X : ev_E} {l : Launch} (hG : ev_Good X) (hl : l.stackTraces = false) : ev_Snd X l ev_ms x_J2_length_9d52b tx_J2_length_9d52b 3 (i_ii (fun a b => a >>> (b &&& 31)) 4) := s_ishr dJ2_length_9d52b_3
theorem s_J2_length_9d52b_4 {X : ev_E} {l : Launch} (hG : ev_Good X) (hl : l.stackTraces = false) : ev_Snd X l ev_ms x_J2_length_9d52b tx_J2_length_9d52b 4 (i_ir (.int)) := s_ireturn rfl dJ2_length_9d52b_4
theorem sa_J2_length_9d52b {X : ev_E} {l : Launch} (hG : ev_Good X) (hl : l.stackTraces = false) : ∀ q ∈ tb_J2_length_9d52b X, ev_Snd X l ev_ms x_J2_length_9d52b tx_J2_length_9d52b q.1 q.2 := by
  intro q hq
  unfold tb_J2_length_9d52b at hq
  simp only [List.mem_cons, List.not_mem_nil, or_false] at hq
  rcases hq with rfl | rfl | rfl | rfl | rfl
  · exact s_J2_length_9d52b_0 hG hl
  · exact s_J2_length_9d52b_1 hG hl
  · exact s_J2_length_9d52b_2 hG hl
  · exact s_J2_length_9d52b_3 hG hl
  · exact s_J2_length_9d52b_4 hG hl
def tx_J2_newBytesLength_0f7a4 : ev_X := fun _ _ => some none
noncomputable def tb_J2_newBytesLength_0f7a4 (X : ev_E) : List (Nat × (ev_S → ev_N)) := [(0, i_il 0 1), (1, i_ifge 12 4), (4, i_no), (7, i_dup 8), (8, i_no), (11, i_no), (12, i_il 0 13), (13, i_psh (.int 1073741823) 15), (15, i_iclt 55 18), (18, i_no), (21, i_dup 22), (22, i_no), (25, i_dup 26), (26, i_no), (29, i_no), (31, i_no), (34, i_il 0 35), (35, i_no), (38, i_no), (40, i_no), (43, i_psh (.int 1073741823) 45), (45, i_no), (48, i_no), (51, i_no), (54, i_no), (55, i_il 0 56), (56, i_psh (.int (1)) 57), (57, i_ii (fun a b => a <<< (b &&& 31)) 58), (58, i_ir (.int))]
theorem s_J2_newBytesLength_0f7a4_0 {X : ev_E} {l : Launch} (hG : ev_Good X) (hl : l.stackTraces = false) : ev_Snd X l ev_ms x_J2_newBytesLength_0f7a4 tx_J2_newBytesLength_0f7a4 0 (i_il 0 1) := s_iload_n dJ2_newBytesLength_0f7a4_0 rfl
theorem s_J2_newBytesLength_0f7a4_1 {X : ev_E} {l : Launch} (hG : ev_Good X) (hl : l.stackTraces = false) : ev_Snd X l ev_ms x_J2_newBytesLength_0f7a4 tx_J2_newBytesLength_0f7a4 1 (i_ifge 12 4) := s_ifge dJ2_newBytesLength_0f7a4_1 rfl
theorem s_J2_newBytesLength_0f7a4_4 {X : ev_E} {l : Launch} (hG : ev_Good X) (hl : l.stackTraces = false) : ev_Snd X l ev_ms x_J2_newBytesLength_0f7a4 tx_J2_newBytesLength_0f7a4 4 (i_no) := s_no
theorem s_J2_newBytesLength_0f7a4_7 {X : ev_E} {l : Launch} (hG : ev_Good X) (hl : l.stackTraces = false) : ev_Snd X l ev_ms x_J2_newBytesLength_0f7a4 tx_J2_newBytesLength_0f7a4 7 (i_dup 8) := s_dup dJ2_newBytesLength_0f7a4_7
theorem s_J2_newBytesLength_0f7a4_8 {X : ev_E} {l : Launch} (hG : ev_Good X) (hl : l.stackTraces = false) : ev_Snd X l ev_ms x_J2_newBytesLength_0f7a4 tx_J2_newBytesLength_0f7a4 8 (i_no) := s_no
theorem s_J2_newBytesLength_0f7a4_11 {X : ev_E} {l : Launch} (hG : ev_Good X) (hl : l.stackTraces = false) : ev_Snd X l ev_ms x_J2_newBytesLength_0f7a4 tx_J2_newBytesLength_0f7a4 11 (i_no) := s_no
theorem s_J2_newBytesLength_0f7a4_12 {X : ev_E} {l : Launch} (hG : ev_Good X) (hl : l.stackTraces = false) : ev_Snd X l ev_ms x_J2_newBytesLength_0f7a4 tx_J2_newBytesLength_0f7a4 12 (i_il 0 13) := s_iload_n dJ2_newBytesLength_0f7a4_12 rfl
theorem s_J2_newBytesLength_0f7a4_13 {X : ev_E} {l : Launch} (hG : ev_Good X) (hl : l.stackTraces = false) : ev_Snd X l ev_ms x_J2_newBytesLength_0f7a4 tx_J2_newBytesLength_0f7a4 13 (i_psh (.int 1073741823) 15) := s_ldc hG w_297 rfl dJ2_newBytesLength_0f7a4_13
theorem s_J2_newBytesLength_0f7a4_15 {X : ev_E} {l : Launch} (hG : ev_Good X) (hl : l.stackTraces = false) : ev_Snd X l ev_ms x_J2_newBytesLength_0f7a4 tx_J2_newBytesLength_0f7a4 15 (i_iclt 55 18) := s_iclt dJ2_newBytesLength_0f7a4_15 rfl
theorem s_J2_newBytesLength_0f7a4_18 {X : ev_E} {l : Launch} (hG : ev_Good X) (hl : l.stackTraces = false) : ev_Snd X l ev_ms x_J2_newBytesLength_0f7a4 tx_J2_newBytesLength_0f7a4 18 (i_no) := s_no
theorem s_J2_newBytesLength_0f7a4_21 {X : ev_E} {l : Launch} (hG : ev_Good X) (hl : l.stackTraces = false) : ev_Snd X l ev_ms x_J2_newBytesLength_0f7a4 tx_J2_newBytesLength_0f7a4 21 (i_dup 22) := s_dup dJ2_newBytesLength_0f7a4_21
theorem s_J2_newBytesLength_0f7a4_22 {X : ev_E} {l : Launch} (hG : ev_Good X) (hl : l.stackTraces = false) : ev_Snd X l ev_ms x_J2_newBytesLength_0f7a4 tx_J2_newBytesLength_0f7a4 22 (i_no) := s_no
theorem s_J2_newBytesLength_0f7a4_25 {X : ev_E} {l : Launch} (hG : ev_Good X) (hl : l.stackTraces = false) : ev_Snd X l ev_ms x_J2_newBytesLength_0f7a4 tx_J2_newBytesLength_0f7a4 25 (i_dup 26) := s_dup dJ2_newBytesLength_0f7a4_25
theorem s_J2_newBytesLength_0f7a4_26 {X : ev_E} {l : Launch} (hG : ev_Good X) (hl : l.stackTraces = false) : ev_Snd X l ev_ms x_J2_newBytesLength_0f7a4 tx_J2_newBytesLength_0f7a4 26 (i_no) := s_no
theorem s_J2_newBytesLength_0f7a4_29 {X : ev_E} {l : Launch} (hG : ev_Good X) (hl : l.stackTraces = false) : ev_Snd X l ev_ms x_J2_newBytesLength_0f7a4 tx_J2_newBytesLength_0f7a4 29 (i_no) := s_no
theorem s_J2_newBytesLength_0f7a4_31 {X : ev_E} {l : Launch} (hG : ev_Good X) (hl : l.stackTraces = false) : ev_Snd X l ev_ms x_J2_newBytesLength_0f7a4 tx_J2_newBytesLength_0f7a4 31 (i_no) := s_no
theorem s_J2_newBytesLength_0f7a4_34 {X : ev_E} {l : Launch} (hG : ev_Good X) (hl : l.stackTraces = false) : ev_Snd X l ev_ms x_J2_newBytesLength_0f7a4 tx_J2_newBytesLength_0f7a4 34 (i_il 0 35) := s_iload_n dJ2_newBytesLength_0f7a4_34 rfl
theorem s_J2_newBytesLength_0f7a4_35 {X : ev_E} {l : Launch} (hG : ev_Good X) (hl : l.stackTraces = false) : ev_Snd X l ev_ms x_J2_newBytesLength_0f7a4 tx_J2_newBytesLength_0f7a4 35 (i_no) := s_no
theorem s_J2_newBytesLength_0f7a4_38 {X : ev_E} {l : Launch} (hG : ev_Good X) (hl : l.stackTraces = false) : ev_Snd X l ev_ms x_J2_newBytesLength_0f7a4 tx_J2_newBytesLength_0f7a4 38 (i_no) := s_no
theorem s_J2_newBytesLength_0f7a4_40 {X : ev_E} {l : Launch} (hG : ev_Good X) (hl : l.stackTraces = false) : ev_Snd X l ev_ms x_J2_newBytesLength_0f7a4 tx_J2_newBytesLength_0f7a4 40 (i_no) := s_no
theorem s_J2_newBytesLength_0f7a4_43 {X : ev_E} {l : Launch} (hG : ev_Good X) (hl : l.stackTraces = false) : ev_Snd X l ev_ms x_J2_newBytesLength_0f7a4 tx_J2_newBytesLength_0f7a4 43 (i_psh (.int 1073741823) 45) := s_ldc hG w_297 rfl dJ2_newBytesLength_0f7a4_43
theorem s_J2_newBytesLength_0f7a4_45 {X : ev_E} {l : Launch} (hG : ev_Good X) (hl : l.stackTraces = false) : ev_Snd X l ev_ms x_J2_newBytesLength_0f7a4 tx_J2_newBytesLength_0f7a4 45 (i_no) := s_no
theorem s_J2_newBytesLength_0f7a4_48 {X : ev_E} {l : Launch} (hG : ev_Good X) (hl : l.stackTraces = false) : ev_Snd X l ev_ms x_J2_newBytesLength_0f7a4 tx_J2_newBytesLength_0f7a4 48 (i_no) := s_no
theorem s_J2_newBytesLength_0f7a4_51 {X : ev_E} {l : Launch} (hG : ev_Good X) (hl : l.stackTraces = false) : ev_Snd X l ev_ms x_J2_newBytesLength_0f7a4 tx_J2_newBytesLength_0f7a4 51 (i_no) := s_no
theorem s_J2_newBytesLength_0f7a4_54 {X : ev_E} {l : Launch} (hG : ev_Good X) (hl : l.stackTraces = false) : ev_Snd X l ev_ms x_J2_newBytesLength_0f7a4 tx_J2_newBytesLength_0f7a4 54 (i_no) := s_no
theorem s_J2_newBytesLength_0f7a4_55 {X : ev_E} {l : Launch} (hG : ev_Good X) (hl : l.stackTraces = false) : ev_Snd X l ev_ms x_J2_newBytesLength_0f7a4 tx_J2_newBytesLength_0f7a4 55 (i_il 0 56) := s_iload_n dJ2_newBytesLength_0f7a4_55 rfl
theorem s_J2_newBytesLength_0f7a4_56 {X : ev_E} {l : Launch} (hG : ev_Good X) (hl : l.stackTraces = false) : ev_Snd X l ev_ms x_J2_newBytesLength_0f7a4 tx_J2_newBytesLength_0f7a4 56 (i_psh (.int (1)) 57) := s_iconst dJ2_newBytesLength_0f7a4_56 rfl
theorem s_J2_newBytesLength_0f7a4_57 {X : ev_E} {l : Launch} (hG : ev_Good X) (hl : l.stackTraces = false) : ev_Snd X l ev_ms x_J2_newBytesLength_0f7a4 tx_J2_newBytesLength_0f7a4 57 (i_ii (fun a b => a <<< (b &&& 31)) 58) := s_ishl dJ2_newBytesLength_0f7a4_57
theorem s_J2_newBytesLength_0f7a4_58 {X : ev_E} {l : Launch} (hG : ev_Good X) (hl : l.stackTraces = false) : ev_Snd X l ev_ms x_J2_newBytesLength_0f7a4 tx_J2_newBytesLength_0f7a4 58 (i_ir (.int)) := s_ireturn rfl dJ2_newBytesLength_0f7a4_58
theorem sa_J2_newBytesLength_0f7a4 {X : ev_E} {l : Launch} (hG : ev_Good X) (hl : l.stackTraces = false) : ∀ q ∈ tb_J2_newBytesLength_0f7a4 X, ev_Snd X l ev_ms x_J2_newBytesLength_0f7a4 tx_J2_newBytesLength_0f7a4 q.1 q.2 := by
  intro q hq
  unfold tb_J2_newBytesLength_0f7a4 at hq
  simp only [List.mem_cons, List.not_mem_nil, or_false] at hq
  rcases hq with rfl | rfl | rfl | rfl | rfl | rfl | rfl | rfl | rfl | rfl | rfl | rfl | rfl | rfl | rfl | rfl | rfl | rfl | rfl | rfl | rfl | rfl | rfl | rfl | rfl | rfl | rfl | rfl | rfl
  · exact s_J2_newBytesLength_0f7a4_0 hG hl
  · exact s_J2_newBytesLength_0f7a4_1 hG hl
  · exact s_J2_newBytesLength_0f7a4_4 hG hl
  · exact s_J2_newBytesLength_0f7a4_7 hG hl
  · exact s_J2_newBytesLength_0f7a4_8 hG hl
  · exact s_J2_newBytesLength_0f7a4_11 hG hl
  · exact s_J2_newBytesLength_0f7a4_12 hG hl
  · exact s_J2_newBytesLength_0f7a4_13 hG hl
  · exact s_J2_newBytesLength_0f7a4_15 hG hl
  · exact s_J2_newBytesLength_0f7a4_18 hG hl
  · exact s_J2_newBytesLength_0f7a4_21 hG hl
  · exact s_J2_newBytesLength_0f7a4_22 hG hl
  · exact s_J2_newBytesLength_0f7a4_25 hG hl
  · exact s_J2_newBytesLength_0f7a4_26 hG hl
  · exact s_J2_newBytesLength_0f7a4_29 hG hl
  · exact s_J2_newBytesLength_0f7a4_31 hG hl
  · exact s_J2_newBytesLength_0f7a4_34 hG hl
  · exact s_J2_newBytesLength_0f7a4_35 hG hl
  · exact s_J2_newBytesLength_0f7a4_38 hG hl
  · exact s_J2_newBytesLength_0f7a4_40 hG hl
  · exact s_J2_newBytesLength_0f7a4_43 hG hl
  · exact s_J2_newBytesLength_0f7a4_45 hG hl
  · exact s_J2_newBytesLength_0f7a4_48 hG hl
  · exact s_J2_newBytesLength_0f7a4_51 hG hl
  · exact s_J2_newBytesLength_0f7a4_54 hG hl
  · exact s_J2_newBytesLength_0f7a4_55 hG hl
  · exact s_J2_newBytesLength_0f7a4_56 hG hl
  · exact s_J2_newBytesLength_0f7a4_57 hG hl
  · exact s_J2_newBytesLength_0f7a4_58 hG hl
def tx_J3_checkFromIndexSize_8c36e : ev_X := fun _ _ => some none
noncomputable def tb_J3_checkFromIndexSize_8c36e (X : ev_E) : List (Nat × (ev_S → ev_N)) := [(0, i_il 2 1), (1, i_il 0 2), (2, i_ii (fun a b => a ||| b) 3), (3, i_il 1 4), (4, i_ii (fun a b => a ||| b) 5), (5, i_iflt 15 8), (8, i_il 1 9), (9, i_il 2 10), (10, i_il 0 11), (11, i_ii (fun a b => a - b) 12), (12, i_icle 23 15), (15, i_al 3 16), (16, i_il 0 17), (17, i_il 1 18), (18, i_il 2 19), (19, i_no), (22, i_no), (23, i_il 0 24), (24, i_ir (.int))]
theorem s_J3_checkFromIndexSize_8c36e_0 {X : ev_E} {l : Launch} (hG : ev_Good X) (hl : l.stackTraces = false) : ev_Snd X l ev_ms x_J3_checkFromIndexSize_8c36e tx_J3_checkFromIndexSize_8c36e 0 (i_il 2 1) := s_iload_n dJ3_checkFromIndexSize_8c36e_0 rfl
theorem s_J3_checkFromIndexSize_8c36e_1 {X : ev_E} {l : Launch} (hG : ev_Good X) (hl : l.stackTraces = false) : ev_Snd X l ev_ms x_J3_checkFromIndexSize_8c36e tx_J3_checkFromIndexSize_8c36e 1 (i_il 0 2) := s_iload_n dJ3_checkFromIndexSize_8c36e_1 rfl
theorem s_J3_checkFromIndexSize_8c36e_2 {X : ev_E} {l : Launch} (hG : ev_Good X) (hl : l.stackTraces = false) : ev_Snd X l ev_ms x_J3_checkFromIndexSize_8c36e tx_J3_checkFromIndexSize_8c36e 2 (i_ii (fun a b => a ||| b) 3) := s_ior dJ3_checkFromIndexSize_8c36e_2
theorem s_J3_checkFromIndexSize_8c36e_3 {X : ev_E} {l : Launch} (hG : ev_Good X) (hl : l.stackTraces = false) : ev_Snd X l ev_ms x_J3_checkFromIndexSize_8c36e tx_J3_checkFromIndexSize_8c36e 3 (i_il 1 4) := s_iload_n dJ3_checkFromIndexSize_8c36e_3 rfl
theorem s_J3_checkFromIndexSize_8c36e_4 {X : ev_E} {l : Launch} (hG : ev_Good X) (hl : l.stackTraces = false) : ev_Snd X l ev_ms x_J3_checkFromIndexSize_8c36e tx_J3_checkFromIndexSize_8c36e 4 (i_ii (fun a b => a ||| b) 5) := s_ior dJ3_checkFromIndexSize_8c36e_4
theorem s_J3_checkFromIndexSize_8c36e_5 {X : ev_E} {l : Launch} (hG : ev_Good X) (hl : l.stackTraces = false) : ev_Snd X l ev_ms x_J3_checkFromIndexSize_8c36e tx_J3_checkFromIndexSize_8c36e 5 (i_iflt 15 8) := s_iflt dJ3_checkFromIndexSize_8c36e_5 rfl
theorem s_J3_checkFromIndexSize_8c36e_8 {X : ev_E} {l : Launch} (hG : ev_Good X) (hl : l.stackTraces = false) : ev_Snd X l ev_ms x_J3_checkFromIndexSize_8c36e tx_J3_checkFromIndexSize_8c36e 8 (i_il 1 9) := s_iload_n dJ3_checkFromIndexSize_8c36e_8 rfl
theorem s_J3_checkFromIndexSize_8c36e_9 {X : ev_E} {l : Launch} (hG : ev_Good X) (hl : l.stackTraces = false) : ev_Snd X l ev_ms x_J3_checkFromIndexSize_8c36e tx_J3_checkFromIndexSize_8c36e 9 (i_il 2 10) := s_iload_n dJ3_checkFromIndexSize_8c36e_9 rfl
theorem s_J3_checkFromIndexSize_8c36e_10 {X : ev_E} {l : Launch} (hG : ev_Good X) (hl : l.stackTraces = false) : ev_Snd X l ev_ms x_J3_checkFromIndexSize_8c36e tx_J3_checkFromIndexSize_8c36e 10 (i_il 0 11) := s_iload_n dJ3_checkFromIndexSize_8c36e_10 rfl
theorem s_J3_checkFromIndexSize_8c36e_11 {X : ev_E} {l : Launch} (hG : ev_Good X) (hl : l.stackTraces = false) : ev_Snd X l ev_ms x_J3_checkFromIndexSize_8c36e tx_J3_checkFromIndexSize_8c36e 11 (i_ii (fun a b => a - b) 12) := s_isub dJ3_checkFromIndexSize_8c36e_11
theorem s_J3_checkFromIndexSize_8c36e_12 {X : ev_E} {l : Launch} (hG : ev_Good X) (hl : l.stackTraces = false) : ev_Snd X l ev_ms x_J3_checkFromIndexSize_8c36e tx_J3_checkFromIndexSize_8c36e 12 (i_icle 23 15) := s_icle dJ3_checkFromIndexSize_8c36e_12 rfl
theorem s_J3_checkFromIndexSize_8c36e_15 {X : ev_E} {l : Launch} (hG : ev_Good X) (hl : l.stackTraces = false) : ev_Snd X l ev_ms x_J3_checkFromIndexSize_8c36e tx_J3_checkFromIndexSize_8c36e 15 (i_al 3 16) := s_aload_n dJ3_checkFromIndexSize_8c36e_15 rfl
theorem s_J3_checkFromIndexSize_8c36e_16 {X : ev_E} {l : Launch} (hG : ev_Good X) (hl : l.stackTraces = false) : ev_Snd X l ev_ms x_J3_checkFromIndexSize_8c36e tx_J3_checkFromIndexSize_8c36e 16 (i_il 0 17) := s_iload_n dJ3_checkFromIndexSize_8c36e_16 rfl
theorem s_J3_checkFromIndexSize_8c36e_17 {X : ev_E} {l : Launch} (hG : ev_Good X) (hl : l.stackTraces = false) : ev_Snd X l ev_ms x_J3_checkFromIndexSize_8c36e tx_J3_checkFromIndexSize_8c36e 17 (i_il 1 18) := s_iload_n dJ3_checkFromIndexSize_8c36e_17 rfl
theorem s_J3_checkFromIndexSize_8c36e_18 {X : ev_E} {l : Launch} (hG : ev_Good X) (hl : l.stackTraces = false) : ev_Snd X l ev_ms x_J3_checkFromIndexSize_8c36e tx_J3_checkFromIndexSize_8c36e 18 (i_il 2 19) := s_iload_n dJ3_checkFromIndexSize_8c36e_18 rfl
theorem s_J3_checkFromIndexSize_8c36e_19 {X : ev_E} {l : Launch} (hG : ev_Good X) (hl : l.stackTraces = false) : ev_Snd X l ev_ms x_J3_checkFromIndexSize_8c36e tx_J3_checkFromIndexSize_8c36e 19 (i_no) := s_no
theorem s_J3_checkFromIndexSize_8c36e_22 {X : ev_E} {l : Launch} (hG : ev_Good X) (hl : l.stackTraces = false) : ev_Snd X l ev_ms x_J3_checkFromIndexSize_8c36e tx_J3_checkFromIndexSize_8c36e 22 (i_no) := s_no
theorem s_J3_checkFromIndexSize_8c36e_23 {X : ev_E} {l : Launch} (hG : ev_Good X) (hl : l.stackTraces = false) : ev_Snd X l ev_ms x_J3_checkFromIndexSize_8c36e tx_J3_checkFromIndexSize_8c36e 23 (i_il 0 24) := s_iload_n dJ3_checkFromIndexSize_8c36e_23 rfl
theorem s_J3_checkFromIndexSize_8c36e_24 {X : ev_E} {l : Launch} (hG : ev_Good X) (hl : l.stackTraces = false) : ev_Snd X l ev_ms x_J3_checkFromIndexSize_8c36e tx_J3_checkFromIndexSize_8c36e 24 (i_ir (.int)) := s_ireturn rfl dJ3_checkFromIndexSize_8c36e_24
theorem sa_J3_checkFromIndexSize_8c36e {X : ev_E} {l : Launch} (hG : ev_Good X) (hl : l.stackTraces = false) : ∀ q ∈ tb_J3_checkFromIndexSize_8c36e X, ev_Snd X l ev_ms x_J3_checkFromIndexSize_8c36e tx_J3_checkFromIndexSize_8c36e q.1 q.2 := by
  intro q hq
  unfold tb_J3_checkFromIndexSize_8c36e at hq
  simp only [List.mem_cons, List.not_mem_nil, or_false] at hq
  rcases hq with rfl | rfl | rfl | rfl | rfl | rfl | rfl | rfl | rfl | rfl | rfl | rfl | rfl | rfl | rfl | rfl | rfl | rfl | rfl
  · exact s_J3_checkFromIndexSize_8c36e_0 hG hl
  · exact s_J3_checkFromIndexSize_8c36e_1 hG hl
  · exact s_J3_checkFromIndexSize_8c36e_2 hG hl
  · exact s_J3_checkFromIndexSize_8c36e_3 hG hl
  · exact s_J3_checkFromIndexSize_8c36e_4 hG hl
  · exact s_J3_checkFromIndexSize_8c36e_5 hG hl
  · exact s_J3_checkFromIndexSize_8c36e_8 hG hl
  · exact s_J3_checkFromIndexSize_8c36e_9 hG hl
  · exact s_J3_checkFromIndexSize_8c36e_10 hG hl
  · exact s_J3_checkFromIndexSize_8c36e_11 hG hl
  · exact s_J3_checkFromIndexSize_8c36e_12 hG hl
  · exact s_J3_checkFromIndexSize_8c36e_15 hG hl
  · exact s_J3_checkFromIndexSize_8c36e_16 hG hl
  · exact s_J3_checkFromIndexSize_8c36e_17 hG hl
  · exact s_J3_checkFromIndexSize_8c36e_18 hG hl
  · exact s_J3_checkFromIndexSize_8c36e_19 hG hl
  · exact s_J3_checkFromIndexSize_8c36e_22 hG hl
  · exact s_J3_checkFromIndexSize_8c36e_23 hG hl
  · exact s_J3_checkFromIndexSize_8c36e_24 hG hl
def tx_J3_checkFromToIndex_8c36e : ev_X := fun _ _ => some none
noncomputable def tb_J3_checkFromToIndex_8c36e (X : ev_E) : List (Nat × (ev_S → ev_N)) := [(0, i_il 0 1), (1, i_iflt 14 4), (4, i_il 0 5), (5, i_il 1 6), (6, i_icgt 14 9), (9, i_il 1 10), (10, i_il 2 11), (11, i_icle 22 14), (14, i_al 3 15), (15, i_il 0 16), (16, i_il 1 17), (17, i_il 2 18), (18, i_no), (21, i_no), (22, i_il 0 23), (23, i_ir (.int))]
theorem s_J3_checkFromToIndex_8c36e_0 {X : ev_E} {l : Launch} (hG : ev_Good X) (hl : l.stackTraces = false) : ev_Snd X l ev_ms x_J3_checkFromToIndex_8c36e tx_J3_checkFromToIndex_8c36e 0 (i_il 0 1) := s_iload_n dJ3_checkFromToIndex_8c36e_0 rfl
theorem s_J3_checkFromToIndex_8c36e_1 {X : ev_E} {l : Launch} (hG : ev_Good X) (hl : l.stackTraces = false) : ev_Snd X l ev_ms x_J3_checkFromToIndex_8c36e tx_J3_checkFromToIndex_8c36e 1 (i_iflt 14 4) := s_iflt dJ3_checkFromToIndex_8c36e_1 rfl
theorem s_J3_checkFromToIndex_8c36e_4 {X : ev_E} {l : Launch} (hG : ev_Good X) (hl : l.stackTraces = false) : ev_Snd X l ev_ms x_J3_checkFromToIndex_8c36e tx_J3_checkFromToIndex_8c36e 4 (i_il 0 5) := s_iload_n dJ3_checkFromToIndex_8c36e_4 rfl
theorem s_J3_checkFromToIndex_8c36e_5 {X : ev_E} {l : Launch} (hG : ev_Good X) (hl : l.stackTraces = false) : ev_Snd X l ev_ms x_J3_checkFromToIndex_8c36e tx_J3_checkFromToIndex_8c36e 5 (i_il 1 6) := s_iload_n dJ3_checkFromToIndex_8c36e_5 rfl
theorem s_J3_checkFromToIndex_8c36e_6 {X : ev_E} {l : Launch} (hG : ev_Good X) (hl : l.stackTraces = false) : ev_Snd X l ev_ms x_J3_checkFromToIndex_8c36e tx_J3_checkFromToIndex_8c36e 6 (i_icgt 14 9) := s_icgt dJ3_checkFromToIndex_8c36e_6 rfl
theorem s_J3_checkFromToIndex_8c36e_9 {X : ev_E} {l : Launch} (hG : ev_Good X) (hl : l.stackTraces = false) : ev_Snd X l ev_ms x_J3_checkFromToIndex_8c36e tx_J3_checkFromToIndex_8c36e 9 (i_il 1 10) := s_iload_n dJ3_checkFromToIndex_8c36e_9 rfl
theorem s_J3_checkFromToIndex_8c36e_10 {X : ev_E} {l : Launch} (hG : ev_Good X) (hl : l.stackTraces = false) : ev_Snd X l ev_ms x_J3_checkFromToIndex_8c36e tx_J3_checkFromToIndex_8c36e 10 (i_il 2 11) := s_iload_n dJ3_checkFromToIndex_8c36e_10 rfl
theorem s_J3_checkFromToIndex_8c36e_11 {X : ev_E} {l : Launch} (hG : ev_Good X) (hl : l.stackTraces = false) : ev_Snd X l ev_ms x_J3_checkFromToIndex_8c36e tx_J3_checkFromToIndex_8c36e 11 (i_icle 22 14) := s_icle dJ3_checkFromToIndex_8c36e_11 rfl
theorem s_J3_checkFromToIndex_8c36e_14 {X : ev_E} {l : Launch} (hG : ev_Good X) (hl : l.stackTraces = false) : ev_Snd X l ev_ms x_J3_checkFromToIndex_8c36e tx_J3_checkFromToIndex_8c36e 14 (i_al 3 15) := s_aload_n dJ3_checkFromToIndex_8c36e_14 rfl
theorem s_J3_checkFromToIndex_8c36e_15 {X : ev_E} {l : Launch} (hG : ev_Good X) (hl : l.stackTraces = false) : ev_Snd X l ev_ms x_J3_checkFromToIndex_8c36e tx_J3_checkFromToIndex_8c36e 15 (i_il 0 16) := s_iload_n dJ3_checkFromToIndex_8c36e_15 rfl
theorem s_J3_checkFromToIndex_8c36e_16 {X : ev_E} {l : Launch} (hG : ev_Good X) (hl : l.stackTraces = false) : ev_Snd X l ev_ms x_J3_checkFromToIndex_8c36e tx_J3_checkFromToIndex_8c36e 16 (i_il 1 17) := s_iload_n dJ3_checkFromToIndex_8c36e_16 rfl
theorem s_J3_checkFromToIndex_8c36e_17 {X : ev_E} {l : Launch} (hG : ev_Good X) (hl : l.stackTraces = false) : ev_Snd X l ev_ms x_J3_checkFromToIndex_8c36e tx_J3_checkFromToIndex_8c36e 17 (i_il 2 18) := s_iload_n dJ3_checkFromToIndex_8c36e_17 rfl
theorem s_J3_checkFromToIndex_8c36e_18 {X : ev_E} {l : Launch} (hG : ev_Good X) (hl : l.stackTraces = false) : ev_Snd X l ev_ms x_J3_checkFromToIndex_8c36e tx_J3_checkFromToIndex_8c36e 18 (i_no) := s_no
theorem s_J3_checkFromToIndex_8c36e_21 {X : ev_E} {l : Launch} (hG : ev_Good X) (hl : l.stackTraces = false) : ev_Snd X l ev_ms x_J3_checkFromToIndex_8c36e tx_J3_checkFromToIndex_8c36e 21 (i_no) := s_no
theorem s_J3_checkFromToIndex_8c36e_22 {X : ev_E} {l : Launch} (hG : ev_Good X) (hl : l.stackTraces = false) : ev_Snd X l ev_ms x_J3_checkFromToIndex_8c36e tx_J3_checkFromToIndex_8c36e 22 (i_il 0 23) := s_iload_n dJ3_checkFromToIndex_8c36e_22 rfl
theorem s_J3_checkFromToIndex_8c36e_23 {X : ev_E} {l : Launch} (hG : ev_Good X) (hl : l.stackTraces = false) : ev_Snd X l ev_ms x_J3_checkFromToIndex_8c36e tx_J3_checkFromToIndex_8c36e 23 (i_ir (.int)) := s_ireturn rfl dJ3_checkFromToIndex_8c36e_23
theorem sa_J3_checkFromToIndex_8c36e {X : ev_E} {l : Launch} (hG : ev_Good X) (hl : l.stackTraces = false) : ∀ q ∈ tb_J3_checkFromToIndex_8c36e X, ev_Snd X l ev_ms x_J3_checkFromToIndex_8c36e tx_J3_checkFromToIndex_8c36e q.1 q.2 := by
  intro q hq
  unfold tb_J3_checkFromToIndex_8c36e at hq
  simp only [List.mem_cons, List.not_mem_nil, or_false] at hq
  rcases hq with rfl | rfl | rfl | rfl | rfl | rfl | rfl | rfl | rfl | rfl | rfl | rfl | rfl | rfl | rfl | rfl
  · exact s_J3_checkFromToIndex_8c36e_0 hG hl
  · exact s_J3_checkFromToIndex_8c36e_1 hG hl
  · exact s_J3_checkFromToIndex_8c36e_4 hG hl
  · exact s_J3_checkFromToIndex_8c36e_5 hG hl
  · exact s_J3_checkFromToIndex_8c36e_6 hG hl
  · exact s_J3_checkFromToIndex_8c36e_9 hG hl
  · exact s_J3_checkFromToIndex_8c36e_10 hG hl
  · exact s_J3_checkFromToIndex_8c36e_11 hG hl
  · exact s_J3_checkFromToIndex_8c36e_14 hG hl
  · exact s_J3_checkFromToIndex_8c36e_15 hG hl
  · exact s_J3_checkFromToIndex_8c36e_16 hG hl
  · exact s_J3_checkFromToIndex_8c36e_17 hG hl
  · exact s_J3_checkFromToIndex_8c36e_18 hG hl
  · exact s_J3_checkFromToIndex_8c36e_21 hG hl
  · exact s_J3_checkFromToIndex_8c36e_22 hG hl
  · exact s_J3_checkFromToIndex_8c36e_23 hG hl
def tx_J3_checkIndex_8e157 : ev_X := fun _ _ => some none
noncomputable def tb_J3_checkIndex_8e157 (X : ev_E) : List (Nat × (ev_S → ev_N)) := [(0, i_il 0 1), (1, i_iflt 9 4), (4, i_il 0 5), (5, i_il 1 6), (6, i_iclt 16 9), (9, i_al 2 10), (10, i_il 0 11), (11, i_il 1 12), (12, i_no), (15, i_no), (16, i_il 0 17), (17, i_ir (.int))]
theorem s_J3_checkIndex_8e157_0 {X : ev_E} {l : Launch} (hG : ev_Good X) (hl : l.stackTraces = false) : ev_Snd X l ev_ms x_J3_checkIndex_8e157 tx_J3_checkIndex_8e157 0 (i_il 0 1) := s_iload_n dJ3_checkIndex_8e157_0 rfl
theorem s_J3_checkIndex_8e157_1 {X : ev_E} {l : Launch} (hG : ev_Good X) (hl : l.stackTraces = false) : ev_Snd X l ev_ms x_J3_checkIndex_8e157 tx_J3_checkIndex_8e157 1 (i_iflt 9 4) := s_iflt dJ3_checkIndex_8e157_1 rfl
theorem s_J3_checkIndex_8e157_4 {X : ev_E} {l : Launch} (hG : ev_Good X) (hl : l.stackTraces = false) : ev_Snd X l ev_ms x_J3_checkIndex_8e157 tx_J3_checkIndex_8e157 4 (i_il 0 5) := s_iload_n dJ3_checkIndex_8e157_4 rfl
theorem s_J3_checkIndex_8e157_5 {X : ev_E} {l : Launch} (hG : ev_Good X) (hl : l.stackTraces = false) : ev_Snd X l ev_ms x_J3_checkIndex_8e157 tx_J3_checkIndex_8e157 5 (i_il 1 6) := s_iload_n dJ3_checkIndex_8e157_5 rfl
theorem s_J3_checkIndex_8e157_6 {X : ev_E} {l : Launch} (hG : ev_Good X) (hl : l.stackTraces = false) : ev_Snd X l ev_ms x_J3_checkIndex_8e157 tx_J3_checkIndex_8e157 6 (i_iclt 16 9) := s_iclt dJ3_checkIndex_8e157_6 rfl
theorem s_J3_checkIndex_8e157_9 {X : ev_E} {l : Launch} (hG : ev_Good X) (hl : l.stackTraces = false) : ev_Snd X l ev_ms x_J3_checkIndex_8e157 tx_J3_checkIndex_8e157 9 (i_al 2 10) := s_aload_n dJ3_checkIndex_8e157_9 rfl
theorem s_J3_checkIndex_8e157_10 {X : ev_E} {l : Launch} (hG : ev_Good X) (hl : l.stackTraces = false) : ev_Snd X l ev_ms x_J3_checkIndex_8e157 tx_J3_checkIndex_8e157 10 (i_il 0 11) := s_iload_n dJ3_checkIndex_8e157_10 rfl
theorem s_J3_checkIndex_8e157_11 {X : ev_E} {l : Launch} (hG : ev_Good X) (hl : l.stackTraces = false) : ev_Snd X l ev_ms x_J3_checkIndex_8e157 tx_J3_checkIndex_8e157 11 (i_il 1 12) := s_iload_n dJ3_checkIndex_8e157_11 rfl
theorem s_J3_checkIndex_8e157_12 {X : ev_E} {l : Launch} (hG : ev_Good X) (hl : l.stackTraces = false) : ev_Snd X l ev_ms x_J3_checkIndex_8e157 tx_J3_checkIndex_8e157 12 (i_no) := s_no
theorem s_J3_checkIndex_8e157_15 {X : ev_E} {l : Launch} (hG : ev_Good X) (hl : l.stackTraces = false) : ev_Snd X l ev_ms x_J3_checkIndex_8e157 tx_J3_checkIndex_8e157 15 (i_no) := s_no
theorem s_J3_checkIndex_8e157_16 {X : ev_E} {l : Launch} (hG : ev_Good X) (hl : l.stackTraces = false) : ev_Snd X l ev_ms x_J3_checkIndex_8e157 tx_J3_checkIndex_8e157 16 (i_il 0 17) := s_iload_n dJ3_checkIndex_8e157_16 rfl
theorem s_J3_checkIndex_8e157_17 {X : ev_E} {l : Launch} (hG : ev_Good X) (hl : l.stackTraces = false) : ev_Snd X l ev_ms x_J3_checkIndex_8e157 tx_J3_checkIndex_8e157 17 (i_ir (.int)) := s_ireturn rfl dJ3_checkIndex_8e157_17
theorem sa_J3_checkIndex_8e157 {X : ev_E} {l : Launch} (hG : ev_Good X) (hl : l.stackTraces = false) : ∀ q ∈ tb_J3_checkIndex_8e157 X, ev_Snd X l ev_ms x_J3_checkIndex_8e157 tx_J3_checkIndex_8e157 q.1 q.2 := by
  intro q hq
  unfold tb_J3_checkIndex_8e157 at hq
  simp only [List.mem_cons, List.not_mem_nil, or_false] at hq
  rcases hq with rfl | rfl | rfl | rfl | rfl | rfl | rfl | rfl | rfl | rfl | rfl | rfl
  · exact s_J3_checkIndex_8e157_0 hG hl
  · exact s_J3_checkIndex_8e157_1 hG hl
  · exact s_J3_checkIndex_8e157_4 hG hl
  · exact s_J3_checkIndex_8e157_5 hG hl
  · exact s_J3_checkIndex_8e157_6 hG hl
  · exact s_J3_checkIndex_8e157_9 hG hl
  · exact s_J3_checkIndex_8e157_10 hG hl
  · exact s_J3_checkIndex_8e157_11 hG hl
  · exact s_J3_checkIndex_8e157_12 hG hl
  · exact s_J3_checkIndex_8e157_15 hG hl
  · exact s_J3_checkIndex_8e157_16 hG hl
  · exact s_J3_checkIndex_8e157_17 hG hl
def tx_J5_getValue_6d5f1 : ev_X := fun _ _ => some none
noncomputable def tb_J5_getValue_6d5f1 (X : ev_E) : List (Nat × (ev_S → ev_N)) := [(0, i_al 0 1), (1, i_gf X 1 0 4), (4, i_ar)]
theorem s_J5_getValue_6d5f1_0 {X : ev_E} {l : Launch} (hG : ev_Good X) (hl : l.stackTraces = false) : ev_Snd X l ev_ms x_J5_getValue_6d5f1 tx_J5_getValue_6d5f1 0 (i_al 0 1) := s_aload_n dJ5_getValue_6d5f1_0 rfl
theorem s_J5_getValue_6d5f1_1 {X : ev_E} {l : Launch} (hG : ev_Good X) (hl : l.stackTraces = false) : ev_Snd X l ev_ms x_J5_getValue_6d5f1 tx_J5_getValue_6d5f1 1 (i_gf X 1 0 4) := s_getfield hG (ci := 1) (r := (RJ4, TJ4, 4)) rfl cw_1 (k := 0) (Nat.le_of_ble_eq_true rfl) w_298 rfl (Or.inl rfl) dJ5_getValue_6d5f1_1
theorem s_J5_getValue_6d5f1_4 {X : ev_E} {l : Launch} (hG : ev_Good X) (hl : l.stackTraces = false) : ev_Snd X l ev_ms x_J5_getValue_6d5f1 tx_J5_getValue_6d5f1 4 (i_ar) := s_areturn (rt := (.array .byte)) rfl (by first | exact Or.inl ⟨_, rfl⟩ | exact Or.inr ⟨_, rfl⟩) dJ5_getValue_6d5f1_4
theorem sa_J5_getValue_6d5f1 {X : ev_E} {l : Launch} (hG : ev_Good X) (hl : l.stackTraces = false) : ∀ q ∈ tb_J5_getValue_6d5f1 X, ev_Snd X l ev_ms x_J5_getValue_6d5f1 tx_J5_getValue_6d5f1 q.1 q.2 := by
  intro q hq
  unfold tb_J5_getValue_6d5f1 at hq
  simp only [List.mem_cons, List.not_mem_nil, or_false] at hq
  rcases hq with rfl | rfl | rfl
  · exact s_J5_getValue_6d5f1_0 hG hl
  · exact s_J5_getValue_6d5f1_1 hG hl
  · exact s_J5_getValue_6d5f1_4 hG hl
def tx_J5_isLatin1_aae02 : ev_X := fun _ _ => some none
noncomputable def tb_J5_isLatin1_aae02 (X : ev_E) : List (Nat × (ev_S → ev_N)) := [(0, i_psh (.int 1) 3), (3, i_ifeq 17 6), (6, i_al 0 7), (7, i_gf X 1 1 10), (10, i_ifne 17 13), (13, i_psh (.int (1)) 14), (14, i_goto 18), (17, i_psh (.int (0)) 18), (18, i_ir (.boolean))]
theorem s_J5_isLatin1_aae02_0 {X : ev_E} {l : Launch} (hG : ev_Good X) (hl : l.stackTraces = false) : ev_Snd X l ev_ms x_J5_isLatin1_aae02 tx_J5_isLatin1_aae02 0 (i_psh (.int 1) 3) := s_getstatic hG (hG.2.2.2.2.2.2.2.2.2.1) rfl w_289 dJ5_isLatin1_aae02_0
theorem s_J5_isLatin1_aae02_3 {X : ev_E} {l : Launch} (hG : ev_Good X) (hl : l.stackTraces = false) : ev_Snd X l ev_ms x_J5_isLatin1_aae02 tx_J5_isLatin1_aae02 3 (i_ifeq 17 6) := s_ifeq dJ5_isLatin1_aae02_3 rfl
theorem s_J5_isLatin1_aae02_6 {X : ev_E} {l : Launch} (hG : ev_Good X) (hl : l.stackTraces = false) : ev_Snd X l ev_ms x_J5_isLatin1_aae02 tx_J5_isLatin1_aae02 6 (i_al 0 7) := s_aload_n dJ5_isLatin1_aae02_6 rfl
theorem s_J5_isLatin1_aae02_7 {X : ev_E} {l : Launch} (hG : ev_Good X) (hl : l.stackTraces = false) : ev_Snd X l ev_ms x_J5_isLatin1_aae02 tx_J5_isLatin1_aae02 7 (i_gf X 1 1 10) := s_getfield hG (ci := 1) (r := (RJ4, TJ4, 4)) rfl cw_1 (k := 1) (Nat.le_of_ble_eq_true rfl) w_299 rfl (Or.inl rfl) dJ5_isLatin1_aae02_7
theorem s_J5_isLatin1_aae02_10 {X : ev_E} {l : Launch} (hG : ev_Good X) (hl : l.stackTraces = false) : ev_Snd X l ev_ms x_J5_isLatin1_aae02 tx_J5_isLatin1_aae02 10 (i_ifne 17 13) := s_ifne dJ5_isLatin1_aae02_10 rfl
theorem s_J5_isLatin1_aae02_13 {X : ev_E} {l : Launch} (hG : ev_Good X) (hl : l.stackTraces = false) : ev_Snd X l ev_ms x_J5_isLatin1_aae02 tx_J5_isLatin1_aae02 13 (i_psh (.int (1)) 14) := s_iconst dJ5_isLatin1_aae02_13 rfl
theorem s_J5_isLatin1_aae02_14 {X : ev_E} {l : Launch} (hG : ev_Good X) (hl : l.stackTraces = false) : ev_Snd X l ev_ms x_J5_isLatin1_aae02 tx_J5_isLatin1_aae02 14 (i_goto 18) := s_goto dJ5_isLatin1_aae02_14 rfl
theorem s_J5_isLatin1_aae02_17 {X : ev_E} {l : Launch} (hG : ev_Good X) (hl : l.stackTraces = false) : ev_Snd X l ev_ms x_J5_isLatin1_aae02 tx_J5_isLatin1_aae02 17 (i_psh (.int (0)) 18) := s_iconst dJ5_isLatin1_aae02_17 rfl
theorem s_J5_isLatin1_aae02_18 {X : ev_E} {l : Launch} (hG : ev_Good X) (hl : l.stackTraces = false) : ev_Snd X l ev_ms x_J5_isLatin1_aae02 tx_J5_isLatin1_aae02 18 (i_ir (.boolean)) := s_ireturn rfl dJ5_isLatin1_aae02_18
theorem sa_J5_isLatin1_aae02 {X : ev_E} {l : Launch} (hG : ev_Good X) (hl : l.stackTraces = false) : ∀ q ∈ tb_J5_isLatin1_aae02 X, ev_Snd X l ev_ms x_J5_isLatin1_aae02 tx_J5_isLatin1_aae02 q.1 q.2 := by
  intro q hq
  unfold tb_J5_isLatin1_aae02 at hq
  simp only [List.mem_cons, List.not_mem_nil, or_false] at hq
  rcases hq with rfl | rfl | rfl | rfl | rfl | rfl | rfl | rfl | rfl
  · exact s_J5_isLatin1_aae02_0 hG hl
  · exact s_J5_isLatin1_aae02_3 hG hl
  · exact s_J5_isLatin1_aae02_6 hG hl
  · exact s_J5_isLatin1_aae02_7 hG hl
  · exact s_J5_isLatin1_aae02_10 hG hl
  · exact s_J5_isLatin1_aae02_13 hG hl
  · exact s_J5_isLatin1_aae02_14 hG hl
  · exact s_J5_isLatin1_aae02_17 hG hl
  · exact s_J5_isLatin1_aae02_18 hG hl
def tx_J5_length_8abf5 : ev_X := fun _ _ => some none
noncomputable def tb_J5_length_8abf5 (X : ev_E) : List (Nat × (ev_S → ev_N)) := [(0, i_al 0 1), (1, i_gf X 1 3 4), (4, i_ir (.int))]
theorem s_J5_length_8abf5_0 {X : ev_E} {l : Launch} (hG : ev_Good X) (hl : l.stackTraces = false) : ev_Snd X l ev_ms x_J5_length_8abf5 tx_J5_length_8abf5 0 (i_al 0 1) := s_aload_n dJ5_length_8abf5_0 rfl
theorem s_J5_length_8abf5_1 {X : ev_E} {l : Launch} (hG : ev_Good X) (hl : l.stackTraces = false) : ev_Snd X l ev_ms x_J5_length_8abf5 tx_J5_length_8abf5 1 (i_gf X 1 3 4) := s_getfield hG (ci := 1) (r := (RJ4, TJ4, 4)) rfl cw_1 (k := 3) (Nat.le_of_ble_eq_true rfl) w_301 rfl (Or.inl rfl) dJ5_length_8abf5_1
theorem s_J5_length_8abf5_4 {X : ev_E} {l : Launch} (hG : ev_Good X) (hl : l.stackTraces = false) : ev_Snd X l ev_ms x_J5_length_8abf5 tx_J5_length_8abf5 4 (i_ir (.int)) := s_ireturn rfl dJ5_length_8abf5_4
theorem sa_J5_length_8abf5 {X : ev_E} {l : Launch} (hG : ev_Good X) (hl : l.stackTraces = false) : ∀ q ∈ tb_J5_length_8abf5 X, ev_Snd X l ev_ms x_J5_length_8abf5 tx_J5_length_8abf5 q.1 q.2 := by
  intro q hq
  unfold tb_J5_length_8abf5 at hq
  simp only [List.mem_cons, List.not_mem_nil, or_false] at hq
  rcases hq with rfl | rfl | rfl
  · exact s_J5_length_8abf5_0 hG hl
  · exact s_J5_length_8abf5_1 hG hl
  · exact s_J5_length_8abf5_4 hG hl
def tx_J6_getChars_ba4f3 : ev_X := fun _ _ => some none
noncomputable def tb_J6_getChars_ba4f3_c0 (X : ev_E) : List (Nat × (ev_S → ev_N)) := [(0, i_il 1 1), (1, i_is 5 3), (3, i_il 0 4), (4, i_ifge 11 7), (7, i_psh (.int (1)) 8), (8, i_goto 12), (11, i_psh (.int (0)) 12), (12, i_is 6 14), (14, i_il 6 16), (16, i_ifne 22 19), (19, i_il 0 20), (20, i_i1 (fun a => -a) 21), (21, i_is 0 22), (22, i_il 0 23), (23, i_psh (.int (-100)) 25), (25, i_icgt 72 28), (28, i_il 0 29), (29, i_psh (.int (100)) 31), (31, i_iid (fun a b => a / b) 32), (32, i_is 3 33), (33, i_il 3 34), (34, i_psh (.int (100)) 36), (36, i_ii (fun a b => a * b) 37), (37, i_il 0 38), (38, i_ii (fun a b => a - b) 39), (39, i_is 4 41), (41, i_il 3 42), (42, i_is 0 43), (43, i_al 2 44), (44, i_inc 5 (-1) 47), (47, i_il 5 49), (49, i_psh (.ref (X.2.2.2.2.2 2)) 52), (52, i_il 4 54), (54, i_ald X ev_tB 55), (55, i_ast ev_tB (vp_nar .byte) 56), (56, i_al 2 57), (57, i_inc 5 (-1) 60), (60, i_il 5 62), (62, i_psh (.ref (X.2.2.2.2.2 3)) 65), (65, i_il 4 67), (67, i_ald X ev_tB 68), (68, i_ast ev_tB (vp_nar .byte) 69), (69, i_goto 22), (72, i_al 2 73), (73, i_inc 5 (-1) 76), (76, i_il 5 78), (78, i_psh (.ref (X.2.2.2.2.2 2)) 81), (81, i_il 0 82), (82, i_i1 (fun a => -a) 83), (83, i_ald X ev_tB 84), (84, i_ast ev_tB (vp_nar .byte) 85), (85, i_il 0 86), (86, i_psh (.int (-9)) 88), (88, i_icge 104 91), (91, i_al 2 92), (92, i_inc 5 (-1) 95), (95, i_il 5 97), (97, i_psh (.ref (X.2.2.2.2.2 3)) 100), (100, i_il 0 101), (101, i_i1 (fun a => -a) 102)]
noncomputable def tb_J6_getChars_ba4f3_c1 (X : ev_E) : List (Nat × (ev_S → ev_N)) := [(102, i_ald X ev_tB 103), (103, i_ast ev_tB (vp_nar .byte) 104), (104, i_il 6 106), (106, i_ifeq 118 109), (109, i_al 2 110), (110, i_inc 5 (-1) 113), (113, i_il 5 115), (115, i_psh (.int (45)) 117), (117, i_ast ev_tB (vp_nar .byte) 118), (118, i_il 5 120), (120, i_ir (.int))]
noncomputable def tb_J6_getChars_ba4f3 (X : ev_E) : List (Nat × (ev_S → ev_N)) := tb_J6_getChars_ba4f3_c0 X ++ (tb_J6_getChars_ba4f3_c1 X)
theorem s_J6_getChars_ba4f3_0 {X : ev_E} {l : Launch} (hG : ev_Good X) (hl : l.stackTraces = false) : ev_Snd X l ev_ms x_J6_getChars_ba4f3 tx_J6_getChars_ba4f3 0 (i_il 1 1) := s_iload_n dJ6_getChars_ba4f3_0 rfl
theorem s_J6_getChars_ba4f3_1 {X : ev_E} {l : Launch} (hG : ev_Good X) (hl : l.stackTraces = false) : ev_Snd X l ev_ms x_J6_getChars_ba4f3 tx_J6_getChars_ba4f3 1 (i_is 5 3) := s_istore dJ6_getChars_ba4f3_1 (Nat.le_of_ble_eq_true rfl)
theorem s_J6_getChars_ba4f3_3 {X : ev_E} {l : Launch} (hG : ev_Good X) (hl : l.stackTraces = false) : ev_Snd X l ev_ms x_J6_getChars_ba4f3 tx_J6_getChars_ba4f3 3 (i_il 0 4) := s_iload_n dJ6_getChars_ba4f3_3 rfl
theorem s_J6_getChars_ba4f3_4 {X : ev_E} {l : Launch} (hG : ev_Good X) (hl : l.stackTraces = false) : ev_Snd X l ev_ms x_J6_getChars_ba4f3 tx_J6_getChars_ba4f3 4 (i_ifge 11 7) := s_ifge dJ6_getChars_ba4f3_4 rfl
theorem s_J6_getChars_ba4f3_7 {X : ev_E} {l : Launch} (hG : ev_Good X) (hl : l.stackTraces = false) : ev_Snd X l ev_ms x_J6_getChars_ba4f3 tx_J6_getChars_ba4f3 7 (i_psh (.int (1)) 8) := s_iconst dJ6_getChars_ba4f3_7 rfl
theorem s_J6_getChars_ba4f3_8 {X : ev_E} {l : Launch} (hG : ev_Good X) (hl : l.stackTraces = false) : ev_Snd X l ev_ms x_J6_getChars_ba4f3 tx_J6_getChars_ba4f3 8 (i_goto 12) := s_goto dJ6_getChars_ba4f3_8 rfl
theorem s_J6_getChars_ba4f3_11 {X : ev_E} {l : Launch} (hG : ev_Good X) (hl : l.stackTraces = false) : ev_Snd X l ev_ms x_J6_getChars_ba4f3 tx_J6_getChars_ba4f3 11 (i_psh (.int (0)) 12) := s_iconst dJ6_getChars_ba4f3_11 rfl
theorem s_J6_getChars_ba4f3_12 {X : ev_E} {l : Launch} (hG : ev_Good X) (hl : l.stackTraces = false) : ev_Snd X l ev_ms x_J6_getChars_ba4f3 tx_J6_getChars_ba4f3 12 (i_is 6 14) := s_istore dJ6_getChars_ba4f3_12 (Nat.le_of_ble_eq_true rfl)
theorem s_J6_getChars_ba4f3_14 {X : ev_E} {l : Launch} (hG : ev_Good X) (hl : l.stackTraces = false) : ev_Snd X l ev_ms x_J6_getChars_ba4f3 tx_J6_getChars_ba4f3 14 (i_il 6 16) := s_iload dJ6_getChars_ba4f3_14
theorem s_J6_getChars_ba4f3_16 {X : ev_E} {l : Launch} (hG : ev_Good X) (hl : l.stackTraces = false) : ev_Snd X l ev_ms x_J6_getChars_ba4f3 tx_J6_getChars_ba4f3 16 (i_ifne 22 19) := s_ifne dJ6_getChars_ba4f3_16 rfl
theorem s_J6_getChars_ba4f3_19 {X : ev_E} {l : Launch} (hG : ev_Good X) (hl : l.stackTraces = false) : ev_Snd X l ev_ms x_J6_getChars_ba4f3 tx_J6_getChars_ba4f3 19 (i_il 0 20) := s_iload_n dJ6_getChars_ba4f3_19 rfl
theorem s_J6_getChars_ba4f3_20 {X : ev_E} {l : Launch} (hG : ev_Good X) (hl : l.stackTraces = false) : ev_Snd X l ev_ms x_J6_getChars_ba4f3 tx_J6_getChars_ba4f3 20 (i_i1 (fun a => -a) 21) := s_ineg dJ6_getChars_ba4f3_20
theorem s_J6_getChars_ba4f3_21 {X : ev_E} {l : Launch} (hG : ev_Good X) (hl : l.stackTraces = false) : ev_Snd X l ev_ms x_J6_getChars_ba4f3 tx_J6_getChars_ba4f3 21 (i_is 0 22) := s_istore_n dJ6_getChars_ba4f3_21 rfl (Nat.le_of_ble_eq_true rfl)
theorem s_J6_getChars_ba4f3_22 {X : ev_E} {l : Launch} (hG : ev_Good X) (hl : l.stackTraces = false) : ev_Snd X l ev_ms x_J6_getChars_ba4f3 tx_J6_getChars_ba4f3 22 (i_il 0 23) := s_iload_n dJ6_getChars_ba4f3_22 rfl
theorem s_J6_getChars_ba4f3_23 {X : ev_E} {l : Launch} (hG : ev_Good X) (hl : l.stackTraces = false) : ev_Snd X l ev_ms x_J6_getChars_ba4f3 tx_J6_getChars_ba4f3 23 (i_psh (.int (-100)) 25) := s_bipush dJ6_getChars_ba4f3_23 rfl
theorem s_J6_getChars_ba4f3_25 {X : ev_E} {l : Launch} (hG : ev_Good X) (hl : l.stackTraces = false) : ev_Snd X l ev_ms x_J6_getChars_ba4f3 tx_J6_getChars_ba4f3 25 (i_icgt 72 28) := s_icgt dJ6_getChars_ba4f3_25 rfl
theorem s_J6_getChars_ba4f3_28 {X : ev_E} {l : Launch} (hG : ev_Good X) (hl : l.stackTraces = false) : ev_Snd X l ev_ms x_J6_getChars_ba4f3 tx_J6_getChars_ba4f3 28 (i_il 0 29) := s_iload_n dJ6_getChars_ba4f3_28 rfl
theorem s_J6_getChars_ba4f3_29 {X : ev_E} {l : Launch} (hG : ev_Good X) (hl : l.stackTraces = false) : ev_Snd X l ev_ms x_J6_getChars_ba4f3 tx_J6_getChars_ba4f3 29 (i_psh (.int (100)) 31) := s_bipush dJ6_getChars_ba4f3_29 rfl
theorem s_J6_getChars_ba4f3_31 {X : ev_E} {l : Launch} (hG : ev_Good X) (hl : l.stackTraces = false) : ev_Snd X l ev_ms x_J6_getChars_ba4f3 tx_J6_getChars_ba4f3 31 (i_iid (fun a b => a / b) 32) := s_idiv dJ6_getChars_ba4f3_31
theorem s_J6_getChars_ba4f3_32 {X : ev_E} {l : Launch} (hG : ev_Good X) (hl : l.stackTraces = false) : ev_Snd X l ev_ms x_J6_getChars_ba4f3 tx_J6_getChars_ba4f3 32 (i_is 3 33) := s_istore_n dJ6_getChars_ba4f3_32 rfl (Nat.le_of_ble_eq_true rfl)
theorem s_J6_getChars_ba4f3_33 {X : ev_E} {l : Launch} (hG : ev_Good X) (hl : l.stackTraces = false) : ev_Snd X l ev_ms x_J6_getChars_ba4f3 tx_J6_getChars_ba4f3 33 (i_il 3 34) := s_iload_n dJ6_getChars_ba4f3_33 rfl
theorem s_J6_getChars_ba4f3_34 {X : ev_E} {l : Launch} (hG : ev_Good X) (hl : l.stackTraces = false) : ev_Snd X l ev_ms x_J6_getChars_ba4f3 tx_J6_getChars_ba4f3 34 (i_psh (.int (100)) 36) := s_bipush dJ6_getChars_ba4f3_34 rfl
theorem s_J6_getChars_ba4f3_36 {X : ev_E} {l : Launch} (hG : ev_Good X) (hl : l.stackTraces = false) : ev_Snd X l ev_ms x_J6_getChars_ba4f3 tx_J6_getChars_ba4f3 36 (i_ii (fun a b => a * b) 37) := s_imul dJ6_getChars_ba4f3_36
theorem s_J6_getChars_ba4f3_37 {X : ev_E} {l : Launch} (hG : ev_Good X) (hl : l.stackTraces = false) : ev_Snd X l ev_ms x_J6_getChars_ba4f3 tx_J6_getChars_ba4f3 37 (i_il 0 38) := s_iload_n dJ6_getChars_ba4f3_37 rfl
theorem s_J6_getChars_ba4f3_38 {X : ev_E} {l : Launch} (hG : ev_Good X) (hl : l.stackTraces = false) : ev_Snd X l ev_ms x_J6_getChars_ba4f3 tx_J6_getChars_ba4f3 38 (i_ii (fun a b => a - b) 39) := s_isub dJ6_getChars_ba4f3_38
theorem s_J6_getChars_ba4f3_39 {X : ev_E} {l : Launch} (hG : ev_Good X) (hl : l.stackTraces = false) : ev_Snd X l ev_ms x_J6_getChars_ba4f3 tx_J6_getChars_ba4f3 39 (i_is 4 41) := s_istore dJ6_getChars_ba4f3_39 (Nat.le_of_ble_eq_true rfl)
theorem s_J6_getChars_ba4f3_41 {X : ev_E} {l : Launch} (hG : ev_Good X) (hl : l.stackTraces = false) : ev_Snd X l ev_ms x_J6_getChars_ba4f3 tx_J6_getChars_ba4f3 41 (i_il 3 42) := s_iload_n dJ6_getChars_ba4f3_41 rfl
theorem s_J6_getChars_ba4f3_42 {X : ev_E} {l : Launch} (hG : ev_Good X) (hl : l.stackTraces = false) : ev_Snd X l ev_ms x_J6_getChars_ba4f3 tx_J6_getChars_ba4f3 42 (i_is 0 43) := s_istore_n dJ6_getChars_ba4f3_42 rfl (Nat.le_of_ble_eq_true rfl)
theorem s_J6_getChars_ba4f3_43 {X : ev_E} {l : Launch} (hG : ev_Good X) (hl : l.stackTraces = false) : ev_Snd X l ev_ms x_J6_getChars_ba4f3 tx_J6_getChars_ba4f3 43 (i_al 2 44) := s_aload_n dJ6_getChars_ba4f3_43 rfl
theorem s_J6_getChars_ba4f3_44 {X : ev_E} {l : Launch} (hG : ev_Good X) (hl : l.stackTraces = false) : ev_Snd X l ev_ms x_J6_getChars_ba4f3 tx_J6_getChars_ba4f3 44 (i_inc 5 (-1) 47) := s_iinc dJ6_getChars_ba4f3_44 rfl (Nat.le_of_ble_eq_true rfl)
theorem s_J6_getChars_ba4f3_47 {X : ev_E} {l : Launch} (hG : ev_Good X) (hl : l.stackTraces = false) : ev_Snd X l ev_ms x_J6_getChars_ba4f3 tx_J6_getChars_ba4f3 47 (i_il 5 49) := s_iload dJ6_getChars_ba4f3_47
theorem s_J6_getChars_ba4f3_49 {X : ev_E} {l : Launch} (hG : ev_Good X) (hl : l.stackTraces = false) : ev_Snd X l ev_ms x_J6_getChars_ba4f3 tx_J6_getChars_ba4f3 49 (i_psh (.ref (X.2.2.2.2.2 2)) 52) := s_getstatic hG (hG.2.2.2.2.2.2.2.2.2.2.2.2.2.1) rfl w_420 dJ6_getChars_ba4f3_49
theorem s_J6_getChars_ba4f3_52 {X : ev_E} {l : Launch} (hG : ev_Good X) (hl : l.stackTraces = false) : ev_Snd X l ev_ms x_J6_getChars_ba4f3 tx_J6_getChars_ba4f3 52 (i_il 4 54) := s_iload dJ6_getChars_ba4f3_52
theorem s_J6_getChars_ba4f3_54 {X : ev_E} {l : Launch} (hG : ev_Good X) (hl : l.stackTraces = false) : ev_Snd X l ev_ms x_J6_getChars_ba4f3 tx_J6_getChars_ba4f3 54 (i_ald X ev_tB 55) := s_baload hG dJ6_getChars_ba4f3_54
theorem s_J6_getChars_ba4f3_55 {X : ev_E} {l : Launch} (hG : ev_Good X) (hl : l.stackTraces = false) : ev_Snd X l ev_ms x_J6_getChars_ba4f3 tx_J6_getChars_ba4f3 55 (i_ast ev_tB (vp_nar .byte) 56) := s_bastore hG dJ6_getChars_ba4f3_55
theorem s_J6_getChars_ba4f3_56 {X : ev_E} {l : Launch} (hG : ev_Good X) (hl : l.stackTraces = false) : ev_Snd X l ev_ms x_J6_getChars_ba4f3 tx_J6_getChars_ba4f3 56 (i_al 2 57) := s_aload_n dJ6_getChars_ba4f3_56 rfl
theorem s_J6_getChars_ba4f3_57 {X : ev_E} {l : Launch} (hG : ev_Good X) (hl : l.stackTraces = false) : ev_Snd X l ev_ms x_J6_getChars_ba4f3 tx_J6_getChars_ba4f3 57 (i_inc 5 (-1) 60) := s_iinc dJ6_getChars_ba4f3_57 rfl (Nat.le_of_ble_eq_true rfl)
theorem s_J6_getChars_ba4f3_60 {X : ev_E} {l : Launch} (hG : ev_Good X) (hl : l.stackTraces = false) : ev_Snd X l ev_ms x_J6_getChars_ba4f3 tx_J6_getChars_ba4f3 60 (i_il 5 62) := s_iload dJ6_getChars_ba4f3_60
theorem s_J6_getChars_ba4f3_62 {X : ev_E} {l : Launch} (hG : ev_Good X) (hl : l.stackTraces = false) : ev_Snd X l ev_ms x_J6_getChars_ba4f3 tx_J6_getChars_ba4f3 62 (i_psh (.ref (X.2.2.2.2.2 3)) 65) := s_getstatic hG (hG.2.2.2.2.2.2.2.2.2.2.2.2.2.2.1) rfl w_422 dJ6_getChars_ba4f3_62
theorem s_J6_getChars_ba4f3_65 {X : ev_E} {l : Launch} (hG : ev_Good X) (hl : l.stackTraces = false) : ev_Snd X l ev_ms x_J6_getChars_ba4f3 tx_J6_getChars_ba4f3 65 (i_il 4 67) := s_iload dJ6_getChars_ba4f3_65
theorem s_J6_getChars_ba4f3_67 {X : ev_E} {l : Launch} (hG : ev_Good X) (hl : l.stackTraces = false) : ev_Snd X l ev_ms x_J6_getChars_ba4f3 tx_J6_getChars_ba4f3 67 (i_ald X ev_tB 68) := s_baload hG dJ6_getChars_ba4f3_67
theorem s_J6_getChars_ba4f3_68 {X : ev_E} {l : Launch} (hG : ev_Good X) (hl : l.stackTraces = false) : ev_Snd X l ev_ms x_J6_getChars_ba4f3 tx_J6_getChars_ba4f3 68 (i_ast ev_tB (vp_nar .byte) 69) := s_bastore hG dJ6_getChars_ba4f3_68
theorem s_J6_getChars_ba4f3_69 {X : ev_E} {l : Launch} (hG : ev_Good X) (hl : l.stackTraces = false) : ev_Snd X l ev_ms x_J6_getChars_ba4f3 tx_J6_getChars_ba4f3 69 (i_goto 22) := s_goto dJ6_getChars_ba4f3_69 rfl
theorem s_J6_getChars_ba4f3_72 {X : ev_E} {l : Launch} (hG : ev_Good X) (hl : l.stackTraces = false) : ev_Snd X l ev_ms x_J6_getChars_ba4f3 tx_J6_getChars_ba4f3 72 (i_al 2 73) := s_aload_n dJ6_getChars_ba4f3_72 rfl
theorem s_J6_getChars_ba4f3_73 {X : ev_E} {l : Launch} (hG : ev_Good X) (hl : l.stackTraces = false) : ev_Snd X l ev_ms x_J6_getChars_ba4f3 tx_J6_getChars_ba4f3 73 (i_inc 5 (-1) 76) := s_iinc dJ6_getChars_ba4f3_73 rfl (Nat.le_of_ble_eq_true rfl)
theorem s_J6_getChars_ba4f3_76 {X : ev_E} {l : Launch} (hG : ev_Good X) (hl : l.stackTraces = false) : ev_Snd X l ev_ms x_J6_getChars_ba4f3 tx_J6_getChars_ba4f3 76 (i_il 5 78) := s_iload dJ6_getChars_ba4f3_76
theorem s_J6_getChars_ba4f3_78 {X : ev_E} {l : Launch} (hG : ev_Good X) (hl : l.stackTraces = false) : ev_Snd X l ev_ms x_J6_getChars_ba4f3 tx_J6_getChars_ba4f3 78 (i_psh (.ref (X.2.2.2.2.2 2)) 81) := s_getstatic hG (hG.2.2.2.2.2.2.2.2.2.2.2.2.2.1) rfl w_420 dJ6_getChars_ba4f3_78
theorem s_J6_getChars_ba4f3_81 {X : ev_E} {l : Launch} (hG : ev_Good X) (hl : l.stackTraces = false) : ev_Snd X l ev_ms x_J6_getChars_ba4f3 tx_J6_getChars_ba4f3 81 (i_il 0 82) := s_iload_n dJ6_getChars_ba4f3_81 rfl
theorem s_J6_getChars_ba4f3_82 {X : ev_E} {l : Launch} (hG : ev_Good X) (hl : l.stackTraces = false) : ev_Snd X l ev_ms x_J6_getChars_ba4f3 tx_J6_getChars_ba4f3 82 (i_i1 (fun a => -a) 83) := s_ineg dJ6_getChars_ba4f3_82
theorem s_J6_getChars_ba4f3_83 {X : ev_E} {l : Launch} (hG : ev_Good X) (hl : l.stackTraces = false) : ev_Snd X l ev_ms x_J6_getChars_ba4f3 tx_J6_getChars_ba4f3 83 (i_ald X ev_tB 84) := s_baload hG dJ6_getChars_ba4f3_83
theorem s_J6_getChars_ba4f3_84 {X : ev_E} {l : Launch} (hG : ev_Good X) (hl : l.stackTraces = false) : ev_Snd X l ev_ms x_J6_getChars_ba4f3 tx_J6_getChars_ba4f3 84 (i_ast ev_tB (vp_nar .byte) 85) := s_bastore hG dJ6_getChars_ba4f3_84
theorem s_J6_getChars_ba4f3_85 {X : ev_E} {l : Launch} (hG : ev_Good X) (hl : l.stackTraces = false) : ev_Snd X l ev_ms x_J6_getChars_ba4f3 tx_J6_getChars_ba4f3 85 (i_il 0 86) := s_iload_n dJ6_getChars_ba4f3_85 rfl
theorem s_J6_getChars_ba4f3_86 {X : ev_E} {l : Launch} (hG : ev_Good X) (hl : l.stackTraces = false) : ev_Snd X l ev_ms x_J6_getChars_ba4f3 tx_J6_getChars_ba4f3 86 (i_psh (.int (-9)) 88) := s_bipush dJ6_getChars_ba4f3_86 rfl
theorem s_J6_getChars_ba4f3_88 {X : ev_E} {l : Launch} (hG : ev_Good X) (hl : l.stackTraces = false) : ev_Snd X l ev_ms x_J6_getChars_ba4f3 tx_J6_getChars_ba4f3 88 (i_icge 104 91) := s_icge dJ6_getChars_ba4f3_88 rfl
theorem s_J6_getChars_ba4f3_91 {X : ev_E} {l : Launch} (hG : ev_Good X) (hl : l.stackTraces = false) : ev_Snd X l ev_ms x_J6_getChars_ba4f3 tx_J6_getChars_ba4f3 91 (i_al 2 92) := s_aload_n dJ6_getChars_ba4f3_91 rfl
theorem s_J6_getChars_ba4f3_92 {X : ev_E} {l : Launch} (hG : ev_Good X) (hl : l.stackTraces = false) : ev_Snd X l ev_ms x_J6_getChars_ba4f3 tx_J6_getChars_ba4f3 92 (i_inc 5 (-1) 95) := s_iinc dJ6_getChars_ba4f3_92 rfl (Nat.le_of_ble_eq_true rfl)
theorem s_J6_getChars_ba4f3_95 {X : ev_E} {l : Launch} (hG : ev_Good X) (hl : l.stackTraces = false) : ev_Snd X l ev_ms x_J6_getChars_ba4f3 tx_J6_getChars_ba4f3 95 (i_il 5 97) := s_iload dJ6_getChars_ba4f3_95
theorem s_J6_getChars_ba4f3_97 {X : ev_E} {l : Launch} (hG : ev_Good X) (hl : l.stackTraces = false) : ev_Snd X l ev_ms x_J6_getChars_ba4f3 tx_J6_getChars_ba4f3 97 (i_psh (.ref (X.2.2.2.2.2 3)) 100) := s_getstatic hG (hG.2.2.2.2.2.2.2.2.2.2.2.2.2.2.1) rfl w_422 dJ6_getChars_ba4f3_97
theorem s_J6_getChars_ba4f3_100 {X : ev_E} {l : Launch} (hG : ev_Good X) (hl : l.stackTraces = false) : ev_Snd X l ev_ms x_J6_getChars_ba4f3 tx_J6_getChars_ba4f3 100 (i_il 0 101) := s_iload_n dJ6_getChars_ba4f3_100 rfl
theorem s_J6_getChars_ba4f3_101 {X : ev_E} {l : Launch} (hG : ev_Good X) (hl : l.stackTraces = false) : ev_Snd X l ev_ms x_J6_getChars_ba4f3 tx_J6_getChars_ba4f3 101 (i_i1 (fun a => -a) 102) := s_ineg dJ6_getChars_ba4f3_101
theorem s_J6_getChars_ba4f3_102 {X : ev_E} {l : Launch} (hG : ev_Good X) (hl : l.stackTraces = false) : ev_Snd X l ev_ms x_J6_getChars_ba4f3 tx_J6_getChars_ba4f3 102 (i_ald X ev_tB 103) := s_baload hG dJ6_getChars_ba4f3_102
theorem s_J6_getChars_ba4f3_103 {X : ev_E} {l : Launch} (hG : ev_Good X) (hl : l.stackTraces = false) : ev_Snd X l ev_ms x_J6_getChars_ba4f3 tx_J6_getChars_ba4f3 103 (i_ast ev_tB (vp_nar .byte) 104) := s_bastore hG dJ6_getChars_ba4f3_103
theorem s_J6_getChars_ba4f3_104 {X : ev_E} {l : Launch} (hG : ev_Good X) (hl : l.stackTraces = false) : ev_Snd X l ev_ms x_J6_getChars_ba4f3 tx_J6_getChars_ba4f3 104 (i_il 6 106) := s_iload dJ6_getChars_ba4f3_104
theorem s_J6_getChars_ba4f3_106 {X : ev_E} {l : Launch} (hG : ev_Good X) (hl : l.stackTraces = false) : ev_Snd X l ev_ms x_J6_getChars_ba4f3 tx_J6_getChars_ba4f3 106 (i_ifeq 118 109) := s_ifeq dJ6_getChars_ba4f3_106 rfl
theorem s_J6_getChars_ba4f3_109 {X : ev_E} {l : Launch} (hG : ev_Good X) (hl : l.stackTraces = false) : ev_Snd X l ev_ms x_J6_getChars_ba4f3 tx_J6_getChars_ba4f3 109 (i_al 2 110) := s_aload_n dJ6_getChars_ba4f3_109 rfl
theorem s_J6_getChars_ba4f3_110 {X : ev_E} {l : Launch} (hG : ev_Good X) (hl : l.stackTraces = false) : ev_Snd X l ev_ms x_J6_getChars_ba4f3 tx_J6_getChars_ba4f3 110 (i_inc 5 (-1) 113) := s_iinc dJ6_getChars_ba4f3_110 rfl (Nat.le_of_ble_eq_true rfl)
theorem s_J6_getChars_ba4f3_113 {X : ev_E} {l : Launch} (hG : ev_Good X) (hl : l.stackTraces = false) : ev_Snd X l ev_ms x_J6_getChars_ba4f3 tx_J6_getChars_ba4f3 113 (i_il 5 115) := s_iload dJ6_getChars_ba4f3_113
theorem s_J6_getChars_ba4f3_115 {X : ev_E} {l : Launch} (hG : ev_Good X) (hl : l.stackTraces = false) : ev_Snd X l ev_ms x_J6_getChars_ba4f3 tx_J6_getChars_ba4f3 115 (i_psh (.int (45)) 117) := s_bipush dJ6_getChars_ba4f3_115 rfl
theorem s_J6_getChars_ba4f3_117 {X : ev_E} {l : Launch} (hG : ev_Good X) (hl : l.stackTraces = false) : ev_Snd X l ev_ms x_J6_getChars_ba4f3 tx_J6_getChars_ba4f3 117 (i_ast ev_tB (vp_nar .byte) 118) := s_bastore hG dJ6_getChars_ba4f3_117
theorem s_J6_getChars_ba4f3_118 {X : ev_E} {l : Launch} (hG : ev_Good X) (hl : l.stackTraces = false) : ev_Snd X l ev_ms x_J6_getChars_ba4f3 tx_J6_getChars_ba4f3 118 (i_il 5 120) := s_iload dJ6_getChars_ba4f3_118
theorem s_J6_getChars_ba4f3_120 {X : ev_E} {l : Launch} (hG : ev_Good X) (hl : l.stackTraces = false) : ev_Snd X l ev_ms x_J6_getChars_ba4f3 tx_J6_getChars_ba4f3 120 (i_ir (.int)) := s_ireturn rfl dJ6_getChars_ba4f3_120
theorem sa_J6_getChars_ba4f3_c0 {X : ev_E} {l : Launch} (hG : ev_Good X) (hl : l.stackTraces = false) : ∀ q ∈ tb_J6_getChars_ba4f3_c0 X, ev_Snd X l ev_ms x_J6_getChars_ba4f3 tx_J6_getChars_ba4f3 q.1 q.2 := by
  intro q hq
  unfold tb_J6_getChars_ba4f3_c0 at hq
  simp only [List.mem_cons, List.not_mem_nil, or_false] at hq
  rcases hq with rfl | rfl | rfl | rfl | rfl | rfl | rfl | rfl | rfl | rfl | rfl | rfl | rfl | rfl | rfl | rfl | rfl | rfl | rfl | rfl | rfl | rfl | rfl | rfl | rfl | rfl | rfl | rfl | rfl | rfl | rfl | rfl | rfl | rfl | rfl | rfl | rfl | rfl | rfl | rfl | rfl | rfl | rfl | rfl | rfl | rfl | rfl | rfl | rfl | rfl | rfl | rfl | rfl | rfl | rfl | rfl | rfl | rfl | rfl | rfl
  · exact s_J6_getChars_ba4f3_0 hG hl
  · exact s_J6_getChars_ba4f3_1 hG hl
  · exact s_J6_getChars_ba4f3_3 hG hl
  · exact s_J6_getChars_ba4f3_4 hG hl
  · exact s_J6_getChars_ba4f3_7 hG hl
  · exact s_J6_getChars_ba4f3_8 hG hl
  · exact s_J6_getChars_ba4f3_11 hG hl
  · exact s_J6_getChars_ba4f3_12 hG hl
  · exact s_J6_getChars_ba4f3_14 hG hl
  · exact s_J6_getChars_ba4f3_16 hG hl
  · exact s_J6_getChars_ba4f3_19 hG hl
  · exact s_J6_getChars_ba4f3_20 hG hl
  · exact s_J6_getChars_ba4f3_21 hG hl
  · exact s_J6_getChars_ba4f3_22 hG hl
  · exact s_J6_getChars_ba4f3_23 hG hl
  · exact s_J6_getChars_ba4f3_25 hG hl
  · exact s_J6_getChars_ba4f3_28 hG hl
  · exact s_J6_getChars_ba4f3_29 hG hl
  · exact s_J6_getChars_ba4f3_31 hG hl
  · exact s_J6_getChars_ba4f3_32 hG hl
  · exact s_J6_getChars_ba4f3_33 hG hl
  · exact s_J6_getChars_ba4f3_34 hG hl
  · exact s_J6_getChars_ba4f3_36 hG hl
  · exact s_J6_getChars_ba4f3_37 hG hl
  · exact s_J6_getChars_ba4f3_38 hG hl
  · exact s_J6_getChars_ba4f3_39 hG hl
  · exact s_J6_getChars_ba4f3_41 hG hl
  · exact s_J6_getChars_ba4f3_42 hG hl
  · exact s_J6_getChars_ba4f3_43 hG hl
  · exact s_J6_getChars_ba4f3_44 hG hl
  · exact s_J6_getChars_ba4f3_47 hG hl
  · exact s_J6_getChars_ba4f3_49 hG hl
  · exact s_J6_getChars_ba4f3_52 hG hl
  · exact s_J6_getChars_ba4f3_54 hG hl
  · exact s_J6_getChars_ba4f3_55 hG hl
  · exact s_J6_getChars_ba4f3_56 hG hl
  · exact s_J6_getChars_ba4f3_57 hG hl
  · exact s_J6_getChars_ba4f3_60 hG hl
  · exact s_J6_getChars_ba4f3_62 hG hl
  · exact s_J6_getChars_ba4f3_65 hG hl
  · exact s_J6_getChars_ba4f3_67 hG hl
  · exact s_J6_getChars_ba4f3_68 hG hl
  · exact s_J6_getChars_ba4f3_69 hG hl
  · exact s_J6_getChars_ba4f3_72 hG hl
  · exact s_J6_getChars_ba4f3_73 hG hl
  · exact s_J6_getChars_ba4f3_76 hG hl
  · exact s_J6_getChars_ba4f3_78 hG hl
  · exact s_J6_getChars_ba4f3_81 hG hl
  · exact s_J6_getChars_ba4f3_82 hG hl
  · exact s_J6_getChars_ba4f3_83 hG hl
  · exact s_J6_getChars_ba4f3_84 hG hl
  · exact s_J6_getChars_ba4f3_85 hG hl
  · exact s_J6_getChars_ba4f3_86 hG hl
  · exact s_J6_getChars_ba4f3_88 hG hl
  · exact s_J6_getChars_ba4f3_91 hG hl
  · exact s_J6_getChars_ba4f3_92 hG hl
  · exact s_J6_getChars_ba4f3_95 hG hl
  · exact s_J6_getChars_ba4f3_97 hG hl
  · exact s_J6_getChars_ba4f3_100 hG hl
  · exact s_J6_getChars_ba4f3_101 hG hl
theorem sa_J6_getChars_ba4f3_c1 {X : ev_E} {l : Launch} (hG : ev_Good X) (hl : l.stackTraces = false) : ∀ q ∈ tb_J6_getChars_ba4f3_c1 X, ev_Snd X l ev_ms x_J6_getChars_ba4f3 tx_J6_getChars_ba4f3 q.1 q.2 := by
  intro q hq
  unfold tb_J6_getChars_ba4f3_c1 at hq
  simp only [List.mem_cons, List.not_mem_nil, or_false] at hq
  rcases hq with rfl | rfl | rfl | rfl | rfl | rfl | rfl | rfl | rfl | rfl | rfl
  · exact s_J6_getChars_ba4f3_102 hG hl
  · exact s_J6_getChars_ba4f3_103 hG hl
  · exact s_J6_getChars_ba4f3_104 hG hl
  · exact s_J6_getChars_ba4f3_106 hG hl
  · exact s_J6_getChars_ba4f3_109 hG hl
  · exact s_J6_getChars_ba4f3_110 hG hl
  · exact s_J6_getChars_ba4f3_113 hG hl
  · exact s_J6_getChars_ba4f3_115 hG hl
  · exact s_J6_getChars_ba4f3_117 hG hl
  · exact s_J6_getChars_ba4f3_118 hG hl
  · exact s_J6_getChars_ba4f3_120 hG hl
theorem sa_J6_getChars_ba4f3 {X : ev_E} {l : Launch} (hG : ev_Good X) (hl : l.stackTraces = false) : ∀ q ∈ tb_J6_getChars_ba4f3 X, ev_Snd X l ev_ms x_J6_getChars_ba4f3 tx_J6_getChars_ba4f3 q.1 q.2 := List.forall_mem_append.mpr ⟨sa_J6_getChars_ba4f3_c0 hG hl, sa_J6_getChars_ba4f3_c1 hG hl⟩
def tx_J6_intValue_8abf5 : ev_X := fun _ _ => some none
noncomputable def tb_J6_intValue_8abf5 (X : ev_E) : List (Nat × (ev_S → ev_N)) := [(0, i_al 0 1), (1, i_gf X 2 0 4), (4, i_ir (.int))]
theorem s_J6_intValue_8abf5_0 {X : ev_E} {l : Launch} (hG : ev_Good X) (hl : l.stackTraces = false) : ev_Snd X l ev_ms x_J6_intValue_8abf5 tx_J6_intValue_8abf5 0 (i_al 0 1) := s_aload_n dJ6_intValue_8abf5_0 rfl
theorem s_J6_intValue_8abf5_1 {X : ev_E} {l : Launch} (hG : ev_Good X) (hl : l.stackTraces = false) : ev_Snd X l ev_ms x_J6_intValue_8abf5 tx_J6_intValue_8abf5 1 (i_gf X 2 0 4) := s_getfield hG (ci := 2) (r := (RJ6, TJ6, 1)) rfl cw_2 (k := 0) (Nat.le_of_ble_eq_true rfl) w_1620 rfl (Or.inl rfl) dJ6_intValue_8abf5_1
theorem s_J6_intValue_8abf5_4 {X : ev_E} {l : Launch} (hG : ev_Good X) (hl : l.stackTraces = false) : ev_Snd X l ev_ms x_J6_intValue_8abf5 tx_J6_intValue_8abf5 4 (i_ir (.int)) := s_ireturn rfl dJ6_intValue_8abf5_4
theorem sa_J6_intValue_8abf5 {X : ev_E} {l : Launch} (hG : ev_Good X) (hl : l.stackTraces = false) : ∀ q ∈ tb_J6_intValue_8abf5 X, ev_Snd X l ev_ms x_J6_intValue_8abf5 tx_J6_intValue_8abf5 q.1 q.2 := by
  intro q hq
  unfold tb_J6_intValue_8abf5 at hq
  simp only [List.mem_cons, List.not_mem_nil, or_false] at hq
  rcases hq with rfl | rfl | rfl
  · exact s_J6_intValue_8abf5_0 hG hl
  · exact s_J6_intValue_8abf5_1 hG hl
  · exact s_J6_intValue_8abf5_4 hG hl
def tx_J6_stringSize_0f7a4 : ev_X := fun _ _ => some none
noncomputable def tb_J6_stringSize_0f7a4 (X : ev_E) : List (Nat × (ev_S → ev_N)) := [(0, i_psh (.int (1)) 1), (1, i_is 1 2), (2, i_il 0 3), (3, i_iflt 11 6), (6, i_psh (.int (0)) 7), (7, i_is 1 8), (8, i_il 0 9), (9, i_i1 (fun a => -a) 10), (10, i_is 0 11), (11, i_psh (.int (-10)) 13), (13, i_is 2 14), (14, i_psh (.int (1)) 15), (15, i_is 3 16), (16, i_il 3 17), (17, i_psh (.int (10)) 19), (19, i_icge 42 22), (22, i_il 0 23), (23, i_il 2 24), (24, i_icle 31 27), (27, i_il 3 28), (28, i_il 1 29), (29, i_ii (fun a b => a + b) 30), (30, i_ir (.int)), (31, i_psh (.int (10)) 33), (33, i_il 2 34), (34, i_ii (fun a b => a * b) 35), (35, i_is 2 36), (36, i_inc 3 (1) 39), (39, i_goto 16), (42, i_psh (.int (10)) 44), (44, i_il 1 45), (45, i_ii (fun a b => a + b) 46), (46, i_ir (.int))]
theorem s_J6_stringSize_0f7a4_0 {X : ev_E} {l : Launch} (hG : ev_Good X) (hl : l.stackTraces = false) : ev_Snd X l ev_ms x_J6_stringSize_0f7a4 tx_J6_stringSize_0f7a4 0 (i_psh (.int (1)) 1) := s_iconst dJ6_stringSize_0f7a4_0 rfl
theorem s_J6_stringSize_0f7a4_1 {X : ev_E} {l : Launch} (hG : ev_Good X) (hl : l.stackTraces = false) : ev_Snd X l ev_ms x_J6_stringSize_0f7a4 tx_J6_stringSize_0f7a4 1 (i_is 1 2) := s_istore_n dJ6_stringSize_0f7a4_1 rfl (Nat.le_of_ble_eq_true rfl)
theorem s_J6_stringSize_0f7a4_2 {X : ev_E} {l : Launch} (hG : ev_Good X) (hl : l.stackTraces = false) : ev_Snd X l ev_ms x_J6_stringSize_0f7a4 tx_J6_stringSize_0f7a4 2 (i_il 0 3) := s_iload_n dJ6_stringSize_0f7a4_2 rfl
theorem s_J6_stringSize_0f7a4_3 {X : ev_E} {l : Launch} (hG : ev_Good X) (hl : l.stackTraces = false) : ev_Snd X l ev_ms x_J6_stringSize_0f7a4 tx_J6_stringSize_0f7a4 3 (i_iflt 11 6) := s_iflt dJ6_stringSize_0f7a4_3 rfl
theorem s_J6_stringSize_0f7a4_6 {X : ev_E} {l : Launch} (hG : ev_Good X) (hl : l.stackTraces = false) : ev_Snd X l ev_ms x_J6_stringSize_0f7a4 tx_J6_stringSize_0f7a4 6 (i_psh (.int (0)) 7) := s_iconst dJ6_stringSize_0f7a4_6 rfl
theorem s_J6_stringSize_0f7a4_7 {X : ev_E} {l : Launch} (hG : ev_Good X) (hl : l.stackTraces = false) : ev_Snd X l ev_ms x_J6_stringSize_0f7a4 tx_J6_stringSize_0f7a4 7 (i_is 1 8) := s_istore_n dJ6_stringSize_0f7a4_7 rfl (Nat.le_of_ble_eq_true rfl)
theorem s_J6_stringSize_0f7a4_8 {X : ev_E} {l : Launch} (hG : ev_Good X) (hl : l.stackTraces = false) : ev_Snd X l ev_ms x_J6_stringSize_0f7a4 tx_J6_stringSize_0f7a4 8 (i_il 0 9) := s_iload_n dJ6_stringSize_0f7a4_8 rfl
theorem s_J6_stringSize_0f7a4_9 {X : ev_E} {l : Launch} (hG : ev_Good X) (hl : l.stackTraces = false) : ev_Snd X l ev_ms x_J6_stringSize_0f7a4 tx_J6_stringSize_0f7a4 9 (i_i1 (fun a => -a) 10) := s_ineg dJ6_stringSize_0f7a4_9
theorem s_J6_stringSize_0f7a4_10 {X : ev_E} {l : Launch} (hG : ev_Good X) (hl : l.stackTraces = false) : ev_Snd X l ev_ms x_J6_stringSize_0f7a4 tx_J6_stringSize_0f7a4 10 (i_is 0 11) := s_istore_n dJ6_stringSize_0f7a4_10 rfl (Nat.le_of_ble_eq_true rfl)
theorem s_J6_stringSize_0f7a4_11 {X : ev_E} {l : Launch} (hG : ev_Good X) (hl : l.stackTraces = false) : ev_Snd X l ev_ms x_J6_stringSize_0f7a4 tx_J6_stringSize_0f7a4 11 (i_psh (.int (-10)) 13) := s_bipush dJ6_stringSize_0f7a4_11 rfl
theorem s_J6_stringSize_0f7a4_13 {X : ev_E} {l : Launch} (hG : ev_Good X) (hl : l.stackTraces = false) : ev_Snd X l ev_ms x_J6_stringSize_0f7a4 tx_J6_stringSize_0f7a4 13 (i_is 2 14) := s_istore_n dJ6_stringSize_0f7a4_13 rfl (Nat.le_of_ble_eq_true rfl)
theorem s_J6_stringSize_0f7a4_14 {X : ev_E} {l : Launch} (hG : ev_Good X) (hl : l.stackTraces = false) : ev_Snd X l ev_ms x_J6_stringSize_0f7a4 tx_J6_stringSize_0f7a4 14 (i_psh (.int (1)) 15) := s_iconst dJ6_stringSize_0f7a4_14 rfl
theorem s_J6_stringSize_0f7a4_15 {X : ev_E} {l : Launch} (hG : ev_Good X) (hl : l.stackTraces = false) : ev_Snd X l ev_ms x_J6_stringSize_0f7a4 tx_J6_stringSize_0f7a4 15 (i_is 3 16) := s_istore_n dJ6_stringSize_0f7a4_15 rfl (Nat.le_of_ble_eq_true rfl)
theorem s_J6_stringSize_0f7a4_16 {X : ev_E} {l : Launch} (hG : ev_Good X) (hl : l.stackTraces = false) : ev_Snd X l ev_ms x_J6_stringSize_0f7a4 tx_J6_stringSize_0f7a4 16 (i_il 3 17) := s_iload_n dJ6_stringSize_0f7a4_16 rfl
theorem s_J6_stringSize_0f7a4_17 {X : ev_E} {l : Launch} (hG : ev_Good X) (hl : l.stackTraces = false) : ev_Snd X l ev_ms x_J6_stringSize_0f7a4 tx_J6_stringSize_0f7a4 17 (i_psh (.int (10)) 19) := s_bipush dJ6_stringSize_0f7a4_17 rfl
theorem s_J6_stringSize_0f7a4_19 {X : ev_E} {l : Launch} (hG : ev_Good X) (hl : l.stackTraces = false) : ev_Snd X l ev_ms x_J6_stringSize_0f7a4 tx_J6_stringSize_0f7a4 19 (i_icge 42 22) := s_icge dJ6_stringSize_0f7a4_19 rfl
theorem s_J6_stringSize_0f7a4_22 {X : ev_E} {l : Launch} (hG : ev_Good X) (hl : l.stackTraces = false) : ev_Snd X l ev_ms x_J6_stringSize_0f7a4 tx_J6_stringSize_0f7a4 22 (i_il 0 23) := s_iload_n dJ6_stringSize_0f7a4_22 rfl
theorem s_J6_stringSize_0f7a4_23 {X : ev_E} {l : Launch} (hG : ev_Good X) (hl : l.stackTraces = false) : ev_Snd X l ev_ms x_J6_stringSize_0f7a4 tx_J6_stringSize_0f7a4 23 (i_il 2 24) := s_iload_n dJ6_stringSize_0f7a4_23 rfl
theorem s_J6_stringSize_0f7a4_24 {X : ev_E} {l : Launch} (hG : ev_Good X) (hl : l.stackTraces = false) : ev_Snd X l ev_ms x_J6_stringSize_0f7a4 tx_J6_stringSize_0f7a4 24 (i_icle 31 27) := s_icle dJ6_stringSize_0f7a4_24 rfl
theorem s_J6_stringSize_0f7a4_27 {X : ev_E} {l : Launch} (hG : ev_Good X) (hl : l.stackTraces = false) : ev_Snd X l ev_ms x_J6_stringSize_0f7a4 tx_J6_stringSize_0f7a4 27 (i_il 3 28) := s_iload_n dJ6_stringSize_0f7a4_27 rfl
theorem s_J6_stringSize_0f7a4_28 {X : ev_E} {l : Launch} (hG : ev_Good X) (hl : l.stackTraces = false) : ev_Snd X l ev_ms x_J6_stringSize_0f7a4 tx_J6_stringSize_0f7a4 28 (i_il 1 29) := s_iload_n dJ6_stringSize_0f7a4_28 rfl
theorem s_J6_stringSize_0f7a4_29 {X : ev_E} {l : Launch} (hG : ev_Good X) (hl : l.stackTraces = false) : ev_Snd X l ev_ms x_J6_stringSize_0f7a4 tx_J6_stringSize_0f7a4 29 (i_ii (fun a b => a + b) 30) := s_iadd dJ6_stringSize_0f7a4_29
theorem s_J6_stringSize_0f7a4_30 {X : ev_E} {l : Launch} (hG : ev_Good X) (hl : l.stackTraces = false) : ev_Snd X l ev_ms x_J6_stringSize_0f7a4 tx_J6_stringSize_0f7a4 30 (i_ir (.int)) := s_ireturn rfl dJ6_stringSize_0f7a4_30
theorem s_J6_stringSize_0f7a4_31 {X : ev_E} {l : Launch} (hG : ev_Good X) (hl : l.stackTraces = false) : ev_Snd X l ev_ms x_J6_stringSize_0f7a4 tx_J6_stringSize_0f7a4 31 (i_psh (.int (10)) 33) := s_bipush dJ6_stringSize_0f7a4_31 rfl
theorem s_J6_stringSize_0f7a4_33 {X : ev_E} {l : Launch} (hG : ev_Good X) (hl : l.stackTraces = false) : ev_Snd X l ev_ms x_J6_stringSize_0f7a4 tx_J6_stringSize_0f7a4 33 (i_il 2 34) := s_iload_n dJ6_stringSize_0f7a4_33 rfl
theorem s_J6_stringSize_0f7a4_34 {X : ev_E} {l : Launch} (hG : ev_Good X) (hl : l.stackTraces = false) : ev_Snd X l ev_ms x_J6_stringSize_0f7a4 tx_J6_stringSize_0f7a4 34 (i_ii (fun a b => a * b) 35) := s_imul dJ6_stringSize_0f7a4_34
theorem s_J6_stringSize_0f7a4_35 {X : ev_E} {l : Launch} (hG : ev_Good X) (hl : l.stackTraces = false) : ev_Snd X l ev_ms x_J6_stringSize_0f7a4 tx_J6_stringSize_0f7a4 35 (i_is 2 36) := s_istore_n dJ6_stringSize_0f7a4_35 rfl (Nat.le_of_ble_eq_true rfl)
theorem s_J6_stringSize_0f7a4_36 {X : ev_E} {l : Launch} (hG : ev_Good X) (hl : l.stackTraces = false) : ev_Snd X l ev_ms x_J6_stringSize_0f7a4 tx_J6_stringSize_0f7a4 36 (i_inc 3 (1) 39) := s_iinc dJ6_stringSize_0f7a4_36 rfl (Nat.le_of_ble_eq_true rfl)
theorem s_J6_stringSize_0f7a4_39 {X : ev_E} {l : Launch} (hG : ev_Good X) (hl : l.stackTraces = false) : ev_Snd X l ev_ms x_J6_stringSize_0f7a4 tx_J6_stringSize_0f7a4 39 (i_goto 16) := s_goto dJ6_stringSize_0f7a4_39 rfl
theorem s_J6_stringSize_0f7a4_42 {X : ev_E} {l : Launch} (hG : ev_Good X) (hl : l.stackTraces = false) : ev_Snd X l ev_ms x_J6_stringSize_0f7a4 tx_J6_stringSize_0f7a4 42 (i_psh (.int (10)) 44) := s_bipush dJ6_stringSize_0f7a4_42 rfl
theorem s_J6_stringSize_0f7a4_44 {X : ev_E} {l : Launch} (hG : ev_Good X) (hl : l.stackTraces = false) : ev_Snd X l ev_ms x_J6_stringSize_0f7a4 tx_J6_stringSize_0f7a4 44 (i_il 1 45) := s_iload_n dJ6_stringSize_0f7a4_44 rfl
theorem s_J6_stringSize_0f7a4_45 {X : ev_E} {l : Launch} (hG : ev_Good X) (hl : l.stackTraces = false) : ev_Snd X l ev_ms x_J6_stringSize_0f7a4 tx_J6_stringSize_0f7a4 45 (i_ii (fun a b => a + b) 46) := s_iadd dJ6_stringSize_0f7a4_45
theorem s_J6_stringSize_0f7a4_46 {X : ev_E} {l : Launch} (hG : ev_Good X) (hl : l.stackTraces = false) : ev_Snd X l ev_ms x_J6_stringSize_0f7a4 tx_J6_stringSize_0f7a4 46 (i_ir (.int)) := s_ireturn rfl dJ6_stringSize_0f7a4_46
theorem sa_J6_stringSize_0f7a4 {X : ev_E} {l : Launch} (hG : ev_Good X) (hl : l.stackTraces = false) : ∀ q ∈ tb_J6_stringSize_0f7a4 X, ev_Snd X l ev_ms x_J6_stringSize_0f7a4 tx_J6_stringSize_0f7a4 q.1 q.2 := by
  intro q hq
  unfold tb_J6_stringSize_0f7a4 at hq
  simp only [List.mem_cons, List.not_mem_nil, or_false] at hq
  rcases hq with rfl | rfl | rfl | rfl | rfl | rfl | rfl | rfl | rfl | rfl | rfl | rfl | rfl | rfl | rfl | rfl | rfl | rfl | rfl | rfl | rfl | rfl | rfl | rfl | rfl | rfl | rfl | rfl | rfl | rfl | rfl | rfl | rfl
  · exact s_J6_stringSize_0f7a4_0 hG hl
  · exact s_J6_stringSize_0f7a4_1 hG hl
  · exact s_J6_stringSize_0f7a4_2 hG hl
  · exact s_J6_stringSize_0f7a4_3 hG hl
  · exact s_J6_stringSize_0f7a4_6 hG hl
  · exact s_J6_stringSize_0f7a4_7 hG hl
  · exact s_J6_stringSize_0f7a4_8 hG hl
  · exact s_J6_stringSize_0f7a4_9 hG hl
  · exact s_J6_stringSize_0f7a4_10 hG hl
  · exact s_J6_stringSize_0f7a4_11 hG hl
  · exact s_J6_stringSize_0f7a4_13 hG hl
  · exact s_J6_stringSize_0f7a4_14 hG hl
  · exact s_J6_stringSize_0f7a4_15 hG hl
  · exact s_J6_stringSize_0f7a4_16 hG hl
  · exact s_J6_stringSize_0f7a4_17 hG hl
  · exact s_J6_stringSize_0f7a4_19 hG hl
  · exact s_J6_stringSize_0f7a4_22 hG hl
  · exact s_J6_stringSize_0f7a4_23 hG hl
  · exact s_J6_stringSize_0f7a4_24 hG hl
  · exact s_J6_stringSize_0f7a4_27 hG hl
  · exact s_J6_stringSize_0f7a4_28 hG hl
  · exact s_J6_stringSize_0f7a4_29 hG hl
  · exact s_J6_stringSize_0f7a4_30 hG hl
  · exact s_J6_stringSize_0f7a4_31 hG hl
  · exact s_J6_stringSize_0f7a4_33 hG hl
  · exact s_J6_stringSize_0f7a4_34 hG hl
  · exact s_J6_stringSize_0f7a4_35 hG hl
  · exact s_J6_stringSize_0f7a4_36 hG hl
  · exact s_J6_stringSize_0f7a4_39 hG hl
  · exact s_J6_stringSize_0f7a4_42 hG hl
  · exact s_J6_stringSize_0f7a4_44 hG hl
  · exact s_J6_stringSize_0f7a4_45 hG hl
  · exact s_J6_stringSize_0f7a4_46 hG hl
def tx_J7_checkLength_df160 : ev_X := fun _ _ => some none
noncomputable def tb_J7_checkLength_df160 (X : ev_E) : List (Nat × (ev_S → ev_N)) := [(0, i_il 1 1), (1, i_il 0 2), (2, i_icge 37 5), (5, i_no), (8, i_dup 9), (9, i_nw 1 4 [.null, .int 0, .int 0, .int 0] 12), (12, i_dup 13), (13, i_no), (16, i_il 0 17), (17, i_no), (20, i_no), (23, i_no), (26, i_il 1 27), (27, i_no), (30, i_no), (33, i_no), (36, i_no), (37, i_vr)]
theorem s_J7_checkLength_df160_0 {X : ev_E} {l : Launch} (hG : ev_Good X) (hl : l.stackTraces = false) : ev_Snd X l ev_ms x_J7_checkLength_df160 tx_J7_checkLength_df160 0 (i_il 1 1) := s_iload_n dJ7_checkLength_df160_0 rfl
theorem s_J7_checkLength_df160_1 {X : ev_E} {l : Launch} (hG : ev_Good X) (hl : l.stackTraces = false) : ev_Snd X l ev_ms x_J7_checkLength_df160 tx_J7_checkLength_df160 1 (i_il 0 2) := s_iload_n dJ7_checkLength_df160_1 rfl
theorem s_J7_checkLength_df160_2 {X : ev_E} {l : Launch} (hG : ev_Good X) (hl : l.stackTraces = false) : ev_Snd X l ev_ms x_J7_checkLength_df160 tx_J7_checkLength_df160 2 (i_icge 37 5) := s_icge dJ7_checkLength_df160_2 rfl
theorem s_J7_checkLength_df160_5 {X : ev_E} {l : Launch} (hG : ev_Good X) (hl : l.stackTraces = false) : ev_Snd X l ev_ms x_J7_checkLength_df160 tx_J7_checkLength_df160 5 (i_no) := s_no
theorem s_J7_checkLength_df160_8 {X : ev_E} {l : Launch} (hG : ev_Good X) (hl : l.stackTraces = false) : ev_Snd X l ev_ms x_J7_checkLength_df160 tx_J7_checkLength_df160 8 (i_dup 9) := s_dup dJ7_checkLength_df160_8
theorem s_J7_checkLength_df160_9 {X : ev_E} {l : Launch} (hG : ev_Good X) (hl : l.stackTraces = false) : ev_Snd X l ev_ms x_J7_checkLength_df160 tx_J7_checkLength_df160 9 (i_nw 1 4 [.null, .int 0, .int 0, .int 0] 12) := s_new hG (ci := 1) (r := (RJ4, TJ4, 4)) rfl cw_1 tyJ4 tyJ4_ok (fun j hj => nw_1 j hj) w_518 rfl w_281 rfl w_75 rfl dJ7_checkLength_df160_9
theorem s_J7_checkLength_df160_12 {X : ev_E} {l : Launch} (hG : ev_Good X) (hl : l.stackTraces = false) : ev_Snd X l ev_ms x_J7_checkLength_df160 tx_J7_checkLength_df160 12 (i_dup 13) := s_dup dJ7_checkLength_df160_12
theorem s_J7_checkLength_df160_13 {X : ev_E} {l : Launch} (hG : ev_Good X) (hl : l.stackTraces = false) : ev_Snd X l ev_ms x_J7_checkLength_df160 tx_J7_checkLength_df160 13 (i_no) := s_no
theorem s_J7_checkLength_df160_16 {X : ev_E} {l : Launch} (hG : ev_Good X) (hl : l.stackTraces = false) : ev_Snd X l ev_ms x_J7_checkLength_df160 tx_J7_checkLength_df160 16 (i_il 0 17) := s_iload_n dJ7_checkLength_df160_16 rfl
theorem s_J7_checkLength_df160_17 {X : ev_E} {l : Launch} (hG : ev_Good X) (hl : l.stackTraces = false) : ev_Snd X l ev_ms x_J7_checkLength_df160 tx_J7_checkLength_df160 17 (i_no) := s_no
theorem s_J7_checkLength_df160_20 {X : ev_E} {l : Launch} (hG : ev_Good X) (hl : l.stackTraces = false) : ev_Snd X l ev_ms x_J7_checkLength_df160 tx_J7_checkLength_df160 20 (i_no) := s_no
theorem s_J7_checkLength_df160_23 {X : ev_E} {l : Launch} (hG : ev_Good X) (hl : l.stackTraces = false) : ev_Snd X l ev_ms x_J7_checkLength_df160 tx_J7_checkLength_df160 23 (i_no) := s_no
theorem s_J7_checkLength_df160_26 {X : ev_E} {l : Launch} (hG : ev_Good X) (hl : l.stackTraces = false) : ev_Snd X l ev_ms x_J7_checkLength_df160 tx_J7_checkLength_df160 26 (i_il 1 27) := s_iload_n dJ7_checkLength_df160_26 rfl
theorem s_J7_checkLength_df160_27 {X : ev_E} {l : Launch} (hG : ev_Good X) (hl : l.stackTraces = false) : ev_Snd X l ev_ms x_J7_checkLength_df160 tx_J7_checkLength_df160 27 (i_no) := s_no
theorem s_J7_checkLength_df160_30 {X : ev_E} {l : Launch} (hG : ev_Good X) (hl : l.stackTraces = false) : ev_Snd X l ev_ms x_J7_checkLength_df160 tx_J7_checkLength_df160 30 (i_no) := s_no
theorem s_J7_checkLength_df160_33 {X : ev_E} {l : Launch} (hG : ev_Good X) (hl : l.stackTraces = false) : ev_Snd X l ev_ms x_J7_checkLength_df160 tx_J7_checkLength_df160 33 (i_no) := s_no
theorem s_J7_checkLength_df160_36 {X : ev_E} {l : Launch} (hG : ev_Good X) (hl : l.stackTraces = false) : ev_Snd X l ev_ms x_J7_checkLength_df160 tx_J7_checkLength_df160 36 (i_no) := s_no
theorem s_J7_checkLength_df160_37 {X : ev_E} {l : Launch} (hG : ev_Good X) (hl : l.stackTraces = false) : ev_Snd X l ev_ms x_J7_checkLength_df160 tx_J7_checkLength_df160 37 (i_vr) := s_return rfl dJ7_checkLength_df160_37
theorem sa_J7_checkLength_df160 {X : ev_E} {l : Launch} (hG : ev_Good X) (hl : l.stackTraces = false) : ∀ q ∈ tb_J7_checkLength_df160 X, ev_Snd X l ev_ms x_J7_checkLength_df160 tx_J7_checkLength_df160 q.1 q.2 := by
  intro q hq
  unfold tb_J7_checkLength_df160 at hq
  simp only [List.mem_cons, List.not_mem_nil, or_false] at hq
  rcases hq with rfl | rfl | rfl | rfl | rfl | rfl | rfl | rfl | rfl | rfl | rfl | rfl | rfl | rfl | rfl | rfl | rfl | rfl
  · exact s_J7_checkLength_df160_0 hG hl
  · exact s_J7_checkLength_df160_1 hG hl
  · exact s_J7_checkLength_df160_2 hG hl
  · exact s_J7_checkLength_df160_5 hG hl
  · exact s_J7_checkLength_df160_8 hG hl
  · exact s_J7_checkLength_df160_9 hG hl
  · exact s_J7_checkLength_df160_12 hG hl
  · exact s_J7_checkLength_df160_13 hG hl
  · exact s_J7_checkLength_df160_16 hG hl
  · exact s_J7_checkLength_df160_17 hG hl
  · exact s_J7_checkLength_df160_20 hG hl
  · exact s_J7_checkLength_df160_23 hG hl
  · exact s_J7_checkLength_df160_26 hG hl
  · exact s_J7_checkLength_df160_27 hG hl
  · exact s_J7_checkLength_df160_30 hG hl
  · exact s_J7_checkLength_df160_33 hG hl
  · exact s_J7_checkLength_df160_36 hG hl
  · exact s_J7_checkLength_df160_37 hG hl
def tx_J8_hugeLength_7cf53 : ev_X := fun _ _ => some none
noncomputable def tb_J8_hugeLength_7cf53 (X : ev_E) : List (Nat × (ev_S → ev_N)) := [(0, i_il 0 1), (1, i_il 1 2), (2, i_ii (fun a b => a + b) 3), (3, i_is 2 4), (4, i_il 2 5), (5, i_ifge 49 8), (8, i_no), (11, i_dup 12), (12, i_no), (15, i_dup 16), (16, i_no), (19, i_no), (21, i_no), (24, i_il 0 25), (25, i_no), (28, i_no), (30, i_no), (33, i_il 1 34), (34, i_no), (37, i_no), (39, i_no), (42, i_no), (45, i_no), (48, i_no), (49, i_il 2 50), (50, i_psh (.int 2147483639) 52), (52, i_icgt 58 55), (55, i_psh (.int 2147483639) 57), (57, i_ir (.int)), (58, i_il 2 59), (59, i_ir (.int))]
theorem s_J8_hugeLength_7cf53_0 {X : ev_E} {l : Launch} (hG : ev_Good X) (hl : l.stackTraces = false) : ev_Snd X l ev_ms x_J8_hugeLength_7cf53 tx_J8_hugeLength_7cf53 0 (i_il 0 1) := s_iload_n dJ8_hugeLength_7cf53_0 rfl
theorem s_J8_hugeLength_7cf53_1 {X : ev_E} {l : Launch} (hG : ev_Good X) (hl : l.stackTraces = false) : ev_Snd X l ev_ms x_J8_hugeLength_7cf53 tx_J8_hugeLength_7cf53 1 (i_il 1 2) := s_iload_n dJ8_hugeLength_7cf53_1 rfl
theorem s_J8_hugeLength_7cf53_2 {X : ev_E} {l : Launch} (hG : ev_Good X) (hl : l.stackTraces = false) : ev_Snd X l ev_ms x_J8_hugeLength_7cf53 tx_J8_hugeLength_7cf53 2 (i_ii (fun a b => a + b) 3) := s_iadd dJ8_hugeLength_7cf53_2
theorem s_J8_hugeLength_7cf53_3 {X : ev_E} {l : Launch} (hG : ev_Good X) (hl : l.stackTraces = false) : ev_Snd X l ev_ms x_J8_hugeLength_7cf53 tx_J8_hugeLength_7cf53 3 (i_is 2 4) := s_istore_n dJ8_hugeLength_7cf53_3 rfl (Nat.le_of_ble_eq_true rfl)
theorem s_J8_hugeLength_7cf53_4 {X : ev_E} {l : Launch} (hG : ev_Good X) (hl : l.stackTraces = false) : ev_Snd X l ev_ms x_J8_hugeLength_7cf53 tx_J8_hugeLength_7cf53 4 (i_il 2 5) := s_iload_n dJ8_hugeLength_7cf53_4 rfl
theorem s_J8_hugeLength_7cf53_5 {X : ev_E} {l : Launch} (hG : ev_Good X) (hl : l.stackTraces = false) : ev_Snd X l ev_ms x_J8_hugeLength_7cf53 tx_J8_hugeLength_7cf53 5 (i_ifge 49 8) := s_ifge dJ8_hugeLength_7cf53_5 rfl
theorem s_J8_hugeLength_7cf53_8 {X : ev_E} {l : Launch} (hG : ev_Good X) (hl : l.stackTraces = false) : ev_Snd X l ev_ms x_J8_hugeLength_7cf53 tx_J8_hugeLength_7cf53 8 (i_no) := s_no
theorem s_J8_hugeLength_7cf53_11 {X : ev_E} {l : Launch} (hG : ev_Good X) (hl : l.stackTraces = false) : ev_Snd X l ev_ms x_J8_hugeLength_7cf53 tx_J8_hugeLength_7cf53 11 (i_dup 12) := s_dup dJ8_hugeLength_7cf53_11
theorem s_J8_hugeLength_7cf53_12 {X : ev_E} {l : Launch} (hG : ev_Good X) (hl : l.stackTraces = false) : ev_Snd X l ev_ms x_J8_hugeLength_7cf53 tx_J8_hugeLength_7cf53 12 (i_no) := s_no
theorem s_J8_hugeLength_7cf53_15 {X : ev_E} {l : Launch} (hG : ev_Good X) (hl : l.stackTraces = false) : ev_Snd X l ev_ms x_J8_hugeLength_7cf53 tx_J8_hugeLength_7cf53 15 (i_dup 16) := s_dup dJ8_hugeLength_7cf53_15
theorem s_J8_hugeLength_7cf53_16 {X : ev_E} {l : Launch} (hG : ev_Good X) (hl : l.stackTraces = false) : ev_Snd X l ev_ms x_J8_hugeLength_7cf53 tx_J8_hugeLength_7cf53 16 (i_no) := s_no
theorem s_J8_hugeLength_7cf53_19 {X : ev_E} {l : Launch} (hG : ev_Good X) (hl : l.stackTraces = false) : ev_Snd X l ev_ms x_J8_hugeLength_7cf53 tx_J8_hugeLength_7cf53 19 (i_no) := s_no
theorem s_J8_hugeLength_7cf53_21 {X : ev_E} {l : Launch} (hG : ev_Good X) (hl : l.stackTraces = false) : ev_Snd X l ev_ms x_J8_hugeLength_7cf53 tx_J8_hugeLength_7cf53 21 (i_no) := s_no
theorem s_J8_hugeLength_7cf53_24 {X : ev_E} {l : Launch} (hG : ev_Good X) (hl : l.stackTraces = false) : ev_Snd X l ev_ms x_J8_hugeLength_7cf53 tx_J8_hugeLength_7cf53 24 (i_il 0 25) := s_iload_n dJ8_hugeLength_7cf53_24 rfl
theorem s_J8_hugeLength_7cf53_25 {X : ev_E} {l : Launch} (hG : ev_Good X) (hl : l.stackTraces = false) : ev_Snd X l ev_ms x_J8_hugeLength_7cf53 tx_J8_hugeLength_7cf53 25 (i_no) := s_no
theorem s_J8_hugeLength_7cf53_28 {X : ev_E} {l : Launch} (hG : ev_Good X) (hl : l.stackTraces = false) : ev_Snd X l ev_ms x_J8_hugeLength_7cf53 tx_J8_hugeLength_7cf53 28 (i_no) := s_no
theorem s_J8_hugeLength_7cf53_30 {X : ev_E} {l : Launch} (hG : ev_Good X) (hl : l.stackTraces = false) : ev_Snd X l ev_ms x_J8_hugeLength_7cf53 tx_J8_hugeLength_7cf53 30 (i_no) := s_no
theorem s_J8_hugeLength_7cf53_33 {X : ev_E} {l : Launch} (hG : ev_Good X) (hl : l.stackTraces = false) : ev_Snd X l ev_ms x_J8_hugeLength_7cf53 tx_J8_hugeLength_7cf53 33 (i_il 1 34) := s_iload_n dJ8_hugeLength_7cf53_33 rfl
theorem s_J8_hugeLength_7cf53_34 {X : ev_E} {l : Launch} (hG : ev_Good X) (hl : l.stackTraces = false) : ev_Snd X l ev_ms x_J8_hugeLength_7cf53 tx_J8_hugeLength_7cf53 34 (i_no) := s_no
theorem s_J8_hugeLength_7cf53_37 {X : ev_E} {l : Launch} (hG : ev_Good X) (hl : l.stackTraces = false) : ev_Snd X l ev_ms x_J8_hugeLength_7cf53 tx_J8_hugeLength_7cf53 37 (i_no) := s_no
theorem s_J8_hugeLength_7cf53_39 {X : ev_E} {l : Launch} (hG : ev_Good X) (hl : l.stackTraces = false) : ev_Snd X l ev_ms x_J8_hugeLength_7cf53 tx_J8_hugeLength_7cf53 39 (i_no) := s_no
theorem s_J8_hugeLength_7cf53_42 {X : ev_E} {l : Launch} (hG : ev_Good X) (hl : l.stackTraces = false) : ev_Snd X l ev_ms x_J8_hugeLength_7cf53 tx_J8_hugeLength_7cf53 42 (i_no) := s_no
theorem s_J8_hugeLength_7cf53_45 {X : ev_E} {l : Launch} (hG : ev_Good X) (hl : l.stackTraces = false) : ev_Snd X l ev_ms x_J8_hugeLength_7cf53 tx_J8_hugeLength_7cf53 45 (i_no) := s_no
theorem s_J8_hugeLength_7cf53_48 {X : ev_E} {l : Launch} (hG : ev_Good X) (hl : l.stackTraces = false) : ev_Snd X l ev_ms x_J8_hugeLength_7cf53 tx_J8_hugeLength_7cf53 48 (i_no) := s_no
theorem s_J8_hugeLength_7cf53_49 {X : ev_E} {l : Launch} (hG : ev_Good X) (hl : l.stackTraces = false) : ev_Snd X l ev_ms x_J8_hugeLength_7cf53 tx_J8_hugeLength_7cf53 49 (i_il 2 50) := s_iload_n dJ8_hugeLength_7cf53_49 rfl
theorem s_J8_hugeLength_7cf53_50 {X : ev_E} {l : Launch} (hG : ev_Good X) (hl : l.stackTraces = false) : ev_Snd X l ev_ms x_J8_hugeLength_7cf53 tx_J8_hugeLength_7cf53 50 (i_psh (.int 2147483639) 52) := s_ldc hG w_333 rfl dJ8_hugeLength_7cf53_50
theorem s_J8_hugeLength_7cf53_52 {X : ev_E} {l : Launch} (hG : ev_Good X) (hl : l.stackTraces = false) : ev_Snd X l ev_ms x_J8_hugeLength_7cf53 tx_J8_hugeLength_7cf53 52 (i_icgt 58 55) := s_icgt dJ8_hugeLength_7cf53_52 rfl
theorem s_J8_hugeLength_7cf53_55 {X : ev_E} {l : Launch} (hG : ev_Good X) (hl : l.stackTraces = false) : ev_Snd X l ev_ms x_J8_hugeLength_7cf53 tx_J8_hugeLength_7cf53 55 (i_psh (.int 2147483639) 57) := s_ldc hG w_333 rfl dJ8_hugeLength_7cf53_55
theorem s_J8_hugeLength_7cf53_57 {X : ev_E} {l : Launch} (hG : ev_Good X) (hl : l.stackTraces = false) : ev_Snd X l ev_ms x_J8_hugeLength_7cf53 tx_J8_hugeLength_7cf53 57 (i_ir (.int)) := s_ireturn rfl dJ8_hugeLength_7cf53_57
theorem s_J8_hugeLength_7cf53_58 {X : ev_E} {l : Launch} (hG : ev_Good X) (hl : l.stackTraces = false) : ev_Snd X l ev_ms x_J8_hugeLength_7cf53 tx_J8_hugeLength_7cf53 58 (i_il 2 59) := s_iload_n dJ8_hugeLength_7cf53_58 rfl
theorem s_J8_hugeLength_7cf53_59 {X : ev_E} {l : Launch} (hG : ev_Good X) (hl : l.stackTraces = false) : ev_Snd X l ev_ms x_J8_hugeLength_7cf53 tx_J8_hugeLength_7cf53 59 (i_ir (.int)) := s_ireturn rfl dJ8_hugeLength_7cf53_59
theorem sa_J8_hugeLength_7cf53 {X : ev_E} {l : Launch} (hG : ev_Good X) (hl : l.stackTraces = false) : ∀ q ∈ tb_J8_hugeLength_7cf53 X, ev_Snd X l ev_ms x_J8_hugeLength_7cf53 tx_J8_hugeLength_7cf53 q.1 q.2 := by
  intro q hq
  unfold tb_J8_hugeLength_7cf53 at hq
  simp only [List.mem_cons, List.not_mem_nil, or_false] at hq
  rcases hq with rfl | rfl | rfl | rfl | rfl | rfl | rfl | rfl | rfl | rfl | rfl | rfl | rfl | rfl | rfl | rfl | rfl | rfl | rfl | rfl | rfl | rfl | rfl | rfl | rfl | rfl | rfl | rfl | rfl | rfl | rfl
  · exact s_J8_hugeLength_7cf53_0 hG hl
  · exact s_J8_hugeLength_7cf53_1 hG hl
  · exact s_J8_hugeLength_7cf53_2 hG hl
  · exact s_J8_hugeLength_7cf53_3 hG hl
  · exact s_J8_hugeLength_7cf53_4 hG hl
  · exact s_J8_hugeLength_7cf53_5 hG hl
  · exact s_J8_hugeLength_7cf53_8 hG hl
  · exact s_J8_hugeLength_7cf53_11 hG hl
  · exact s_J8_hugeLength_7cf53_12 hG hl
  · exact s_J8_hugeLength_7cf53_15 hG hl
  · exact s_J8_hugeLength_7cf53_16 hG hl
  · exact s_J8_hugeLength_7cf53_19 hG hl
  · exact s_J8_hugeLength_7cf53_21 hG hl
  · exact s_J8_hugeLength_7cf53_24 hG hl
  · exact s_J8_hugeLength_7cf53_25 hG hl
  · exact s_J8_hugeLength_7cf53_28 hG hl
  · exact s_J8_hugeLength_7cf53_30 hG hl
  · exact s_J8_hugeLength_7cf53_33 hG hl
  · exact s_J8_hugeLength_7cf53_34 hG hl
  · exact s_J8_hugeLength_7cf53_37 hG hl
  · exact s_J8_hugeLength_7cf53_39 hG hl
  · exact s_J8_hugeLength_7cf53_42 hG hl
  · exact s_J8_hugeLength_7cf53_45 hG hl
  · exact s_J8_hugeLength_7cf53_48 hG hl
  · exact s_J8_hugeLength_7cf53_49 hG hl
  · exact s_J8_hugeLength_7cf53_50 hG hl
  · exact s_J8_hugeLength_7cf53_52 hG hl
  · exact s_J8_hugeLength_7cf53_55 hG hl
  · exact s_J8_hugeLength_7cf53_57 hG hl
  · exact s_J8_hugeLength_7cf53_58 hG hl
  · exact s_J8_hugeLength_7cf53_59 hG hl
def tx_J9_max_7cf53 : ev_X := fun _ _ => some none
noncomputable def tb_J9_max_7cf53 (X : ev_E) : List (Nat × (ev_S → ev_N)) := [(0, i_il 0 1), (1, i_il 1 2), (2, i_iclt 9 5), (5, i_il 0 6), (6, i_goto 10), (9, i_il 1 10), (10, i_ir (.int))]
theorem s_J9_max_7cf53_0 {X : ev_E} {l : Launch} (hG : ev_Good X) (hl : l.stackTraces = false) : ev_Snd X l ev_ms x_J9_max_7cf53 tx_J9_max_7cf53 0 (i_il 0 1) := s_iload_n dJ9_max_7cf53_0 rfl
theorem s_J9_max_7cf53_1 {X : ev_E} {l : Launch} (hG : ev_Good X) (hl : l.stackTraces = false) : ev_Snd X l ev_ms x_J9_max_7cf53 tx_J9_max_7cf53 1 (i_il 1 2) := s_iload_n dJ9_max_7cf53_1 rfl
theorem s_J9_max_7cf53_2 {X : ev_E} {l : Launch} (hG : ev_Good X) (hl : l.stackTraces = false) : ev_Snd X l ev_ms x_J9_max_7cf53 tx_J9_max_7cf53 2 (i_iclt 9 5) := s_iclt dJ9_max_7cf53_2 rfl
theorem s_J9_max_7cf53_5 {X : ev_E} {l : Launch} (hG : ev_Good X) (hl : l.stackTraces = false) : ev_Snd X l ev_ms x_J9_max_7cf53 tx_J9_max_7cf53 5 (i_il 0 6) := s_iload_n dJ9_max_7cf53_5 rfl
theorem s_J9_max_7cf53_6 {X : ev_E} {l : Launch} (hG : ev_Good X) (hl : l.stackTraces = false) : ev_Snd X l ev_ms x_J9_max_7cf53 tx_J9_max_7cf53 6 (i_goto 10) := s_goto dJ9_max_7cf53_6 rfl
theorem s_J9_max_7cf53_9 {X : ev_E} {l : Launch} (hG : ev_Good X) (hl : l.stackTraces = false) : ev_Snd X l ev_ms x_J9_max_7cf53 tx_J9_max_7cf53 9 (i_il 1 10) := s_iload_n dJ9_max_7cf53_9 rfl
theorem s_J9_max_7cf53_10 {X : ev_E} {l : Launch} (hG : ev_Good X) (hl : l.stackTraces = false) : ev_Snd X l ev_ms x_J9_max_7cf53 tx_J9_max_7cf53 10 (i_ir (.int)) := s_ireturn rfl dJ9_max_7cf53_10
theorem sa_J9_max_7cf53 {X : ev_E} {l : Launch} (hG : ev_Good X) (hl : l.stackTraces = false) : ∀ q ∈ tb_J9_max_7cf53 X, ev_Snd X l ev_ms x_J9_max_7cf53 tx_J9_max_7cf53 q.1 q.2 := by
  intro q hq
  unfold tb_J9_max_7cf53 at hq
  simp only [List.mem_cons, List.not_mem_nil, or_false] at hq
  rcases hq with rfl | rfl | rfl | rfl | rfl | rfl | rfl
  · exact s_J9_max_7cf53_0 hG hl
  · exact s_J9_max_7cf53_1 hG hl
  · exact s_J9_max_7cf53_2 hG hl
  · exact s_J9_max_7cf53_5 hG hl
  · exact s_J9_max_7cf53_6 hG hl
  · exact s_J9_max_7cf53_9 hG hl
  · exact s_J9_max_7cf53_10 hG hl
def tx_J9_min_7cf53 : ev_X := fun _ _ => some none
noncomputable def tb_J9_min_7cf53 (X : ev_E) : List (Nat × (ev_S → ev_N)) := [(0, i_il 0 1), (1, i_il 1 2), (2, i_icgt 9 5), (5, i_il 0 6), (6, i_goto 10), (9, i_il 1 10), (10, i_ir (.int))]
theorem s_J9_min_7cf53_0 {X : ev_E} {l : Launch} (hG : ev_Good X) (hl : l.stackTraces = false) : ev_Snd X l ev_ms x_J9_min_7cf53 tx_J9_min_7cf53 0 (i_il 0 1) := s_iload_n dJ9_min_7cf53_0 rfl
theorem s_J9_min_7cf53_1 {X : ev_E} {l : Launch} (hG : ev_Good X) (hl : l.stackTraces = false) : ev_Snd X l ev_ms x_J9_min_7cf53 tx_J9_min_7cf53 1 (i_il 1 2) := s_iload_n dJ9_min_7cf53_1 rfl
theorem s_J9_min_7cf53_2 {X : ev_E} {l : Launch} (hG : ev_Good X) (hl : l.stackTraces = false) : ev_Snd X l ev_ms x_J9_min_7cf53 tx_J9_min_7cf53 2 (i_icgt 9 5) := s_icgt dJ9_min_7cf53_2 rfl
theorem s_J9_min_7cf53_5 {X : ev_E} {l : Launch} (hG : ev_Good X) (hl : l.stackTraces = false) : ev_Snd X l ev_ms x_J9_min_7cf53 tx_J9_min_7cf53 5 (i_il 0 6) := s_iload_n dJ9_min_7cf53_5 rfl
theorem s_J9_min_7cf53_6 {X : ev_E} {l : Launch} (hG : ev_Good X) (hl : l.stackTraces = false) : ev_Snd X l ev_ms x_J9_min_7cf53 tx_J9_min_7cf53 6 (i_goto 10) := s_goto dJ9_min_7cf53_6 rfl
theorem s_J9_min_7cf53_9 {X : ev_E} {l : Launch} (hG : ev_Good X) (hl : l.stackTraces = false) : ev_Snd X l ev_ms x_J9_min_7cf53 tx_J9_min_7cf53 9 (i_il 1 10) := s_iload_n dJ9_min_7cf53_9 rfl
theorem s_J9_min_7cf53_10 {X : ev_E} {l : Launch} (hG : ev_Good X) (hl : l.stackTraces = false) : ev_Snd X l ev_ms x_J9_min_7cf53 tx_J9_min_7cf53 10 (i_ir (.int)) := s_ireturn rfl dJ9_min_7cf53_10
theorem sa_J9_min_7cf53 {X : ev_E} {l : Launch} (hG : ev_Good X) (hl : l.stackTraces = false) : ∀ q ∈ tb_J9_min_7cf53 X, ev_Snd X l ev_ms x_J9_min_7cf53 tx_J9_min_7cf53 q.1 q.2 := by
  intro q hq
  unfold tb_J9_min_7cf53 at hq
  simp only [List.mem_cons, List.not_mem_nil, or_false] at hq
  rcases hq with rfl | rfl | rfl | rfl | rfl | rfl | rfl
  · exact s_J9_min_7cf53_0 hG hl
  · exact s_J9_min_7cf53_1 hG hl
  · exact s_J9_min_7cf53_2 hG hl
  · exact s_J9_min_7cf53_5 hG hl
  · exact s_J9_min_7cf53_6 hG hl
  · exact s_J9_min_7cf53_9 hG hl
  · exact s_J9_min_7cf53_10 hG hl
def tx_Jx35411_checkForComodification_da8c8 : ev_X := fun _ _ => some none
noncomputable def tb_Jx35411_checkForComodification_da8c8 (X : ev_E) : List (Nat × (ev_S → ev_N)) := [(0, i_al 0 1), (1, i_gf X 3 3 4), (4, i_gf X 4 0 7), (7, i_al 0 8), (8, i_gf X 3 2 11), (11, i_iceq 22 14), (14, i_no), (17, i_dup 18), (18, i_no), (21, i_no), (22, i_vr)]
theorem s_Jx35411_checkForComodification_da8c8_0 {X : ev_E} {l : Launch} (hG : ev_Good X) (hl : l.stackTraces = false) : ev_Snd X l ev_ms x_Jx35411_checkForComodification_da8c8 tx_Jx35411_checkForComodification_da8c8 0 (i_al 0 1) := s_aload_n dJx35411_checkForComodification_da8c8_0 rfl
theorem s_Jx35411_checkForComodification_da8c8_1 {X : ev_E} {l : Launch} (hG : ev_Good X) (hl : l.stackTraces = false) : ev_Snd X l ev_ms x_Jx35411_checkForComodification_da8c8 tx_Jx35411_checkForComodification_da8c8 1 (i_gf X 3 3 4) := s_getfield hG (ci := 3) (r := (RJx35411, TJx35411, 4)) rfl cw_3 (k := 3) (Nat.le_of_ble_eq_true rfl) w_1447 rfl (Or.inl rfl) dJx35411_checkForComodification_da8c8_1
theorem s_Jx35411_checkForComodification_da8c8_4 {X : ev_E} {l : Launch} (hG : ev_Good X) (hl : l.stackTraces = false) : ev_Snd X l ev_ms x_Jx35411_checkForComodification_da8c8 tx_Jx35411_checkForComodification_da8c8 4 (i_gf X 4 0 7) := s_getfield hG (ci := 4) (r := (RJx4a65c, TJx4a65c, 3)) rfl cw_4 (k := 0) (Nat.le_of_ble_eq_true rfl) w_1211 rfl (Or.inr ⟨w_1212, rfl⟩) dJx35411_checkForComodification_da8c8_4
theorem s_Jx35411_checkForComodification_da8c8_7 {X : ev_E} {l : Launch} (hG : ev_Good X) (hl : l.stackTraces = false) : ev_Snd X l ev_ms x_Jx35411_checkForComodification_da8c8 tx_Jx35411_checkForComodification_da8c8 7 (i_al 0 8) := s_aload_n dJx35411_checkForComodification_da8c8_7 rfl
theorem s_Jx35411_checkForComodification_da8c8_8 {X : ev_E} {l : Launch} (hG : ev_Good X) (hl : l.stackTraces = false) : ev_Snd X l ev_ms x_Jx35411_checkForComodification_da8c8 tx_Jx35411_checkForComodification_da8c8 8 (i_gf X 3 2 11) := s_getfield hG (ci := 3) (r := (RJx35411, TJx35411, 4)) rfl cw_3 (k := 2) (Nat.le_of_ble_eq_true rfl) w_1446 rfl (Or.inl rfl) dJx35411_checkForComodification_da8c8_8
theorem s_Jx35411_checkForComodification_da8c8_11 {X : ev_E} {l : Launch} (hG : ev_Good X) (hl : l.stackTraces = false) : ev_Snd X l ev_ms x_Jx35411_checkForComodification_da8c8 tx_Jx35411_checkForComodification_da8c8 11 (i_iceq 22 14) := s_iceq dJx35411_checkForComodification_da8c8_11 rfl
theorem s_Jx35411_checkForComodification_da8c8_14 {X : ev_E} {l : Launch} (hG : ev_Good X) (hl : l.stackTraces = false) : ev_Snd X l ev_ms x_Jx35411_checkForComodification_da8c8 tx_Jx35411_checkForComodification_da8c8 14 (i_no) := s_no
theorem s_Jx35411_checkForComodification_da8c8_17 {X : ev_E} {l : Launch} (hG : ev_Good X) (hl : l.stackTraces = false) : ev_Snd X l ev_ms x_Jx35411_checkForComodification_da8c8 tx_Jx35411_checkForComodification_da8c8 17 (i_dup 18) := s_dup dJx35411_checkForComodification_da8c8_17
theorem s_Jx35411_checkForComodification_da8c8_18 {X : ev_E} {l : Launch} (hG : ev_Good X) (hl : l.stackTraces = false) : ev_Snd X l ev_ms x_Jx35411_checkForComodification_da8c8 tx_Jx35411_checkForComodification_da8c8 18 (i_no) := s_no
theorem s_Jx35411_checkForComodification_da8c8_21 {X : ev_E} {l : Launch} (hG : ev_Good X) (hl : l.stackTraces = false) : ev_Snd X l ev_ms x_Jx35411_checkForComodification_da8c8 tx_Jx35411_checkForComodification_da8c8 21 (i_no) := s_no
theorem s_Jx35411_checkForComodification_da8c8_22 {X : ev_E} {l : Launch} (hG : ev_Good X) (hl : l.stackTraces = false) : ev_Snd X l ev_ms x_Jx35411_checkForComodification_da8c8 tx_Jx35411_checkForComodification_da8c8 22 (i_vr) := s_return rfl dJx35411_checkForComodification_da8c8_22
theorem sa_Jx35411_checkForComodification_da8c8 {X : ev_E} {l : Launch} (hG : ev_Good X) (hl : l.stackTraces = false) : ∀ q ∈ tb_Jx35411_checkForComodification_da8c8 X, ev_Snd X l ev_ms x_Jx35411_checkForComodification_da8c8 tx_Jx35411_checkForComodification_da8c8 q.1 q.2 := by
  intro q hq
  unfold tb_Jx35411_checkForComodification_da8c8 at hq
  simp only [List.mem_cons, List.not_mem_nil, or_false] at hq
  rcases hq with rfl | rfl | rfl | rfl | rfl | rfl | rfl | rfl | rfl | rfl | rfl
  · exact s_Jx35411_checkForComodification_da8c8_0 hG hl
  · exact s_Jx35411_checkForComodification_da8c8_1 hG hl
  · exact s_Jx35411_checkForComodification_da8c8_4 hG hl
  · exact s_Jx35411_checkForComodification_da8c8_7 hG hl
  · exact s_Jx35411_checkForComodification_da8c8_8 hG hl
  · exact s_Jx35411_checkForComodification_da8c8_11 hG hl
  · exact s_Jx35411_checkForComodification_da8c8_14 hG hl
  · exact s_Jx35411_checkForComodification_da8c8_17 hG hl
  · exact s_Jx35411_checkForComodification_da8c8_18 hG hl
  · exact s_Jx35411_checkForComodification_da8c8_21 hG hl
  · exact s_Jx35411_checkForComodification_da8c8_22 hG hl
def tx_Jx35411_hasNext_aae02 : ev_X := fun _ _ => some none
noncomputable def tb_Jx35411_hasNext_aae02 (X : ev_E) : List (Nat × (ev_S → ev_N)) := [(0, i_al 0 1), (1, i_gf X 3 0 4), (4, i_al 0 5), (5, i_gf X 3 3 8), (8, i_gf X 4 2 11), (11, i_iceq 18 14), (14, i_psh (.int (1)) 15), (15, i_goto 19), (18, i_psh (.int (0)) 19), (19, i_ir (.boolean))]
theorem s_Jx35411_hasNext_aae02_0 {X : ev_E} {l : Launch} (hG : ev_Good X) (hl : l.stackTraces = false) : ev_Snd X l ev_ms x_Jx35411_hasNext_aae02 tx_Jx35411_hasNext_aae02 0 (i_al 0 1) := s_aload_n dJx35411_hasNext_aae02_0 rfl
theorem s_Jx35411_hasNext_aae02_1 {X : ev_E} {l : Launch} (hG : ev_Good X) (hl : l.stackTraces = false) : ev_Snd X l ev_ms x_Jx35411_hasNext_aae02 tx_Jx35411_hasNext_aae02 1 (i_gf X 3 0 4) := s_getfield hG (ci := 3) (r := (RJx35411, TJx35411, 4)) rfl cw_3 (k := 0) (Nat.le_of_ble_eq_true rfl) w_1444 rfl (Or.inl rfl) dJx35411_hasNext_aae02_1
theorem s_Jx35411_hasNext_aae02_4 {X : ev_E} {l : Launch} (hG : ev_Good X) (hl : l.stackTraces = false) : ev_Snd X l ev_ms x_Jx35411_hasNext_aae02 tx_Jx35411_hasNext_aae02 4 (i_al 0 5) := s_aload_n dJx35411_hasNext_aae02_4 rfl
theorem s_Jx35411_hasNext_aae02_5 {X : ev_E} {l : Launch} (hG : ev_Good X) (hl : l.stackTraces = false) : ev_Snd X l ev_ms x_Jx35411_hasNext_aae02 tx_Jx35411_hasNext_aae02 5 (i_gf X 3 3 8) := s_getfield hG (ci := 3) (r := (RJx35411, TJx35411, 4)) rfl cw_3 (k := 3) (Nat.le_of_ble_eq_true rfl) w_1447 rfl (Or.inl rfl) dJx35411_hasNext_aae02_5
theorem s_Jx35411_hasNext_aae02_8 {X : ev_E} {l : Launch} (hG : ev_Good X) (hl : l.stackTraces = false) : ev_Snd X l ev_ms x_Jx35411_hasNext_aae02 tx_Jx35411_hasNext_aae02 8 (i_gf X 4 2 11) := s_getfieldN hG (ci := 4) (r := (RJx4a65c, TJx4a65c, 3)) rfl cw_4 (k := 2) (Nat.le_of_ble_eq_true rfl) w_1208 rfl dJx35411_hasNext_aae02_8
theorem s_Jx35411_hasNext_aae02_11 {X : ev_E} {l : Launch} (hG : ev_Good X) (hl : l.stackTraces = false) : ev_Snd X l ev_ms x_Jx35411_hasNext_aae02 tx_Jx35411_hasNext_aae02 11 (i_iceq 18 14) := s_iceq dJx35411_hasNext_aae02_11 rfl
theorem s_Jx35411_hasNext_aae02_14 {X : ev_E} {l : Launch} (hG : ev_Good X) (hl : l.stackTraces = false) : ev_Snd X l ev_ms x_Jx35411_hasNext_aae02 tx_Jx35411_hasNext_aae02 14 (i_psh (.int (1)) 15) := s_iconst dJx35411_hasNext_aae02_14 rfl
theorem s_Jx35411_hasNext_aae02_15 {X : ev_E} {l : Launch} (hG : ev_Good X) (hl : l.stackTraces = false) : ev_Snd X l ev_ms x_Jx35411_hasNext_aae02 tx_Jx35411_hasNext_aae02 15 (i_goto 19) := s_goto dJx35411_hasNext_aae02_15 rfl
theorem s_Jx35411_hasNext_aae02_18 {X : ev_E} {l : Launch} (hG : ev_Good X) (hl : l.stackTraces = false) : ev_Snd X l ev_ms x_Jx35411_hasNext_aae02 tx_Jx35411_hasNext_aae02 18 (i_psh (.int (0)) 19) := s_iconst dJx35411_hasNext_aae02_18 rfl
theorem s_Jx35411_hasNext_aae02_19 {X : ev_E} {l : Launch} (hG : ev_Good X) (hl : l.stackTraces = false) : ev_Snd X l ev_ms x_Jx35411_hasNext_aae02 tx_Jx35411_hasNext_aae02 19 (i_ir (.boolean)) := s_ireturn rfl dJx35411_hasNext_aae02_19
theorem sa_Jx35411_hasNext_aae02 {X : ev_E} {l : Launch} (hG : ev_Good X) (hl : l.stackTraces = false) : ∀ q ∈ tb_Jx35411_hasNext_aae02 X, ev_Snd X l ev_ms x_Jx35411_hasNext_aae02 tx_Jx35411_hasNext_aae02 q.1 q.2 := by
  intro q hq
  unfold tb_Jx35411_hasNext_aae02 at hq
  simp only [List.mem_cons, List.not_mem_nil, or_false] at hq
  rcases hq with rfl | rfl | rfl | rfl | rfl | rfl | rfl | rfl | rfl | rfl
  · exact s_Jx35411_hasNext_aae02_0 hG hl
  · exact s_Jx35411_hasNext_aae02_1 hG hl
  · exact s_Jx35411_hasNext_aae02_4 hG hl
  · exact s_Jx35411_hasNext_aae02_5 hG hl
  · exact s_Jx35411_hasNext_aae02_8 hG hl
  · exact s_Jx35411_hasNext_aae02_11 hG hl
  · exact s_Jx35411_hasNext_aae02_14 hG hl
  · exact s_Jx35411_hasNext_aae02_15 hG hl
  · exact s_Jx35411_hasNext_aae02_18 hG hl
  · exact s_Jx35411_hasNext_aae02_19 hG hl
def tx_Jx35411_init_45d68 : ev_X := fun _ _ => some none
noncomputable def tb_Jx35411_init_45d68 (X : ev_E) : List (Nat × (ev_S → ev_N)) := [(0, i_al 0 1), (1, i_al 1 2), (2, i_pf 3 3 (.object "java/util/ArrayList") 5), (5, i_al 0 6), (6, i_oi 9), (9, i_al 0 10), (10, i_psh (.int (-1)) 11), (11, i_pf 3 1 (.int) 14), (14, i_al 0 15), (15, i_al 0 16), (16, i_gf X 3 3 19), (19, i_gf X 4 0 22), (22, i_pf 3 2 (.int) 25), (25, i_vr)]
theorem s_Jx35411_init_45d68_0 {X : ev_E} {l : Launch} (hG : ev_Good X) (hl : l.stackTraces = false) : ev_Snd X l ev_ms x_Jx35411_init_45d68 tx_Jx35411_init_45d68 0 (i_al 0 1) := s_aload_n dJx35411_init_45d68_0 rfl
theorem s_Jx35411_init_45d68_1 {X : ev_E} {l : Launch} (hG : ev_Good X) (hl : l.stackTraces = false) : ev_Snd X l ev_ms x_Jx35411_init_45d68 tx_Jx35411_init_45d68 1 (i_al 1 2) := s_aload_n dJx35411_init_45d68_1 rfl
theorem s_Jx35411_init_45d68_2 {X : ev_E} {l : Launch} (hG : ev_Good X) (hl : l.stackTraces = false) : ev_Snd X l ev_ms x_Jx35411_init_45d68 tx_Jx35411_init_45d68 2 (i_pf 3 3 (.object "java/util/ArrayList") 5) := s_putfieldF hG (ci := 3) (r := (RJx35411, TJx35411, 4)) rfl cw_3 ap_3 (k := 3) (Nat.le_of_ble_eq_true rfl) rfl rfl rfl (by decide +kernel) w_1447 rfl dJx35411_init_45d68_2
theorem s_Jx35411_init_45d68_5 {X : ev_E} {l : Launch} (hG : ev_Good X) (hl : l.stackTraces = false) : ev_Snd X l ev_ms x_Jx35411_init_45d68 tx_Jx35411_init_45d68 5 (i_al 0 6) := s_aload_n dJx35411_init_45d68_5 rfl
theorem s_Jx35411_init_45d68_6 {X : ev_E} {l : Launch} (hG : ev_Good X) (hl : l.stackTraces = false) : ev_Snd X l ev_ms x_Jx35411_init_45d68 tx_Jx35411_init_45d68 6 (i_oi 9) := s_objinit hG w_1443 w_88 w_89 dJx35411_init_45d68_6
theorem s_Jx35411_init_45d68_9 {X : ev_E} {l : Launch} (hG : ev_Good X) (hl : l.stackTraces = false) : ev_Snd X l ev_ms x_Jx35411_init_45d68 tx_Jx35411_init_45d68 9 (i_al 0 10) := s_aload_n dJx35411_init_45d68_9 rfl
theorem s_Jx35411_init_45d68_10 {X : ev_E} {l : Launch} (hG : ev_Good X) (hl : l.stackTraces = false) : ev_Snd X l ev_ms x_Jx35411_init_45d68 tx_Jx35411_init_45d68 10 (i_psh (.int (-1)) 11) := s_iconst dJx35411_init_45d68_10 rfl
theorem s_Jx35411_init_45d68_11 {X : ev_E} {l : Launch} (hG : ev_Good X) (hl : l.stackTraces = false) : ev_Snd X l ev_ms x_Jx35411_init_45d68 tx_Jx35411_init_45d68 11 (i_pf 3 1 (.int) 14) := s_putfield hG (ci := 3) (r := (RJx35411, TJx35411, 4)) rfl cw_3 ap_3 (k := 1) (Nat.le_of_ble_eq_true rfl) rfl (by decide +kernel) w_1445 rfl (Or.inl rfl) dJx35411_init_45d68_11
theorem s_Jx35411_init_45d68_14 {X : ev_E} {l : Launch} (hG : ev_Good X) (hl : l.stackTraces = false) : ev_Snd X l ev_ms x_Jx35411_init_45d68 tx_Jx35411_init_45d68 14 (i_al 0 15) := s_aload_n dJx35411_init_45d68_14 rfl
theorem s_Jx35411_init_45d68_15 {X : ev_E} {l : Launch} (hG : ev_Good X) (hl : l.stackTraces = false) : ev_Snd X l ev_ms x_Jx35411_init_45d68 tx_Jx35411_init_45d68 15 (i_al 0 16) := s_aload_n dJx35411_init_45d68_15 rfl
theorem s_Jx35411_init_45d68_16 {X : ev_E} {l : Launch} (hG : ev_Good X) (hl : l.stackTraces = false) : ev_Snd X l ev_ms x_Jx35411_init_45d68 tx_Jx35411_init_45d68 16 (i_gf X 3 3 19) := s_getfield hG (ci := 3) (r := (RJx35411, TJx35411, 4)) rfl cw_3 (k := 3) (Nat.le_of_ble_eq_true rfl) w_1447 rfl (Or.inl rfl) dJx35411_init_45d68_16
theorem s_Jx35411_init_45d68_19 {X : ev_E} {l : Launch} (hG : ev_Good X) (hl : l.stackTraces = false) : ev_Snd X l ev_ms x_Jx35411_init_45d68 tx_Jx35411_init_45d68 19 (i_gf X 4 0 22) := s_getfield hG (ci := 4) (r := (RJx4a65c, TJx4a65c, 3)) rfl cw_4 (k := 0) (Nat.le_of_ble_eq_true rfl) w_1211 rfl (Or.inr ⟨w_1212, rfl⟩) dJx35411_init_45d68_19
theorem s_Jx35411_init_45d68_22 {X : ev_E} {l : Launch} (hG : ev_Good X) (hl : l.stackTraces = false) : ev_Snd X l ev_ms x_Jx35411_init_45d68 tx_Jx35411_init_45d68 22 (i_pf 3 2 (.int) 25) := s_putfield hG (ci := 3) (r := (RJx35411, TJx35411, 4)) rfl cw_3 ap_3 (k := 2) (Nat.le_of_ble_eq_true rfl) rfl (by decide +kernel) w_1446 rfl (Or.inl rfl) dJx35411_init_45d68_22
theorem s_Jx35411_init_45d68_25 {X : ev_E} {l : Launch} (hG : ev_Good X) (hl : l.stackTraces = false) : ev_Snd X l ev_ms x_Jx35411_init_45d68 tx_Jx35411_init_45d68 25 (i_vr) := s_return rfl dJx35411_init_45d68_25
theorem sa_Jx35411_init_45d68 {X : ev_E} {l : Launch} (hG : ev_Good X) (hl : l.stackTraces = false) : ∀ q ∈ tb_Jx35411_init_45d68 X, ev_Snd X l ev_ms x_Jx35411_init_45d68 tx_Jx35411_init_45d68 q.1 q.2 := by
  intro q hq
  unfold tb_Jx35411_init_45d68 at hq
  simp only [List.mem_cons, List.not_mem_nil, or_false] at hq
  rcases hq with rfl | rfl | rfl | rfl | rfl | rfl | rfl | rfl | rfl | rfl | rfl | rfl | rfl | rfl
  · exact s_Jx35411_init_45d68_0 hG hl
  · exact s_Jx35411_init_45d68_1 hG hl
  · exact s_Jx35411_init_45d68_2 hG hl
  · exact s_Jx35411_init_45d68_5 hG hl
  · exact s_Jx35411_init_45d68_6 hG hl
  · exact s_Jx35411_init_45d68_9 hG hl
  · exact s_Jx35411_init_45d68_10 hG hl
  · exact s_Jx35411_init_45d68_11 hG hl
  · exact s_Jx35411_init_45d68_14 hG hl
  · exact s_Jx35411_init_45d68_15 hG hl
  · exact s_Jx35411_init_45d68_16 hG hl
  · exact s_Jx35411_init_45d68_19 hG hl
  · exact s_Jx35411_init_45d68_22 hG hl
  · exact s_Jx35411_init_45d68_25 hG hl
def tx_Jx4a65c_clear_da8c8 : ev_X := fun _ _ => some none
noncomputable def tb_Jx4a65c_clear_da8c8 (X : ev_E) : List (Nat × (ev_S → ev_N)) := [(0, i_al 0 1), (1, i_dup 2), (2, i_gf X 4 0 5), (5, i_psh (.int (1)) 6), (6, i_ii (fun a b => a + b) 7), (7, i_pf 4 0 (.int) 10), (10, i_al 0 11), (11, i_gf X 4 1 14), (14, i_as 1 15), (15, i_al 0 16), (16, i_gf X 4 2 19), (19, i_is 2 20), (20, i_al 0 21), (21, i_psh (.int (0)) 22), (22, i_dx1 23), (23, i_pf 4 2 (.int) 26), (26, i_is 3 27), (27, i_il 3 28), (28, i_il 2 29), (29, i_icge 42 32), (32, i_al 1 33), (33, i_il 3 34), (34, i_psh .null 35), (35, i_aasto X 36), (36, i_inc 3 (1) 39), (39, i_goto 27), (42, i_vr)]
theorem s_Jx4a65c_clear_da8c8_0 {X : ev_E} {l : Launch} (hG : ev_Good X) (hl : l.stackTraces = false) : ev_Snd X l ev_ms x_Jx4a65c_clear_da8c8 tx_Jx4a65c_clear_da8c8 0 (i_al 0 1) := s_aload_n dJx4a65c_clear_da8c8_0 rfl
theorem s_Jx4a65c_clear_da8c8_1 {X : ev_E} {l : Launch} (hG : ev_Good X) (hl : l.stackTraces = false) : ev_Snd X l ev_ms x_Jx4a65c_clear_da8c8 tx_Jx4a65c_clear_da8c8 1 (i_dup 2) := s_dup dJx4a65c_clear_da8c8_1
theorem s_Jx4a65c_clear_da8c8_2 {X : ev_E} {l : Launch} (hG : ev_Good X) (hl : l.stackTraces = false) : ev_Snd X l ev_ms x_Jx4a65c_clear_da8c8 tx_Jx4a65c_clear_da8c8 2 (i_gf X 4 0 5) := s_getfield hG (ci := 4) (r := (RJx4a65c, TJx4a65c, 3)) rfl cw_4 (k := 0) (Nat.le_of_ble_eq_true rfl) w_1213 rfl (Or.inr ⟨w_1212, rfl⟩) dJx4a65c_clear_da8c8_2
theorem s_Jx4a65c_clear_da8c8_5 {X : ev_E} {l : Launch} (hG : ev_Good X) (hl : l.stackTraces = false) : ev_Snd X l ev_ms x_Jx4a65c_clear_da8c8 tx_Jx4a65c_clear_da8c8 5 (i_psh (.int (1)) 6) := s_iconst dJx4a65c_clear_da8c8_5 rfl
theorem s_Jx4a65c_clear_da8c8_6 {X : ev_E} {l : Launch} (hG : ev_Good X) (hl : l.stackTraces = false) : ev_Snd X l ev_ms x_Jx4a65c_clear_da8c8 tx_Jx4a65c_clear_da8c8 6 (i_ii (fun a b => a + b) 7) := s_iadd dJx4a65c_clear_da8c8_6
theorem s_Jx4a65c_clear_da8c8_7 {X : ev_E} {l : Launch} (hG : ev_Good X) (hl : l.stackTraces = false) : ev_Snd X l ev_ms x_Jx4a65c_clear_da8c8 tx_Jx4a65c_clear_da8c8 7 (i_pf 4 0 (.int) 10) := s_putfield hG (ci := 4) (r := (RJx4a65c, TJx4a65c, 3)) rfl cw_4 ap_4 (k := 0) (Nat.le_of_ble_eq_true rfl) rfl (by decide +kernel) w_1213 rfl (Or.inr ⟨w_1212, rfl⟩) dJx4a65c_clear_da8c8_7
theorem s_Jx4a65c_clear_da8c8_10 {X : ev_E} {l : Launch} (hG : ev_Good X) (hl : l.stackTraces = false) : ev_Snd X l ev_ms x_Jx4a65c_clear_da8c8 tx_Jx4a65c_clear_da8c8 10 (i_al 0 11) := s_aload_n dJx4a65c_clear_da8c8_10 rfl
theorem s_Jx4a65c_clear_da8c8_11 {X : ev_E} {l : Launch} (hG : ev_Good X) (hl : l.stackTraces = false) : ev_Snd X l ev_ms x_Jx4a65c_clear_da8c8 tx_Jx4a65c_clear_da8c8 11 (i_gf X 4 1 14) := s_getfield hG (ci := 4) (r := (RJx4a65c, TJx4a65c, 3)) rfl cw_4 (k := 1) (Nat.le_of_ble_eq_true rfl) w_1206 rfl (Or.inl rfl) dJx4a65c_clear_da8c8_11
theorem s_Jx4a65c_clear_da8c8_14 {X : ev_E} {l : Launch} (hG : ev_Good X) (hl : l.stackTraces = false) : ev_Snd X l ev_ms x_Jx4a65c_clear_da8c8 tx_Jx4a65c_clear_da8c8 14 (i_as 1 15) := s_astore_n dJx4a65c_clear_da8c8_14 rfl (Nat.le_of_ble_eq_true rfl)
theorem s_Jx4a65c_clear_da8c8_15 {X : ev_E} {l : Launch} (hG : ev_Good X) (hl : l.stackTraces = false) : ev_Snd X l ev_ms x_Jx4a65c_clear_da8c8 tx_Jx4a65c_clear_da8c8 15 (i_al 0 16) := s_aload_n dJx4a65c_clear_da8c8_15 rfl
theorem s_Jx4a65c_clear_da8c8_16 {X : ev_E} {l : Launch} (hG : ev_Good X) (hl : l.stackTraces = false) : ev_Snd X l ev_ms x_Jx4a65c_clear_da8c8 tx_Jx4a65c_clear_da8c8 16 (i_gf X 4 2 19) := s_getfield hG (ci := 4) (r := (RJx4a65c, TJx4a65c, 3)) rfl cw_4 (k := 2) (Nat.le_of_ble_eq_true rfl) w_1209 rfl (Or.inl rfl) dJx4a65c_clear_da8c8_16
theorem s_Jx4a65c_clear_da8c8_19 {X : ev_E} {l : Launch} (hG : ev_Good X) (hl : l.stackTraces = false) : ev_Snd X l ev_ms x_Jx4a65c_clear_da8c8 tx_Jx4a65c_clear_da8c8 19 (i_is 2 20) := s_istore_n dJx4a65c_clear_da8c8_19 rfl (Nat.le_of_ble_eq_true rfl)
theorem s_Jx4a65c_clear_da8c8_20 {X : ev_E} {l : Launch} (hG : ev_Good X) (hl : l.stackTraces = false) : ev_Snd X l ev_ms x_Jx4a65c_clear_da8c8 tx_Jx4a65c_clear_da8c8 20 (i_al 0 21) := s_aload_n dJx4a65c_clear_da8c8_20 rfl
theorem s_Jx4a65c_clear_da8c8_21 {X : ev_E} {l : Launch} (hG : ev_Good X) (hl : l.stackTraces = false) : ev_Snd X l ev_ms x_Jx4a65c_clear_da8c8 tx_Jx4a65c_clear_da8c8 21 (i_psh (.int (0)) 22) := s_iconst dJx4a65c_clear_da8c8_21 rfl
theorem s_Jx4a65c_clear_da8c8_22 {X : ev_E} {l : Launch} (hG : ev_Good X) (hl : l.stackTraces = false) : ev_Snd X l ev_ms x_Jx4a65c_clear_da8c8 tx_Jx4a65c_clear_da8c8 22 (i_dx1 23) := s_dup_x1 dJx4a65c_clear_da8c8_22
theorem s_Jx4a65c_clear_da8c8_23 {X : ev_E} {l : Launch} (hG : ev_Good X) (hl : l.stackTraces = false) : ev_Snd X l ev_ms x_Jx4a65c_clear_da8c8 tx_Jx4a65c_clear_da8c8 23 (i_pf 4 2 (.int) 26) := s_putfield hG (ci := 4) (r := (RJx4a65c, TJx4a65c, 3)) rfl cw_4 ap_4 (k := 2) (Nat.le_of_ble_eq_true rfl) rfl (by decide +kernel) w_1209 rfl (Or.inl rfl) dJx4a65c_clear_da8c8_23
theorem s_Jx4a65c_clear_da8c8_26 {X : ev_E} {l : Launch} (hG : ev_Good X) (hl : l.stackTraces = false) : ev_Snd X l ev_ms x_Jx4a65c_clear_da8c8 tx_Jx4a65c_clear_da8c8 26 (i_is 3 27) := s_istore_n dJx4a65c_clear_da8c8_26 rfl (Nat.le_of_ble_eq_true rfl)
theorem s_Jx4a65c_clear_da8c8_27 {X : ev_E} {l : Launch} (hG : ev_Good X) (hl : l.stackTraces = false) : ev_Snd X l ev_ms x_Jx4a65c_clear_da8c8 tx_Jx4a65c_clear_da8c8 27 (i_il 3 28) := s_iload_n dJx4a65c_clear_da8c8_27 rfl
theorem s_Jx4a65c_clear_da8c8_28 {X : ev_E} {l : Launch} (hG : ev_Good X) (hl : l.stackTraces = false) : ev_Snd X l ev_ms x_Jx4a65c_clear_da8c8 tx_Jx4a65c_clear_da8c8 28 (i_il 2 29) := s_iload_n dJx4a65c_clear_da8c8_28 rfl
theorem s_Jx4a65c_clear_da8c8_29 {X : ev_E} {l : Launch} (hG : ev_Good X) (hl : l.stackTraces = false) : ev_Snd X l ev_ms x_Jx4a65c_clear_da8c8 tx_Jx4a65c_clear_da8c8 29 (i_icge 42 32) := s_icge dJx4a65c_clear_da8c8_29 rfl
theorem s_Jx4a65c_clear_da8c8_32 {X : ev_E} {l : Launch} (hG : ev_Good X) (hl : l.stackTraces = false) : ev_Snd X l ev_ms x_Jx4a65c_clear_da8c8 tx_Jx4a65c_clear_da8c8 32 (i_al 1 33) := s_aload_n dJx4a65c_clear_da8c8_32 rfl
theorem s_Jx4a65c_clear_da8c8_33 {X : ev_E} {l : Launch} (hG : ev_Good X) (hl : l.stackTraces = false) : ev_Snd X l ev_ms x_Jx4a65c_clear_da8c8 tx_Jx4a65c_clear_da8c8 33 (i_il 3 34) := s_iload_n dJx4a65c_clear_da8c8_33 rfl
theorem s_Jx4a65c_clear_da8c8_34 {X : ev_E} {l : Launch} (hG : ev_Good X) (hl : l.stackTraces = false) : ev_Snd X l ev_ms x_Jx4a65c_clear_da8c8 tx_Jx4a65c_clear_da8c8 34 (i_psh .null 35) := s_null dJx4a65c_clear_da8c8_34
theorem s_Jx4a65c_clear_da8c8_35 {X : ev_E} {l : Launch} (hG : ev_Good X) (hl : l.stackTraces = false) : ev_Snd X l ev_ms x_Jx4a65c_clear_da8c8 tx_Jx4a65c_clear_da8c8 35 (i_aasto X 36) := s_aastoreO hG w_1784 w_1765 dJx4a65c_clear_da8c8_35
theorem s_Jx4a65c_clear_da8c8_36 {X : ev_E} {l : Launch} (hG : ev_Good X) (hl : l.stackTraces = false) : ev_Snd X l ev_ms x_Jx4a65c_clear_da8c8 tx_Jx4a65c_clear_da8c8 36 (i_inc 3 (1) 39) := s_iinc dJx4a65c_clear_da8c8_36 rfl (Nat.le_of_ble_eq_true rfl)
theorem s_Jx4a65c_clear_da8c8_39 {X : ev_E} {l : Launch} (hG : ev_Good X) (hl : l.stackTraces = false) : ev_Snd X l ev_ms x_Jx4a65c_clear_da8c8 tx_Jx4a65c_clear_da8c8 39 (i_goto 27) := s_goto dJx4a65c_clear_da8c8_39 rfl
theorem s_Jx4a65c_clear_da8c8_42 {X : ev_E} {l : Launch} (hG : ev_Good X) (hl : l.stackTraces = false) : ev_Snd X l ev_ms x_Jx4a65c_clear_da8c8 tx_Jx4a65c_clear_da8c8 42 (i_vr) := s_return rfl dJx4a65c_clear_da8c8_42
theorem sa_Jx4a65c_clear_da8c8 {X : ev_E} {l : Launch} (hG : ev_Good X) (hl : l.stackTraces = false) : ∀ q ∈ tb_Jx4a65c_clear_da8c8 X, ev_Snd X l ev_ms x_Jx4a65c_clear_da8c8 tx_Jx4a65c_clear_da8c8 q.1 q.2 := by
  intro q hq
  unfold tb_Jx4a65c_clear_da8c8 at hq
  simp only [List.mem_cons, List.not_mem_nil, or_false] at hq
  rcases hq with rfl | rfl | rfl | rfl | rfl | rfl | rfl | rfl | rfl | rfl | rfl | rfl | rfl | rfl | rfl | rfl | rfl | rfl | rfl | rfl | rfl | rfl | rfl | rfl | rfl | rfl | rfl
  · exact s_Jx4a65c_clear_da8c8_0 hG hl
  · exact s_Jx4a65c_clear_da8c8_1 hG hl
  · exact s_Jx4a65c_clear_da8c8_2 hG hl
  · exact s_Jx4a65c_clear_da8c8_5 hG hl
  · exact s_Jx4a65c_clear_da8c8_6 hG hl
  · exact s_Jx4a65c_clear_da8c8_7 hG hl
  · exact s_Jx4a65c_clear_da8c8_10 hG hl
  · exact s_Jx4a65c_clear_da8c8_11 hG hl
  · exact s_Jx4a65c_clear_da8c8_14 hG hl
  · exact s_Jx4a65c_clear_da8c8_15 hG hl
  · exact s_Jx4a65c_clear_da8c8_16 hG hl
  · exact s_Jx4a65c_clear_da8c8_19 hG hl
  · exact s_Jx4a65c_clear_da8c8_20 hG hl
  · exact s_Jx4a65c_clear_da8c8_21 hG hl
  · exact s_Jx4a65c_clear_da8c8_22 hG hl
  · exact s_Jx4a65c_clear_da8c8_23 hG hl
  · exact s_Jx4a65c_clear_da8c8_26 hG hl
  · exact s_Jx4a65c_clear_da8c8_27 hG hl
  · exact s_Jx4a65c_clear_da8c8_28 hG hl
  · exact s_Jx4a65c_clear_da8c8_29 hG hl
  · exact s_Jx4a65c_clear_da8c8_32 hG hl
  · exact s_Jx4a65c_clear_da8c8_33 hG hl
  · exact s_Jx4a65c_clear_da8c8_34 hG hl
  · exact s_Jx4a65c_clear_da8c8_35 hG hl
  · exact s_Jx4a65c_clear_da8c8_36 hG hl
  · exact s_Jx4a65c_clear_da8c8_39 hG hl
  · exact s_Jx4a65c_clear_da8c8_42 hG hl
def tx_Jx4a65c_elementData_915e3 : ev_X := fun _ _ => some none
noncomputable def tb_Jx4a65c_elementData_915e3 (X : ev_E) : List (Nat × (ev_S → ev_N)) := [(0, i_al 0 1), (1, i_gf X 4 1 4), (4, i_il 1 5), (5, i_ald X FieldType.isReference 6), (6, i_ar)]
theorem s_Jx4a65c_elementData_915e3_0 {X : ev_E} {l : Launch} (hG : ev_Good X) (hl : l.stackTraces = false) : ev_Snd X l ev_ms x_Jx4a65c_elementData_915e3 tx_Jx4a65c_elementData_915e3 0 (i_al 0 1) := s_aload_n dJx4a65c_elementData_915e3_0 rfl
theorem s_Jx4a65c_elementData_915e3_1 {X : ev_E} {l : Launch} (hG : ev_Good X) (hl : l.stackTraces = false) : ev_Snd X l ev_ms x_Jx4a65c_elementData_915e3 tx_Jx4a65c_elementData_915e3 1 (i_gf X 4 1 4) := s_getfield hG (ci := 4) (r := (RJx4a65c, TJx4a65c, 3)) rfl cw_4 (k := 1) (Nat.le_of_ble_eq_true rfl) w_1206 rfl (Or.inl rfl) dJx4a65c_elementData_915e3_1
theorem s_Jx4a65c_elementData_915e3_4 {X : ev_E} {l : Launch} (hG : ev_Good X) (hl : l.stackTraces = false) : ev_Snd X l ev_ms x_Jx4a65c_elementData_915e3 tx_Jx4a65c_elementData_915e3 4 (i_il 1 5) := s_iload_n dJx4a65c_elementData_915e3_4 rfl
theorem s_Jx4a65c_elementData_915e3_5 {X : ev_E} {l : Launch} (hG : ev_Good X) (hl : l.stackTraces = false) : ev_Snd X l ev_ms x_Jx4a65c_elementData_915e3 tx_Jx4a65c_elementData_915e3 5 (i_ald X FieldType.isReference 6) := s_aaload hG dJx4a65c_elementData_915e3_5
theorem s_Jx4a65c_elementData_915e3_6 {X : ev_E} {l : Launch} (hG : ev_Good X) (hl : l.stackTraces = false) : ev_Snd X l ev_ms x_Jx4a65c_elementData_915e3 tx_Jx4a65c_elementData_915e3 6 (i_ar) := s_areturn (rt := (.object "java/lang/Object")) rfl (by first | exact Or.inl ⟨_, rfl⟩ | exact Or.inr ⟨_, rfl⟩) dJx4a65c_elementData_915e3_6
theorem sa_Jx4a65c_elementData_915e3 {X : ev_E} {l : Launch} (hG : ev_Good X) (hl : l.stackTraces = false) : ∀ q ∈ tb_Jx4a65c_elementData_915e3 X, ev_Snd X l ev_ms x_Jx4a65c_elementData_915e3 tx_Jx4a65c_elementData_915e3 q.1 q.2 := by
  intro q hq
  unfold tb_Jx4a65c_elementData_915e3 at hq
  simp only [List.mem_cons, List.not_mem_nil, or_false] at hq
  rcases hq with rfl | rfl | rfl | rfl | rfl
  · exact s_Jx4a65c_elementData_915e3_0 hG hl
  · exact s_Jx4a65c_elementData_915e3_1 hG hl
  · exact s_Jx4a65c_elementData_915e3_4 hG hl
  · exact s_Jx4a65c_elementData_915e3_5 hG hl
  · exact s_Jx4a65c_elementData_915e3_6 hG hl
def tx_Jx4a65c_fastRemove_b59b0 : ev_X := fun _ _ => some none
noncomputable def tb_Jx4a65c_fastRemove_b59b0 (X : ev_E) : List (Nat × (ev_S → ev_N)) := [(0, i_al 0 1), (1, i_dup 2), (2, i_gf X 4 0 5), (5, i_psh (.int (1)) 6), (6, i_ii (fun a b => a + b) 7), (7, i_pf 4 0 (.int) 10), (10, i_al 0 11), (11, i_gf X 4 2 14), (14, i_psh (.int (1)) 15), (15, i_ii (fun a b => a - b) 16), (16, i_dup 17), (17, i_is 3 18), (18, i_il 2 19), (19, i_icle 34 22), (22, i_al 1 23), (23, i_il 2 24), (24, i_psh (.int (1)) 25), (25, i_ii (fun a b => a + b) 26), (26, i_al 1 27), (27, i_il 2 28), (28, i_il 3 29), (29, i_il 2 30), (30, i_ii (fun a b => a - b) 31), (31, i_cpy X true 34), (34, i_al 1 35), (35, i_al 0 36), (36, i_il 3 37), (37, i_dx1 38), (38, i_pf 4 2 (.int) 41), (41, i_psh .null 42), (42, i_aasto X 43), (43, i_vr)]
theorem s_Jx4a65c_fastRemove_b59b0_0 {X : ev_E} {l : Launch} (hG : ev_Good X) (hl : l.stackTraces = false) : ev_Snd X l ev_ms x_Jx4a65c_fastRemove_b59b0 tx_Jx4a65c_fastRemove_b59b0 0 (i_al 0 1) := s_aload_n dJx4a65c_fastRemove_b59b0_0 rfl
theorem s_Jx4a65c_fastRemove_b59b0_1 {X : ev_E} {l : Launch} (hG : ev_Good X) (hl : l.stackTraces = false) : ev_Snd X l ev_ms x_Jx4a65c_fastRemove_b59b0 tx_Jx4a65c_fastRemove_b59b0 1 (i_dup 2) := s_dup dJx4a65c_fastRemove_b59b0_1
theorem s_Jx4a65c_fastRemove_b59b0_2 {X : ev_E} {l : Launch} (hG : ev_Good X) (hl : l.stackTraces = false) : ev_Snd X l ev_ms x_Jx4a65c_fastRemove_b59b0 tx_Jx4a65c_fastRemove_b59b0 2 (i_gf X 4 0 5) := s_getfield hG (ci := 4) (r := (RJx4a65c, TJx4a65c, 3)) rfl cw_4 (k := 0) (Nat.le_of_ble_eq_true rfl) w_1213 rfl (Or.inr ⟨w_1212, rfl⟩) dJx4a65c_fastRemove_b59b0_2
theorem s_Jx4a65c_fastRemove_b59b0_5 {X : ev_E} {l : Launch} (hG : ev_Good X) (hl : l.stackTraces = false) : ev_Snd X l ev_ms x_Jx4a65c_fastRemove_b59b0 tx_Jx4a65c_fastRemove_b59b0 5 (i_psh (.int (1)) 6) := s_iconst dJx4a65c_fastRemove_b59b0_5 rfl
theorem s_Jx4a65c_fastRemove_b59b0_6 {X : ev_E} {l : Launch} (hG : ev_Good X) (hl : l.stackTraces = false) : ev_Snd X l ev_ms x_Jx4a65c_fastRemove_b59b0 tx_Jx4a65c_fastRemove_b59b0 6 (i_ii (fun a b => a + b) 7) := s_iadd dJx4a65c_fastRemove_b59b0_6
theorem s_Jx4a65c_fastRemove_b59b0_7 {X : ev_E} {l : Launch} (hG : ev_Good X) (hl : l.stackTraces = false) : ev_Snd X l ev_ms x_Jx4a65c_fastRemove_b59b0 tx_Jx4a65c_fastRemove_b59b0 7 (i_pf 4 0 (.int) 10) := s_putfield hG (ci := 4) (r := (RJx4a65c, TJx4a65c, 3)) rfl cw_4 ap_4 (k := 0) (Nat.le_of_ble_eq_true rfl) rfl (by decide +kernel) w_1213 rfl (Or.inr ⟨w_1212, rfl⟩) dJx4a65c_fastRemove_b59b0_7
theorem s_Jx4a65c_fastRemove_b59b0_10 {X : ev_E} {l : Launch} (hG : ev_Good X) (hl : l.stackTraces = false) : ev_Snd X l ev_ms x_Jx4a65c_fastRemove_b59b0 tx_Jx4a65c_fastRemove_b59b0 10 (i_al 0 11) := s_aload_n dJx4a65c_fastRemove_b59b0_10 rfl
theorem s_Jx4a65c_fastRemove_b59b0_11 {X : ev_E} {l : Launch} (hG : ev_Good X) (hl : l.stackTraces = false) : ev_Snd X l ev_ms x_Jx4a65c_fastRemove_b59b0 tx_Jx4a65c_fastRemove_b59b0 11 (i_gf X 4 2 14) := s_getfield hG (ci := 4) (r := (RJx4a65c, TJx4a65c, 3)) rfl cw_4 (k := 2) (Nat.le_of_ble_eq_true rfl) w_1209 rfl (Or.inl rfl) dJx4a65c_fastRemove_b59b0_11
theorem s_Jx4a65c_fastRemove_b59b0_14 {X : ev_E} {l : Launch} (hG : ev_Good X) (hl : l.stackTraces = false) : ev_Snd X l ev_ms x_Jx4a65c_fastRemove_b59b0 tx_Jx4a65c_fastRemove_b59b0 14 (i_psh (.int (1)) 15) := s_iconst dJx4a65c_fastRemove_b59b0_14 rfl
theorem s_Jx4a65c_fastRemove_b59b0_15 {X : ev_E} {l : Launch} (hG : ev_Good X) (hl : l.stackTraces = false) : ev_Snd X l ev_ms x_Jx4a65c_fastRemove_b59b0 tx_Jx4a65c_fastRemove_b59b0 15 (i_ii (fun a b => a - b) 16) := s_isub dJx4a65c_fastRemove_b59b0_15
theorem s_Jx4a65c_fastRemove_b59b0_16 {X : ev_E} {l : Launch} (hG : ev_Good X) (hl : l.stackTraces = false) : ev_Snd X l ev_ms x_Jx4a65c_fastRemove_b59b0 tx_Jx4a65c_fastRemove_b59b0 16 (i_dup 17) := s_dup dJx4a65c_fastRemove_b59b0_16
theorem s_Jx4a65c_fastRemove_b59b0_17 {X : ev_E} {l : Launch} (hG : ev_Good X) (hl : l.stackTraces = false) : ev_Snd X l ev_ms x_Jx4a65c_fastRemove_b59b0 tx_Jx4a65c_fastRemove_b59b0 17 (i_is 3 18) := s_istore_n dJx4a65c_fastRemove_b59b0_17 rfl (Nat.le_of_ble_eq_true rfl)
theorem s_Jx4a65c_fastRemove_b59b0_18 {X : ev_E} {l : Launch} (hG : ev_Good X) (hl : l.stackTraces = false) : ev_Snd X l ev_ms x_Jx4a65c_fastRemove_b59b0 tx_Jx4a65c_fastRemove_b59b0 18 (i_il 2 19) := s_iload_n dJx4a65c_fastRemove_b59b0_18 rfl
theorem s_Jx4a65c_fastRemove_b59b0_19 {X : ev_E} {l : Launch} (hG : ev_Good X) (hl : l.stackTraces = false) : ev_Snd X l ev_ms x_Jx4a65c_fastRemove_b59b0 tx_Jx4a65c_fastRemove_b59b0 19 (i_icle 34 22) := s_icle dJx4a65c_fastRemove_b59b0_19 rfl
theorem s_Jx4a65c_fastRemove_b59b0_22 {X : ev_E} {l : Launch} (hG : ev_Good X) (hl : l.stackTraces = false) : ev_Snd X l ev_ms x_Jx4a65c_fastRemove_b59b0 tx_Jx4a65c_fastRemove_b59b0 22 (i_al 1 23) := s_aload_n dJx4a65c_fastRemove_b59b0_22 rfl
theorem s_Jx4a65c_fastRemove_b59b0_23 {X : ev_E} {l : Launch} (hG : ev_Good X) (hl : l.stackTraces = false) : ev_Snd X l ev_ms x_Jx4a65c_fastRemove_b59b0 tx_Jx4a65c_fastRemove_b59b0 23 (i_il 2 24) := s_iload_n dJx4a65c_fastRemove_b59b0_23 rfl
theorem s_Jx4a65c_fastRemove_b59b0_24 {X : ev_E} {l : Launch} (hG : ev_Good X) (hl : l.stackTraces = false) : ev_Snd X l ev_ms x_Jx4a65c_fastRemove_b59b0 tx_Jx4a65c_fastRemove_b59b0 24 (i_psh (.int (1)) 25) := s_iconst dJx4a65c_fastRemove_b59b0_24 rfl
theorem s_Jx4a65c_fastRemove_b59b0_25 {X : ev_E} {l : Launch} (hG : ev_Good X) (hl : l.stackTraces = false) : ev_Snd X l ev_ms x_Jx4a65c_fastRemove_b59b0 tx_Jx4a65c_fastRemove_b59b0 25 (i_ii (fun a b => a + b) 26) := s_iadd dJx4a65c_fastRemove_b59b0_25
theorem s_Jx4a65c_fastRemove_b59b0_26 {X : ev_E} {l : Launch} (hG : ev_Good X) (hl : l.stackTraces = false) : ev_Snd X l ev_ms x_Jx4a65c_fastRemove_b59b0 tx_Jx4a65c_fastRemove_b59b0 26 (i_al 1 27) := s_aload_n dJx4a65c_fastRemove_b59b0_26 rfl
theorem s_Jx4a65c_fastRemove_b59b0_27 {X : ev_E} {l : Launch} (hG : ev_Good X) (hl : l.stackTraces = false) : ev_Snd X l ev_ms x_Jx4a65c_fastRemove_b59b0 tx_Jx4a65c_fastRemove_b59b0 27 (i_il 2 28) := s_iload_n dJx4a65c_fastRemove_b59b0_27 rfl
theorem s_Jx4a65c_fastRemove_b59b0_28 {X : ev_E} {l : Launch} (hG : ev_Good X) (hl : l.stackTraces = false) : ev_Snd X l ev_ms x_Jx4a65c_fastRemove_b59b0 tx_Jx4a65c_fastRemove_b59b0 28 (i_il 3 29) := s_iload_n dJx4a65c_fastRemove_b59b0_28 rfl
theorem s_Jx4a65c_fastRemove_b59b0_29 {X : ev_E} {l : Launch} (hG : ev_Good X) (hl : l.stackTraces = false) : ev_Snd X l ev_ms x_Jx4a65c_fastRemove_b59b0 tx_Jx4a65c_fastRemove_b59b0 29 (i_il 2 30) := s_iload_n dJx4a65c_fastRemove_b59b0_29 rfl
theorem s_Jx4a65c_fastRemove_b59b0_30 {X : ev_E} {l : Launch} (hG : ev_Good X) (hl : l.stackTraces = false) : ev_Snd X l ev_ms x_Jx4a65c_fastRemove_b59b0 tx_Jx4a65c_fastRemove_b59b0 30 (i_ii (fun a b => a - b) 31) := s_isub dJx4a65c_fastRemove_b59b0_30
theorem s_Jx4a65c_fastRemove_b59b0_31 {X : ev_E} {l : Launch} (hG : ev_Good X) (hl : l.stackTraces = false) : ev_Snd X l ev_ms x_Jx4a65c_fastRemove_b59b0 tx_Jx4a65c_fastRemove_b59b0 31 (i_cpy X true 34) := s_arraycopy hG true w_1784 w_1765 w_1342 w_353 rfl w_352 w_68 dJx4a65c_fastRemove_b59b0_31
theorem s_Jx4a65c_fastRemove_b59b0_34 {X : ev_E} {l : Launch} (hG : ev_Good X) (hl : l.stackTraces = false) : ev_Snd X l ev_ms x_Jx4a65c_fastRemove_b59b0 tx_Jx4a65c_fastRemove_b59b0 34 (i_al 1 35) := s_aload_n dJx4a65c_fastRemove_b59b0_34 rfl
theorem s_Jx4a65c_fastRemove_b59b0_35 {X : ev_E} {l : Launch} (hG : ev_Good X) (hl : l.stackTraces = false) : ev_Snd X l ev_ms x_Jx4a65c_fastRemove_b59b0 tx_Jx4a65c_fastRemove_b59b0 35 (i_al 0 36) := s_aload_n dJx4a65c_fastRemove_b59b0_35 rfl
theorem s_Jx4a65c_fastRemove_b59b0_36 {X : ev_E} {l : Launch} (hG : ev_Good X) (hl : l.stackTraces = false) : ev_Snd X l ev_ms x_Jx4a65c_fastRemove_b59b0 tx_Jx4a65c_fastRemove_b59b0 36 (i_il 3 37) := s_iload_n dJx4a65c_fastRemove_b59b0_36 rfl
theorem s_Jx4a65c_fastRemove_b59b0_37 {X : ev_E} {l : Launch} (hG : ev_Good X) (hl : l.stackTraces = false) : ev_Snd X l ev_ms x_Jx4a65c_fastRemove_b59b0 tx_Jx4a65c_fastRemove_b59b0 37 (i_dx1 38) := s_dup_x1 dJx4a65c_fastRemove_b59b0_37
theorem s_Jx4a65c_fastRemove_b59b0_38 {X : ev_E} {l : Launch} (hG : ev_Good X) (hl : l.stackTraces = false) : ev_Snd X l ev_ms x_Jx4a65c_fastRemove_b59b0 tx_Jx4a65c_fastRemove_b59b0 38 (i_pf 4 2 (.int) 41) := s_putfield hG (ci := 4) (r := (RJx4a65c, TJx4a65c, 3)) rfl cw_4 ap_4 (k := 2) (Nat.le_of_ble_eq_true rfl) rfl (by decide +kernel) w_1209 rfl (Or.inl rfl) dJx4a65c_fastRemove_b59b0_38
theorem s_Jx4a65c_fastRemove_b59b0_41 {X : ev_E} {l : Launch} (hG : ev_Good X) (hl : l.stackTraces = false) : ev_Snd X l ev_ms x_Jx4a65c_fastRemove_b59b0 tx_Jx4a65c_fastRemove_b59b0 41 (i_psh .null 42) := s_null dJx4a65c_fastRemove_b59b0_41
theorem s_Jx4a65c_fastRemove_b59b0_42 {X : ev_E} {l : Launch} (hG : ev_Good X) (hl : l.stackTraces = false) : ev_Snd X l ev_ms x_Jx4a65c_fastRemove_b59b0 tx_Jx4a65c_fastRemove_b59b0 42 (i_aasto X 43) := s_aastoreO hG w_1784 w_1765 dJx4a65c_fastRemove_b59b0_42
theorem s_Jx4a65c_fastRemove_b59b0_43 {X : ev_E} {l : Launch} (hG : ev_Good X) (hl : l.stackTraces = false) : ev_Snd X l ev_ms x_Jx4a65c_fastRemove_b59b0 tx_Jx4a65c_fastRemove_b59b0 43 (i_vr) := s_return rfl dJx4a65c_fastRemove_b59b0_43
theorem sa_Jx4a65c_fastRemove_b59b0 {X : ev_E} {l : Launch} (hG : ev_Good X) (hl : l.stackTraces = false) : ∀ q ∈ tb_Jx4a65c_fastRemove_b59b0 X, ev_Snd X l ev_ms x_Jx4a65c_fastRemove_b59b0 tx_Jx4a65c_fastRemove_b59b0 q.1 q.2 := by
  intro q hq
  unfold tb_Jx4a65c_fastRemove_b59b0 at hq
  simp only [List.mem_cons, List.not_mem_nil, or_false] at hq
  rcases hq with rfl | rfl | rfl | rfl | rfl | rfl | rfl | rfl | rfl | rfl | rfl | rfl | rfl | rfl | rfl | rfl | rfl | rfl | rfl | rfl | rfl | rfl | rfl | rfl | rfl | rfl | rfl | rfl | rfl | rfl | rfl | rfl
  · exact s_Jx4a65c_fastRemove_b59b0_0 hG hl
  · exact s_Jx4a65c_fastRemove_b59b0_1 hG hl
  · exact s_Jx4a65c_fastRemove_b59b0_2 hG hl
  · exact s_Jx4a65c_fastRemove_b59b0_5 hG hl
  · exact s_Jx4a65c_fastRemove_b59b0_6 hG hl
  · exact s_Jx4a65c_fastRemove_b59b0_7 hG hl
  · exact s_Jx4a65c_fastRemove_b59b0_10 hG hl
  · exact s_Jx4a65c_fastRemove_b59b0_11 hG hl
  · exact s_Jx4a65c_fastRemove_b59b0_14 hG hl
  · exact s_Jx4a65c_fastRemove_b59b0_15 hG hl
  · exact s_Jx4a65c_fastRemove_b59b0_16 hG hl
  · exact s_Jx4a65c_fastRemove_b59b0_17 hG hl
  · exact s_Jx4a65c_fastRemove_b59b0_18 hG hl
  · exact s_Jx4a65c_fastRemove_b59b0_19 hG hl
  · exact s_Jx4a65c_fastRemove_b59b0_22 hG hl
  · exact s_Jx4a65c_fastRemove_b59b0_23 hG hl
  · exact s_Jx4a65c_fastRemove_b59b0_24 hG hl
  · exact s_Jx4a65c_fastRemove_b59b0_25 hG hl
  · exact s_Jx4a65c_fastRemove_b59b0_26 hG hl
  · exact s_Jx4a65c_fastRemove_b59b0_27 hG hl
  · exact s_Jx4a65c_fastRemove_b59b0_28 hG hl
  · exact s_Jx4a65c_fastRemove_b59b0_29 hG hl
  · exact s_Jx4a65c_fastRemove_b59b0_30 hG hl
  · exact s_Jx4a65c_fastRemove_b59b0_31 hG hl
  · exact s_Jx4a65c_fastRemove_b59b0_34 hG hl
  · exact s_Jx4a65c_fastRemove_b59b0_35 hG hl
  · exact s_Jx4a65c_fastRemove_b59b0_36 hG hl
  · exact s_Jx4a65c_fastRemove_b59b0_37 hG hl
  · exact s_Jx4a65c_fastRemove_b59b0_38 hG hl
  · exact s_Jx4a65c_fastRemove_b59b0_41 hG hl
  · exact s_Jx4a65c_fastRemove_b59b0_42 hG hl
  · exact s_Jx4a65c_fastRemove_b59b0_43 hG hl
def tx_Jx4a65c_size_8abf5 : ev_X := fun _ _ => some none
noncomputable def tb_Jx4a65c_size_8abf5 (X : ev_E) : List (Nat × (ev_S → ev_N)) := [(0, i_al 0 1), (1, i_gf X 4 2 4), (4, i_ir (.int))]
theorem s_Jx4a65c_size_8abf5_0 {X : ev_E} {l : Launch} (hG : ev_Good X) (hl : l.stackTraces = false) : ev_Snd X l ev_ms x_Jx4a65c_size_8abf5 tx_Jx4a65c_size_8abf5 0 (i_al 0 1) := s_aload_n dJx4a65c_size_8abf5_0 rfl
theorem s_Jx4a65c_size_8abf5_1 {X : ev_E} {l : Launch} (hG : ev_Good X) (hl : l.stackTraces = false) : ev_Snd X l ev_ms x_Jx4a65c_size_8abf5 tx_Jx4a65c_size_8abf5 1 (i_gf X 4 2 4) := s_getfield hG (ci := 4) (r := (RJx4a65c, TJx4a65c, 3)) rfl cw_4 (k := 2) (Nat.le_of_ble_eq_true rfl) w_1209 rfl (Or.inl rfl) dJx4a65c_size_8abf5_1
theorem s_Jx4a65c_size_8abf5_4 {X : ev_E} {l : Launch} (hG : ev_Good X) (hl : l.stackTraces = false) : ev_Snd X l ev_ms x_Jx4a65c_size_8abf5 tx_Jx4a65c_size_8abf5 4 (i_ir (.int)) := s_ireturn rfl dJx4a65c_size_8abf5_4
theorem sa_Jx4a65c_size_8abf5 {X : ev_E} {l : Launch} (hG : ev_Good X) (hl : l.stackTraces = false) : ∀ q ∈ tb_Jx4a65c_size_8abf5 X, ev_Snd X l ev_ms x_Jx4a65c_size_8abf5 tx_Jx4a65c_size_8abf5 q.1 q.2 := by
  intro q hq
  unfold tb_Jx4a65c_size_8abf5 at hq
  simp only [List.mem_cons, List.not_mem_nil, or_false] at hq
  rcases hq with rfl | rfl | rfl
  · exact s_Jx4a65c_size_8abf5_0 hG hl
  · exact s_Jx4a65c_size_8abf5_1 hG hl
  · exact s_Jx4a65c_size_8abf5_4 hG hl
def tx_Jxa1e45_init_da8c8 : ev_X := fun _ _ => some none
noncomputable def tb_Jxa1e45_init_da8c8 (X : ev_E) : List (Nat × (ev_S → ev_N)) := [(0, i_al 0 1), (1, i_oi 4), (4, i_vr)]
theorem s_Jxa1e45_init_da8c8_0 {X : ev_E} {l : Launch} (hG : ev_Good X) (hl : l.stackTraces = false) : ev_Snd X l ev_ms x_Jxa1e45_init_da8c8 tx_Jxa1e45_init_da8c8 0 (i_al 0 1) := s_aload_n dJxa1e45_init_da8c8_0 rfl
theorem s_Jxa1e45_init_da8c8_1 {X : ev_E} {l : Launch} (hG : ev_Good X) (hl : l.stackTraces = false) : ev_Snd X l ev_ms x_Jxa1e45_init_da8c8 tx_Jxa1e45_init_da8c8 1 (i_oi 4) := s_objinit hG w_1203 w_88 w_89 dJxa1e45_init_da8c8_1
theorem s_Jxa1e45_init_da8c8_4 {X : ev_E} {l : Launch} (hG : ev_Good X) (hl : l.stackTraces = false) : ev_Snd X l ev_ms x_Jxa1e45_init_da8c8 tx_Jxa1e45_init_da8c8 4 (i_vr) := s_return rfl dJxa1e45_init_da8c8_4
theorem sa_Jxa1e45_init_da8c8 {X : ev_E} {l : Launch} (hG : ev_Good X) (hl : l.stackTraces = false) : ∀ q ∈ tb_Jxa1e45_init_da8c8 X, ev_Snd X l ev_ms x_Jxa1e45_init_da8c8 tx_Jxa1e45_init_da8c8 q.1 q.2 := by
  intro q hq
  unfold tb_Jxa1e45_init_da8c8 at hq
  simp only [List.mem_cons, List.not_mem_nil, or_false] at hq
  rcases hq with rfl | rfl | rfl
  · exact s_Jxa1e45_init_da8c8_0 hG hl
  · exact s_Jxa1e45_init_da8c8_1 hG hl
  · exact s_Jxa1e45_init_da8c8_4 hG hl
def tx_Jxd2413_init_da8c8 : ev_X := fun _ _ => some none
noncomputable def tb_Jxd2413_init_da8c8 (X : ev_E) : List (Nat × (ev_S → ev_N)) := [(0, i_al 0 1), (1, i_oi 4), (4, i_vr)]
theorem s_Jxd2413_init_da8c8_0 {X : ev_E} {l : Launch} (hG : ev_Good X) (hl : l.stackTraces = false) : ev_Snd X l ev_ms x_Jxd2413_init_da8c8 tx_Jxd2413_init_da8c8 0 (i_al 0 1) := s_aload_n dJxd2413_init_da8c8_0 rfl
theorem s_Jxd2413_init_da8c8_1 {X : ev_E} {l : Launch} (hG : ev_Good X) (hl : l.stackTraces = false) : ev_Snd X l ev_ms x_Jxd2413_init_da8c8 tx_Jxd2413_init_da8c8 1 (i_oi 4) := s_objinit hG w_1619 w_88 w_89 dJxd2413_init_da8c8_1
theorem s_Jxd2413_init_da8c8_4 {X : ev_E} {l : Launch} (hG : ev_Good X) (hl : l.stackTraces = false) : ev_Snd X l ev_ms x_Jxd2413_init_da8c8 tx_Jxd2413_init_da8c8 4 (i_vr) := s_return rfl dJxd2413_init_da8c8_4
theorem sa_Jxd2413_init_da8c8 {X : ev_E} {l : Launch} (hG : ev_Good X) (hl : l.stackTraces = false) : ∀ q ∈ tb_Jxd2413_init_da8c8 X, ev_Snd X l ev_ms x_Jxd2413_init_da8c8 tx_Jxd2413_init_da8c8 q.1 q.2 := by
  intro q hq
  unfold tb_Jxd2413_init_da8c8 at hq
  simp only [List.mem_cons, List.not_mem_nil, or_false] at hq
  rcases hq with rfl | rfl | rfl
  · exact s_Jxd2413_init_da8c8_0 hG hl
  · exact s_Jxd2413_init_da8c8_1 hG hl
  · exact s_Jxd2413_init_da8c8_4 hG hl
def tx_J0_checkBoundsBeginEnd_23922 : ev_X := fun _ _ => some none
noncomputable def tb_J0_checkBoundsBeginEnd_23922 (X : ev_E) : List (Nat × (ev_S → ev_N)) := [(0, i_il 0 1), (1, i_il 1 2), (2, i_il 2 3), (3, i_no), (6, i_cS 6 4 4 9), (9, i_pop 10), (10, i_vr)]
theorem s_J0_checkBoundsBeginEnd_23922_0 {X : ev_E} {l : Launch} (hG : ev_Good X) (hl : l.stackTraces = false) : ev_Snd X l ev_ms x_J0_checkBoundsBeginEnd_23922 tx_J0_checkBoundsBeginEnd_23922 0 (i_il 0 1) := s_iload_n dJ0_checkBoundsBeginEnd_23922_0 rfl
theorem s_J0_checkBoundsBeginEnd_23922_1 {X : ev_E} {l : Launch} (hG : ev_Good X) (hl : l.stackTraces = false) : ev_Snd X l ev_ms x_J0_checkBoundsBeginEnd_23922 tx_J0_checkBoundsBeginEnd_23922 1 (i_il 1 2) := s_iload_n dJ0_checkBoundsBeginEnd_23922_1 rfl
theorem s_J0_checkBoundsBeginEnd_23922_2 {X : ev_E} {l : Launch} (hG : ev_Good X) (hl : l.stackTraces = false) : ev_Snd X l ev_ms x_J0_checkBoundsBeginEnd_23922 tx_J0_checkBoundsBeginEnd_23922 2 (i_il 2 3) := s_iload_n dJ0_checkBoundsBeginEnd_23922_2 rfl
theorem s_J0_checkBoundsBeginEnd_23922_3 {X : ev_E} {l : Launch} (hG : ev_Good X) (hl : l.stackTraces = false) : ev_Snd X l ev_ms x_J0_checkBoundsBeginEnd_23922 tx_J0_checkBoundsBeginEnd_23922 3 (i_no) := s_no
theorem s_J0_checkBoundsBeginEnd_23922_6 {X : ev_E} {l : Launch} (hG : ev_Good X) (hl : l.stackTraces = false) : ev_Snd X l ev_ms x_J0_checkBoundsBeginEnd_23922 tx_J0_checkBoundsBeginEnd_23922 6 (i_cS 6 4 4 9) := s_invokestatic hG (mi := 6) (n := 4) (cal_J3_checkFromToIndex_8c36e (Nat.le_of_ble_eq_true rfl)) w_433 w_434 dJ0_checkBoundsBeginEnd_23922_6
theorem s_J0_checkBoundsBeginEnd_23922_9 {X : ev_E} {l : Launch} (hG : ev_Good X) (hl : l.stackTraces = false) : ev_Snd X l ev_ms x_J0_checkBoundsBeginEnd_23922 tx_J0_checkBoundsBeginEnd_23922 9 (i_pop 10) := s_pop dJ0_checkBoundsBeginEnd_23922_9
theorem s_J0_checkBoundsBeginEnd_23922_10 {X : ev_E} {l : Launch} (hG : ev_Good X) (hl : l.stackTraces = false) : ev_Snd X l ev_ms x_J0_checkBoundsBeginEnd_23922 tx_J0_checkBoundsBeginEnd_23922 10 (i_vr) := s_return rfl dJ0_checkBoundsBeginEnd_23922_10
theorem sa_J0_checkBoundsBeginEnd_23922 {X : ev_E} {l : Launch} (hG : ev_Good X) (hl : l.stackTraces = false) : ∀ q ∈ tb_J0_checkBoundsBeginEnd_23922 X, ev_Snd X l ev_ms x_J0_checkBoundsBeginEnd_23922 tx_J0_checkBoundsBeginEnd_23922 q.1 q.2 := by
  intro q hq
  unfold tb_J0_checkBoundsBeginEnd_23922 at hq
  simp only [List.mem_cons, List.not_mem_nil, or_false] at hq
  rcases hq with rfl | rfl | rfl | rfl | rfl | rfl | rfl
  · exact s_J0_checkBoundsBeginEnd_23922_0 hG hl
  · exact s_J0_checkBoundsBeginEnd_23922_1 hG hl
  · exact s_J0_checkBoundsBeginEnd_23922_2 hG hl
  · exact s_J0_checkBoundsBeginEnd_23922_3 hG hl
  · exact s_J0_checkBoundsBeginEnd_23922_6 hG hl
  · exact s_J0_checkBoundsBeginEnd_23922_9 hG hl
  · exact s_J0_checkBoundsBeginEnd_23922_10 hG hl
def tx_J0_checkBoundsOffCount_cabcc : ev_X := fun _ _ => some none
noncomputable def tb_J0_checkBoundsOffCount_cabcc (X : ev_E) : List (Nat × (ev_S → ev_N)) := [(0, i_il 0 1), (1, i_il 1 2), (2, i_il 2 3), (3, i_no), (6, i_cS 5 4 4 9), (9, i_ir (.int))]
theorem s_J0_checkBoundsOffCount_cabcc_0 {X : ev_E} {l : Launch} (hG : ev_Good X) (hl : l.stackTraces = false) : ev_Snd X l ev_ms x_J0_checkBoundsOffCount_cabcc tx_J0_checkBoundsOffCount_cabcc 0 (i_il 0 1) := s_iload_n dJ0_checkBoundsOffCount_cabcc_0 rfl
theorem s_J0_checkBoundsOffCount_cabcc_1 {X : ev_E} {l : Launch} (hG : ev_Good X) (hl : l.stackTraces = false) : ev_Snd X l ev_ms x_J0_checkBoundsOffCount_cabcc tx_J0_checkBoundsOffCount_cabcc 1 (i_il 1 2) := s_iload_n dJ0_checkBoundsOffCount_cabcc_1 rfl
theorem s_J0_checkBoundsOffCount_cabcc_2 {X : ev_E} {l : Launch} (hG : ev_Good X) (hl : l.stackTraces = false) : ev_Snd X l ev_ms x_J0_checkBoundsOffCount_cabcc tx_J0_checkBoundsOffCount_cabcc 2 (i_il 2 3) := s_iload_n dJ0_checkBoundsOffCount_cabcc_2 rfl
theorem s_J0_checkBoundsOffCount_cabcc_3 {X : ev_E} {l : Launch} (hG : ev_Good X) (hl : l.stackTraces = false) : ev_Snd X l ev_ms x_J0_checkBoundsOffCount_cabcc tx_J0_checkBoundsOffCount_cabcc 3 (i_no) := s_no
theorem s_J0_checkBoundsOffCount_cabcc_6 {X : ev_E} {l : Launch} (hG : ev_Good X) (hl : l.stackTraces = false) : ev_Snd X l ev_ms x_J0_checkBoundsOffCount_cabcc tx_J0_checkBoundsOffCount_cabcc 6 (i_cS 5 4 4 9) := s_invokestatic hG (mi := 5) (n := 4) (cal_J3_checkFromIndexSize_8c36e (Nat.le_of_ble_eq_true rfl)) w_383 w_384 dJ0_checkBoundsOffCount_cabcc_6
theorem s_J0_checkBoundsOffCount_cabcc_9 {X : ev_E} {l : Launch} (hG : ev_Good X) (hl : l.stackTraces = false) : ev_Snd X l ev_ms x_J0_checkBoundsOffCount_cabcc tx_J0_checkBoundsOffCount_cabcc 9 (i_ir (.int)) := s_ireturn rfl dJ0_checkBoundsOffCount_cabcc_9
theorem sa_J0_checkBoundsOffCount_cabcc {X : ev_E} {l : Launch} (hG : ev_Good X) (hl : l.stackTraces = false) : ∀ q ∈ tb_J0_checkBoundsOffCount_cabcc X, ev_Snd X l ev_ms x_J0_checkBoundsOffCount_cabcc tx_J0_checkBoundsOffCount_cabcc q.1 q.2 := by
  intro q hq
  unfold tb_J0_checkBoundsOffCount_cabcc at hq
  simp only [List.mem_cons, List.not_mem_nil, or_false] at hq
  rcases hq with rfl | rfl | rfl | rfl | rfl | rfl
  · exact s_J0_checkBoundsOffCount_cabcc_0 hG hl
  · exact s_J0_checkBoundsOffCount_cabcc_1 hG hl
  · exact s_J0_checkBoundsOffCount_cabcc_2 hG hl
  · exact s_J0_checkBoundsOffCount_cabcc_3 hG hl
  · exact s_J0_checkBoundsOffCount_cabcc_6 hG hl
  · exact s_J0_checkBoundsOffCount_cabcc_9 hG hl
def tx_J0_checkIndex_df160 : ev_X := fun _ _ => some none
noncomputable def tb_J0_checkIndex_df160 (X : ev_E) : List (Nat × (ev_S → ev_N)) := [(0, i_il 0 1), (1, i_il 1 2), (2, i_no), (5, i_cS 7 3 3 8), (8, i_pop 9), (9, i_vr)]
theorem s_J0_checkIndex_df160_0 {X : ev_E} {l : Launch} (hG : ev_Good X) (hl : l.stackTraces = false) : ev_Snd X l ev_ms x_J0_checkIndex_df160 tx_J0_checkIndex_df160 0 (i_il 0 1) := s_iload_n dJ0_checkIndex_df160_0 rfl
theorem s_J0_checkIndex_df160_1 {X : ev_E} {l : Launch} (hG : ev_Good X) (hl : l.stackTraces = false) : ev_Snd X l ev_ms x_J0_checkIndex_df160 tx_J0_checkIndex_df160 1 (i_il 1 2) := s_iload_n dJ0_checkIndex_df160_1 rfl
theorem s_J0_checkIndex_df160_2 {X : ev_E} {l : Launch} (hG : ev_Good X) (hl : l.stackTraces = false) : ev_Snd X l ev_ms x_J0_checkIndex_df160 tx_J0_checkIndex_df160 2 (i_no) := s_no
theorem s_J0_checkIndex_df160_5 {X : ev_E} {l : Launch} (hG : ev_Good X) (hl : l.stackTraces = false) : ev_Snd X l ev_ms x_J0_checkIndex_df160 tx_J0_checkIndex_df160 5 (i_cS 7 3 3 8) := s_invokestatic hG (mi := 7) (n := 3) (cal_J3_checkIndex_8e157 (Nat.le_of_ble_eq_true rfl)) w_404 w_405 dJ0_checkIndex_df160_5
theorem s_J0_checkIndex_df160_8 {X : ev_E} {l : Launch} (hG : ev_Good X) (hl : l.stackTraces = false) : ev_Snd X l ev_ms x_J0_checkIndex_df160 tx_J0_checkIndex_df160 8 (i_pop 9) := s_pop dJ0_checkIndex_df160_8
theorem s_J0_checkIndex_df160_9 {X : ev_E} {l : Launch} (hG : ev_Good X) (hl : l.stackTraces = false) : ev_Snd X l ev_ms x_J0_checkIndex_df160 tx_J0_checkIndex_df160 9 (i_vr) := s_return rfl dJ0_checkIndex_df160_9
theorem sa_J0_checkIndex_df160 {X : ev_E} {l : Launch} (hG : ev_Good X) (hl : l.stackTraces = false) : ∀ q ∈ tb_J0_checkIndex_df160 X, ev_Snd X l ev_ms x_J0_checkIndex_df160 tx_J0_checkIndex_df160 q.1 q.2 := by
  intro q hq
  unfold tb_J0_checkIndex_df160 at hq
  simp only [List.mem_cons, List.not_mem_nil, or_false] at hq
  rcases hq with rfl | rfl | rfl | rfl | rfl | rfl
  · exact s_J0_checkIndex_df160_0 hG hl
  · exact s_J0_checkIndex_df160_1 hG hl
  · exact s_J0_checkIndex_df160_2 hG hl
  · exact s_J0_checkIndex_df160_5 hG hl
  · exact s_J0_checkIndex_df160_8 hG hl
  · exact s_J0_checkIndex_df160_9 hG hl
def tx_J0_length_8abf5 : ev_X := fun _ _ => some none
noncomputable def tb_J0_length_8abf5 (X : ev_E) : List (Nat × (ev_S → ev_N)) := [(0, i_al 0 1), (1, i_gf X 0 0 4), (4, i_len X 5), (5, i_al 0 6), (6, i_cV X 0 0 0 1 9), (9, i_ii (fun a b => a >>> (b &&& 31)) 10), (10, i_ir (.int))]
theorem s_J0_length_8abf5_0 {X : ev_E} {l : Launch} (hG : ev_Good X) (hl : l.stackTraces = false) : ev_Snd X l ev_ms x_J0_length_8abf5 tx_J0_length_8abf5 0 (i_al 0 1) := s_aload_n dJ0_length_8abf5_0 rfl
theorem s_J0_length_8abf5_1 {X : ev_E} {l : Launch} (hG : ev_Good X) (hl : l.stackTraces = false) : ev_Snd X l ev_ms x_J0_length_8abf5 tx_J0_length_8abf5 1 (i_gf X 0 0 4) := s_getfield hG (ci := 0) (r := (RJ0, TJ0, 4)) rfl cw_0 (k := 0) (Nat.le_of_ble_eq_true rfl) w_599 rfl (Or.inl rfl) dJ0_length_8abf5_1
theorem s_J0_length_8abf5_4 {X : ev_E} {l : Launch} (hG : ev_Good X) (hl : l.stackTraces = false) : ev_Snd X l ev_ms x_J0_length_8abf5 tx_J0_length_8abf5 4 (i_len X 5) := s_arraylength hG dJ0_length_8abf5_4
theorem s_J0_length_8abf5_5 {X : ev_E} {l : Launch} (hG : ev_Good X) (hl : l.stackTraces = false) : ev_Snd X l ev_ms x_J0_length_8abf5 tx_J0_length_8abf5 5 (i_al 0 6) := s_aload_n dJ0_length_8abf5_5 rfl
theorem s_J0_length_8abf5_6 {X : ev_E} {l : Launch} (hG : ev_Good X) (hl : l.stackTraces = false) : ev_Snd X l ev_ms x_J0_length_8abf5 tx_J0_length_8abf5 6 (i_cV X 0 0 0 1 9) := s_invokevirtual hG (mi := 0) (n := 0) (ci := 0) (r := (RJ0, TJ0, 4)) rfl (cal_J0_coder_7d493 (Nat.le_of_ble_eq_true rfl)) w_540 w_541 w_542 dJ0_length_8abf5_6
theorem s_J0_length_8abf5_9 {X : ev_E} {l : Launch} (hG : ev_Good X) (hl : l.stackTraces = false) : ev_Snd X l ev_ms x_J0_length_8abf5 tx_J0_length_8abf5 9 (i_ii (fun a b => a >>> (b &&& 31)) 10) := s_ishr dJ0_length_8abf5_9
theorem s_J0_length_8abf5_10 {X : ev_E} {l : Launch} (hG : ev_Good X) (hl : l.stackTraces = false) : ev_Snd X l ev_ms x_J0_length_8abf5 tx_J0_length_8abf5 10 (i_ir (.int)) := s_ireturn rfl dJ0_length_8abf5_10
theorem sa_J0_length_8abf5 {X : ev_E} {l : Launch} (hG : ev_Good X) (hl : l.stackTraces = false) : ∀ q ∈ tb_J0_length_8abf5 X, ev_Snd X l ev_ms x_J0_length_8abf5 tx_J0_length_8abf5 q.1 q.2 := by
  intro q hq
  unfold tb_J0_length_8abf5 at hq
  simp only [List.mem_cons, List.not_mem_nil, or_false] at hq
  rcases hq with rfl | rfl | rfl | rfl | rfl | rfl | rfl
  · exact s_J0_length_8abf5_0 hG hl
  · exact s_J0_length_8abf5_1 hG hl
  · exact s_J0_length_8abf5_4 hG hl
  · exact s_J0_length_8abf5_5 hG hl
  · exact s_J0_length_8abf5_6 hG hl
  · exact s_J0_length_8abf5_9 hG hl
  · exact s_J0_length_8abf5_10 hG hl
def tx_J15_checkIndex_7cf53 : ev_X := fun _ _ => some none
noncomputable def tb_J15_checkIndex_7cf53 (X : ev_E) : List (Nat × (ev_S → ev_N)) := [(0, i_il 0 1), (1, i_il 1 2), (2, i_psh .null 3), (3, i_cS 7 3 3 6), (6, i_ir (.int))]
theorem s_J15_checkIndex_7cf53_0 {X : ev_E} {l : Launch} (hG : ev_Good X) (hl : l.stackTraces = false) : ev_Snd X l ev_ms x_J15_checkIndex_7cf53 tx_J15_checkIndex_7cf53 0 (i_il 0 1) := s_iload_n dJ15_checkIndex_7cf53_0 rfl
theorem s_J15_checkIndex_7cf53_1 {X : ev_E} {l : Launch} (hG : ev_Good X) (hl : l.stackTraces = false) : ev_Snd X l ev_ms x_J15_checkIndex_7cf53 tx_J15_checkIndex_7cf53 1 (i_il 1 2) := s_iload_n dJ15_checkIndex_7cf53_1 rfl
theorem s_J15_checkIndex_7cf53_2 {X : ev_E} {l : Launch} (hG : ev_Good X) (hl : l.stackTraces = false) : ev_Snd X l ev_ms x_J15_checkIndex_7cf53 tx_J15_checkIndex_7cf53 2 (i_psh .null 3) := s_null dJ15_checkIndex_7cf53_2
theorem s_J15_checkIndex_7cf53_3 {X : ev_E} {l : Launch} (hG : ev_Good X) (hl : l.stackTraces = false) : ev_Snd X l ev_ms x_J15_checkIndex_7cf53 tx_J15_checkIndex_7cf53 3 (i_cS 7 3 3 6) := s_invokestatic hG (mi := 7) (n := 3) (cal_J3_checkIndex_8e157 (Nat.le_of_ble_eq_true rfl)) w_1322 w_405 dJ15_checkIndex_7cf53_3
theorem s_J15_checkIndex_7cf53_6 {X : ev_E} {l : Launch} (hG : ev_Good X) (hl : l.stackTraces = false) : ev_Snd X l ev_ms x_J15_checkIndex_7cf53 tx_J15_checkIndex_7cf53 6 (i_ir (.int)) := s_ireturn rfl dJ15_checkIndex_7cf53_6
theorem sa_J15_checkIndex_7cf53 {X : ev_E} {l : Launch} (hG : ev_Good X) (hl : l.stackTraces = false) : ∀ q ∈ tb_J15_checkIndex_7cf53 X, ev_Snd X l ev_ms x_J15_checkIndex_7cf53 tx_J15_checkIndex_7cf53 q.1 q.2 := by
  intro q hq
  unfold tb_J15_checkIndex_7cf53 at hq
  simp only [List.mem_cons, List.not_mem_nil, or_false] at hq
  rcases hq with rfl | rfl | rfl | rfl | rfl
  · exact s_J15_checkIndex_7cf53_0 hG hl
  · exact s_J15_checkIndex_7cf53_1 hG hl
  · exact s_J15_checkIndex_7cf53_2 hG hl
  · exact s_J15_checkIndex_7cf53_3 hG hl
  · exact s_J15_checkIndex_7cf53_6 hG hl
def tx_J2_getChar_3b067 : ev_X := fun _ _ => some none
noncomputable def tb_J2_getChar_3b067 (X : ev_E) : List (Nat × (ev_S → ev_N)) := [(0, i_no), (3, i_ifne 28 6), (6, i_il 1 7), (7, i_iflt 18 10), (10, i_il 1 11), (11, i_al 0 12), (12, i_cS 3 1 1 15), (15, i_iclt 28 18), (18, i_no), (21, i_dup 22), (22, i_no), (24, i_no), (27, i_no), (28, i_il 1 29), (29, i_psh (.int (1)) 30), (30, i_ii (fun a b => a <<< (b &&& 31)) 31), (31, i_is 1 32), (32, i_al 0 33), (33, i_il 1 34), (34, i_inc 1 (1) 37), (37, i_ald X ev_tB 38), (38, i_psh (.int (255)) 41), (41, i_ii (fun a b => a &&& b) 42), (42, i_no), (45, i_ii (fun a b => a <<< (b &&& 31)) 46), (46, i_al 0 47), (47, i_il 1 48), (48, i_ald X ev_tB 49), (49, i_psh (.int (255)) 52), (52, i_ii (fun a b => a &&& b) 53), (53, i_no), (56, i_ii (fun a b => a <<< (b &&& 31)) 57), (57, i_ii (fun a b => a ||| b) 58), (58, i_i1 (fun a => (a.toUInt32 % 65536).toInt32) 59), (59, i_ir (.char))]
theorem s_J2_getChar_3b067_0 {X : ev_E} {l : Launch} (hG : ev_Good X) (hl : l.stackTraces = false) : ev_Snd X l ev_ms x_J2_getChar_3b067 tx_J2_getChar_3b067 0 (i_no) := s_no
theorem s_J2_getChar_3b067_3 {X : ev_E} {l : Launch} (hG : ev_Good X) (hl : l.stackTraces = false) : ev_Snd X l ev_ms x_J2_getChar_3b067 tx_J2_getChar_3b067 3 (i_ifne 28 6) := s_ifne dJ2_getChar_3b067_3 rfl
theorem s_J2_getChar_3b067_6 {X : ev_E} {l : Launch} (hG : ev_Good X) (hl : l.stackTraces = false) : ev_Snd X l ev_ms x_J2_getChar_3b067 tx_J2_getChar_3b067 6 (i_il 1 7) := s_iload_n dJ2_getChar_3b067_6 rfl
theorem s_J2_getChar_3b067_7 {X : ev_E} {l : Launch} (hG : ev_Good X) (hl : l.stackTraces = false) : ev_Snd X l ev_ms x_J2_getChar_3b067 tx_J2_getChar_3b067 7 (i_iflt 18 10) := s_iflt dJ2_getChar_3b067_7 rfl
theorem s_J2_getChar_3b067_10 {X : ev_E} {l : Launch} (hG : ev_Good X) (hl : l.stackTraces = false) : ev_Snd X l ev_ms x_J2_getChar_3b067 tx_J2_getChar_3b067 10 (i_il 1 11) := s_iload_n dJ2_getChar_3b067_10 rfl
theorem s_J2_getChar_3b067_11 {X : ev_E} {l : Launch} (hG : ev_Good X) (hl : l.stackTraces = false) : ev_Snd X l ev_ms x_J2_getChar_3b067 tx_J2_getChar_3b067 11 (i_al 0 12) := s_aload_n dJ2_getChar_3b067_11 rfl
theorem s_J2_getChar_3b067_12 {X : ev_E} {l : Launch} (hG : ev_Good X) (hl : l.stackTraces = false) : ev_Snd X l ev_ms x_J2_getChar_3b067 tx_J2_getChar_3b067 12 (i_cS 3 1 1 15) := s_invokestatic hG (mi := 3) (n := 1) (cal_J2_length_9d52b (Nat.le_of_ble_eq_true rfl)) w_375 w_376 dJ2_getChar_3b067_12
theorem s_J2_getChar_3b067_15 {X : ev_E} {l : Launch} (hG : ev_Good X) (hl : l.stackTraces = false) : ev_Snd X l ev_ms x_J2_getChar_3b067 tx_J2_getChar_3b067 15 (i_iclt 28 18) := s_iclt dJ2_getChar_3b067_15 rfl
theorem s_J2_getChar_3b067_18 {X : ev_E} {l : Launch} (hG : ev_Good X) (hl : l.stackTraces = false) : ev_Snd X l ev_ms x_J2_getChar_3b067 tx_J2_getChar_3b067 18 (i_no) := s_no
theorem s_J2_getChar_3b067_21 {X : ev_E} {l : Launch} (hG : ev_Good X) (hl : l.stackTraces = false) : ev_Snd X l ev_ms x_J2_getChar_3b067 tx_J2_getChar_3b067 21 (i_dup 22) := s_dup dJ2_getChar_3b067_21
theorem s_J2_getChar_3b067_22 {X : ev_E} {l : Launch} (hG : ev_Good X) (hl : l.stackTraces = false) : ev_Snd X l ev_ms x_J2_getChar_3b067 tx_J2_getChar_3b067 22 (i_no) := s_no
theorem s_J2_getChar_3b067_24 {X : ev_E} {l : Launch} (hG : ev_Good X) (hl : l.stackTraces = false) : ev_Snd X l ev_ms x_J2_getChar_3b067 tx_J2_getChar_3b067 24 (i_no) := s_no
theorem s_J2_getChar_3b067_27 {X : ev_E} {l : Launch} (hG : ev_Good X) (hl : l.stackTraces = false) : ev_Snd X l ev_ms x_J2_getChar_3b067 tx_J2_getChar_3b067 27 (i_no) := s_no
theorem s_J2_getChar_3b067_28 {X : ev_E} {l : Launch} (hG : ev_Good X) (hl : l.stackTraces = false) : ev_Snd X l ev_ms x_J2_getChar_3b067 tx_J2_getChar_3b067 28 (i_il 1 29) := s_iload_n dJ2_getChar_3b067_28 rfl
theorem s_J2_getChar_3b067_29 {X : ev_E} {l : Launch} (hG : ev_Good X) (hl : l.stackTraces = false) : ev_Snd X l ev_ms x_J2_getChar_3b067 tx_J2_getChar_3b067 29 (i_psh (.int (1)) 30) := s_iconst dJ2_getChar_3b067_29 rfl
theorem s_J2_getChar_3b067_30 {X : ev_E} {l : Launch} (hG : ev_Good X) (hl : l.stackTraces = false) : ev_Snd X l ev_ms x_J2_getChar_3b067 tx_J2_getChar_3b067 30 (i_ii (fun a b => a <<< (b &&& 31)) 31) := s_ishl dJ2_getChar_3b067_30
theorem s_J2_getChar_3b067_31 {X : ev_E} {l : Launch} (hG : ev_Good X) (hl : l.stackTraces = false) : ev_Snd X l ev_ms x_J2_getChar_3b067 tx_J2_getChar_3b067 31 (i_is 1 32) := s_istore_n dJ2_getChar_3b067_31 rfl (Nat.le_of_ble_eq_true rfl)
theorem s_J2_getChar_3b067_32 {X : ev_E} {l : Launch} (hG : ev_Good X) (hl : l.stackTraces = false) : ev_Snd X l ev_ms x_J2_getChar_3b067 tx_J2_getChar_3b067 32 (i_al 0 33) := s_aload_n dJ2_getChar_3b067_32 rfl
theorem s_J2_getChar_3b067_33 {X : ev_E} {l : Launch} (hG : ev_Good X) (hl : l.stackTraces = false) : ev_Snd X l ev_ms x_J2_getChar_3b067 tx_J2_getChar_3b067 33 (i_il 1 34) := s_iload_n dJ2_getChar_3b067_33 rfl
theorem s_J2_getChar_3b067_34 {X : ev_E} {l : Launch} (hG : ev_Good X) (hl : l.stackTraces = false) : ev_Snd X l ev_ms x_J2_getChar_3b067 tx_J2_getChar_3b067 34 (i_inc 1 (1) 37) := s_iinc dJ2_getChar_3b067_34 rfl (Nat.le_of_ble_eq_true rfl)
theorem s_J2_getChar_3b067_37 {X : ev_E} {l : Launch} (hG : ev_Good X) (hl : l.stackTraces = false) : ev_Snd X l ev_ms x_J2_getChar_3b067 tx_J2_getChar_3b067 37 (i_ald X ev_tB 38) := s_baload hG dJ2_getChar_3b067_37
theorem s_J2_getChar_3b067_38 {X : ev_E} {l : Launch} (hG : ev_Good X) (hl : l.stackTraces = false) : ev_Snd X l ev_ms x_J2_getChar_3b067 tx_J2_getChar_3b067 38 (i_psh (.int (255)) 41) := s_sipush dJ2_getChar_3b067_38 rfl
theorem s_J2_getChar_3b067_41 {X : ev_E} {l : Launch} (hG : ev_Good X) (hl : l.stackTraces = false) : ev_Snd X l ev_ms x_J2_getChar_3b067 tx_J2_getChar_3b067 41 (i_ii (fun a b => a &&& b) 42) := s_iand dJ2_getChar_3b067_41
theorem s_J2_getChar_3b067_42 {X : ev_E} {l : Launch} (hG : ev_Good X) (hl : l.stackTraces = false) : ev_Snd X l ev_ms x_J2_getChar_3b067 tx_J2_getChar_3b067 42 (i_no) := s_no
theorem s_J2_getChar_3b067_45 {X : ev_E} {l : Launch} (hG : ev_Good X) (hl : l.stackTraces = false) : ev_Snd X l ev_ms x_J2_getChar_3b067 tx_J2_getChar_3b067 45 (i_ii (fun a b => a <<< (b &&& 31)) 46) := s_ishl dJ2_getChar_3b067_45
theorem s_J2_getChar_3b067_46 {X : ev_E} {l : Launch} (hG : ev_Good X) (hl : l.stackTraces = false) : ev_Snd X l ev_ms x_J2_getChar_3b067 tx_J2_getChar_3b067 46 (i_al 0 47) := s_aload_n dJ2_getChar_3b067_46 rfl
theorem s_J2_getChar_3b067_47 {X : ev_E} {l : Launch} (hG : ev_Good X) (hl : l.stackTraces = false) : ev_Snd X l ev_ms x_J2_getChar_3b067 tx_J2_getChar_3b067 47 (i_il 1 48) := s_iload_n dJ2_getChar_3b067_47 rfl
theorem s_J2_getChar_3b067_48 {X : ev_E} {l : Launch} (hG : ev_Good X) (hl : l.stackTraces = false) : ev_Snd X l ev_ms x_J2_getChar_3b067 tx_J2_getChar_3b067 48 (i_ald X ev_tB 49) := s_baload hG dJ2_getChar_3b067_48
theorem s_J2_getChar_3b067_49 {X : ev_E} {l : Launch} (hG : ev_Good X) (hl : l.stackTraces = false) : ev_Snd X l ev_ms x_J2_getChar_3b067 tx_J2_getChar_3b067 49 (i_psh (.int (255)) 52) := s_sipush dJ2_getChar_3b067_49 rfl
theorem s_J2_getChar_3b067_52 {X : ev_E} {l : Launch} (hG : ev_Good X) (hl : l.stackTraces = false) : ev_Snd X l ev_ms x_J2_getChar_3b067 tx_J2_getChar_3b067 52 (i_ii (fun a b => a &&& b) 53) := s_iand dJ2_getChar_3b067_52
theorem s_J2_getChar_3b067_53 {X : ev_E} {l : Launch} (hG : ev_Good X) (hl : l.stackTraces = false) : ev_Snd X l ev_ms x_J2_getChar_3b067 tx_J2_getChar_3b067 53 (i_no) := s_no
theorem s_J2_getChar_3b067_56 {X : ev_E} {l : Launch} (hG : ev_Good X) (hl : l.stackTraces = false) : ev_Snd X l ev_ms x_J2_getChar_3b067 tx_J2_getChar_3b067 56 (i_ii (fun a b => a <<< (b &&& 31)) 57) := s_ishl dJ2_getChar_3b067_56
theorem s_J2_getChar_3b067_57 {X : ev_E} {l : Launch} (hG : ev_Good X) (hl : l.stackTraces = false) : ev_Snd X l ev_ms x_J2_getChar_3b067 tx_J2_getChar_3b067 57 (i_ii (fun a b => a ||| b) 58) := s_ior dJ2_getChar_3b067_57
theorem s_J2_getChar_3b067_58 {X : ev_E} {l : Launch} (hG : ev_Good X) (hl : l.stackTraces = false) : ev_Snd X l ev_ms x_J2_getChar_3b067 tx_J2_getChar_3b067 58 (i_i1 (fun a => (a.toUInt32 % 65536).toInt32) 59) := s_i2c dJ2_getChar_3b067_58
theorem s_J2_getChar_3b067_59 {X : ev_E} {l : Launch} (hG : ev_Good X) (hl : l.stackTraces = false) : ev_Snd X l ev_ms x_J2_getChar_3b067 tx_J2_getChar_3b067 59 (i_ir (.char)) := s_ireturn rfl dJ2_getChar_3b067_59
theorem sa_J2_getChar_3b067 {X : ev_E} {l : Launch} (hG : ev_Good X) (hl : l.stackTraces = false) : ∀ q ∈ tb_J2_getChar_3b067 X, ev_Snd X l ev_ms x_J2_getChar_3b067 tx_J2_getChar_3b067 q.1 q.2 := by
  intro q hq
  unfold tb_J2_getChar_3b067 at hq
  simp only [List.mem_cons, List.not_mem_nil, or_false] at hq
  rcases hq with rfl | rfl | rfl | rfl | rfl | rfl | rfl | rfl | rfl | rfl | rfl | rfl | rfl | rfl | rfl | rfl | rfl | rfl | rfl | rfl | rfl | rfl | rfl | rfl | rfl | rfl | rfl | rfl | rfl | rfl | rfl | rfl | rfl | rfl | rfl
  · exact s_J2_getChar_3b067_0 hG hl
  · exact s_J2_getChar_3b067_3 hG hl
  · exact s_J2_getChar_3b067_6 hG hl
  · exact s_J2_getChar_3b067_7 hG hl
  · exact s_J2_getChar_3b067_10 hG hl
  · exact s_J2_getChar_3b067_11 hG hl
  · exact s_J2_getChar_3b067_12 hG hl
  · exact s_J2_getChar_3b067_15 hG hl
  · exact s_J2_getChar_3b067_18 hG hl
  · exact s_J2_getChar_3b067_21 hG hl
  · exact s_J2_getChar_3b067_22 hG hl
  · exact s_J2_getChar_3b067_24 hG hl
  · exact s_J2_getChar_3b067_27 hG hl
  · exact s_J2_getChar_3b067_28 hG hl
  · exact s_J2_getChar_3b067_29 hG hl
  · exact s_J2_getChar_3b067_30 hG hl
  · exact s_J2_getChar_3b067_31 hG hl
  · exact s_J2_getChar_3b067_32 hG hl
  · exact s_J2_getChar_3b067_33 hG hl
  · exact s_J2_getChar_3b067_34 hG hl
  · exact s_J2_getChar_3b067_37 hG hl
  · exact s_J2_getChar_3b067_38 hG hl
  · exact s_J2_getChar_3b067_41 hG hl
  · exact s_J2_getChar_3b067_42 hG hl
  · exact s_J2_getChar_3b067_45 hG hl
  · exact s_J2_getChar_3b067_46 hG hl
  · exact s_J2_getChar_3b067_47 hG hl
  · exact s_J2_getChar_3b067_48 hG hl
  · exact s_J2_getChar_3b067_49 hG hl
  · exact s_J2_getChar_3b067_52 hG hl
  · exact s_J2_getChar_3b067_53 hG hl
  · exact s_J2_getChar_3b067_56 hG hl
  · exact s_J2_getChar_3b067_57 hG hl
  · exact s_J2_getChar_3b067_58 hG hl
  · exact s_J2_getChar_3b067_59 hG hl
def tx_J2_newBytesFor_77867 : ev_X := fun _ _ => some none
noncomputable def tb_J2_newBytesFor_77867 (X : ev_E) : List (Nat × (ev_S → ev_N)) := [(0, i_il 0 1), (1, i_cS 4 1 1 4), (4, i_na 1 (.int 0) 6), (6, i_ar)]
theorem s_J2_newBytesFor_77867_0 {X : ev_E} {l : Launch} (hG : ev_Good X) (hl : l.stackTraces = false) : ev_Snd X l ev_ms x_J2_newBytesFor_77867 tx_J2_newBytesFor_77867 0 (i_il 0 1) := s_iload_n dJ2_newBytesFor_77867_0 rfl
theorem s_J2_newBytesFor_77867_1 {X : ev_E} {l : Launch} (hG : ev_Good X) (hl : l.stackTraces = false) : ev_Snd X l ev_ms x_J2_newBytesFor_77867 tx_J2_newBytesFor_77867 1 (i_cS 4 1 1 4) := s_invokestatic hG (mi := 4) (n := 1) (cal_J2_newBytesLength_0f7a4 (Nat.le_of_ble_eq_true rfl)) w_294 w_295 dJ2_newBytesFor_77867_1
theorem s_J2_newBytesFor_77867_4 {X : ev_E} {l : Launch} (hG : ev_Good X) (hl : l.stackTraces = false) : ev_Snd X l ev_ms x_J2_newBytesFor_77867 tx_J2_newBytesFor_77867 4 (i_na 1 (.int 0) 6) := s_newarray hG (kd := 1) (at' := .byte) (Nat.le_of_ble_eq_true rfl) rfl (by decide) rfl dJ2_newBytesFor_77867_4 w_311
theorem s_J2_newBytesFor_77867_6 {X : ev_E} {l : Launch} (hG : ev_Good X) (hl : l.stackTraces = false) : ev_Snd X l ev_ms x_J2_newBytesFor_77867 tx_J2_newBytesFor_77867 6 (i_ar) := s_areturn (rt := (.array .byte)) rfl (by first | exact Or.inl ⟨_, rfl⟩ | exact Or.inr ⟨_, rfl⟩) dJ2_newBytesFor_77867_6
theorem sa_J2_newBytesFor_77867 {X : ev_E} {l : Launch} (hG : ev_Good X) (hl : l.stackTraces = false) : ∀ q ∈ tb_J2_newBytesFor_77867 X, ev_Snd X l ev_ms x_J2_newBytesFor_77867 tx_J2_newBytesFor_77867 q.1 q.2 := by
  intro q hq
  unfold tb_J2_newBytesFor_77867 at hq
  simp only [List.mem_cons, List.not_mem_nil, or_false] at hq
  rcases hq with rfl | rfl | rfl | rfl
  · exact s_J2_newBytesFor_77867_0 hG hl
  · exact s_J2_newBytesFor_77867_1 hG hl
  · exact s_J2_newBytesFor_77867_4 hG hl
  · exact s_J2_newBytesFor_77867_6 hG hl
def tx_J2_putChar_b72d1 : ev_X := fun _ _ => some none
noncomputable def tb_J2_putChar_b72d1 (X : ev_E) : List (Nat × (ev_S → ev_N)) := [(0, i_no), (3, i_ifne 28 6), (6, i_il 1 7), (7, i_iflt 18 10), (10, i_il 1 11), (11, i_al 0 12), (12, i_cS 3 1 1 15), (15, i_iclt 28 18), (18, i_no), (21, i_dup 22), (22, i_no), (24, i_no), (27, i_no), (28, i_il 1 29), (29, i_psh (.int (1)) 30), (30, i_ii (fun a b => a <<< (b &&& 31)) 31), (31, i_is 1 32), (32, i_al 0 33), (33, i_il 1 34), (34, i_inc 1 (1) 37), (37, i_il 2 38), (38, i_no), (41, i_ii (fun a b => a >>> (b &&& 31)) 42), (42, i_i1 (fun a => a.toInt8.toInt32) 43), (43, i_ast ev_tB (vp_nar .byte) 44), (44, i_al 0 45), (45, i_il 1 46), (46, i_il 2 47), (47, i_no), (50, i_ii (fun a b => a >>> (b &&& 31)) 51), (51, i_i1 (fun a => a.toInt8.toInt32) 52), (52, i_ast ev_tB (vp_nar .byte) 53), (53, i_vr)]
theorem s_J2_putChar_b72d1_0 {X : ev_E} {l : Launch} (hG : ev_Good X) (hl : l.stackTraces = false) : ev_Snd X l ev_ms x_J2_putChar_b72d1 tx_J2_putChar_b72d1 0 (i_no) := s_no
theorem s_J2_putChar_b72d1_3 {X : ev_E} {l : Launch} (hG : ev_Good X) (hl : l.stackTraces = false) : ev_Snd X l ev_ms x_J2_putChar_b72d1 tx_J2_putChar_b72d1 3 (i_ifne 28 6) := s_ifne dJ2_putChar_b72d1_3 rfl
theorem s_J2_putChar_b72d1_6 {X : ev_E} {l : Launch} (hG : ev_Good X) (hl : l.stackTraces = false) : ev_Snd X l ev_ms x_J2_putChar_b72d1 tx_J2_putChar_b72d1 6 (i_il 1 7) := s_iload_n dJ2_putChar_b72d1_6 rfl
theorem s_J2_putChar_b72d1_7 {X : ev_E} {l : Launch} (hG : ev_Good X) (hl : l.stackTraces = false) : ev_Snd X l ev_ms x_J2_putChar_b72d1 tx_J2_putChar_b72d1 7 (i_iflt 18 10) := s_iflt dJ2_putChar_b72d1_7 rfl
theorem s_J2_putChar_b72d1_10 {X : ev_E} {l : Launch} (hG : ev_Good X) (hl : l.stackTraces = false) : ev_Snd X l ev_ms x_J2_putChar_b72d1 tx_J2_putChar_b72d1 10 (i_il 1 11) := s_iload_n dJ2_putChar_b72d1_10 rfl
theorem s_J2_putChar_b72d1_11 {X : ev_E} {l : Launch} (hG : ev_Good X) (hl : l.stackTraces = false) : ev_Snd X l ev_ms x_J2_putChar_b72d1 tx_J2_putChar_b72d1 11 (i_al 0 12) := s_aload_n dJ2_putChar_b72d1_11 rfl
theorem s_J2_putChar_b72d1_12 {X : ev_E} {l : Launch} (hG : ev_Good X) (hl : l.stackTraces = false) : ev_Snd X l ev_ms x_J2_putChar_b72d1 tx_J2_putChar_b72d1 12 (i_cS 3 1 1 15) := s_invokestatic hG (mi := 3) (n := 1) (cal_J2_length_9d52b (Nat.le_of_ble_eq_true rfl)) w_375 w_376 dJ2_putChar_b72d1_12
theorem s_J2_putChar_b72d1_15 {X : ev_E} {l : Launch} (hG : ev_Good X) (hl : l.stackTraces = false) : ev_Snd X l ev_ms x_J2_putChar_b72d1 tx_J2_putChar_b72d1 15 (i_iclt 28 18) := s_iclt dJ2_putChar_b72d1_15 rfl
theorem s_J2_putChar_b72d1_18 {X : ev_E} {l : Launch} (hG : ev_Good X) (hl : l.stackTraces = false) : ev_Snd X l ev_ms x_J2_putChar_b72d1 tx_J2_putChar_b72d1 18 (i_no) := s_no
theorem s_J2_putChar_b72d1_21 {X : ev_E} {l : Launch} (hG : ev_Good X) (hl : l.stackTraces = false) : ev_Snd X l ev_ms x_J2_putChar_b72d1 tx_J2_putChar_b72d1 21 (i_dup 22) := s_dup dJ2_putChar_b72d1_21
theorem s_J2_putChar_b72d1_22 {X : ev_E} {l : Launch} (hG : ev_Good X) (hl : l.stackTraces = false) : ev_Snd X l ev_ms x_J2_putChar_b72d1 tx_J2_putChar_b72d1 22 (i_no) := s_no
theorem s_J2_putChar_b72d1_24 {X : ev_E} {l : Launch} (hG : ev_Good X) (hl : l.stackTraces = false) : ev_Snd X l ev_ms x_J2_putChar_b72d1 tx_J2_putChar_b72d1 24 (i_no) := s_no
theorem s_J2_putChar_b72d1_27 {X : ev_E} {l : Launch} (hG : ev_Good X) (hl : l.stackTraces = false) : ev_Snd X l ev_ms x_J2_putChar_b72d1 tx_J2_putChar_b72d1 27 (i_no) := s_no
theorem s_J2_putChar_b72d1_28 {X : ev_E} {l : Launch} (hG : ev_Good X) (hl : l.stackTraces = false) : ev_Snd X l ev_ms x_J2_putChar_b72d1 tx_J2_putChar_b72d1 28 (i_il 1 29) := s_iload_n dJ2_putChar_b72d1_28 rfl
theorem s_J2_putChar_b72d1_29 {X : ev_E} {l : Launch} (hG : ev_Good X) (hl : l.stackTraces = false) : ev_Snd X l ev_ms x_J2_putChar_b72d1 tx_J2_putChar_b72d1 29 (i_psh (.int (1)) 30) := s_iconst dJ2_putChar_b72d1_29 rfl
theorem s_J2_putChar_b72d1_30 {X : ev_E} {l : Launch} (hG : ev_Good X) (hl : l.stackTraces = false) : ev_Snd X l ev_ms x_J2_putChar_b72d1 tx_J2_putChar_b72d1 30 (i_ii (fun a b => a <<< (b &&& 31)) 31) := s_ishl dJ2_putChar_b72d1_30
theorem s_J2_putChar_b72d1_31 {X : ev_E} {l : Launch} (hG : ev_Good X) (hl : l.stackTraces = false) : ev_Snd X l ev_ms x_J2_putChar_b72d1 tx_J2_putChar_b72d1 31 (i_is 1 32) := s_istore_n dJ2_putChar_b72d1_31 rfl (Nat.le_of_ble_eq_true rfl)
theorem s_J2_putChar_b72d1_32 {X : ev_E} {l : Launch} (hG : ev_Good X) (hl : l.stackTraces = false) : ev_Snd X l ev_ms x_J2_putChar_b72d1 tx_J2_putChar_b72d1 32 (i_al 0 33) := s_aload_n dJ2_putChar_b72d1_32 rfl
theorem s_J2_putChar_b72d1_33 {X : ev_E} {l : Launch} (hG : ev_Good X) (hl : l.stackTraces = false) : ev_Snd X l ev_ms x_J2_putChar_b72d1 tx_J2_putChar_b72d1 33 (i_il 1 34) := s_iload_n dJ2_putChar_b72d1_33 rfl
theorem s_J2_putChar_b72d1_34 {X : ev_E} {l : Launch} (hG : ev_Good X) (hl : l.stackTraces = false) : ev_Snd X l ev_ms x_J2_putChar_b72d1 tx_J2_putChar_b72d1 34 (i_inc 1 (1) 37) := s_iinc dJ2_putChar_b72d1_34 rfl (Nat.le_of_ble_eq_true rfl)
theorem s_J2_putChar_b72d1_37 {X : ev_E} {l : Launch} (hG : ev_Good X) (hl : l.stackTraces = false) : ev_Snd X l ev_ms x_J2_putChar_b72d1 tx_J2_putChar_b72d1 37 (i_il 2 38) := s_iload_n dJ2_putChar_b72d1_37 rfl
theorem s_J2_putChar_b72d1_38 {X : ev_E} {l : Launch} (hG : ev_Good X) (hl : l.stackTraces = false) : ev_Snd X l ev_ms x_J2_putChar_b72d1 tx_J2_putChar_b72d1 38 (i_no) := s_no
theorem s_J2_putChar_b72d1_41 {X : ev_E} {l : Launch} (hG : ev_Good X) (hl : l.stackTraces = false) : ev_Snd X l ev_ms x_J2_putChar_b72d1 tx_J2_putChar_b72d1 41 (i_ii (fun a b => a >>> (b &&& 31)) 42) := s_ishr dJ2_putChar_b72d1_41
theorem s_J2_putChar_b72d1_42 {X : ev_E} {l : Launch} (hG : ev_Good X) (hl : l.stackTraces = false) : ev_Snd X l ev_ms x_J2_putChar_b72d1 tx_J2_putChar_b72d1 42 (i_i1 (fun a => a.toInt8.toInt32) 43) := s_i2b dJ2_putChar_b72d1_42
theorem s_J2_putChar_b72d1_43 {X : ev_E} {l : Launch} (hG : ev_Good X) (hl : l.stackTraces = false) : ev_Snd X l ev_ms x_J2_putChar_b72d1 tx_J2_putChar_b72d1 43 (i_ast ev_tB (vp_nar .byte) 44) := s_bastore hG dJ2_putChar_b72d1_43
theorem s_J2_putChar_b72d1_44 {X : ev_E} {l : Launch} (hG : ev_Good X) (hl : l.stackTraces = false) : ev_Snd X l ev_ms x_J2_putChar_b72d1 tx_J2_putChar_b72d1 44 (i_al 0 45) := s_aload_n dJ2_putChar_b72d1_44 rfl
theorem s_J2_putChar_b72d1_45 {X : ev_E} {l : Launch} (hG : ev_Good X) (hl : l.stackTraces = false) : ev_Snd X l ev_ms x_J2_putChar_b72d1 tx_J2_putChar_b72d1 45 (i_il 1 46) := s_iload_n dJ2_putChar_b72d1_45 rfl
theorem s_J2_putChar_b72d1_46 {X : ev_E} {l : Launch} (hG : ev_Good X) (hl : l.stackTraces = false) : ev_Snd X l ev_ms x_J2_putChar_b72d1 tx_J2_putChar_b72d1 46 (i_il 2 47) := s_iload_n dJ2_putChar_b72d1_46 rfl
theorem s_J2_putChar_b72d1_47 {X : ev_E} {l : Launch} (hG : ev_Good X) (hl : l.stackTraces = false) : ev_Snd X l ev_ms x_J2_putChar_b72d1 tx_J2_putChar_b72d1 47 (i_no) := s_no
theorem s_J2_putChar_b72d1_50 {X : ev_E} {l : Launch} (hG : ev_Good X) (hl : l.stackTraces = false) : ev_Snd X l ev_ms x_J2_putChar_b72d1 tx_J2_putChar_b72d1 50 (i_ii (fun a b => a >>> (b &&& 31)) 51) := s_ishr dJ2_putChar_b72d1_50
theorem s_J2_putChar_b72d1_51 {X : ev_E} {l : Launch} (hG : ev_Good X) (hl : l.stackTraces = false) : ev_Snd X l ev_ms x_J2_putChar_b72d1 tx_J2_putChar_b72d1 51 (i_i1 (fun a => a.toInt8.toInt32) 52) := s_i2b dJ2_putChar_b72d1_51
theorem s_J2_putChar_b72d1_52 {X : ev_E} {l : Launch} (hG : ev_Good X) (hl : l.stackTraces = false) : ev_Snd X l ev_ms x_J2_putChar_b72d1 tx_J2_putChar_b72d1 52 (i_ast ev_tB (vp_nar .byte) 53) := s_bastore hG dJ2_putChar_b72d1_52
theorem s_J2_putChar_b72d1_53 {X : ev_E} {l : Launch} (hG : ev_Good X) (hl : l.stackTraces = false) : ev_Snd X l ev_ms x_J2_putChar_b72d1 tx_J2_putChar_b72d1 53 (i_vr) := s_return rfl dJ2_putChar_b72d1_53
theorem sa_J2_putChar_b72d1 {X : ev_E} {l : Launch} (hG : ev_Good X) (hl : l.stackTraces = false) : ∀ q ∈ tb_J2_putChar_b72d1 X, ev_Snd X l ev_ms x_J2_putChar_b72d1 tx_J2_putChar_b72d1 q.1 q.2 := by
  intro q hq
  unfold tb_J2_putChar_b72d1 at hq
  simp only [List.mem_cons, List.not_mem_nil, or_false] at hq
  rcases hq with rfl | rfl | rfl | rfl | rfl | rfl | rfl | rfl | rfl | rfl | rfl | rfl | rfl | rfl | rfl | rfl | rfl | rfl | rfl | rfl | rfl | rfl | rfl | rfl | rfl | rfl | rfl | rfl | rfl | rfl | rfl | rfl | rfl
  · exact s_J2_putChar_b72d1_0 hG hl
  · exact s_J2_putChar_b72d1_3 hG hl
  · exact s_J2_putChar_b72d1_6 hG hl
  · exact s_J2_putChar_b72d1_7 hG hl
  · exact s_J2_putChar_b72d1_10 hG hl
  · exact s_J2_putChar_b72d1_11 hG hl
  · exact s_J2_putChar_b72d1_12 hG hl
  · exact s_J2_putChar_b72d1_15 hG hl
  · exact s_J2_putChar_b72d1_18 hG hl
  · exact s_J2_putChar_b72d1_21 hG hl
  · exact s_J2_putChar_b72d1_22 hG hl
  · exact s_J2_putChar_b72d1_24 hG hl
  · exact s_J2_putChar_b72d1_27 hG hl
  · exact s_J2_putChar_b72d1_28 hG hl
  · exact s_J2_putChar_b72d1_29 hG hl
  · exact s_J2_putChar_b72d1_30 hG hl
  · exact s_J2_putChar_b72d1_31 hG hl
  · exact s_J2_putChar_b72d1_32 hG hl
  · exact s_J2_putChar_b72d1_33 hG hl
  · exact s_J2_putChar_b72d1_34 hG hl
  · exact s_J2_putChar_b72d1_37 hG hl
  · exact s_J2_putChar_b72d1_38 hG hl
  · exact s_J2_putChar_b72d1_41 hG hl
  · exact s_J2_putChar_b72d1_42 hG hl
  · exact s_J2_putChar_b72d1_43 hG hl
  · exact s_J2_putChar_b72d1_44 hG hl
  · exact s_J2_putChar_b72d1_45 hG hl
  · exact s_J2_putChar_b72d1_46 hG hl
  · exact s_J2_putChar_b72d1_47 hG hl
  · exact s_J2_putChar_b72d1_50 hG hl
  · exact s_J2_putChar_b72d1_51 hG hl
  · exact s_J2_putChar_b72d1_52 hG hl
  · exact s_J2_putChar_b72d1_53 hG hl
def tx_J4_length_8abf5 : ev_X := fun pc _ => bif List.elem pc [1] then none else some none
noncomputable def tb_J4_length_8abf5 (X : ev_E) : List (Nat × (ev_S → ev_N)) := [(0, i_al 0 1), (1, i_cV X 10 0 1 1 4), (4, i_ir (.int))]
theorem s_J4_length_8abf5_0 {X : ev_E} {l : Launch} (hG : ev_Good X) (hl : l.stackTraces = false) : ev_Snd X l ev_ms x_J4_length_8abf5 tx_J4_length_8abf5 0 (i_al 0 1) := s_aload_n dJ4_length_8abf5_0 rfl
theorem s_J4_length_8abf5_1 {X : ev_E} {l : Launch} (hG : ev_Good X) (hl : l.stackTraces = false) : ev_Snd X l ev_ms x_J4_length_8abf5 tx_J4_length_8abf5 1 (i_cV X 10 0 1 1 4) := s_super hG (mi := 10) (n := 0) (ci := 1) (r := (RJ4, TJ4, 4)) rfl (cal_J5_length_8abf5 (Nat.le_of_ble_eq_true rfl)) w_465 w_461 rfl w_310 w_460 (by decide +kernel) (fun _ => rfl) dJ4_length_8abf5_1
theorem s_J4_length_8abf5_4 {X : ev_E} {l : Launch} (hG : ev_Good X) (hl : l.stackTraces = false) : ev_Snd X l ev_ms x_J4_length_8abf5 tx_J4_length_8abf5 4 (i_ir (.int)) := s_ireturn rfl dJ4_length_8abf5_4
theorem sa_J4_length_8abf5 {X : ev_E} {l : Launch} (hG : ev_Good X) (hl : l.stackTraces = false) : ∀ q ∈ tb_J4_length_8abf5 X, ev_Snd X l ev_ms x_J4_length_8abf5 tx_J4_length_8abf5 q.1 q.2 := by
  intro q hq
  unfold tb_J4_length_8abf5 at hq
  simp only [List.mem_cons, List.not_mem_nil, or_false] at hq
  rcases hq with rfl | rfl | rfl
  · exact s_J4_length_8abf5_0 hG hl
  · exact s_J4_length_8abf5_1 hG hl
  · exact s_J4_length_8abf5_4 hG hl
def tx_J6_init_d00df : ev_X := fun pc _ => bif List.elem pc [1] then none else some none
noncomputable def tb_J6_init_d00df (X : ev_E) : List (Nat × (ev_S → ev_N)) := [(0, i_al 0 1), (1, i_cI 26 0 1 4), (4, i_al 0 5), (5, i_il 1 6), (6, i_pf 2 0 (.int) 9), (9, i_vr)]
theorem s_J6_init_d00df_0 {X : ev_E} {l : Launch} (hG : ev_Good X) (hl : l.stackTraces = false) : ev_Snd X l ev_ms x_J6_init_d00df tx_J6_init_d00df 0 (i_al 0 1) := s_aload_n dJ6_init_d00df_0 rfl
theorem s_J6_init_d00df_1 {X : ev_E} {l : Launch} (hG : ev_Good X) (hl : l.stackTraces = false) : ev_Snd X l ev_ms x_J6_init_d00df tx_J6_init_d00df 1 (i_cI 26 0 1 4) := s_invokeinit hG (mi := 26) (n := 0) (cal_Jxd2413_init_da8c8 (Nat.le_of_ble_eq_true rfl)) rfl w_1616 w_1617 rfl (fun _ => rfl) dJ6_init_d00df_1
theorem s_J6_init_d00df_4 {X : ev_E} {l : Launch} (hG : ev_Good X) (hl : l.stackTraces = false) : ev_Snd X l ev_ms x_J6_init_d00df tx_J6_init_d00df 4 (i_al 0 5) := s_aload_n dJ6_init_d00df_4 rfl
theorem s_J6_init_d00df_5 {X : ev_E} {l : Launch} (hG : ev_Good X) (hl : l.stackTraces = false) : ev_Snd X l ev_ms x_J6_init_d00df tx_J6_init_d00df 5 (i_il 1 6) := s_iload_n dJ6_init_d00df_5 rfl
theorem s_J6_init_d00df_6 {X : ev_E} {l : Launch} (hG : ev_Good X) (hl : l.stackTraces = false) : ev_Snd X l ev_ms x_J6_init_d00df tx_J6_init_d00df 6 (i_pf 2 0 (.int) 9) := s_putfieldF hG (ci := 2) (r := (RJ6, TJ6, 1)) rfl cw_2 ap_2 (k := 0) (Nat.le_of_ble_eq_true rfl) rfl rfl rfl (by decide +kernel) w_1620 rfl dJ6_init_d00df_6
theorem s_J6_init_d00df_9 {X : ev_E} {l : Launch} (hG : ev_Good X) (hl : l.stackTraces = false) : ev_Snd X l ev_ms x_J6_init_d00df tx_J6_init_d00df 9 (i_vr) := s_return rfl dJ6_init_d00df_9
theorem sa_J6_init_d00df {X : ev_E} {l : Launch} (hG : ev_Good X) (hl : l.stackTraces = false) : ∀ q ∈ tb_J6_init_d00df X, ev_Snd X l ev_ms x_J6_init_d00df tx_J6_init_d00df q.1 q.2 := by
  intro q hq
  unfold tb_J6_init_d00df at hq
  simp only [List.mem_cons, List.not_mem_nil, or_false] at hq
  rcases hq with rfl | rfl | rfl | rfl | rfl | rfl
  · exact s_J6_init_d00df_0 hG hl
  · exact s_J6_init_d00df_1 hG hl
  · exact s_J6_init_d00df_4 hG hl
  · exact s_J6_init_d00df_5 hG hl
  · exact s_J6_init_d00df_6 hG hl
  · exact s_J6_init_d00df_9 hG hl
def tx_J7_copyOfRangeByte_39247 : ev_X := fun _ _ => some none
noncomputable def tb_J7_copyOfRangeByte_39247 (X : ev_E) : List (Nat × (ev_S → ev_N)) := [(0, i_il 1 1), (1, i_il 2 2), (2, i_cS 14 2 2 5), (5, i_il 2 6), (6, i_il 1 7), (7, i_ii (fun a b => a - b) 8), (8, i_is 3 9), (9, i_il 3 10), (10, i_na 1 (.int 0) 12), (12, i_as 4 14), (14, i_al 0 15), (15, i_il 1 16), (16, i_al 4 18), (18, i_psh (.int (0)) 19), (19, i_al 0 20), (20, i_len X 21), (21, i_il 1 22), (22, i_ii (fun a b => a - b) 23), (23, i_il 3 24), (24, i_cS 17 2 2 27), (27, i_cpy X false 30), (30, i_al 4 32), (32, i_ar)]
theorem s_J7_copyOfRangeByte_39247_0 {X : ev_E} {l : Launch} (hG : ev_Good X) (hl : l.stackTraces = false) : ev_Snd X l ev_ms x_J7_copyOfRangeByte_39247 tx_J7_copyOfRangeByte_39247 0 (i_il 1 1) := s_iload_n dJ7_copyOfRangeByte_39247_0 rfl
theorem s_J7_copyOfRangeByte_39247_1 {X : ev_E} {l : Launch} (hG : ev_Good X) (hl : l.stackTraces = false) : ev_Snd X l ev_ms x_J7_copyOfRangeByte_39247 tx_J7_copyOfRangeByte_39247 1 (i_il 2 2) := s_iload_n dJ7_copyOfRangeByte_39247_1 rfl
theorem s_J7_copyOfRangeByte_39247_2 {X : ev_E} {l : Launch} (hG : ev_Good X) (hl : l.stackTraces = false) : ev_Snd X l ev_ms x_J7_copyOfRangeByte_39247 tx_J7_copyOfRangeByte_39247 2 (i_cS 14 2 2 5) := s_invokestatic hG (mi := 14) (n := 2) (cal_J7_checkLength_df160 (Nat.le_of_ble_eq_true rfl)) w_474 w_475 dJ7_copyOfRangeByte_39247_2
theorem s_J7_copyOfRangeByte_39247_5 {X : ev_E} {l : Launch} (hG : ev_Good X) (hl : l.stackTraces = false) : ev_Snd X l ev_ms x_J7_copyOfRangeByte_39247 tx_J7_copyOfRangeByte_39247 5 (i_il 2 6) := s_iload_n dJ7_copyOfRangeByte_39247_5 rfl
theorem s_J7_copyOfRangeByte_39247_6 {X : ev_E} {l : Launch} (hG : ev_Good X) (hl : l.stackTraces = false) : ev_Snd X l ev_ms x_J7_copyOfRangeByte_39247 tx_J7_copyOfRangeByte_39247 6 (i_il 1 7) := s_iload_n dJ7_copyOfRangeByte_39247_6 rfl
theorem s_J7_copyOfRangeByte_39247_7 {X : ev_E} {l : Launch} (hG : ev_Good X) (hl : l.stackTraces = false) : ev_Snd X l ev_ms x_J7_copyOfRangeByte_39247 tx_J7_copyOfRangeByte_39247 7 (i_ii (fun a b => a - b) 8) := s_isub dJ7_copyOfRangeByte_39247_7
theorem s_J7_copyOfRangeByte_39247_8 {X : ev_E} {l : Launch} (hG : ev_Good X) (hl : l.stackTraces = false) : ev_Snd X l ev_ms x_J7_copyOfRangeByte_39247 tx_J7_copyOfRangeByte_39247 8 (i_is 3 9) := s_istore_n dJ7_copyOfRangeByte_39247_8 rfl (Nat.le_of_ble_eq_true rfl)
theorem s_J7_copyOfRangeByte_39247_9 {X : ev_E} {l : Launch} (hG : ev_Good X) (hl : l.stackTraces = false) : ev_Snd X l ev_ms x_J7_copyOfRangeByte_39247 tx_J7_copyOfRangeByte_39247 9 (i_il 3 10) := s_iload_n dJ7_copyOfRangeByte_39247_9 rfl
theorem s_J7_copyOfRangeByte_39247_10 {X : ev_E} {l : Launch} (hG : ev_Good X) (hl : l.stackTraces = false) : ev_Snd X l ev_ms x_J7_copyOfRangeByte_39247 tx_J7_copyOfRangeByte_39247 10 (i_na 1 (.int 0) 12) := s_newarray hG (kd := 1) (at' := .byte) (Nat.le_of_ble_eq_true rfl) rfl (by decide) rfl dJ7_copyOfRangeByte_39247_10 w_311
theorem s_J7_copyOfRangeByte_39247_12 {X : ev_E} {l : Launch} (hG : ev_Good X) (hl : l.stackTraces = false) : ev_Snd X l ev_ms x_J7_copyOfRangeByte_39247 tx_J7_copyOfRangeByte_39247 12 (i_as 4 14) := s_astore dJ7_copyOfRangeByte_39247_12 (Nat.le_of_ble_eq_true rfl)
theorem s_J7_copyOfRangeByte_39247_14 {X : ev_E} {l : Launch} (hG : ev_Good X) (hl : l.stackTraces = false) : ev_Snd X l ev_ms x_J7_copyOfRangeByte_39247 tx_J7_copyOfRangeByte_39247 14 (i_al 0 15) := s_aload_n dJ7_copyOfRangeByte_39247_14 rfl
theorem s_J7_copyOfRangeByte_39247_15 {X : ev_E} {l : Launch} (hG : ev_Good X) (hl : l.stackTraces = false) : ev_Snd X l ev_ms x_J7_copyOfRangeByte_39247 tx_J7_copyOfRangeByte_39247 15 (i_il 1 16) := s_iload_n dJ7_copyOfRangeByte_39247_15 rfl
theorem s_J7_copyOfRangeByte_39247_16 {X : ev_E} {l : Launch} (hG : ev_Good X) (hl : l.stackTraces = false) : ev_Snd X l ev_ms x_J7_copyOfRangeByte_39247 tx_J7_copyOfRangeByte_39247 16 (i_al 4 18) := s_aload dJ7_copyOfRangeByte_39247_16
theorem s_J7_copyOfRangeByte_39247_18 {X : ev_E} {l : Launch} (hG : ev_Good X) (hl : l.stackTraces = false) : ev_Snd X l ev_ms x_J7_copyOfRangeByte_39247 tx_J7_copyOfRangeByte_39247 18 (i_psh (.int (0)) 19) := s_iconst dJ7_copyOfRangeByte_39247_18 rfl
theorem s_J7_copyOfRangeByte_39247_19 {X : ev_E} {l : Launch} (hG : ev_Good X) (hl : l.stackTraces = false) : ev_Snd X l ev_ms x_J7_copyOfRangeByte_39247 tx_J7_copyOfRangeByte_39247 19 (i_al 0 20) := s_aload_n dJ7_copyOfRangeByte_39247_19 rfl
theorem s_J7_copyOfRangeByte_39247_20 {X : ev_E} {l : Launch} (hG : ev_Good X) (hl : l.stackTraces = false) : ev_Snd X l ev_ms x_J7_copyOfRangeByte_39247 tx_J7_copyOfRangeByte_39247 20 (i_len X 21) := s_arraylength hG dJ7_copyOfRangeByte_39247_20
theorem s_J7_copyOfRangeByte_39247_21 {X : ev_E} {l : Launch} (hG : ev_Good X) (hl : l.stackTraces = false) : ev_Snd X l ev_ms x_J7_copyOfRangeByte_39247 tx_J7_copyOfRangeByte_39247 21 (i_il 1 22) := s_iload_n dJ7_copyOfRangeByte_39247_21 rfl
theorem s_J7_copyOfRangeByte_39247_22 {X : ev_E} {l : Launch} (hG : ev_Good X) (hl : l.stackTraces = false) : ev_Snd X l ev_ms x_J7_copyOfRangeByte_39247 tx_J7_copyOfRangeByte_39247 22 (i_ii (fun a b => a - b) 23) := s_isub dJ7_copyOfRangeByte_39247_22
theorem s_J7_copyOfRangeByte_39247_23 {X : ev_E} {l : Launch} (hG : ev_Good X) (hl : l.stackTraces = false) : ev_Snd X l ev_ms x_J7_copyOfRangeByte_39247 tx_J7_copyOfRangeByte_39247 23 (i_il 3 24) := s_iload_n dJ7_copyOfRangeByte_39247_23 rfl
theorem s_J7_copyOfRangeByte_39247_24 {X : ev_E} {l : Launch} (hG : ev_Good X) (hl : l.stackTraces = false) : ev_Snd X l ev_ms x_J7_copyOfRangeByte_39247 tx_J7_copyOfRangeByte_39247 24 (i_cS 17 2 2 27) := s_invokestatic hG (mi := 17) (n := 2) (cal_J9_min_7cf53 (Nat.le_of_ble_eq_true rfl)) w_348 w_349 dJ7_copyOfRangeByte_39247_24
theorem s_J7_copyOfRangeByte_39247_27 {X : ev_E} {l : Launch} (hG : ev_Good X) (hl : l.stackTraces = false) : ev_Snd X l ev_ms x_J7_copyOfRangeByte_39247 tx_J7_copyOfRangeByte_39247 27 (i_cpy X false 30) := s_arraycopy hG false w_1784 w_1765 w_351 w_353 rfl w_352 w_68 dJ7_copyOfRangeByte_39247_27
theorem s_J7_copyOfRangeByte_39247_30 {X : ev_E} {l : Launch} (hG : ev_Good X) (hl : l.stackTraces = false) : ev_Snd X l ev_ms x_J7_copyOfRangeByte_39247 tx_J7_copyOfRangeByte_39247 30 (i_al 4 32) := s_aload dJ7_copyOfRangeByte_39247_30
theorem s_J7_copyOfRangeByte_39247_32 {X : ev_E} {l : Launch} (hG : ev_Good X) (hl : l.stackTraces = false) : ev_Snd X l ev_ms x_J7_copyOfRangeByte_39247 tx_J7_copyOfRangeByte_39247 32 (i_ar) := s_areturn (rt := (.array .byte)) rfl (by first | exact Or.inl ⟨_, rfl⟩ | exact Or.inr ⟨_, rfl⟩) dJ7_copyOfRangeByte_39247_32
theorem sa_J7_copyOfRangeByte_39247 {X : ev_E} {l : Launch} (hG : ev_Good X) (hl : l.stackTraces = false) : ∀ q ∈ tb_J7_copyOfRangeByte_39247 X, ev_Snd X l ev_ms x_J7_copyOfRangeByte_39247 tx_J7_copyOfRangeByte_39247 q.1 q.2 := by
  intro q hq
  unfold tb_J7_copyOfRangeByte_39247 at hq
  simp only [List.mem_cons, List.not_mem_nil, or_false] at hq
  rcases hq with rfl | rfl | rfl | rfl | rfl | rfl | rfl | rfl | rfl | rfl | rfl | rfl | rfl | rfl | rfl | rfl | rfl | rfl | rfl | rfl | rfl | rfl | rfl
  · exact s_J7_copyOfRangeByte_39247_0 hG hl
  · exact s_J7_copyOfRangeByte_39247_1 hG hl
  · exact s_J7_copyOfRangeByte_39247_2 hG hl
  · exact s_J7_copyOfRangeByte_39247_5 hG hl
  · exact s_J7_copyOfRangeByte_39247_6 hG hl
  · exact s_J7_copyOfRangeByte_39247_7 hG hl
  · exact s_J7_copyOfRangeByte_39247_8 hG hl
  · exact s_J7_copyOfRangeByte_39247_9 hG hl
  · exact s_J7_copyOfRangeByte_39247_10 hG hl
  · exact s_J7_copyOfRangeByte_39247_12 hG hl
  · exact s_J7_copyOfRangeByte_39247_14 hG hl
  · exact s_J7_copyOfRangeByte_39247_15 hG hl
  · exact s_J7_copyOfRangeByte_39247_16 hG hl
  · exact s_J7_copyOfRangeByte_39247_18 hG hl
  · exact s_J7_copyOfRangeByte_39247_19 hG hl
  · exact s_J7_copyOfRangeByte_39247_20 hG hl
  · exact s_J7_copyOfRangeByte_39247_21 hG hl
  · exact s_J7_copyOfRangeByte_39247_22 hG hl
  · exact s_J7_copyOfRangeByte_39247_23 hG hl
  · exact s_J7_copyOfRangeByte_39247_24 hG hl
  · exact s_J7_copyOfRangeByte_39247_27 hG hl
  · exact s_J7_copyOfRangeByte_39247_30 hG hl
  · exact s_J7_copyOfRangeByte_39247_32 hG hl
def tx_J7_copyOf_6403c : ev_X := fun _ _ => some none
noncomputable def tb_J7_copyOf_6403c (X : ev_E) : List (Nat × (ev_S → ev_N)) := [(0, i_al 2 1), (1, i_psh (.ref (X.2.2.2.2.2 4)) 3), (3, i_acne 13 6), (6, i_il 1 7), (7, i_na 2 .null 10), (10, i_goto 24), (13, i_al 2 14), (14, i_no), (17, i_il 1 18), (18, i_no), (21, i_cca 2 24), (24, i_as 3 25), (25, i_al 0 26), (26, i_psh (.int (0)) 27), (27, i_al 3 28), (28, i_psh (.int (0)) 29), (29, i_al 0 30), (30, i_len X 31), (31, i_il 1 32), (32, i_cS 17 2 2 35), (35, i_cpy X true 38), (38, i_al 3 39), (39, i_ar)]
theorem s_J7_copyOf_6403c_0 {X : ev_E} {l : Launch} (hG : ev_Good X) (hl : l.stackTraces = false) : ev_Snd X l ev_ms x_J7_copyOf_6403c tx_J7_copyOf_6403c 0 (i_al 2 1) := s_aload_n dJ7_copyOf_6403c_0 rfl
theorem s_J7_copyOf_6403c_1 {X : ev_E} {l : Launch} (hG : ev_Good X) (hl : l.stackTraces = false) : ev_Snd X l ev_ms x_J7_copyOf_6403c tx_J7_copyOf_6403c 1 (i_psh (.ref (X.2.2.2.2.2 4)) 3) := s_ldcM hG w_1387 dJ7_copyOf_6403c_1
theorem s_J7_copyOf_6403c_3 {X : ev_E} {l : Launch} (hG : ev_Good X) (hl : l.stackTraces = false) : ev_Snd X l ev_ms x_J7_copyOf_6403c tx_J7_copyOf_6403c 3 (i_acne 13 6) := s_acne dJ7_copyOf_6403c_3 rfl
theorem s_J7_copyOf_6403c_6 {X : ev_E} {l : Launch} (hG : ev_Good X) (hl : l.stackTraces = false) : ev_Snd X l ev_ms x_J7_copyOf_6403c tx_J7_copyOf_6403c 6 (i_il 1 7) := s_iload_n dJ7_copyOf_6403c_6 rfl
theorem s_J7_copyOf_6403c_7 {X : ev_E} {l : Launch} (hG : ev_Good X) (hl : l.stackTraces = false) : ev_Snd X l ev_ms x_J7_copyOf_6403c tx_J7_copyOf_6403c 7 (i_na 2 .null 10) := s_anewarray hG (kd := 2) (Nat.le_of_ble_eq_true rfl) rfl dJ7_copyOf_6403c_7 w_1389 rfl w_1388
theorem s_J7_copyOf_6403c_10 {X : ev_E} {l : Launch} (hG : ev_Good X) (hl : l.stackTraces = false) : ev_Snd X l ev_ms x_J7_copyOf_6403c tx_J7_copyOf_6403c 10 (i_goto 24) := s_goto dJ7_copyOf_6403c_10 rfl
theorem s_J7_copyOf_6403c_13 {X : ev_E} {l : Launch} (hG : ev_Good X) (hl : l.stackTraces = false) : ev_Snd X l ev_ms x_J7_copyOf_6403c tx_J7_copyOf_6403c 13 (i_al 2 14) := s_aload_n dJ7_copyOf_6403c_13 rfl
theorem s_J7_copyOf_6403c_14 {X : ev_E} {l : Launch} (hG : ev_Good X) (hl : l.stackTraces = false) : ev_Snd X l ev_ms x_J7_copyOf_6403c tx_J7_copyOf_6403c 14 (i_no) := s_no
theorem s_J7_copyOf_6403c_17 {X : ev_E} {l : Launch} (hG : ev_Good X) (hl : l.stackTraces = false) : ev_Snd X l ev_ms x_J7_copyOf_6403c tx_J7_copyOf_6403c 17 (i_il 1 18) := s_iload_n dJ7_copyOf_6403c_17 rfl
theorem s_J7_copyOf_6403c_18 {X : ev_E} {l : Launch} (hG : ev_Good X) (hl : l.stackTraces = false) : ev_Snd X l ev_ms x_J7_copyOf_6403c tx_J7_copyOf_6403c 18 (i_no) := s_no
theorem s_J7_copyOf_6403c_21 {X : ev_E} {l : Launch} (hG : ev_Good X) (hl : l.stackTraces = false) : ev_Snd X l ev_ms x_J7_copyOf_6403c tx_J7_copyOf_6403c 21 (i_cca 2 24) := s_castA hG (kd := 2) (Nat.le_of_ble_eq_true rfl) (by decide +kernel) w_1387 dJ7_copyOf_6403c_21
theorem s_J7_copyOf_6403c_24 {X : ev_E} {l : Launch} (hG : ev_Good X) (hl : l.stackTraces = false) : ev_Snd X l ev_ms x_J7_copyOf_6403c tx_J7_copyOf_6403c 24 (i_as 3 25) := s_astore_n dJ7_copyOf_6403c_24 rfl (Nat.le_of_ble_eq_true rfl)
theorem s_J7_copyOf_6403c_25 {X : ev_E} {l : Launch} (hG : ev_Good X) (hl : l.stackTraces = false) : ev_Snd X l ev_ms x_J7_copyOf_6403c tx_J7_copyOf_6403c 25 (i_al 0 26) := s_aload_n dJ7_copyOf_6403c_25 rfl
theorem s_J7_copyOf_6403c_26 {X : ev_E} {l : Launch} (hG : ev_Good X) (hl : l.stackTraces = false) : ev_Snd X l ev_ms x_J7_copyOf_6403c tx_J7_copyOf_6403c 26 (i_psh (.int (0)) 27) := s_iconst dJ7_copyOf_6403c_26 rfl
theorem s_J7_copyOf_6403c_27 {X : ev_E} {l : Launch} (hG : ev_Good X) (hl : l.stackTraces = false) : ev_Snd X l ev_ms x_J7_copyOf_6403c tx_J7_copyOf_6403c 27 (i_al 3 28) := s_aload_n dJ7_copyOf_6403c_27 rfl
theorem s_J7_copyOf_6403c_28 {X : ev_E} {l : Launch} (hG : ev_Good X) (hl : l.stackTraces = false) : ev_Snd X l ev_ms x_J7_copyOf_6403c tx_J7_copyOf_6403c 28 (i_psh (.int (0)) 29) := s_iconst dJ7_copyOf_6403c_28 rfl
theorem s_J7_copyOf_6403c_29 {X : ev_E} {l : Launch} (hG : ev_Good X) (hl : l.stackTraces = false) : ev_Snd X l ev_ms x_J7_copyOf_6403c tx_J7_copyOf_6403c 29 (i_al 0 30) := s_aload_n dJ7_copyOf_6403c_29 rfl
theorem s_J7_copyOf_6403c_30 {X : ev_E} {l : Launch} (hG : ev_Good X) (hl : l.stackTraces = false) : ev_Snd X l ev_ms x_J7_copyOf_6403c tx_J7_copyOf_6403c 30 (i_len X 31) := s_arraylength hG dJ7_copyOf_6403c_30
theorem s_J7_copyOf_6403c_31 {X : ev_E} {l : Launch} (hG : ev_Good X) (hl : l.stackTraces = false) : ev_Snd X l ev_ms x_J7_copyOf_6403c tx_J7_copyOf_6403c 31 (i_il 1 32) := s_iload_n dJ7_copyOf_6403c_31 rfl
theorem s_J7_copyOf_6403c_32 {X : ev_E} {l : Launch} (hG : ev_Good X) (hl : l.stackTraces = false) : ev_Snd X l ev_ms x_J7_copyOf_6403c tx_J7_copyOf_6403c 32 (i_cS 17 2 2 35) := s_invokestatic hG (mi := 17) (n := 2) (cal_J9_min_7cf53 (Nat.le_of_ble_eq_true rfl)) w_348 w_349 dJ7_copyOf_6403c_32
theorem s_J7_copyOf_6403c_35 {X : ev_E} {l : Launch} (hG : ev_Good X) (hl : l.stackTraces = false) : ev_Snd X l ev_ms x_J7_copyOf_6403c tx_J7_copyOf_6403c 35 (i_cpy X true 38) := s_arraycopy hG true w_1784 w_1765 w_351 w_353 rfl w_352 w_68 dJ7_copyOf_6403c_35
theorem s_J7_copyOf_6403c_38 {X : ev_E} {l : Launch} (hG : ev_Good X) (hl : l.stackTraces = false) : ev_Snd X l ev_ms x_J7_copyOf_6403c tx_J7_copyOf_6403c 38 (i_al 3 39) := s_aload_n dJ7_copyOf_6403c_38 rfl
theorem s_J7_copyOf_6403c_39 {X : ev_E} {l : Launch} (hG : ev_Good X) (hl : l.stackTraces = false) : ev_Snd X l ev_ms x_J7_copyOf_6403c tx_J7_copyOf_6403c 39 (i_ar) := s_areturn (rt := (.array (.object "java/lang/Object"))) rfl (by first | exact Or.inl ⟨_, rfl⟩ | exact Or.inr ⟨_, rfl⟩) dJ7_copyOf_6403c_39
theorem sa_J7_copyOf_6403c {X : ev_E} {l : Launch} (hG : ev_Good X) (hl : l.stackTraces = false) : ∀ q ∈ tb_J7_copyOf_6403c X, ev_Snd X l ev_ms x_J7_copyOf_6403c tx_J7_copyOf_6403c q.1 q.2 := by
  intro q hq
  unfold tb_J7_copyOf_6403c at hq
  simp only [List.mem_cons, List.not_mem_nil, or_false] at hq
  rcases hq with rfl | rfl | rfl | rfl | rfl | rfl | rfl | rfl | rfl | rfl | rfl | rfl | rfl | rfl | rfl | rfl | rfl | rfl | rfl | rfl | rfl | rfl | rfl
  · exact s_J7_copyOf_6403c_0 hG hl
  · exact s_J7_copyOf_6403c_1 hG hl
  · exact s_J7_copyOf_6403c_3 hG hl
  · exact s_J7_copyOf_6403c_6 hG hl
  · exact s_J7_copyOf_6403c_7 hG hl
  · exact s_J7_copyOf_6403c_10 hG hl
  · exact s_J7_copyOf_6403c_13 hG hl
  · exact s_J7_copyOf_6403c_14 hG hl
  · exact s_J7_copyOf_6403c_17 hG hl
  · exact s_J7_copyOf_6403c_18 hG hl
  · exact s_J7_copyOf_6403c_21 hG hl
  · exact s_J7_copyOf_6403c_24 hG hl
  · exact s_J7_copyOf_6403c_25 hG hl
  · exact s_J7_copyOf_6403c_26 hG hl
  · exact s_J7_copyOf_6403c_27 hG hl
  · exact s_J7_copyOf_6403c_28 hG hl
  · exact s_J7_copyOf_6403c_29 hG hl
  · exact s_J7_copyOf_6403c_30 hG hl
  · exact s_J7_copyOf_6403c_31 hG hl
  · exact s_J7_copyOf_6403c_32 hG hl
  · exact s_J7_copyOf_6403c_35 hG hl
  · exact s_J7_copyOf_6403c_38 hG hl
  · exact s_J7_copyOf_6403c_39 hG hl
def tx_J7_copyOf_9075b : ev_X := fun _ _ => some none
noncomputable def tb_J7_copyOf_9075b (X : ev_E) : List (Nat × (ev_S → ev_N)) := [(0, i_il 1 1), (1, i_al 0 2), (2, i_len X 3), (3, i_icne 14 6), (6, i_al 0 7), (7, i_cln 10), (10, i_cca 1 13), (13, i_ar), (14, i_il 1 15), (15, i_na 1 (.int 0) 17), (17, i_as 2 18), (18, i_al 0 19), (19, i_psh (.int (0)) 20), (20, i_al 2 21), (21, i_psh (.int (0)) 22), (22, i_al 0 23), (23, i_len X 24), (24, i_il 1 25), (25, i_cS 17 2 2 28), (28, i_cpy X false 31), (31, i_al 2 32), (32, i_ar)]
theorem s_J7_copyOf_9075b_0 {X : ev_E} {l : Launch} (hG : ev_Good X) (hl : l.stackTraces = false) : ev_Snd X l ev_ms x_J7_copyOf_9075b tx_J7_copyOf_9075b 0 (i_il 1 1) := s_iload_n dJ7_copyOf_9075b_0 rfl
theorem s_J7_copyOf_9075b_1 {X : ev_E} {l : Launch} (hG : ev_Good X) (hl : l.stackTraces = false) : ev_Snd X l ev_ms x_J7_copyOf_9075b tx_J7_copyOf_9075b 1 (i_al 0 2) := s_aload_n dJ7_copyOf_9075b_1 rfl
theorem s_J7_copyOf_9075b_2 {X : ev_E} {l : Launch} (hG : ev_Good X) (hl : l.stackTraces = false) : ev_Snd X l ev_ms x_J7_copyOf_9075b tx_J7_copyOf_9075b 2 (i_len X 3) := s_arraylength hG dJ7_copyOf_9075b_2
theorem s_J7_copyOf_9075b_3 {X : ev_E} {l : Launch} (hG : ev_Good X) (hl : l.stackTraces = false) : ev_Snd X l ev_ms x_J7_copyOf_9075b tx_J7_copyOf_9075b 3 (i_icne 14 6) := s_icne dJ7_copyOf_9075b_3 rfl
theorem s_J7_copyOf_9075b_6 {X : ev_E} {l : Launch} (hG : ev_Good X) (hl : l.stackTraces = false) : ev_Snd X l ev_ms x_J7_copyOf_9075b tx_J7_copyOf_9075b 6 (i_al 0 7) := s_aload_n dJ7_copyOf_9075b_6 rfl
theorem s_J7_copyOf_9075b_7 {X : ev_E} {l : Launch} (hG : ev_Good X) (hl : l.stackTraces = false) : ev_Snd X l ev_ms x_J7_copyOf_9075b tx_J7_copyOf_9075b 7 (i_cln 10) := s_cloneB hG w_341 w_342 rfl w_343 rfl w_344 w_345 rfl w_346 dJ7_copyOf_9075b_7
theorem s_J7_copyOf_9075b_10 {X : ev_E} {l : Launch} (hG : ev_Good X) (hl : l.stackTraces = false) : ev_Snd X l ev_ms x_J7_copyOf_9075b tx_J7_copyOf_9075b 10 (i_cca 1 13) := s_castA hG (kd := 1) (Nat.le_of_ble_eq_true rfl) (by decide +kernel) w_347 dJ7_copyOf_9075b_10
theorem s_J7_copyOf_9075b_13 {X : ev_E} {l : Launch} (hG : ev_Good X) (hl : l.stackTraces = false) : ev_Snd X l ev_ms x_J7_copyOf_9075b tx_J7_copyOf_9075b 13 (i_ar) := s_areturn (rt := (.array .byte)) rfl (by first | exact Or.inl ⟨_, rfl⟩ | exact Or.inr ⟨_, rfl⟩) dJ7_copyOf_9075b_13
theorem s_J7_copyOf_9075b_14 {X : ev_E} {l : Launch} (hG : ev_Good X) (hl : l.stackTraces = false) : ev_Snd X l ev_ms x_J7_copyOf_9075b tx_J7_copyOf_9075b 14 (i_il 1 15) := s_iload_n dJ7_copyOf_9075b_14 rfl
theorem s_J7_copyOf_9075b_15 {X : ev_E} {l : Launch} (hG : ev_Good X) (hl : l.stackTraces = false) : ev_Snd X l ev_ms x_J7_copyOf_9075b tx_J7_copyOf_9075b 15 (i_na 1 (.int 0) 17) := s_newarray hG (kd := 1) (at' := .byte) (Nat.le_of_ble_eq_true rfl) rfl (by decide) rfl dJ7_copyOf_9075b_15 w_311
theorem s_J7_copyOf_9075b_17 {X : ev_E} {l : Launch} (hG : ev_Good X) (hl : l.stackTraces = false) : ev_Snd X l ev_ms x_J7_copyOf_9075b tx_J7_copyOf_9075b 17 (i_as 2 18) := s_astore_n dJ7_copyOf_9075b_17 rfl (Nat.le_of_ble_eq_true rfl)
theorem s_J7_copyOf_9075b_18 {X : ev_E} {l : Launch} (hG : ev_Good X) (hl : l.stackTraces = false) : ev_Snd X l ev_ms x_J7_copyOf_9075b tx_J7_copyOf_9075b 18 (i_al 0 19) := s_aload_n dJ7_copyOf_9075b_18 rfl
theorem s_J7_copyOf_9075b_19 {X : ev_E} {l : Launch} (hG : ev_Good X) (hl : l.stackTraces = false) : ev_Snd X l ev_ms x_J7_copyOf_9075b tx_J7_copyOf_9075b 19 (i_psh (.int (0)) 20) := s_iconst dJ7_copyOf_9075b_19 rfl
theorem s_J7_copyOf_9075b_20 {X : ev_E} {l : Launch} (hG : ev_Good X) (hl : l.stackTraces = false) : ev_Snd X l ev_ms x_J7_copyOf_9075b tx_J7_copyOf_9075b 20 (i_al 2 21) := s_aload_n dJ7_copyOf_9075b_20 rfl
theorem s_J7_copyOf_9075b_21 {X : ev_E} {l : Launch} (hG : ev_Good X) (hl : l.stackTraces = false) : ev_Snd X l ev_ms x_J7_copyOf_9075b tx_J7_copyOf_9075b 21 (i_psh (.int (0)) 22) := s_iconst dJ7_copyOf_9075b_21 rfl
theorem s_J7_copyOf_9075b_22 {X : ev_E} {l : Launch} (hG : ev_Good X) (hl : l.stackTraces = false) : ev_Snd X l ev_ms x_J7_copyOf_9075b tx_J7_copyOf_9075b 22 (i_al 0 23) := s_aload_n dJ7_copyOf_9075b_22 rfl
theorem s_J7_copyOf_9075b_23 {X : ev_E} {l : Launch} (hG : ev_Good X) (hl : l.stackTraces = false) : ev_Snd X l ev_ms x_J7_copyOf_9075b tx_J7_copyOf_9075b 23 (i_len X 24) := s_arraylength hG dJ7_copyOf_9075b_23
theorem s_J7_copyOf_9075b_24 {X : ev_E} {l : Launch} (hG : ev_Good X) (hl : l.stackTraces = false) : ev_Snd X l ev_ms x_J7_copyOf_9075b tx_J7_copyOf_9075b 24 (i_il 1 25) := s_iload_n dJ7_copyOf_9075b_24 rfl
theorem s_J7_copyOf_9075b_25 {X : ev_E} {l : Launch} (hG : ev_Good X) (hl : l.stackTraces = false) : ev_Snd X l ev_ms x_J7_copyOf_9075b tx_J7_copyOf_9075b 25 (i_cS 17 2 2 28) := s_invokestatic hG (mi := 17) (n := 2) (cal_J9_min_7cf53 (Nat.le_of_ble_eq_true rfl)) w_348 w_349 dJ7_copyOf_9075b_25
theorem s_J7_copyOf_9075b_28 {X : ev_E} {l : Launch} (hG : ev_Good X) (hl : l.stackTraces = false) : ev_Snd X l ev_ms x_J7_copyOf_9075b tx_J7_copyOf_9075b 28 (i_cpy X false 31) := s_arraycopy hG false w_1784 w_1765 w_351 w_353 rfl w_352 w_68 dJ7_copyOf_9075b_28
theorem s_J7_copyOf_9075b_31 {X : ev_E} {l : Launch} (hG : ev_Good X) (hl : l.stackTraces = false) : ev_Snd X l ev_ms x_J7_copyOf_9075b tx_J7_copyOf_9075b 31 (i_al 2 32) := s_aload_n dJ7_copyOf_9075b_31 rfl
theorem s_J7_copyOf_9075b_32 {X : ev_E} {l : Launch} (hG : ev_Good X) (hl : l.stackTraces = false) : ev_Snd X l ev_ms x_J7_copyOf_9075b tx_J7_copyOf_9075b 32 (i_ar) := s_areturn (rt := (.array .byte)) rfl (by first | exact Or.inl ⟨_, rfl⟩ | exact Or.inr ⟨_, rfl⟩) dJ7_copyOf_9075b_32
theorem sa_J7_copyOf_9075b {X : ev_E} {l : Launch} (hG : ev_Good X) (hl : l.stackTraces = false) : ∀ q ∈ tb_J7_copyOf_9075b X, ev_Snd X l ev_ms x_J7_copyOf_9075b tx_J7_copyOf_9075b q.1 q.2 := by
  intro q hq
  unfold tb_J7_copyOf_9075b at hq
  simp only [List.mem_cons, List.not_mem_nil, or_false] at hq
  rcases hq with rfl | rfl | rfl | rfl | rfl | rfl | rfl | rfl | rfl | rfl | rfl | rfl | rfl | rfl | rfl | rfl | rfl | rfl | rfl | rfl | rfl | rfl
  · exact s_J7_copyOf_9075b_0 hG hl
  · exact s_J7_copyOf_9075b_1 hG hl
  · exact s_J7_copyOf_9075b_2 hG hl
  · exact s_J7_copyOf_9075b_3 hG hl
  · exact s_J7_copyOf_9075b_6 hG hl
  · exact s_J7_copyOf_9075b_7 hG hl
  · exact s_J7_copyOf_9075b_10 hG hl
  · exact s_J7_copyOf_9075b_13 hG hl
  · exact s_J7_copyOf_9075b_14 hG hl
  · exact s_J7_copyOf_9075b_15 hG hl
  · exact s_J7_copyOf_9075b_17 hG hl
  · exact s_J7_copyOf_9075b_18 hG hl
  · exact s_J7_copyOf_9075b_19 hG hl
  · exact s_J7_copyOf_9075b_20 hG hl
  · exact s_J7_copyOf_9075b_21 hG hl
  · exact s_J7_copyOf_9075b_22 hG hl
  · exact s_J7_copyOf_9075b_23 hG hl
  · exact s_J7_copyOf_9075b_24 hG hl
  · exact s_J7_copyOf_9075b_25 hG hl
  · exact s_J7_copyOf_9075b_28 hG hl
  · exact s_J7_copyOf_9075b_31 hG hl
  · exact s_J7_copyOf_9075b_32 hG hl
def tx_J8_newLength_cabcc : ev_X := fun _ _ => some none
noncomputable def tb_J8_newLength_cabcc (X : ev_E) : List (Nat × (ev_S → ev_N)) := [(0, i_il 0 1), (1, i_il 1 2), (2, i_il 2 3), (3, i_cS 16 2 2 6), (6, i_ii (fun a b => a + b) 7), (7, i_is 3 8), (8, i_psh (.int (0)) 9), (9, i_il 3 10), (10, i_icge 21 13), (13, i_il 3 14), (14, i_psh (.int 2147483639) 16), (16, i_icgt 21 19), (19, i_il 3 20), (20, i_ir (.int)), (21, i_il 0 22), (22, i_il 1 23), (23, i_cS 15 2 3 26), (26, i_ir (.int))]
theorem s_J8_newLength_cabcc_0 {X : ev_E} {l : Launch} (hG : ev_Good X) (hl : l.stackTraces = false) : ev_Snd X l ev_ms x_J8_newLength_cabcc tx_J8_newLength_cabcc 0 (i_il 0 1) := s_iload_n dJ8_newLength_cabcc_0 rfl
theorem s_J8_newLength_cabcc_1 {X : ev_E} {l : Launch} (hG : ev_Good X) (hl : l.stackTraces = false) : ev_Snd X l ev_ms x_J8_newLength_cabcc tx_J8_newLength_cabcc 1 (i_il 1 2) := s_iload_n dJ8_newLength_cabcc_1 rfl
theorem s_J8_newLength_cabcc_2 {X : ev_E} {l : Launch} (hG : ev_Good X) (hl : l.stackTraces = false) : ev_Snd X l ev_ms x_J8_newLength_cabcc tx_J8_newLength_cabcc 2 (i_il 2 3) := s_iload_n dJ8_newLength_cabcc_2 rfl
theorem s_J8_newLength_cabcc_3 {X : ev_E} {l : Launch} (hG : ev_Good X) (hl : l.stackTraces = false) : ev_Snd X l ev_ms x_J8_newLength_cabcc tx_J8_newLength_cabcc 3 (i_cS 16 2 2 6) := s_invokestatic hG (mi := 16) (n := 2) (cal_J9_max_7cf53 (Nat.le_of_ble_eq_true rfl)) w_330 w_331 dJ8_newLength_cabcc_3
theorem s_J8_newLength_cabcc_6 {X : ev_E} {l : Launch} (hG : ev_Good X) (hl : l.stackTraces = false) : ev_Snd X l ev_ms x_J8_newLength_cabcc tx_J8_newLength_cabcc 6 (i_ii (fun a b => a + b) 7) := s_iadd dJ8_newLength_cabcc_6
theorem s_J8_newLength_cabcc_7 {X : ev_E} {l : Launch} (hG : ev_Good X) (hl : l.stackTraces = false) : ev_Snd X l ev_ms x_J8_newLength_cabcc tx_J8_newLength_cabcc 7 (i_is 3 8) := s_istore_n dJ8_newLength_cabcc_7 rfl (Nat.le_of_ble_eq_true rfl)
theorem s_J8_newLength_cabcc_8 {X : ev_E} {l : Launch} (hG : ev_Good X) (hl : l.stackTraces = false) : ev_Snd X l ev_ms x_J8_newLength_cabcc tx_J8_newLength_cabcc 8 (i_psh (.int (0)) 9) := s_iconst dJ8_newLength_cabcc_8 rfl
theorem s_J8_newLength_cabcc_9 {X : ev_E} {l : Launch} (hG : ev_Good X) (hl : l.stackTraces = false) : ev_Snd X l ev_ms x_J8_newLength_cabcc tx_J8_newLength_cabcc 9 (i_il 3 10) := s_iload_n dJ8_newLength_cabcc_9 rfl
theorem s_J8_newLength_cabcc_10 {X : ev_E} {l : Launch} (hG : ev_Good X) (hl : l.stackTraces = false) : ev_Snd X l ev_ms x_J8_newLength_cabcc tx_J8_newLength_cabcc 10 (i_icge 21 13) := s_icge dJ8_newLength_cabcc_10 rfl
theorem s_J8_newLength_cabcc_13 {X : ev_E} {l : Launch} (hG : ev_Good X) (hl : l.stackTraces = false) : ev_Snd X l ev_ms x_J8_newLength_cabcc tx_J8_newLength_cabcc 13 (i_il 3 14) := s_iload_n dJ8_newLength_cabcc_13 rfl
theorem s_J8_newLength_cabcc_14 {X : ev_E} {l : Launch} (hG : ev_Good X) (hl : l.stackTraces = false) : ev_Snd X l ev_ms x_J8_newLength_cabcc tx_J8_newLength_cabcc 14 (i_psh (.int 2147483639) 16) := s_ldc hG w_333 rfl dJ8_newLength_cabcc_14
theorem s_J8_newLength_cabcc_16 {X : ev_E} {l : Launch} (hG : ev_Good X) (hl : l.stackTraces = false) : ev_Snd X l ev_ms x_J8_newLength_cabcc tx_J8_newLength_cabcc 16 (i_icgt 21 19) := s_icgt dJ8_newLength_cabcc_16 rfl
theorem s_J8_newLength_cabcc_19 {X : ev_E} {l : Launch} (hG : ev_Good X) (hl : l.stackTraces = false) : ev_Snd X l ev_ms x_J8_newLength_cabcc tx_J8_newLength_cabcc 19 (i_il 3 20) := s_iload_n dJ8_newLength_cabcc_19 rfl
theorem s_J8_newLength_cabcc_20 {X : ev_E} {l : Launch} (hG : ev_Good X) (hl : l.stackTraces = false) : ev_Snd X l ev_ms x_J8_newLength_cabcc tx_J8_newLength_cabcc 20 (i_ir (.int)) := s_ireturn rfl dJ8_newLength_cabcc_20
theorem s_J8_newLength_cabcc_21 {X : ev_E} {l : Launch} (hG : ev_Good X) (hl : l.stackTraces = false) : ev_Snd X l ev_ms x_J8_newLength_cabcc tx_J8_newLength_cabcc 21 (i_il 0 22) := s_iload_n dJ8_newLength_cabcc_21 rfl
theorem s_J8_newLength_cabcc_22 {X : ev_E} {l : Launch} (hG : ev_Good X) (hl : l.stackTraces = false) : ev_Snd X l ev_ms x_J8_newLength_cabcc tx_J8_newLength_cabcc 22 (i_il 1 23) := s_iload_n dJ8_newLength_cabcc_22 rfl
theorem s_J8_newLength_cabcc_23 {X : ev_E} {l : Launch} (hG : ev_Good X) (hl : l.stackTraces = false) : ev_Snd X l ev_ms x_J8_newLength_cabcc tx_J8_newLength_cabcc 23 (i_cS 15 2 3 26) := s_invokestatic hG (mi := 15) (n := 2) (cal_J8_hugeLength_7cf53 (Nat.le_of_ble_eq_true rfl)) w_334 w_335 dJ8_newLength_cabcc_23
theorem s_J8_newLength_cabcc_26 {X : ev_E} {l : Launch} (hG : ev_Good X) (hl : l.stackTraces = false) : ev_Snd X l ev_ms x_J8_newLength_cabcc tx_J8_newLength_cabcc 26 (i_ir (.int)) := s_ireturn rfl dJ8_newLength_cabcc_26
theorem sa_J8_newLength_cabcc {X : ev_E} {l : Launch} (hG : ev_Good X) (hl : l.stackTraces = false) : ∀ q ∈ tb_J8_newLength_cabcc X, ev_Snd X l ev_ms x_J8_newLength_cabcc tx_J8_newLength_cabcc q.1 q.2 := by
  intro q hq
  unfold tb_J8_newLength_cabcc at hq
  simp only [List.mem_cons, List.not_mem_nil, or_false] at hq
  rcases hq with rfl | rfl | rfl | rfl | rfl | rfl | rfl | rfl | rfl | rfl | rfl | rfl | rfl | rfl | rfl | rfl | rfl | rfl
  · exact s_J8_newLength_cabcc_0 hG hl
  · exact s_J8_newLength_cabcc_1 hG hl
  · exact s_J8_newLength_cabcc_2 hG hl
  · exact s_J8_newLength_cabcc_3 hG hl
  · exact s_J8_newLength_cabcc_6 hG hl
  · exact s_J8_newLength_cabcc_7 hG hl
  · exact s_J8_newLength_cabcc_8 hG hl
  · exact s_J8_newLength_cabcc_9 hG hl
  · exact s_J8_newLength_cabcc_10 hG hl
  · exact s_J8_newLength_cabcc_13 hG hl
  · exact s_J8_newLength_cabcc_14 hG hl
  · exact s_J8_newLength_cabcc_16 hG hl
  · exact s_J8_newLength_cabcc_19 hG hl
  · exact s_J8_newLength_cabcc_20 hG hl
  · exact s_J8_newLength_cabcc_21 hG hl
  · exact s_J8_newLength_cabcc_22 hG hl
  · exact s_J8_newLength_cabcc_23 hG hl
  · exact s_J8_newLength_cabcc_26 hG hl
def tx_Jx35411_next_0502b : ev_X := fun _ _ => some none
noncomputable def tb_Jx35411_next_0502b (X : ev_E) : List (Nat × (ev_S → ev_N)) := [(0, i_al 0 1), (1, i_cV X 18 0 3 1 4), (4, i_al 0 5), (5, i_gf X 3 0 8), (8, i_is 1 9), (9, i_il 1 10), (10, i_al 0 11), (11, i_gf X 3 3 14), (14, i_gf X 4 2 17), (17, i_iclt 28 20), (20, i_no), (23, i_dup 24), (24, i_no), (27, i_no), (28, i_al 0 29), (29, i_gf X 3 3 32), (32, i_gf X 4 1 35), (35, i_as 2 36), (36, i_il 1 37), (37, i_al 2 38), (38, i_len X 39), (39, i_iclt 50 42), (42, i_no), (45, i_dup 46), (46, i_no), (49, i_no), (50, i_al 0 51), (51, i_il 1 52), (52, i_psh (.int (1)) 53), (53, i_ii (fun a b => a + b) 54), (54, i_pf 3 0 (.int) 57), (57, i_al 2 58), (58, i_al 0 59), (59, i_il 1 60), (60, i_dx1 61), (61, i_pf 3 1 (.int) 64), (64, i_ald X FieldType.isReference 65), (65, i_ar)]
theorem s_Jx35411_next_0502b_0 {X : ev_E} {l : Launch} (hG : ev_Good X) (hl : l.stackTraces = false) : ev_Snd X l ev_ms x_Jx35411_next_0502b tx_Jx35411_next_0502b 0 (i_al 0 1) := s_aload_n dJx35411_next_0502b_0 rfl
theorem s_Jx35411_next_0502b_1 {X : ev_E} {l : Launch} (hG : ev_Good X) (hl : l.stackTraces = false) : ev_Snd X l ev_ms x_Jx35411_next_0502b tx_Jx35411_next_0502b 1 (i_cV X 18 0 3 1 4) := s_invokevirtual hG (mi := 18) (n := 0) (ci := 3) (r := (RJx35411, TJx35411, 4)) rfl (cal_Jx35411_checkForComodification_da8c8 (Nat.le_of_ble_eq_true rfl)) w_1476 w_1477 w_1478 dJx35411_next_0502b_1
theorem s_Jx35411_next_0502b_4 {X : ev_E} {l : Launch} (hG : ev_Good X) (hl : l.stackTraces = false) : ev_Snd X l ev_ms x_Jx35411_next_0502b tx_Jx35411_next_0502b 4 (i_al 0 5) := s_aload_n dJx35411_next_0502b_4 rfl
theorem s_Jx35411_next_0502b_5 {X : ev_E} {l : Launch} (hG : ev_Good X) (hl : l.stackTraces = false) : ev_Snd X l ev_ms x_Jx35411_next_0502b tx_Jx35411_next_0502b 5 (i_gf X 3 0 8) := s_getfield hG (ci := 3) (r := (RJx35411, TJx35411, 4)) rfl cw_3 (k := 0) (Nat.le_of_ble_eq_true rfl) w_1444 rfl (Or.inl rfl) dJx35411_next_0502b_5
theorem s_Jx35411_next_0502b_8 {X : ev_E} {l : Launch} (hG : ev_Good X) (hl : l.stackTraces = false) : ev_Snd X l ev_ms x_Jx35411_next_0502b tx_Jx35411_next_0502b 8 (i_is 1 9) := s_istore_n dJx35411_next_0502b_8 rfl (Nat.le_of_ble_eq_true rfl)
theorem s_Jx35411_next_0502b_9 {X : ev_E} {l : Launch} (hG : ev_Good X) (hl : l.stackTraces = false) : ev_Snd X l ev_ms x_Jx35411_next_0502b tx_Jx35411_next_0502b 9 (i_il 1 10) := s_iload_n dJx35411_next_0502b_9 rfl
theorem s_Jx35411_next_0502b_10 {X : ev_E} {l : Launch} (hG : ev_Good X) (hl : l.stackTraces = false) : ev_Snd X l ev_ms x_Jx35411_next_0502b tx_Jx35411_next_0502b 10 (i_al 0 11) := s_aload_n dJx35411_next_0502b_10 rfl
theorem s_Jx35411_next_0502b_11 {X : ev_E} {l : Launch} (hG : ev_Good X) (hl : l.stackTraces = false) : ev_Snd X l ev_ms x_Jx35411_next_0502b tx_Jx35411_next_0502b 11 (i_gf X 3 3 14) := s_getfield hG (ci := 3) (r := (RJx35411, TJx35411, 4)) rfl cw_3 (k := 3) (Nat.le_of_ble_eq_true rfl) w_1447 rfl (Or.inl rfl) dJx35411_next_0502b_11
theorem s_Jx35411_next_0502b_14 {X : ev_E} {l : Launch} (hG : ev_Good X) (hl : l.stackTraces = false) : ev_Snd X l ev_ms x_Jx35411_next_0502b tx_Jx35411_next_0502b 14 (i_gf X 4 2 17) := s_getfieldN hG (ci := 4) (r := (RJx4a65c, TJx4a65c, 3)) rfl cw_4 (k := 2) (Nat.le_of_ble_eq_true rfl) w_1208 rfl dJx35411_next_0502b_14
theorem s_Jx35411_next_0502b_17 {X : ev_E} {l : Launch} (hG : ev_Good X) (hl : l.stackTraces = false) : ev_Snd X l ev_ms x_Jx35411_next_0502b tx_Jx35411_next_0502b 17 (i_iclt 28 20) := s_iclt dJx35411_next_0502b_17 rfl
theorem s_Jx35411_next_0502b_20 {X : ev_E} {l : Launch} (hG : ev_Good X) (hl : l.stackTraces = false) : ev_Snd X l ev_ms x_Jx35411_next_0502b tx_Jx35411_next_0502b 20 (i_no) := s_no
theorem s_Jx35411_next_0502b_23 {X : ev_E} {l : Launch} (hG : ev_Good X) (hl : l.stackTraces = false) : ev_Snd X l ev_ms x_Jx35411_next_0502b tx_Jx35411_next_0502b 23 (i_dup 24) := s_dup dJx35411_next_0502b_23
theorem s_Jx35411_next_0502b_24 {X : ev_E} {l : Launch} (hG : ev_Good X) (hl : l.stackTraces = false) : ev_Snd X l ev_ms x_Jx35411_next_0502b tx_Jx35411_next_0502b 24 (i_no) := s_no
theorem s_Jx35411_next_0502b_27 {X : ev_E} {l : Launch} (hG : ev_Good X) (hl : l.stackTraces = false) : ev_Snd X l ev_ms x_Jx35411_next_0502b tx_Jx35411_next_0502b 27 (i_no) := s_no
theorem s_Jx35411_next_0502b_28 {X : ev_E} {l : Launch} (hG : ev_Good X) (hl : l.stackTraces = false) : ev_Snd X l ev_ms x_Jx35411_next_0502b tx_Jx35411_next_0502b 28 (i_al 0 29) := s_aload_n dJx35411_next_0502b_28 rfl
theorem s_Jx35411_next_0502b_29 {X : ev_E} {l : Launch} (hG : ev_Good X) (hl : l.stackTraces = false) : ev_Snd X l ev_ms x_Jx35411_next_0502b tx_Jx35411_next_0502b 29 (i_gf X 3 3 32) := s_getfield hG (ci := 3) (r := (RJx35411, TJx35411, 4)) rfl cw_3 (k := 3) (Nat.le_of_ble_eq_true rfl) w_1447 rfl (Or.inl rfl) dJx35411_next_0502b_29
theorem s_Jx35411_next_0502b_32 {X : ev_E} {l : Launch} (hG : ev_Good X) (hl : l.stackTraces = false) : ev_Snd X l ev_ms x_Jx35411_next_0502b tx_Jx35411_next_0502b 32 (i_gf X 4 1 35) := s_getfield hG (ci := 4) (r := (RJx4a65c, TJx4a65c, 3)) rfl cw_4 (k := 1) (Nat.le_of_ble_eq_true rfl) w_1207 rfl (Or.inl rfl) dJx35411_next_0502b_32
theorem s_Jx35411_next_0502b_35 {X : ev_E} {l : Launch} (hG : ev_Good X) (hl : l.stackTraces = false) : ev_Snd X l ev_ms x_Jx35411_next_0502b tx_Jx35411_next_0502b 35 (i_as 2 36) := s_astore_n dJx35411_next_0502b_35 rfl (Nat.le_of_ble_eq_true rfl)
theorem s_Jx35411_next_0502b_36 {X : ev_E} {l : Launch} (hG : ev_Good X) (hl : l.stackTraces = false) : ev_Snd X l ev_ms x_Jx35411_next_0502b tx_Jx35411_next_0502b 36 (i_il 1 37) := s_iload_n dJx35411_next_0502b_36 rfl
theorem s_Jx35411_next_0502b_37 {X : ev_E} {l : Launch} (hG : ev_Good X) (hl : l.stackTraces = false) : ev_Snd X l ev_ms x_Jx35411_next_0502b tx_Jx35411_next_0502b 37 (i_al 2 38) := s_aload_n dJx35411_next_0502b_37 rfl
theorem s_Jx35411_next_0502b_38 {X : ev_E} {l : Launch} (hG : ev_Good X) (hl : l.stackTraces = false) : ev_Snd X l ev_ms x_Jx35411_next_0502b tx_Jx35411_next_0502b 38 (i_len X 39) := s_arraylength hG dJx35411_next_0502b_38
theorem s_Jx35411_next_0502b_39 {X : ev_E} {l : Launch} (hG : ev_Good X) (hl : l.stackTraces = false) : ev_Snd X l ev_ms x_Jx35411_next_0502b tx_Jx35411_next_0502b 39 (i_iclt 50 42) := s_iclt dJx35411_next_0502b_39 rfl
theorem s_Jx35411_next_0502b_42 {X : ev_E} {l : Launch} (hG : ev_Good X) (hl : l.stackTraces = false) : ev_Snd X l ev_ms x_Jx35411_next_0502b tx_Jx35411_next_0502b 42 (i_no) := s_no
theorem s_Jx35411_next_0502b_45 {X : ev_E} {l : Launch} (hG : ev_Good X) (hl : l.stackTraces = false) : ev_Snd X l ev_ms x_Jx35411_next_0502b tx_Jx35411_next_0502b 45 (i_dup 46) := s_dup dJx35411_next_0502b_45
theorem s_Jx35411_next_0502b_46 {X : ev_E} {l : Launch} (hG : ev_Good X) (hl : l.stackTraces = false) : ev_Snd X l ev_ms x_Jx35411_next_0502b tx_Jx35411_next_0502b 46 (i_no) := s_no
theorem s_Jx35411_next_0502b_49 {X : ev_E} {l : Launch} (hG : ev_Good X) (hl : l.stackTraces = false) : ev_Snd X l ev_ms x_Jx35411_next_0502b tx_Jx35411_next_0502b 49 (i_no) := s_no
theorem s_Jx35411_next_0502b_50 {X : ev_E} {l : Launch} (hG : ev_Good X) (hl : l.stackTraces = false) : ev_Snd X l ev_ms x_Jx35411_next_0502b tx_Jx35411_next_0502b 50 (i_al 0 51) := s_aload_n dJx35411_next_0502b_50 rfl
theorem s_Jx35411_next_0502b_51 {X : ev_E} {l : Launch} (hG : ev_Good X) (hl : l.stackTraces = false) : ev_Snd X l ev_ms x_Jx35411_next_0502b tx_Jx35411_next_0502b 51 (i_il 1 52) := s_iload_n dJx35411_next_0502b_51 rfl
theorem s_Jx35411_next_0502b_52 {X : ev_E} {l : Launch} (hG : ev_Good X) (hl : l.stackTraces = false) : ev_Snd X l ev_ms x_Jx35411_next_0502b tx_Jx35411_next_0502b 52 (i_psh (.int (1)) 53) := s_iconst dJx35411_next_0502b_52 rfl
theorem s_Jx35411_next_0502b_53 {X : ev_E} {l : Launch} (hG : ev_Good X) (hl : l.stackTraces = false) : ev_Snd X l ev_ms x_Jx35411_next_0502b tx_Jx35411_next_0502b 53 (i_ii (fun a b => a + b) 54) := s_iadd dJx35411_next_0502b_53
theorem s_Jx35411_next_0502b_54 {X : ev_E} {l : Launch} (hG : ev_Good X) (hl : l.stackTraces = false) : ev_Snd X l ev_ms x_Jx35411_next_0502b tx_Jx35411_next_0502b 54 (i_pf 3 0 (.int) 57) := s_putfield hG (ci := 3) (r := (RJx35411, TJx35411, 4)) rfl cw_3 ap_3 (k := 0) (Nat.le_of_ble_eq_true rfl) rfl (by decide +kernel) w_1444 rfl (Or.inl rfl) dJx35411_next_0502b_54
theorem s_Jx35411_next_0502b_57 {X : ev_E} {l : Launch} (hG : ev_Good X) (hl : l.stackTraces = false) : ev_Snd X l ev_ms x_Jx35411_next_0502b tx_Jx35411_next_0502b 57 (i_al 2 58) := s_aload_n dJx35411_next_0502b_57 rfl
theorem s_Jx35411_next_0502b_58 {X : ev_E} {l : Launch} (hG : ev_Good X) (hl : l.stackTraces = false) : ev_Snd X l ev_ms x_Jx35411_next_0502b tx_Jx35411_next_0502b 58 (i_al 0 59) := s_aload_n dJx35411_next_0502b_58 rfl
theorem s_Jx35411_next_0502b_59 {X : ev_E} {l : Launch} (hG : ev_Good X) (hl : l.stackTraces = false) : ev_Snd X l ev_ms x_Jx35411_next_0502b tx_Jx35411_next_0502b 59 (i_il 1 60) := s_iload_n dJx35411_next_0502b_59 rfl
theorem s_Jx35411_next_0502b_60 {X : ev_E} {l : Launch} (hG : ev_Good X) (hl : l.stackTraces = false) : ev_Snd X l ev_ms x_Jx35411_next_0502b tx_Jx35411_next_0502b 60 (i_dx1 61) := s_dup_x1 dJx35411_next_0502b_60
theorem s_Jx35411_next_0502b_61 {X : ev_E} {l : Launch} (hG : ev_Good X) (hl : l.stackTraces = false) : ev_Snd X l ev_ms x_Jx35411_next_0502b tx_Jx35411_next_0502b 61 (i_pf 3 1 (.int) 64) := s_putfield hG (ci := 3) (r := (RJx35411, TJx35411, 4)) rfl cw_3 ap_3 (k := 1) (Nat.le_of_ble_eq_true rfl) rfl (by decide +kernel) w_1445 rfl (Or.inl rfl) dJx35411_next_0502b_61
theorem s_Jx35411_next_0502b_64 {X : ev_E} {l : Launch} (hG : ev_Good X) (hl : l.stackTraces = false) : ev_Snd X l ev_ms x_Jx35411_next_0502b tx_Jx35411_next_0502b 64 (i_ald X FieldType.isReference 65) := s_aaload hG dJx35411_next_0502b_64
theorem s_Jx35411_next_0502b_65 {X : ev_E} {l : Launch} (hG : ev_Good X) (hl : l.stackTraces = false) : ev_Snd X l ev_ms x_Jx35411_next_0502b tx_Jx35411_next_0502b 65 (i_ar) := s_areturn (rt := (.object "java/lang/Object")) rfl (by first | exact Or.inl ⟨_, rfl⟩ | exact Or.inr ⟨_, rfl⟩) dJx35411_next_0502b_65
theorem sa_Jx35411_next_0502b {X : ev_E} {l : Launch} (hG : ev_Good X) (hl : l.stackTraces = false) : ∀ q ∈ tb_Jx35411_next_0502b X, ev_Snd X l ev_ms x_Jx35411_next_0502b tx_Jx35411_next_0502b q.1 q.2 := by
  intro q hq
  unfold tb_Jx35411_next_0502b at hq
  simp only [List.mem_cons, List.not_mem_nil, or_false] at hq
  rcases hq with rfl | rfl | rfl | rfl | rfl | rfl | rfl | rfl | rfl | rfl | rfl | rfl | rfl | rfl | rfl | rfl | rfl | rfl | rfl | rfl | rfl | rfl | rfl | rfl | rfl | rfl | rfl | rfl | rfl | rfl | rfl | rfl | rfl | rfl | rfl | rfl | rfl | rfl
  · exact s_Jx35411_next_0502b_0 hG hl
  · exact s_Jx35411_next_0502b_1 hG hl
  · exact s_Jx35411_next_0502b_4 hG hl
  · exact s_Jx35411_next_0502b_5 hG hl
  · exact s_Jx35411_next_0502b_8 hG hl
  · exact s_Jx35411_next_0502b_9 hG hl
  · exact s_Jx35411_next_0502b_10 hG hl
  · exact s_Jx35411_next_0502b_11 hG hl
  · exact s_Jx35411_next_0502b_14 hG hl
  · exact s_Jx35411_next_0502b_17 hG hl
  · exact s_Jx35411_next_0502b_20 hG hl
  · exact s_Jx35411_next_0502b_23 hG hl
  · exact s_Jx35411_next_0502b_24 hG hl
  · exact s_Jx35411_next_0502b_27 hG hl
  · exact s_Jx35411_next_0502b_28 hG hl
  · exact s_Jx35411_next_0502b_29 hG hl
  · exact s_Jx35411_next_0502b_32 hG hl
  · exact s_Jx35411_next_0502b_35 hG hl
  · exact s_Jx35411_next_0502b_36 hG hl
  · exact s_Jx35411_next_0502b_37 hG hl
  · exact s_Jx35411_next_0502b_38 hG hl
  · exact s_Jx35411_next_0502b_39 hG hl
  · exact s_Jx35411_next_0502b_42 hG hl
  · exact s_Jx35411_next_0502b_45 hG hl
  · exact s_Jx35411_next_0502b_46 hG hl
  · exact s_Jx35411_next_0502b_49 hG hl
  · exact s_Jx35411_next_0502b_50 hG hl
  · exact s_Jx35411_next_0502b_51 hG hl
  · exact s_Jx35411_next_0502b_52 hG hl
  · exact s_Jx35411_next_0502b_53 hG hl
  · exact s_Jx35411_next_0502b_54 hG hl
  · exact s_Jx35411_next_0502b_57 hG hl
  · exact s_Jx35411_next_0502b_58 hG hl
  · exact s_Jx35411_next_0502b_59 hG hl
  · exact s_Jx35411_next_0502b_60 hG hl
  · exact s_Jx35411_next_0502b_61 hG hl
  · exact s_Jx35411_next_0502b_64 hG hl
  · exact s_Jx35411_next_0502b_65 hG hl
def tx_Jx4a65c_iterator_32c93 : ev_X := fun pc _ => bif List.elem pc [5] then none else some none
noncomputable def tb_Jx4a65c_iterator_32c93 (X : ev_E) : List (Nat × (ev_S → ev_N)) := [(0, i_nw 3 4 [.int 0, .int 0, .int 0, .null] 3), (3, i_dup 4), (4, i_al 0 5), (5, i_cI 20 1 2 8), (8, i_ar)]
theorem s_Jx4a65c_iterator_32c93_0 {X : ev_E} {l : Launch} (hG : ev_Good X) (hl : l.stackTraces = false) : ev_Snd X l ev_ms x_Jx4a65c_iterator_32c93 tx_Jx4a65c_iterator_32c93 0 (i_nw 3 4 [.int 0, .int 0, .int 0, .null] 3) := s_new hG (ci := 3) (r := (RJx35411, TJx35411, 4)) rfl cw_3 tyJx35411 tyJx35411_ok (fun j hj => nw_3 j hj) w_1438 rfl w_1439 rfl w_73 rfl dJx4a65c_iterator_32c93_0
theorem s_Jx4a65c_iterator_32c93_3 {X : ev_E} {l : Launch} (hG : ev_Good X) (hl : l.stackTraces = false) : ev_Snd X l ev_ms x_Jx4a65c_iterator_32c93 tx_Jx4a65c_iterator_32c93 3 (i_dup 4) := s_dup dJx4a65c_iterator_32c93_3
theorem s_Jx4a65c_iterator_32c93_4 {X : ev_E} {l : Launch} (hG : ev_Good X) (hl : l.stackTraces = false) : ev_Snd X l ev_ms x_Jx4a65c_iterator_32c93 tx_Jx4a65c_iterator_32c93 4 (i_al 0 5) := s_aload_n dJx4a65c_iterator_32c93_4 rfl
theorem s_Jx4a65c_iterator_32c93_5 {X : ev_E} {l : Launch} (hG : ev_Good X) (hl : l.stackTraces = false) : ev_Snd X l ev_ms x_Jx4a65c_iterator_32c93 tx_Jx4a65c_iterator_32c93 5 (i_cI 20 1 2 8) := s_invokeinit hG (mi := 20) (n := 1) (cal_Jx35411_init_45d68 (Nat.le_of_ble_eq_true rfl)) rfl w_1440 w_1441 rfl (fun _ => rfl) dJx4a65c_iterator_32c93_5
theorem s_Jx4a65c_iterator_32c93_8 {X : ev_E} {l : Launch} (hG : ev_Good X) (hl : l.stackTraces = false) : ev_Snd X l ev_ms x_Jx4a65c_iterator_32c93 tx_Jx4a65c_iterator_32c93 8 (i_ar) := s_areturn (rt := (.object "java/util/Iterator")) rfl (by first | exact Or.inl ⟨_, rfl⟩ | exact Or.inr ⟨_, rfl⟩) dJx4a65c_iterator_32c93_8
theorem sa_Jx4a65c_iterator_32c93 {X : ev_E} {l : Launch} (hG : ev_Good X) (hl : l.stackTraces = false) : ∀ q ∈ tb_Jx4a65c_iterator_32c93 X, ev_Snd X l ev_ms x_Jx4a65c_iterator_32c93 tx_Jx4a65c_iterator_32c93 q.1 q.2 := by
  intro q hq
  unfold tb_Jx4a65c_iterator_32c93 at hq
  simp only [List.mem_cons, List.not_mem_nil, or_false] at hq
  rcases hq with rfl | rfl | rfl | rfl | rfl
  · exact s_Jx4a65c_iterator_32c93_0 hG hl
  · exact s_Jx4a65c_iterator_32c93_3 hG hl
  · exact s_Jx4a65c_iterator_32c93_4 hG hl
  · exact s_Jx4a65c_iterator_32c93_5 hG hl
  · exact s_Jx4a65c_iterator_32c93_8 hG hl
def tx_Jxc12de_init_da8c8 : ev_X := fun pc _ => bif List.elem pc [1] then none else some none
noncomputable def tb_Jxc12de_init_da8c8 (X : ev_E) : List (Nat × (ev_S → ev_N)) := [(0, i_al 0 1), (1, i_cI 25 0 1 4), (4, i_al 0 5), (5, i_psh (.int (0)) 6), (6, i_pf 4 0 (.int) 9), (9, i_vr)]
theorem s_Jxc12de_init_da8c8_0 {X : ev_E} {l : Launch} (hG : ev_Good X) (hl : l.stackTraces = false) : ev_Snd X l ev_ms x_Jxc12de_init_da8c8 tx_Jxc12de_init_da8c8 0 (i_al 0 1) := s_aload_n dJxc12de_init_da8c8_0 rfl
theorem s_Jxc12de_init_da8c8_1 {X : ev_E} {l : Launch} (hG : ev_Good X) (hl : l.stackTraces = false) : ev_Snd X l ev_ms x_Jxc12de_init_da8c8 tx_Jxc12de_init_da8c8 1 (i_cI 25 0 1 4) := s_invokeinit hG (mi := 25) (n := 0) (cal_Jxa1e45_init_da8c8 (Nat.le_of_ble_eq_true rfl)) rfl w_1200 w_1201 rfl (fun _ => rfl) dJxc12de_init_da8c8_1
theorem s_Jxc12de_init_da8c8_4 {X : ev_E} {l : Launch} (hG : ev_Good X) (hl : l.stackTraces = false) : ev_Snd X l ev_ms x_Jxc12de_init_da8c8 tx_Jxc12de_init_da8c8 4 (i_al 0 5) := s_aload_n dJxc12de_init_da8c8_4 rfl
theorem s_Jxc12de_init_da8c8_5 {X : ev_E} {l : Launch} (hG : ev_Good X) (hl : l.stackTraces = false) : ev_Snd X l ev_ms x_Jxc12de_init_da8c8 tx_Jxc12de_init_da8c8 5 (i_psh (.int (0)) 6) := s_iconst dJxc12de_init_da8c8_5 rfl
theorem s_Jxc12de_init_da8c8_6 {X : ev_E} {l : Launch} (hG : ev_Good X) (hl : l.stackTraces = false) : ev_Snd X l ev_ms x_Jxc12de_init_da8c8 tx_Jxc12de_init_da8c8 6 (i_pf 4 0 (.int) 9) := s_putfield hG (ci := 4) (r := (RJx4a65c, TJx4a65c, 3)) rfl cw_4 ap_4 (k := 0) (Nat.le_of_ble_eq_true rfl) rfl (by decide +kernel) w_1210 rfl (Or.inl rfl) dJxc12de_init_da8c8_6
theorem s_Jxc12de_init_da8c8_9 {X : ev_E} {l : Launch} (hG : ev_Good X) (hl : l.stackTraces = false) : ev_Snd X l ev_ms x_Jxc12de_init_da8c8 tx_Jxc12de_init_da8c8 9 (i_vr) := s_return rfl dJxc12de_init_da8c8_9
theorem sa_Jxc12de_init_da8c8 {X : ev_E} {l : Launch} (hG : ev_Good X) (hl : l.stackTraces = false) : ∀ q ∈ tb_Jxc12de_init_da8c8 X, ev_Snd X l ev_ms x_Jxc12de_init_da8c8 tx_Jxc12de_init_da8c8 q.1 q.2 := by
  intro q hq
  unfold tb_Jxc12de_init_da8c8 at hq
  simp only [List.mem_cons, List.not_mem_nil, or_false] at hq
  rcases hq with rfl | rfl | rfl | rfl | rfl | rfl
  · exact s_Jxc12de_init_da8c8_0 hG hl
  · exact s_Jxc12de_init_da8c8_1 hG hl
  · exact s_Jxc12de_init_da8c8_4 hG hl
  · exact s_Jxc12de_init_da8c8_5 hG hl
  · exact s_Jxc12de_init_da8c8_6 hG hl
  · exact s_Jxc12de_init_da8c8_9 hG hl
def tx_J2_checkBoundsBeginEnd_d044e : ev_X := fun _ _ => some none
noncomputable def tb_J2_checkBoundsBeginEnd_d044e (X : ev_E) : List (Nat × (ev_S → ev_N)) := [(0, i_il 0 1), (1, i_il 1 2), (2, i_al 2 3), (3, i_cS 3 1 1 6), (6, i_cS 72 3 3 9), (9, i_vr)]
theorem s_J2_checkBoundsBeginEnd_d044e_0 {X : ev_E} {l : Launch} (hG : ev_Good X) (hl : l.stackTraces = false) : ev_Snd X l ev_ms x_J2_checkBoundsBeginEnd_d044e tx_J2_checkBoundsBeginEnd_d044e 0 (i_il 0 1) := s_iload_n dJ2_checkBoundsBeginEnd_d044e_0 rfl
theorem s_J2_checkBoundsBeginEnd_d044e_1 {X : ev_E} {l : Launch} (hG : ev_Good X) (hl : l.stackTraces = false) : ev_Snd X l ev_ms x_J2_checkBoundsBeginEnd_d044e tx_J2_checkBoundsBeginEnd_d044e 1 (i_il 1 2) := s_iload_n dJ2_checkBoundsBeginEnd_d044e_1 rfl
theorem s_J2_checkBoundsBeginEnd_d044e_2 {X : ev_E} {l : Launch} (hG : ev_Good X) (hl : l.stackTraces = false) : ev_Snd X l ev_ms x_J2_checkBoundsBeginEnd_d044e tx_J2_checkBoundsBeginEnd_d044e 2 (i_al 2 3) := s_aload_n dJ2_checkBoundsBeginEnd_d044e_2 rfl
theorem s_J2_checkBoundsBeginEnd_d044e_3 {X : ev_E} {l : Launch} (hG : ev_Good X) (hl : l.stackTraces = false) : ev_Snd X l ev_ms x_J2_checkBoundsBeginEnd_d044e tx_J2_checkBoundsBeginEnd_d044e 3 (i_cS 3 1 1 6) := s_invokestatic hG (mi := 3) (n := 1) (cal_J2_length_9d52b (Nat.le_of_ble_eq_true rfl)) w_375 w_376 dJ2_checkBoundsBeginEnd_d044e_3
theorem s_J2_checkBoundsBeginEnd_d044e_6 {X : ev_E} {l : Launch} (hG : ev_Good X) (hl : l.stackTraces = false) : ev_Snd X l ev_ms x_J2_checkBoundsBeginEnd_d044e tx_J2_checkBoundsBeginEnd_d044e 6 (i_cS 72 3 3 9) := s_invokestatic hG (mi := 72) (n := 3) (cal_J0_checkBoundsBeginEnd_23922 (Nat.le_of_ble_eq_true rfl)) w_430 w_431 dJ2_checkBoundsBeginEnd_d044e_6
theorem s_J2_checkBoundsBeginEnd_d044e_9 {X : ev_E} {l : Launch} (hG : ev_Good X) (hl : l.stackTraces = false) : ev_Snd X l ev_ms x_J2_checkBoundsBeginEnd_d044e tx_J2_checkBoundsBeginEnd_d044e 9 (i_vr) := s_return rfl dJ2_checkBoundsBeginEnd_d044e_9
theorem sa_J2_checkBoundsBeginEnd_d044e {X : ev_E} {l : Launch} (hG : ev_Good X) (hl : l.stackTraces = false) : ∀ q ∈ tb_J2_checkBoundsBeginEnd_d044e X, ev_Snd X l ev_ms x_J2_checkBoundsBeginEnd_d044e tx_J2_checkBoundsBeginEnd_d044e q.1 q.2 := by
  intro q hq
  unfold tb_J2_checkBoundsBeginEnd_d044e at hq
  simp only [List.mem_cons, List.not_mem_nil, or_false] at hq
  rcases hq with rfl | rfl | rfl | rfl | rfl | rfl
  · exact s_J2_checkBoundsBeginEnd_d044e_0 hG hl
  · exact s_J2_checkBoundsBeginEnd_d044e_1 hG hl
  · exact s_J2_checkBoundsBeginEnd_d044e_2 hG hl
  · exact s_J2_checkBoundsBeginEnd_d044e_3 hG hl
  · exact s_J2_checkBoundsBeginEnd_d044e_6 hG hl
  · exact s_J2_checkBoundsBeginEnd_d044e_9 hG hl
def tx_J2_checkBoundsOffCount_d044e : ev_X := fun _ _ => some none
noncomputable def tb_J2_checkBoundsOffCount_d044e (X : ev_E) : List (Nat × (ev_S → ev_N)) := [(0, i_il 0 1), (1, i_il 1 2), (2, i_al 2 3), (3, i_cS 3 1 1 6), (6, i_cS 73 3 3 9), (9, i_pop 10), (10, i_vr)]
theorem s_J2_checkBoundsOffCount_d044e_0 {X : ev_E} {l : Launch} (hG : ev_Good X) (hl : l.stackTraces = false) : ev_Snd X l ev_ms x_J2_checkBoundsOffCount_d044e tx_J2_checkBoundsOffCount_d044e 0 (i_il 0 1) := s_iload_n dJ2_checkBoundsOffCount_d044e_0 rfl
theorem s_J2_checkBoundsOffCount_d044e_1 {X : ev_E} {l : Launch} (hG : ev_Good X) (hl : l.stackTraces = false) : ev_Snd X l ev_ms x_J2_checkBoundsOffCount_d044e tx_J2_checkBoundsOffCount_d044e 1 (i_il 1 2) := s_iload_n dJ2_checkBoundsOffCount_d044e_1 rfl
theorem s_J2_checkBoundsOffCount_d044e_2 {X : ev_E} {l : Launch} (hG : ev_Good X) (hl : l.stackTraces = false) : ev_Snd X l ev_ms x_J2_checkBoundsOffCount_d044e tx_J2_checkBoundsOffCount_d044e 2 (i_al 2 3) := s_aload_n dJ2_checkBoundsOffCount_d044e_2 rfl
theorem s_J2_checkBoundsOffCount_d044e_3 {X : ev_E} {l : Launch} (hG : ev_Good X) (hl : l.stackTraces = false) : ev_Snd X l ev_ms x_J2_checkBoundsOffCount_d044e tx_J2_checkBoundsOffCount_d044e 3 (i_cS 3 1 1 6) := s_invokestatic hG (mi := 3) (n := 1) (cal_J2_length_9d52b (Nat.le_of_ble_eq_true rfl)) w_375 w_376 dJ2_checkBoundsOffCount_d044e_3
theorem s_J2_checkBoundsOffCount_d044e_6 {X : ev_E} {l : Launch} (hG : ev_Good X) (hl : l.stackTraces = false) : ev_Snd X l ev_ms x_J2_checkBoundsOffCount_d044e tx_J2_checkBoundsOffCount_d044e 6 (i_cS 73 3 3 9) := s_invokestatic hG (mi := 73) (n := 3) (cal_J0_checkBoundsOffCount_cabcc (Nat.le_of_ble_eq_true rfl)) w_378 w_379 dJ2_checkBoundsOffCount_d044e_6
theorem s_J2_checkBoundsOffCount_d044e_9 {X : ev_E} {l : Launch} (hG : ev_Good X) (hl : l.stackTraces = false) : ev_Snd X l ev_ms x_J2_checkBoundsOffCount_d044e tx_J2_checkBoundsOffCount_d044e 9 (i_pop 10) := s_pop dJ2_checkBoundsOffCount_d044e_9
theorem s_J2_checkBoundsOffCount_d044e_10 {X : ev_E} {l : Launch} (hG : ev_Good X) (hl : l.stackTraces = false) : ev_Snd X l ev_ms x_J2_checkBoundsOffCount_d044e tx_J2_checkBoundsOffCount_d044e 10 (i_vr) := s_return rfl dJ2_checkBoundsOffCount_d044e_10
theorem sa_J2_checkBoundsOffCount_d044e {X : ev_E} {l : Launch} (hG : ev_Good X) (hl : l.stackTraces = false) : ∀ q ∈ tb_J2_checkBoundsOffCount_d044e X, ev_Snd X l ev_ms x_J2_checkBoundsOffCount_d044e tx_J2_checkBoundsOffCount_d044e q.1 q.2 := by
  intro q hq
  unfold tb_J2_checkBoundsOffCount_d044e at hq
  simp only [List.mem_cons, List.not_mem_nil, or_false] at hq
  rcases hq with rfl | rfl | rfl | rfl | rfl | rfl | rfl
  · exact s_J2_checkBoundsOffCount_d044e_0 hG hl
  · exact s_J2_checkBoundsOffCount_d044e_1 hG hl
  · exact s_J2_checkBoundsOffCount_d044e_2 hG hl
  · exact s_J2_checkBoundsOffCount_d044e_3 hG hl
  · exact s_J2_checkBoundsOffCount_d044e_6 hG hl
  · exact s_J2_checkBoundsOffCount_d044e_9 hG hl
  · exact s_J2_checkBoundsOffCount_d044e_10 hG hl
def tx_J2_checkIndex_2214a : ev_X := fun _ _ => some none
noncomputable def tb_J2_checkIndex_2214a (X : ev_E) : List (Nat × (ev_S → ev_N)) := [(0, i_il 0 1), (1, i_al 1 2), (2, i_cS 3 1 1 5), (5, i_cS 74 2 2 8), (8, i_vr)]
theorem s_J2_checkIndex_2214a_0 {X : ev_E} {l : Launch} (hG : ev_Good X) (hl : l.stackTraces = false) : ev_Snd X l ev_ms x_J2_checkIndex_2214a tx_J2_checkIndex_2214a 0 (i_il 0 1) := s_iload_n dJ2_checkIndex_2214a_0 rfl
theorem s_J2_checkIndex_2214a_1 {X : ev_E} {l : Launch} (hG : ev_Good X) (hl : l.stackTraces = false) : ev_Snd X l ev_ms x_J2_checkIndex_2214a tx_J2_checkIndex_2214a 1 (i_al 1 2) := s_aload_n dJ2_checkIndex_2214a_1 rfl
theorem s_J2_checkIndex_2214a_2 {X : ev_E} {l : Launch} (hG : ev_Good X) (hl : l.stackTraces = false) : ev_Snd X l ev_ms x_J2_checkIndex_2214a tx_J2_checkIndex_2214a 2 (i_cS 3 1 1 5) := s_invokestatic hG (mi := 3) (n := 1) (cal_J2_length_9d52b (Nat.le_of_ble_eq_true rfl)) w_375 w_376 dJ2_checkIndex_2214a_2
theorem s_J2_checkIndex_2214a_5 {X : ev_E} {l : Launch} (hG : ev_Good X) (hl : l.stackTraces = false) : ev_Snd X l ev_ms x_J2_checkIndex_2214a tx_J2_checkIndex_2214a 5 (i_cS 74 2 2 8) := s_invokestatic hG (mi := 74) (n := 2) (cal_J0_checkIndex_df160 (Nat.le_of_ble_eq_true rfl)) w_401 w_402 dJ2_checkIndex_2214a_5
theorem s_J2_checkIndex_2214a_8 {X : ev_E} {l : Launch} (hG : ev_Good X) (hl : l.stackTraces = false) : ev_Snd X l ev_ms x_J2_checkIndex_2214a tx_J2_checkIndex_2214a 8 (i_vr) := s_return rfl dJ2_checkIndex_2214a_8
theorem sa_J2_checkIndex_2214a {X : ev_E} {l : Launch} (hG : ev_Good X) (hl : l.stackTraces = false) : ∀ q ∈ tb_J2_checkIndex_2214a X, ev_Snd X l ev_ms x_J2_checkIndex_2214a tx_J2_checkIndex_2214a q.1 q.2 := by
  intro q hq
  unfold tb_J2_checkIndex_2214a at hq
  simp only [List.mem_cons, List.not_mem_nil, or_false] at hq
  rcases hq with rfl | rfl | rfl | rfl | rfl
  · exact s_J2_checkIndex_2214a_0 hG hl
  · exact s_J2_checkIndex_2214a_1 hG hl
  · exact s_J2_checkIndex_2214a_2 hG hl
  · exact s_J2_checkIndex_2214a_5 hG hl
  · exact s_J2_checkIndex_2214a_8 hG hl
def tx_J2_getChars_ba4f3 : ev_X := fun _ _ => some none
noncomputable def tb_J2_getChars_ba4f3_c0 (X : ev_E) : List (Nat × (ev_S → ev_N)) := [(0, i_il 1 1), (1, i_is 5 3), (3, i_il 0 4), (4, i_ifge 11 7), (7, i_psh (.int (1)) 8), (8, i_goto 12), (11, i_psh (.int (0)) 12), (12, i_is 6 14), (14, i_il 6 16), (16, i_ifne 22 19), (19, i_il 0 20), (20, i_i1 (fun a => -a) 21), (21, i_is 0 22), (22, i_il 0 23), (23, i_psh (.int (-100)) 25), (25, i_icgt 76 28), (28, i_il 0 29), (29, i_psh (.int (100)) 31), (31, i_iid (fun a b => a / b) 32), (32, i_is 3 33), (33, i_il 3 34), (34, i_psh (.int (100)) 36), (36, i_ii (fun a b => a * b) 37), (37, i_il 0 38), (38, i_ii (fun a b => a - b) 39), (39, i_is 4 41), (41, i_il 3 42), (42, i_is 0 43), (43, i_al 2 44), (44, i_inc 5 (-1) 47), (47, i_il 5 49), (49, i_psh (.ref (X.2.2.2.2.2 2)) 52), (52, i_il 4 54), (54, i_ald X ev_tB 55), (55, i_cS 79 3 3 58), (58, i_al 2 59), (59, i_inc 5 (-1) 62), (62, i_il 5 64), (64, i_psh (.ref (X.2.2.2.2.2 3)) 67), (67, i_il 4 69), (69, i_ald X ev_tB 70), (70, i_cS 79 3 3 73), (73, i_goto 22), (76, i_al 2 77), (77, i_inc 5 (-1) 80), (80, i_il 5 82), (82, i_psh (.ref (X.2.2.2.2.2 2)) 85), (85, i_il 0 86), (86, i_i1 (fun a => -a) 87), (87, i_ald X ev_tB 88), (88, i_cS 79 3 3 91), (91, i_il 0 92), (92, i_psh (.int (-9)) 94), (94, i_icge 112 97), (97, i_al 2 98), (98, i_inc 5 (-1) 101), (101, i_il 5 103), (103, i_psh (.ref (X.2.2.2.2.2 3)) 106), (106, i_il 0 107), (107, i_i1 (fun a => -a) 108)]
noncomputable def tb_J2_getChars_ba4f3_c1 (X : ev_E) : List (Nat × (ev_S → ev_N)) := [(108, i_ald X ev_tB 109), (109, i_cS 79 3 3 112), (112, i_il 6 114), (114, i_ifeq 128 117), (117, i_al 2 118), (118, i_inc 5 (-1) 121), (121, i_il 5 123), (123, i_psh (.int (45)) 125), (125, i_cS 79 3 3 128), (128, i_il 5 130), (130, i_ir (.int))]
noncomputable def tb_J2_getChars_ba4f3 (X : ev_E) : List (Nat × (ev_S → ev_N)) := tb_J2_getChars_ba4f3_c0 X ++ (tb_J2_getChars_ba4f3_c1 X)
theorem s_J2_getChars_ba4f3_0 {X : ev_E} {l : Launch} (hG : ev_Good X) (hl : l.stackTraces = false) : ev_Snd X l ev_ms x_J2_getChars_ba4f3 tx_J2_getChars_ba4f3 0 (i_il 1 1) := s_iload_n dJ2_getChars_ba4f3_0 rfl
theorem s_J2_getChars_ba4f3_1 {X : ev_E} {l : Launch} (hG : ev_Good X) (hl : l.stackTraces = false) : ev_Snd X l ev_ms x_J2_getChars_ba4f3 tx_J2_getChars_ba4f3 1 (i_is 5 3) := s_istore dJ2_getChars_ba4f3_1 (Nat.le_of_ble_eq_true rfl)
theorem s_J2_getChars_ba4f3_3 {X : ev_E} {l : Launch} (hG : ev_Good X) (hl : l.stackTraces = false) : ev_Snd X l ev_ms x_J2_getChars_ba4f3 tx_J2_getChars_ba4f3 3 (i_il 0 4) := s_iload_n dJ2_getChars_ba4f3_3 rfl
theorem s_J2_getChars_ba4f3_4 {X : ev_E} {l : Launch} (hG : ev_Good X) (hl : l.stackTraces = false) : ev_Snd X l ev_ms x_J2_getChars_ba4f3 tx_J2_getChars_ba4f3 4 (i_ifge 11 7) := s_ifge dJ2_getChars_ba4f3_4 rfl
theorem s_J2_getChars_ba4f3_7 {X : ev_E} {l : Launch} (hG : ev_Good X) (hl : l.stackTraces = false) : ev_Snd X l ev_ms x_J2_getChars_ba4f3 tx_J2_getChars_ba4f3 7 (i_psh (.int (1)) 8) := s_iconst dJ2_getChars_ba4f3_7 rfl
theorem s_J2_getChars_ba4f3_8 {X : ev_E} {l : Launch} (hG : ev_Good X) (hl : l.stackTraces = false) : ev_Snd X l ev_ms x_J2_getChars_ba4f3 tx_J2_getChars_ba4f3 8 (i_goto 12) := s_goto dJ2_getChars_ba4f3_8 rfl
theorem s_J2_getChars_ba4f3_11 {X : ev_E} {l : Launch} (hG : ev_Good X) (hl : l.stackTraces = false) : ev_Snd X l ev_ms x_J2_getChars_ba4f3 tx_J2_getChars_ba4f3 11 (i_psh (.int (0)) 12) := s_iconst dJ2_getChars_ba4f3_11 rfl
theorem s_J2_getChars_ba4f3_12 {X : ev_E} {l : Launch} (hG : ev_Good X) (hl : l.stackTraces = false) : ev_Snd X l ev_ms x_J2_getChars_ba4f3 tx_J2_getChars_ba4f3 12 (i_is 6 14) := s_istore dJ2_getChars_ba4f3_12 (Nat.le_of_ble_eq_true rfl)
theorem s_J2_getChars_ba4f3_14 {X : ev_E} {l : Launch} (hG : ev_Good X) (hl : l.stackTraces = false) : ev_Snd X l ev_ms x_J2_getChars_ba4f3 tx_J2_getChars_ba4f3 14 (i_il 6 16) := s_iload dJ2_getChars_ba4f3_14
theorem s_J2_getChars_ba4f3_16 {X : ev_E} {l : Launch} (hG : ev_Good X) (hl : l.stackTraces = false) : ev_Snd X l ev_ms x_J2_getChars_ba4f3 tx_J2_getChars_ba4f3 16 (i_ifne 22 19) := s_ifne dJ2_getChars_ba4f3_16 rfl
theorem s_J2_getChars_ba4f3_19 {X : ev_E} {l : Launch} (hG : ev_Good X) (hl : l.stackTraces = false) : ev_Snd X l ev_ms x_J2_getChars_ba4f3 tx_J2_getChars_ba4f3 19 (i_il 0 20) := s_iload_n dJ2_getChars_ba4f3_19 rfl
theorem s_J2_getChars_ba4f3_20 {X : ev_E} {l : Launch} (hG : ev_Good X) (hl : l.stackTraces = false) : ev_Snd X l ev_ms x_J2_getChars_ba4f3 tx_J2_getChars_ba4f3 20 (i_i1 (fun a => -a) 21) := s_ineg dJ2_getChars_ba4f3_20
theorem s_J2_getChars_ba4f3_21 {X : ev_E} {l : Launch} (hG : ev_Good X) (hl : l.stackTraces = false) : ev_Snd X l ev_ms x_J2_getChars_ba4f3 tx_J2_getChars_ba4f3 21 (i_is 0 22) := s_istore_n dJ2_getChars_ba4f3_21 rfl (Nat.le_of_ble_eq_true rfl)
theorem s_J2_getChars_ba4f3_22 {X : ev_E} {l : Launch} (hG : ev_Good X) (hl : l.stackTraces = false) : ev_Snd X l ev_ms x_J2_getChars_ba4f3 tx_J2_getChars_ba4f3 22 (i_il 0 23) := s_iload_n dJ2_getChars_ba4f3_22 rfl
theorem s_J2_getChars_ba4f3_23 {X : ev_E} {l : Launch} (hG : ev_Good X) (hl : l.stackTraces = false) : ev_Snd X l ev_ms x_J2_getChars_ba4f3 tx_J2_getChars_ba4f3 23 (i_psh (.int (-100)) 25) := s_bipush dJ2_getChars_ba4f3_23 rfl
theorem s_J2_getChars_ba4f3_25 {X : ev_E} {l : Launch} (hG : ev_Good X) (hl : l.stackTraces = false) : ev_Snd X l ev_ms x_J2_getChars_ba4f3 tx_J2_getChars_ba4f3 25 (i_icgt 76 28) := s_icgt dJ2_getChars_ba4f3_25 rfl
theorem s_J2_getChars_ba4f3_28 {X : ev_E} {l : Launch} (hG : ev_Good X) (hl : l.stackTraces = false) : ev_Snd X l ev_ms x_J2_getChars_ba4f3 tx_J2_getChars_ba4f3 28 (i_il 0 29) := s_iload_n dJ2_getChars_ba4f3_28 rfl
theorem s_J2_getChars_ba4f3_29 {X : ev_E} {l : Launch} (hG : ev_Good X) (hl : l.stackTraces = false) : ev_Snd X l ev_ms x_J2_getChars_ba4f3 tx_J2_getChars_ba4f3 29 (i_psh (.int (100)) 31) := s_bipush dJ2_getChars_ba4f3_29 rfl
theorem s_J2_getChars_ba4f3_31 {X : ev_E} {l : Launch} (hG : ev_Good X) (hl : l.stackTraces = false) : ev_Snd X l ev_ms x_J2_getChars_ba4f3 tx_J2_getChars_ba4f3 31 (i_iid (fun a b => a / b) 32) := s_idiv dJ2_getChars_ba4f3_31
theorem s_J2_getChars_ba4f3_32 {X : ev_E} {l : Launch} (hG : ev_Good X) (hl : l.stackTraces = false) : ev_Snd X l ev_ms x_J2_getChars_ba4f3 tx_J2_getChars_ba4f3 32 (i_is 3 33) := s_istore_n dJ2_getChars_ba4f3_32 rfl (Nat.le_of_ble_eq_true rfl)
theorem s_J2_getChars_ba4f3_33 {X : ev_E} {l : Launch} (hG : ev_Good X) (hl : l.stackTraces = false) : ev_Snd X l ev_ms x_J2_getChars_ba4f3 tx_J2_getChars_ba4f3 33 (i_il 3 34) := s_iload_n dJ2_getChars_ba4f3_33 rfl
theorem s_J2_getChars_ba4f3_34 {X : ev_E} {l : Launch} (hG : ev_Good X) (hl : l.stackTraces = false) : ev_Snd X l ev_ms x_J2_getChars_ba4f3 tx_J2_getChars_ba4f3 34 (i_psh (.int (100)) 36) := s_bipush dJ2_getChars_ba4f3_34 rfl
theorem s_J2_getChars_ba4f3_36 {X : ev_E} {l : Launch} (hG : ev_Good X) (hl : l.stackTraces = false) : ev_Snd X l ev_ms x_J2_getChars_ba4f3 tx_J2_getChars_ba4f3 36 (i_ii (fun a b => a * b) 37) := s_imul dJ2_getChars_ba4f3_36
theorem s_J2_getChars_ba4f3_37 {X : ev_E} {l : Launch} (hG : ev_Good X) (hl : l.stackTraces = false) : ev_Snd X l ev_ms x_J2_getChars_ba4f3 tx_J2_getChars_ba4f3 37 (i_il 0 38) := s_iload_n dJ2_getChars_ba4f3_37 rfl
theorem s_J2_getChars_ba4f3_38 {X : ev_E} {l : Launch} (hG : ev_Good X) (hl : l.stackTraces = false) : ev_Snd X l ev_ms x_J2_getChars_ba4f3 tx_J2_getChars_ba4f3 38 (i_ii (fun a b => a - b) 39) := s_isub dJ2_getChars_ba4f3_38
theorem s_J2_getChars_ba4f3_39 {X : ev_E} {l : Launch} (hG : ev_Good X) (hl : l.stackTraces = false) : ev_Snd X l ev_ms x_J2_getChars_ba4f3 tx_J2_getChars_ba4f3 39 (i_is 4 41) := s_istore dJ2_getChars_ba4f3_39 (Nat.le_of_ble_eq_true rfl)
theorem s_J2_getChars_ba4f3_41 {X : ev_E} {l : Launch} (hG : ev_Good X) (hl : l.stackTraces = false) : ev_Snd X l ev_ms x_J2_getChars_ba4f3 tx_J2_getChars_ba4f3 41 (i_il 3 42) := s_iload_n dJ2_getChars_ba4f3_41 rfl
theorem s_J2_getChars_ba4f3_42 {X : ev_E} {l : Launch} (hG : ev_Good X) (hl : l.stackTraces = false) : ev_Snd X l ev_ms x_J2_getChars_ba4f3 tx_J2_getChars_ba4f3 42 (i_is 0 43) := s_istore_n dJ2_getChars_ba4f3_42 rfl (Nat.le_of_ble_eq_true rfl)
theorem s_J2_getChars_ba4f3_43 {X : ev_E} {l : Launch} (hG : ev_Good X) (hl : l.stackTraces = false) : ev_Snd X l ev_ms x_J2_getChars_ba4f3 tx_J2_getChars_ba4f3 43 (i_al 2 44) := s_aload_n dJ2_getChars_ba4f3_43 rfl
theorem s_J2_getChars_ba4f3_44 {X : ev_E} {l : Launch} (hG : ev_Good X) (hl : l.stackTraces = false) : ev_Snd X l ev_ms x_J2_getChars_ba4f3 tx_J2_getChars_ba4f3 44 (i_inc 5 (-1) 47) := s_iinc dJ2_getChars_ba4f3_44 rfl (Nat.le_of_ble_eq_true rfl)
theorem s_J2_getChars_ba4f3_47 {X : ev_E} {l : Launch} (hG : ev_Good X) (hl : l.stackTraces = false) : ev_Snd X l ev_ms x_J2_getChars_ba4f3 tx_J2_getChars_ba4f3 47 (i_il 5 49) := s_iload dJ2_getChars_ba4f3_47
theorem s_J2_getChars_ba4f3_49 {X : ev_E} {l : Launch} (hG : ev_Good X) (hl : l.stackTraces = false) : ev_Snd X l ev_ms x_J2_getChars_ba4f3 tx_J2_getChars_ba4f3 49 (i_psh (.ref (X.2.2.2.2.2 2)) 52) := s_getstatic hG (hG.2.2.2.2.2.2.2.2.2.2.2.2.2.1) rfl w_439 dJ2_getChars_ba4f3_49
theorem s_J2_getChars_ba4f3_52 {X : ev_E} {l : Launch} (hG : ev_Good X) (hl : l.stackTraces = false) : ev_Snd X l ev_ms x_J2_getChars_ba4f3 tx_J2_getChars_ba4f3 52 (i_il 4 54) := s_iload dJ2_getChars_ba4f3_52
theorem s_J2_getChars_ba4f3_54 {X : ev_E} {l : Launch} (hG : ev_Good X) (hl : l.stackTraces = false) : ev_Snd X l ev_ms x_J2_getChars_ba4f3 tx_J2_getChars_ba4f3 54 (i_ald X ev_tB 55) := s_baload hG dJ2_getChars_ba4f3_54
theorem s_J2_getChars_ba4f3_55 {X : ev_E} {l : Launch} (hG : ev_Good X) (hl : l.stackTraces = false) : ev_Snd X l ev_ms x_J2_getChars_ba4f3 tx_J2_getChars_ba4f3 55 (i_cS 79 3 3 58) := s_invokestatic hG (mi := 79) (n := 3) (cal_J2_putChar_b72d1 (Nat.le_of_ble_eq_true rfl)) w_386 w_387 dJ2_getChars_ba4f3_55
theorem s_J2_getChars_ba4f3_58 {X : ev_E} {l : Launch} (hG : ev_Good X) (hl : l.stackTraces = false) : ev_Snd X l ev_ms x_J2_getChars_ba4f3 tx_J2_getChars_ba4f3 58 (i_al 2 59) := s_aload_n dJ2_getChars_ba4f3_58 rfl
theorem s_J2_getChars_ba4f3_59 {X : ev_E} {l : Launch} (hG : ev_Good X) (hl : l.stackTraces = false) : ev_Snd X l ev_ms x_J2_getChars_ba4f3 tx_J2_getChars_ba4f3 59 (i_inc 5 (-1) 62) := s_iinc dJ2_getChars_ba4f3_59 rfl (Nat.le_of_ble_eq_true rfl)
theorem s_J2_getChars_ba4f3_62 {X : ev_E} {l : Launch} (hG : ev_Good X) (hl : l.stackTraces = false) : ev_Snd X l ev_ms x_J2_getChars_ba4f3 tx_J2_getChars_ba4f3 62 (i_il 5 64) := s_iload dJ2_getChars_ba4f3_62
theorem s_J2_getChars_ba4f3_64 {X : ev_E} {l : Launch} (hG : ev_Good X) (hl : l.stackTraces = false) : ev_Snd X l ev_ms x_J2_getChars_ba4f3 tx_J2_getChars_ba4f3 64 (i_psh (.ref (X.2.2.2.2.2 3)) 67) := s_getstatic hG (hG.2.2.2.2.2.2.2.2.2.2.2.2.2.2.1) rfl w_440 dJ2_getChars_ba4f3_64
theorem s_J2_getChars_ba4f3_67 {X : ev_E} {l : Launch} (hG : ev_Good X) (hl : l.stackTraces = false) : ev_Snd X l ev_ms x_J2_getChars_ba4f3 tx_J2_getChars_ba4f3 67 (i_il 4 69) := s_iload dJ2_getChars_ba4f3_67
theorem s_J2_getChars_ba4f3_69 {X : ev_E} {l : Launch} (hG : ev_Good X) (hl : l.stackTraces = false) : ev_Snd X l ev_ms x_J2_getChars_ba4f3 tx_J2_getChars_ba4f3 69 (i_ald X ev_tB 70) := s_baload hG dJ2_getChars_ba4f3_69
theorem s_J2_getChars_ba4f3_70 {X : ev_E} {l : Launch} (hG : ev_Good X) (hl : l.stackTraces = false) : ev_Snd X l ev_ms x_J2_getChars_ba4f3 tx_J2_getChars_ba4f3 70 (i_cS 79 3 3 73) := s_invokestatic hG (mi := 79) (n := 3) (cal_J2_putChar_b72d1 (Nat.le_of_ble_eq_true rfl)) w_386 w_387 dJ2_getChars_ba4f3_70
theorem s_J2_getChars_ba4f3_73 {X : ev_E} {l : Launch} (hG : ev_Good X) (hl : l.stackTraces = false) : ev_Snd X l ev_ms x_J2_getChars_ba4f3 tx_J2_getChars_ba4f3 73 (i_goto 22) := s_goto dJ2_getChars_ba4f3_73 rfl
theorem s_J2_getChars_ba4f3_76 {X : ev_E} {l : Launch} (hG : ev_Good X) (hl : l.stackTraces = false) : ev_Snd X l ev_ms x_J2_getChars_ba4f3 tx_J2_getChars_ba4f3 76 (i_al 2 77) := s_aload_n dJ2_getChars_ba4f3_76 rfl
theorem s_J2_getChars_ba4f3_77 {X : ev_E} {l : Launch} (hG : ev_Good X) (hl : l.stackTraces = false) : ev_Snd X l ev_ms x_J2_getChars_ba4f3 tx_J2_getChars_ba4f3 77 (i_inc 5 (-1) 80) := s_iinc dJ2_getChars_ba4f3_77 rfl (Nat.le_of_ble_eq_true rfl)
theorem s_J2_getChars_ba4f3_80 {X : ev_E} {l : Launch} (hG : ev_Good X) (hl : l.stackTraces = false) : ev_Snd X l ev_ms x_J2_getChars_ba4f3 tx_J2_getChars_ba4f3 80 (i_il 5 82) := s_iload dJ2_getChars_ba4f3_80
theorem s_J2_getChars_ba4f3_82 {X : ev_E} {l : Launch} (hG : ev_Good X) (hl : l.stackTraces = false) : ev_Snd X l ev_ms x_J2_getChars_ba4f3 tx_J2_getChars_ba4f3 82 (i_psh (.ref (X.2.2.2.2.2 2)) 85) := s_getstatic hG (hG.2.2.2.2.2.2.2.2.2.2.2.2.2.1) rfl w_439 dJ2_getChars_ba4f3_82
theorem s_J2_getChars_ba4f3_85 {X : ev_E} {l : Launch} (hG : ev_Good X) (hl : l.stackTraces = false) : ev_Snd X l ev_ms x_J2_getChars_ba4f3 tx_J2_getChars_ba4f3 85 (i_il 0 86) := s_iload_n dJ2_getChars_ba4f3_85 rfl
theorem s_J2_getChars_ba4f3_86 {X : ev_E} {l : Launch} (hG : ev_Good X) (hl : l.stackTraces = false) : ev_Snd X l ev_ms x_J2_getChars_ba4f3 tx_J2_getChars_ba4f3 86 (i_i1 (fun a => -a) 87) := s_ineg dJ2_getChars_ba4f3_86
theorem s_J2_getChars_ba4f3_87 {X : ev_E} {l : Launch} (hG : ev_Good X) (hl : l.stackTraces = false) : ev_Snd X l ev_ms x_J2_getChars_ba4f3 tx_J2_getChars_ba4f3 87 (i_ald X ev_tB 88) := s_baload hG dJ2_getChars_ba4f3_87
theorem s_J2_getChars_ba4f3_88 {X : ev_E} {l : Launch} (hG : ev_Good X) (hl : l.stackTraces = false) : ev_Snd X l ev_ms x_J2_getChars_ba4f3 tx_J2_getChars_ba4f3 88 (i_cS 79 3 3 91) := s_invokestatic hG (mi := 79) (n := 3) (cal_J2_putChar_b72d1 (Nat.le_of_ble_eq_true rfl)) w_386 w_387 dJ2_getChars_ba4f3_88
theorem s_J2_getChars_ba4f3_91 {X : ev_E} {l : Launch} (hG : ev_Good X) (hl : l.stackTraces = false) : ev_Snd X l ev_ms x_J2_getChars_ba4f3 tx_J2_getChars_ba4f3 91 (i_il 0 92) := s_iload_n dJ2_getChars_ba4f3_91 rfl
theorem s_J2_getChars_ba4f3_92 {X : ev_E} {l : Launch} (hG : ev_Good X) (hl : l.stackTraces = false) : ev_Snd X l ev_ms x_J2_getChars_ba4f3 tx_J2_getChars_ba4f3 92 (i_psh (.int (-9)) 94) := s_bipush dJ2_getChars_ba4f3_92 rfl
theorem s_J2_getChars_ba4f3_94 {X : ev_E} {l : Launch} (hG : ev_Good X) (hl : l.stackTraces = false) : ev_Snd X l ev_ms x_J2_getChars_ba4f3 tx_J2_getChars_ba4f3 94 (i_icge 112 97) := s_icge dJ2_getChars_ba4f3_94 rfl
theorem s_J2_getChars_ba4f3_97 {X : ev_E} {l : Launch} (hG : ev_Good X) (hl : l.stackTraces = false) : ev_Snd X l ev_ms x_J2_getChars_ba4f3 tx_J2_getChars_ba4f3 97 (i_al 2 98) := s_aload_n dJ2_getChars_ba4f3_97 rfl
theorem s_J2_getChars_ba4f3_98 {X : ev_E} {l : Launch} (hG : ev_Good X) (hl : l.stackTraces = false) : ev_Snd X l ev_ms x_J2_getChars_ba4f3 tx_J2_getChars_ba4f3 98 (i_inc 5 (-1) 101) := s_iinc dJ2_getChars_ba4f3_98 rfl (Nat.le_of_ble_eq_true rfl)
theorem s_J2_getChars_ba4f3_101 {X : ev_E} {l : Launch} (hG : ev_Good X) (hl : l.stackTraces = false) : ev_Snd X l ev_ms x_J2_getChars_ba4f3 tx_J2_getChars_ba4f3 101 (i_il 5 103) := s_iload dJ2_getChars_ba4f3_101
theorem s_J2_getChars_ba4f3_103 {X : ev_E} {l : Launch} (hG : ev_Good X) (hl : l.stackTraces = false) : ev_Snd X l ev_ms x_J2_getChars_ba4f3 tx_J2_getChars_ba4f3 103 (i_psh (.ref (X.2.2.2.2.2 3)) 106) := s_getstatic hG (hG.2.2.2.2.2.2.2.2.2.2.2.2.2.2.1) rfl w_440 dJ2_getChars_ba4f3_103
theorem s_J2_getChars_ba4f3_106 {X : ev_E} {l : Launch} (hG : ev_Good X) (hl : l.stackTraces = false) : ev_Snd X l ev_ms x_J2_getChars_ba4f3 tx_J2_getChars_ba4f3 106 (i_il 0 107) := s_iload_n dJ2_getChars_ba4f3_106 rfl
theorem s_J2_getChars_ba4f3_107 {X : ev_E} {l : Launch} (hG : ev_Good X) (hl : l.stackTraces = false) : ev_Snd X l ev_ms x_J2_getChars_ba4f3 tx_J2_getChars_ba4f3 107 (i_i1 (fun a => -a) 108) := s_ineg dJ2_getChars_ba4f3_107
theorem s_J2_getChars_ba4f3_108 {X : ev_E} {l : Launch} (hG : ev_Good X) (hl : l.stackTraces = false) : ev_Snd X l ev_ms x_J2_getChars_ba4f3 tx_J2_getChars_ba4f3 108 (i_ald X ev_tB 109) := s_baload hG dJ2_getChars_ba4f3_108
theorem s_J2_getChars_ba4f3_109 {X : ev_E} {l : Launch} (hG : ev_Good X) (hl : l.stackTraces = false) : ev_Snd X l ev_ms x_J2_getChars_ba4f3 tx_J2_getChars_ba4f3 109 (i_cS 79 3 3 112) := s_invokestatic hG (mi := 79) (n := 3) (cal_J2_putChar_b72d1 (Nat.le_of_ble_eq_true rfl)) w_386 w_387 dJ2_getChars_ba4f3_109
theorem s_J2_getChars_ba4f3_112 {X : ev_E} {l : Launch} (hG : ev_Good X) (hl : l.stackTraces = false) : ev_Snd X l ev_ms x_J2_getChars_ba4f3 tx_J2_getChars_ba4f3 112 (i_il 6 114) := s_iload dJ2_getChars_ba4f3_112
theorem s_J2_getChars_ba4f3_114 {X : ev_E} {l : Launch} (hG : ev_Good X) (hl : l.stackTraces = false) : ev_Snd X l ev_ms x_J2_getChars_ba4f3 tx_J2_getChars_ba4f3 114 (i_ifeq 128 117) := s_ifeq dJ2_getChars_ba4f3_114 rfl
theorem s_J2_getChars_ba4f3_117 {X : ev_E} {l : Launch} (hG : ev_Good X) (hl : l.stackTraces = false) : ev_Snd X l ev_ms x_J2_getChars_ba4f3 tx_J2_getChars_ba4f3 117 (i_al 2 118) := s_aload_n dJ2_getChars_ba4f3_117 rfl
theorem s_J2_getChars_ba4f3_118 {X : ev_E} {l : Launch} (hG : ev_Good X) (hl : l.stackTraces = false) : ev_Snd X l ev_ms x_J2_getChars_ba4f3 tx_J2_getChars_ba4f3 118 (i_inc 5 (-1) 121) := s_iinc dJ2_getChars_ba4f3_118 rfl (Nat.le_of_ble_eq_true rfl)
theorem s_J2_getChars_ba4f3_121 {X : ev_E} {l : Launch} (hG : ev_Good X) (hl : l.stackTraces = false) : ev_Snd X l ev_ms x_J2_getChars_ba4f3 tx_J2_getChars_ba4f3 121 (i_il 5 123) := s_iload dJ2_getChars_ba4f3_121
theorem s_J2_getChars_ba4f3_123 {X : ev_E} {l : Launch} (hG : ev_Good X) (hl : l.stackTraces = false) : ev_Snd X l ev_ms x_J2_getChars_ba4f3 tx_J2_getChars_ba4f3 123 (i_psh (.int (45)) 125) := s_bipush dJ2_getChars_ba4f3_123 rfl
theorem s_J2_getChars_ba4f3_125 {X : ev_E} {l : Launch} (hG : ev_Good X) (hl : l.stackTraces = false) : ev_Snd X l ev_ms x_J2_getChars_ba4f3 tx_J2_getChars_ba4f3 125 (i_cS 79 3 3 128) := s_invokestatic hG (mi := 79) (n := 3) (cal_J2_putChar_b72d1 (Nat.le_of_ble_eq_true rfl)) w_386 w_387 dJ2_getChars_ba4f3_125
theorem s_J2_getChars_ba4f3_128 {X : ev_E} {l : Launch} (hG : ev_Good X) (hl : l.stackTraces = false) : ev_Snd X l ev_ms x_J2_getChars_ba4f3 tx_J2_getChars_ba4f3 128 (i_il 5 130) := s_iload dJ2_getChars_ba4f3_128
theorem s_J2_getChars_ba4f3_130 {X : ev_E} {l : Launch} (hG : ev_Good X) (hl : l.stackTraces = false) : ev_Snd X l ev_ms x_J2_getChars_ba4f3 tx_J2_getChars_ba4f3 130 (i_ir (.int)) := s_ireturn rfl dJ2_getChars_ba4f3_130
theorem sa_J2_getChars_ba4f3_c0 {X : ev_E} {l : Launch} (hG : ev_Good X) (hl : l.stackTraces = false) : ∀ q ∈ tb_J2_getChars_ba4f3_c0 X, ev_Snd X l ev_ms x_J2_getChars_ba4f3 tx_J2_getChars_ba4f3 q.1 q.2 := by
  intro q hq
  unfold tb_J2_getChars_ba4f3_c0 at hq
  simp only [List.mem_cons, List.not_mem_nil, or_false] at hq
  rcases hq with rfl | rfl | rfl | rfl | rfl | rfl | rfl | rfl | rfl | rfl | rfl | rfl | rfl | rfl | rfl | rfl | rfl | rfl | rfl | rfl | rfl | rfl | rfl | rfl | rfl | rfl | rfl | rfl | rfl | rfl | rfl | rfl | rfl | rfl | rfl | rfl | rfl | rfl | rfl | rfl | rfl | rfl | rfl | rfl | rfl | rfl | rfl | rfl | rfl | rfl | rfl | rfl | rfl | rfl | rfl | rfl | rfl | rfl | rfl | rfl
  · exact s_J2_getChars_ba4f3_0 hG hl
  · exact s_J2_getChars_ba4f3_1 hG hl
  · exact s_J2_getChars_ba4f3_3 hG hl
  · exact s_J2_getChars_ba4f3_4 hG hl
  · exact s_J2_getChars_ba4f3_7 hG hl
  · exact s_J2_getChars_ba4f3_8 hG hl
  · exact s_J2_getChars_ba4f3_11 hG hl
  · exact s_J2_getChars_ba4f3_12 hG hl
  · exact s_J2_getChars_ba4f3_14 hG hl
  · exact s_J2_getChars_ba4f3_16 hG hl
  · exact s_J2_getChars_ba4f3_19 hG hl
  · exact s_J2_getChars_ba4f3_20 hG hl
  · exact s_J2_getChars_ba4f3_21 hG hl
  · exact s_J2_getChars_ba4f3_22 hG hl
  · exact s_J2_getChars_ba4f3_23 hG hl
  · exact s_J2_getChars_ba4f3_25 hG hl
  · exact s_J2_getChars_ba4f3_28 hG hl
  · exact s_J2_getChars_ba4f3_29 hG hl
  · exact s_J2_getChars_ba4f3_31 hG hl
  · exact s_J2_getChars_ba4f3_32 hG hl
  · exact s_J2_getChars_ba4f3_33 hG hl
  · exact s_J2_getChars_ba4f3_34 hG hl
  · exact s_J2_getChars_ba4f3_36 hG hl
  · exact s_J2_getChars_ba4f3_37 hG hl
  · exact s_J2_getChars_ba4f3_38 hG hl
  · exact s_J2_getChars_ba4f3_39 hG hl
  · exact s_J2_getChars_ba4f3_41 hG hl
  · exact s_J2_getChars_ba4f3_42 hG hl
  · exact s_J2_getChars_ba4f3_43 hG hl
  · exact s_J2_getChars_ba4f3_44 hG hl
  · exact s_J2_getChars_ba4f3_47 hG hl
  · exact s_J2_getChars_ba4f3_49 hG hl
  · exact s_J2_getChars_ba4f3_52 hG hl
  · exact s_J2_getChars_ba4f3_54 hG hl
  · exact s_J2_getChars_ba4f3_55 hG hl
  · exact s_J2_getChars_ba4f3_58 hG hl
  · exact s_J2_getChars_ba4f3_59 hG hl
  · exact s_J2_getChars_ba4f3_62 hG hl
  · exact s_J2_getChars_ba4f3_64 hG hl
  · exact s_J2_getChars_ba4f3_67 hG hl
  · exact s_J2_getChars_ba4f3_69 hG hl
  · exact s_J2_getChars_ba4f3_70 hG hl
  · exact s_J2_getChars_ba4f3_73 hG hl
  · exact s_J2_getChars_ba4f3_76 hG hl
  · exact s_J2_getChars_ba4f3_77 hG hl
  · exact s_J2_getChars_ba4f3_80 hG hl
  · exact s_J2_getChars_ba4f3_82 hG hl
  · exact s_J2_getChars_ba4f3_85 hG hl
  · exact s_J2_getChars_ba4f3_86 hG hl
  · exact s_J2_getChars_ba4f3_87 hG hl
  · exact s_J2_getChars_ba4f3_88 hG hl
  · exact s_J2_getChars_ba4f3_91 hG hl
  · exact s_J2_getChars_ba4f3_92 hG hl
  · exact s_J2_getChars_ba4f3_94 hG hl
  · exact s_J2_getChars_ba4f3_97 hG hl
  · exact s_J2_getChars_ba4f3_98 hG hl
  · exact s_J2_getChars_ba4f3_101 hG hl
  · exact s_J2_getChars_ba4f3_103 hG hl
  · exact s_J2_getChars_ba4f3_106 hG hl
  · exact s_J2_getChars_ba4f3_107 hG hl
theorem sa_J2_getChars_ba4f3_c1 {X : ev_E} {l : Launch} (hG : ev_Good X) (hl : l.stackTraces = false) : ∀ q ∈ tb_J2_getChars_ba4f3_c1 X, ev_Snd X l ev_ms x_J2_getChars_ba4f3 tx_J2_getChars_ba4f3 q.1 q.2 := by
  intro q hq
  unfold tb_J2_getChars_ba4f3_c1 at hq
  simp only [List.mem_cons, List.not_mem_nil, or_false] at hq
  rcases hq with rfl | rfl | rfl | rfl | rfl | rfl | rfl | rfl | rfl | rfl | rfl
  · exact s_J2_getChars_ba4f3_108 hG hl
  · exact s_J2_getChars_ba4f3_109 hG hl
  · exact s_J2_getChars_ba4f3_112 hG hl
  · exact s_J2_getChars_ba4f3_114 hG hl
  · exact s_J2_getChars_ba4f3_117 hG hl
  · exact s_J2_getChars_ba4f3_118 hG hl
  · exact s_J2_getChars_ba4f3_121 hG hl
  · exact s_J2_getChars_ba4f3_123 hG hl
  · exact s_J2_getChars_ba4f3_125 hG hl
  · exact s_J2_getChars_ba4f3_128 hG hl
  · exact s_J2_getChars_ba4f3_130 hG hl
theorem sa_J2_getChars_ba4f3 {X : ev_E} {l : Launch} (hG : ev_Good X) (hl : l.stackTraces = false) : ∀ q ∈ tb_J2_getChars_ba4f3 X, ev_Snd X l ev_ms x_J2_getChars_ba4f3 tx_J2_getChars_ba4f3 q.1 q.2 := List.forall_mem_append.mpr ⟨sa_J2_getChars_ba4f3_c0 hG hl, sa_J2_getChars_ba4f3_c1 hG hl⟩
