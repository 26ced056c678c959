def tx_X8_eldest : ev_X := fun _ _ => some none
noncomputable def tb_X8_eldest (X : ev_E) : List (Nat × (ev_S → ev_N)) := [(0, i_al 0 1), (1, i_il 1 2), (2, i_cS 118 1 1 5), (5, i_psh (.int (0)) 6), (6, i_psh (.int (0)) 7), (7, i_cV X 63 3 13 4 10), (10, i_ifeq 17 13), (13, i_psh (.int (0)) 14), (14, i_goto 24), (17, i_al 0 18), (18, i_il 1 19), (19, i_psh (.int (0)) 20), (20, i_psh (.int (0)) 21), (21, i_cV X 215 3 13 5 24), (24, i_ir (.int))]
theorem s_X8_eldest_0 {X : ev_E} {l : Launch} (hG : ev_Good X) (hl : l.stackTraces = false) : ev_Snd X l ev_ms x_X8_eldest tx_X8_eldest 0 (i_al 0 1) := s_aload_n dX8_eldest_0 rfl
theorem s_X8_eldest_1 {X : ev_E} {l : Launch} (hG : ev_Good X) (hl : l.stackTraces = false) : ev_Snd X l ev_ms x_X8_eldest tx_X8_eldest 1 (i_il 1 2) := s_iload_n dX8_eldest_1 rfl
theorem s_X8_eldest_2 {X : ev_E} {l : Launch} (hG : ev_Good X) (hl : l.stackTraces = false) : ev_Snd X l ev_ms x_X8_eldest tx_X8_eldest 2 (i_cS 118 1 1 5) := s_invokestatic hG (mi := 118) (n := 1) (cal_X8_isNo (Nat.le_of_ble_eq_true rfl)) w_1284 w_1285 dX8_eldest_2
theorem s_X8_eldest_5 {X : ev_E} {l : Launch} (hG : ev_Good X) (hl : l.stackTraces = false) : ev_Snd X l ev_ms x_X8_eldest tx_X8_eldest 5 (i_psh (.int (0)) 6) := s_iconst dX8_eldest_5 rfl
theorem s_X8_eldest_6 {X : ev_E} {l : Launch} (hG : ev_Good X) (hl : l.stackTraces = false) : ev_Snd X l ev_ms x_X8_eldest tx_X8_eldest 6 (i_psh (.int (0)) 7) := s_iconst dX8_eldest_6 rfl
theorem s_X8_eldest_7 {X : ev_E} {l : Launch} (hG : ev_Good X) (hl : l.stackTraces = false) : ev_Snd X l ev_ms x_X8_eldest tx_X8_eldest 7 (i_cV X 63 3 13 4 10) := s_invokevirtual hG (mi := 63) (n := 3) (ci := 13) (r := (RX8, TX8, 5)) rfl (cal_X8_fails (Nat.le_of_ble_eq_true rfl)) w_1290 w_1292 w_22 dX8_eldest_7
theorem s_X8_eldest_10 {X : ev_E} {l : Launch} (hG : ev_Good X) (hl : l.stackTraces = false) : ev_Snd X l ev_ms x_X8_eldest tx_X8_eldest 10 (i_ifeq 17 13) := s_ifeq dX8_eldest_10 rfl
theorem s_X8_eldest_13 {X : ev_E} {l : Launch} (hG : ev_Good X) (hl : l.stackTraces = false) : ev_Snd X l ev_ms x_X8_eldest tx_X8_eldest 13 (i_psh (.int (0)) 14) := s_iconst dX8_eldest_13 rfl
theorem s_X8_eldest_14 {X : ev_E} {l : Launch} (hG : ev_Good X) (hl : l.stackTraces = false) : ev_Snd X l ev_ms x_X8_eldest tx_X8_eldest 14 (i_goto 24) := s_goto dX8_eldest_14 rfl
theorem s_X8_eldest_17 {X : ev_E} {l : Launch} (hG : ev_Good X) (hl : l.stackTraces = false) : ev_Snd X l ev_ms x_X8_eldest tx_X8_eldest 17 (i_al 0 18) := s_aload_n dX8_eldest_17 rfl
theorem s_X8_eldest_18 {X : ev_E} {l : Launch} (hG : ev_Good X) (hl : l.stackTraces = false) : ev_Snd X l ev_ms x_X8_eldest tx_X8_eldest 18 (i_il 1 19) := s_iload_n dX8_eldest_18 rfl
theorem s_X8_eldest_19 {X : ev_E} {l : Launch} (hG : ev_Good X) (hl : l.stackTraces = false) : ev_Snd X l ev_ms x_X8_eldest tx_X8_eldest 19 (i_psh (.int (0)) 20) := s_iconst dX8_eldest_19 rfl
theorem s_X8_eldest_20 {X : ev_E} {l : Launch} (hG : ev_Good X) (hl : l.stackTraces = false) : ev_Snd X l ev_ms x_X8_eldest tx_X8_eldest 20 (i_psh (.int (0)) 21) := s_iconst dX8_eldest_20 rfl
theorem s_X8_eldest_21 {X : ev_E} {l : Launch} (hG : ev_Good X) (hl : l.stackTraces = false) : ev_Snd X l ev_ms x_X8_eldest tx_X8_eldest 21 (i_cV X 215 3 13 5 24) := s_invokevirtual hG (mi := 215) (n := 3) (ci := 13) (r := (RX8, TX8, 5)) rfl (cal_X8_told (Nat.le_of_ble_eq_true rfl)) w_1492 w_1494 w_30 dX8_eldest_21
theorem s_X8_eldest_24 {X : ev_E} {l : Launch} (hG : ev_Good X) (hl : l.stackTraces = false) : ev_Snd X l ev_ms x_X8_eldest tx_X8_eldest 24 (i_ir (.int)) := s_ireturn rfl dX8_eldest_24
theorem sa_X8_eldest {X : ev_E} {l : Launch} (hG : ev_Good X) (hl : l.stackTraces = false) : ∀ q ∈ tb_X8_eldest X, ev_Snd X l ev_ms x_X8_eldest tx_X8_eldest q.1 q.2 := by
  intro q hq
  unfold tb_X8_eldest at hq
  simp only [List.mem_cons, List.not_mem_nil, or_false] at hq
  rcases hq with rfl | rfl | rfl | rfl | rfl | rfl | rfl | rfl | rfl | rfl | rfl | rfl | rfl | rfl | rfl
  · exact s_X8_eldest_0 hG hl
  · exact s_X8_eldest_1 hG hl
  · exact s_X8_eldest_2 hG hl
  · exact s_X8_eldest_5 hG hl
  · exact s_X8_eldest_6 hG hl
  · exact s_X8_eldest_7 hG hl
  · exact s_X8_eldest_10 hG hl
  · exact s_X8_eldest_13 hG hl
  · exact s_X8_eldest_14 hG hl
  · exact s_X8_eldest_17 hG hl
  · exact s_X8_eldest_18 hG hl
  · exact s_X8_eldest_19 hG hl
  · exact s_X8_eldest_20 hG hl
  · exact s_X8_eldest_21 hG hl
  · exact s_X8_eldest_24 hG hl
def tx_X8_has : ev_X := fun _ _ => some none
noncomputable def tb_X8_has (X : ev_E) : List (Nat × (ev_S → ev_N)) := [(0, i_al 0 1), (1, i_il 1 2), (2, i_il 2 3), (3, i_cV X 166 2 13 3 6), (6, i_ifne 27 9), (9, i_al 0 10), (10, i_gf X 13 3 13), (13, i_il 1 14), (14, i_ald X FieldType.isReference 15), (15, i_il 2 16), (16, i_cV X 208 1 12 3 19), (19, i_psh (.int (-1)) 20), (20, i_iceq 27 23), (23, i_psh (.int (1)) 24), (24, i_goto 28), (27, i_psh (.int (0)) 28), (28, i_ir (.boolean))]
theorem s_X8_has_0 {X : ev_E} {l : Launch} (hG : ev_Good X) (hl : l.stackTraces = false) : ev_Snd X l ev_ms x_X8_has tx_X8_has 0 (i_al 0 1) := s_aload_n dX8_has_0 rfl
theorem s_X8_has_1 {X : ev_E} {l : Launch} (hG : ev_Good X) (hl : l.stackTraces = false) : ev_Snd X l ev_ms x_X8_has tx_X8_has 1 (i_il 1 2) := s_iload_n dX8_has_1 rfl
theorem s_X8_has_2 {X : ev_E} {l : Launch} (hG : ev_Good X) (hl : l.stackTraces = false) : ev_Snd X l ev_ms x_X8_has tx_X8_has 2 (i_il 2 3) := s_iload_n dX8_has_2 rfl
theorem s_X8_has_3 {X : ev_E} {l : Launch} (hG : ev_Good X) (hl : l.stackTraces = false) : ev_Snd X l ev_ms x_X8_has tx_X8_has 3 (i_cV X 166 2 13 3 6) := s_invokevirtual hG (mi := 166) (n := 2) (ci := 13) (r := (RX8, TX8, 5)) rfl (cal_X8_isNoKey (Nat.le_of_ble_eq_true rfl)) w_1402 w_1404 w_27 dX8_has_3
theorem s_X8_has_6 {X : ev_E} {l : Launch} (hG : ev_Good X) (hl : l.stackTraces = false) : ev_Snd X l ev_ms x_X8_has tx_X8_has 6 (i_ifne 27 9) := s_ifne dX8_has_6 rfl
theorem s_X8_has_9 {X : ev_E} {l : Launch} (hG : ev_Good X) (hl : l.stackTraces = false) : ev_Snd X l ev_ms x_X8_has tx_X8_has 9 (i_al 0 10) := s_aload_n dX8_has_9 rfl
theorem s_X8_has_10 {X : ev_E} {l : Launch} (hG : ev_Good X) (hl : l.stackTraces = false) : ev_Snd X l ev_ms x_X8_has tx_X8_has 10 (i_gf X 13 3 13) := s_getfield hG (ci := 13) (r := (RX8, TX8, 5)) rfl cw_13 (k := 3) (Nat.le_of_ble_eq_true rfl) w_1263 rfl (Or.inl rfl) dX8_has_10
theorem s_X8_has_13 {X : ev_E} {l : Launch} (hG : ev_Good X) (hl : l.stackTraces = false) : ev_Snd X l ev_ms x_X8_has tx_X8_has 13 (i_il 1 14) := s_iload_n dX8_has_13 rfl
theorem s_X8_has_14 {X : ev_E} {l : Launch} (hG : ev_Good X) (hl : l.stackTraces = false) : ev_Snd X l ev_ms x_X8_has tx_X8_has 14 (i_ald X FieldType.isReference 15) := s_aaload hG dX8_has_14
theorem s_X8_has_15 {X : ev_E} {l : Launch} (hG : ev_Good X) (hl : l.stackTraces = false) : ev_Snd X l ev_ms x_X8_has tx_X8_has 15 (i_il 2 16) := s_iload_n dX8_has_15 rfl
theorem s_X8_has_16 {X : ev_E} {l : Launch} (hG : ev_Good X) (hl : l.stackTraces = false) : ev_Snd X l ev_ms x_X8_has tx_X8_has 16 (i_cV X 208 1 12 3 19) := s_invokevirtual hG (mi := 208) (n := 1) (ci := 12) (r := (RX7, TX7, 9)) rfl (cal_X7_place (Nat.le_of_ble_eq_true rfl)) w_1310 w_1311 w_1312 dX8_has_16
theorem s_X8_has_19 {X : ev_E} {l : Launch} (hG : ev_Good X) (hl : l.stackTraces = false) : ev_Snd X l ev_ms x_X8_has tx_X8_has 19 (i_psh (.int (-1)) 20) := s_iconst dX8_has_19 rfl
theorem s_X8_has_20 {X : ev_E} {l : Launch} (hG : ev_Good X) (hl : l.stackTraces = false) : ev_Snd X l ev_ms x_X8_has tx_X8_has 20 (i_iceq 27 23) := s_iceq dX8_has_20 rfl
theorem s_X8_has_23 {X : ev_E} {l : Launch} (hG : ev_Good X) (hl : l.stackTraces = false) : ev_Snd X l ev_ms x_X8_has tx_X8_has 23 (i_psh (.int (1)) 24) := s_iconst dX8_has_23 rfl
theorem s_X8_has_24 {X : ev_E} {l : Launch} (hG : ev_Good X) (hl : l.stackTraces = false) : ev_Snd X l ev_ms x_X8_has tx_X8_has 24 (i_goto 28) := s_goto dX8_has_24 rfl
theorem s_X8_has_27 {X : ev_E} {l : Launch} (hG : ev_Good X) (hl : l.stackTraces = false) : ev_Snd X l ev_ms x_X8_has tx_X8_has 27 (i_psh (.int (0)) 28) := s_iconst dX8_has_27 rfl
theorem s_X8_has_28 {X : ev_E} {l : Launch} (hG : ev_Good X) (hl : l.stackTraces = false) : ev_Snd X l ev_ms x_X8_has tx_X8_has 28 (i_ir (.boolean)) := s_ireturn rfl dX8_has_28
theorem sa_X8_has {X : ev_E} {l : Launch} (hG : ev_Good X) (hl : l.stackTraces = false) : ∀ q ∈ tb_X8_has X, ev_Snd X l ev_ms x_X8_has tx_X8_has q.1 q.2 := by
  intro q hq
  unfold tb_X8_has at hq
  simp only [List.mem_cons, List.not_mem_nil, or_false] at hq
  rcases hq with rfl | rfl | rfl | rfl | rfl | rfl | rfl | rfl | rfl | rfl | rfl | rfl | rfl | rfl | rfl | rfl | rfl
  · exact s_X8_has_0 hG hl
  · exact s_X8_has_1 hG hl
  · exact s_X8_has_2 hG hl
  · exact s_X8_has_3 hG hl
  · exact s_X8_has_6 hG hl
  · exact s_X8_has_9 hG hl
  · exact s_X8_has_10 hG hl
  · exact s_X8_has_13 hG hl
  · exact s_X8_has_14 hG hl
  · exact s_X8_has_15 hG hl
  · exact s_X8_has_16 hG hl
  · exact s_X8_has_19 hG hl
  · exact s_X8_has_20 hG hl
  · exact s_X8_has_23 hG hl
  · exact s_X8_has_24 hG hl
  · exact s_X8_has_27 hG hl
  · exact s_X8_has_28 hG hl
def tx_X8_init : ev_X := fun pc _ => bif List.elem pc [15, 25, 35, 45, 57] then none else some none
noncomputable def tb_X8_init (X : ev_E) : List (Nat × (ev_S → ev_N)) := [(0, i_al 0 1), (1, i_oi 4), (4, i_al 0 5), (5, i_psh (.int (4)) 6), (6, i_na 5 .null 9), (9, i_dup 10), (10, i_psh (.int (0)) 11), (11, i_nw 12 9 [.null, .int 0, .int 0, .int 0, .int 0, .int 0, .int 0, .int 0, .int 0] 14), (14, i_dup 15), (15, i_cI 207 0 1 18), (18, i_aast 5 12 19), (19, i_dup 20), (20, i_psh (.int (1)) 21), (21, i_nw 12 9 [.null, .int 0, .int 0, .int 0, .int 0, .int 0, .int 0, .int 0, .int 0] 24), (24, i_dup 25), (25, i_cI 207 0 1 28), (28, i_aast 5 12 29), (29, i_dup 30), (30, i_psh (.int (2)) 31), (31, i_nw 12 9 [.null, .int 0, .int 0, .int 0, .int 0, .int 0, .int 0, .int 0, .int 0] 34), (34, i_dup 35), (35, i_cI 207 0 1 38), (38, i_aast 5 12 39), (39, i_dup 40), (40, i_psh (.int (3)) 41), (41, i_nw 12 9 [.null, .int 0, .int 0, .int 0, .int 0, .int 0, .int 0, .int 0, .int 0] 44), (44, i_dup 45), (45, i_cI 207 0 1 48), (48, i_aast 5 12 49), (49, i_pf 13 3 (.array (.object "LastaskedModel$Table")) 52), (52, i_al 0 53), (53, i_nw 4 3 [.int 0, .null, .int 0] 56), (56, i_dup 57), (57, i_cI 130 0 1 60), (60, i_pf 13 4 (.object "java/util/ArrayList") 63), (63, i_vr)]
theorem s_X8_init_0 {X : ev_E} {l : Launch} (hG : ev_Good X) (hl : l.stackTraces = false) : ev_Snd X l ev_ms x_X8_init tx_X8_init 0 (i_al 0 1) := s_aload_n dX8_init_0 rfl
theorem s_X8_init_1 {X : ev_E} {l : Launch} (hG : ev_Good X) (hl : l.stackTraces = false) : ev_Snd X l ev_ms x_X8_init tx_X8_init 1 (i_oi 4) := s_objinit hG w_1184 w_88 w_89 dX8_init_1
theorem s_X8_init_4 {X : ev_E} {l : Launch} (hG : ev_Good X) (hl : l.stackTraces = false) : ev_Snd X l ev_ms x_X8_init tx_X8_init 4 (i_al 0 5) := s_aload_n dX8_init_4 rfl
theorem s_X8_init_5 {X : ev_E} {l : Launch} (hG : ev_Good X) (hl : l.stackTraces = false) : ev_Snd X l ev_ms x_X8_init tx_X8_init 5 (i_psh (.int (4)) 6) := s_iconst dX8_init_5 rfl
theorem s_X8_init_6 {X : ev_E} {l : Launch} (hG : ev_Good X) (hl : l.stackTraces = false) : ev_Snd X l ev_ms x_X8_init tx_X8_init 6 (i_na 5 .null 9) := s_anewarray hG (kd := 5) (Nat.le_of_ble_eq_true rfl) rfl dX8_init_6 w_1185 rfl w_1186
theorem s_X8_init_9 {X : ev_E} {l : Launch} (hG : ev_Good X) (hl : l.stackTraces = false) : ev_Snd X l ev_ms x_X8_init tx_X8_init 9 (i_dup 10) := s_dup dX8_init_9
theorem s_X8_init_10 {X : ev_E} {l : Launch} (hG : ev_Good X) (hl : l.stackTraces = false) : ev_Snd X l ev_ms x_X8_init tx_X8_init 10 (i_psh (.int (0)) 11) := s_iconst dX8_init_10 rfl
theorem s_X8_init_11 {X : ev_E} {l : Launch} (hG : ev_Good X) (hl : l.stackTraces = false) : ev_Snd X l ev_ms x_X8_init tx_X8_init 11 (i_nw 12 9 [.null, .int 0, .int 0, .int 0, .int 0, .int 0, .int 0, .int 0, .int 0] 14) := s_new hG (ci := 12) (r := (RX7, TX7, 9)) rfl cw_12 tyX7 tyX7_ok (fun j hj => nw_12 j hj) w_1185 rfl w_1187 rfl w_56 rfl dX8_init_11
theorem s_X8_init_14 {X : ev_E} {l : Launch} (hG : ev_Good X) (hl : l.stackTraces = false) : ev_Snd X l ev_ms x_X8_init tx_X8_init 14 (i_dup 15) := s_dup dX8_init_14
theorem s_X8_init_15 {X : ev_E} {l : Launch} (hG : ev_Good X) (hl : l.stackTraces = false) : ev_Snd X l ev_ms x_X8_init tx_X8_init 15 (i_cI 207 0 1 18) := s_invokeinitN hG (mi := 207) (n := 0) (cal_X7_init (Nat.le_of_ble_eq_true rfl)) rfl w_1188 w_1189 rfl (fun _ => rfl) dX8_init_15
theorem s_X8_init_18 {X : ev_E} {l : Launch} (hG : ev_Good X) (hl : l.stackTraces = false) : ev_Snd X l ev_ms x_X8_init tx_X8_init 18 (i_aast 5 12 19) := s_aastore hG (kd := 5) (ci := 12) (r := (RX7, TX7, 9)) (Nat.le_of_ble_eq_true rfl) rfl rfl dX8_init_18
theorem s_X8_init_19 {X : ev_E} {l : Launch} (hG : ev_Good X) (hl : l.stackTraces = false) : ev_Snd X l ev_ms x_X8_init tx_X8_init 19 (i_dup 20) := s_dup dX8_init_19
theorem s_X8_init_20 {X : ev_E} {l : Launch} (hG : ev_Good X) (hl : l.stackTraces = false) : ev_Snd X l ev_ms x_X8_init tx_X8_init 20 (i_psh (.int (1)) 21) := s_iconst dX8_init_20 rfl
theorem s_X8_init_21 {X : ev_E} {l : Launch} (hG : ev_Good X) (hl : l.stackTraces = false) : ev_Snd X l ev_ms x_X8_init tx_X8_init 21 (i_nw 12 9 [.null, .int 0, .int 0, .int 0, .int 0, .int 0, .int 0, .int 0, .int 0] 24) := s_new hG (ci := 12) (r := (RX7, TX7, 9)) rfl cw_12 tyX7 tyX7_ok (fun j hj => nw_12 j hj) w_1185 rfl w_1187 rfl w_56 rfl dX8_init_21
theorem s_X8_init_24 {X : ev_E} {l : Launch} (hG : ev_Good X) (hl : l.stackTraces = false) : ev_Snd X l ev_ms x_X8_init tx_X8_init 24 (i_dup 25) := s_dup dX8_init_24
theorem s_X8_init_25 {X : ev_E} {l : Launch} (hG : ev_Good X) (hl : l.stackTraces = false) : ev_Snd X l ev_ms x_X8_init tx_X8_init 25 (i_cI 207 0 1 28) := s_invokeinitN hG (mi := 207) (n := 0) (cal_X7_init (Nat.le_of_ble_eq_true rfl)) rfl w_1188 w_1189 rfl (fun _ => rfl) dX8_init_25
theorem s_X8_init_28 {X : ev_E} {l : Launch} (hG : ev_Good X) (hl : l.stackTraces = false) : ev_Snd X l ev_ms x_X8_init tx_X8_init 28 (i_aast 5 12 29) := s_aastore hG (kd := 5) (ci := 12) (r := (RX7, TX7, 9)) (Nat.le_of_ble_eq_true rfl) rfl rfl dX8_init_28
theorem s_X8_init_29 {X : ev_E} {l : Launch} (hG : ev_Good X) (hl : l.stackTraces = false) : ev_Snd X l ev_ms x_X8_init tx_X8_init 29 (i_dup 30) := s_dup dX8_init_29
theorem s_X8_init_30 {X : ev_E} {l : Launch} (hG : ev_Good X) (hl : l.stackTraces = false) : ev_Snd X l ev_ms x_X8_init tx_X8_init 30 (i_psh (.int (2)) 31) := s_iconst dX8_init_30 rfl
theorem s_X8_init_31 {X : ev_E} {l : Launch} (hG : ev_Good X) (hl : l.stackTraces = false) : ev_Snd X l ev_ms x_X8_init tx_X8_init 31 (i_nw 12 9 [.null, .int 0, .int 0, .int 0, .int 0, .int 0, .int 0, .int 0, .int 0] 34) := s_new hG (ci := 12) (r := (RX7, TX7, 9)) rfl cw_12 tyX7 tyX7_ok (fun j hj => nw_12 j hj) w_1185 rfl w_1187 rfl w_56 rfl dX8_init_31
theorem s_X8_init_34 {X : ev_E} {l : Launch} (hG : ev_Good X) (hl : l.stackTraces = false) : ev_Snd X l ev_ms x_X8_init tx_X8_init 34 (i_dup 35) := s_dup dX8_init_34
theorem s_X8_init_35 {X : ev_E} {l : Launch} (hG : ev_Good X) (hl : l.stackTraces = false) : ev_Snd X l ev_ms x_X8_init tx_X8_init 35 (i_cI 207 0 1 38) := s_invokeinitN hG (mi := 207) (n := 0) (cal_X7_init (Nat.le_of_ble_eq_true rfl)) rfl w_1188 w_1189 rfl (fun _ => rfl) dX8_init_35
theorem s_X8_init_38 {X : ev_E} {l : Launch} (hG : ev_Good X) (hl : l.stackTraces = false) : ev_Snd X l ev_ms x_X8_init tx_X8_init 38 (i_aast 5 12 39) := s_aastore hG (kd := 5) (ci := 12) (r := (RX7, TX7, 9)) (Nat.le_of_ble_eq_true rfl) rfl rfl dX8_init_38
theorem s_X8_init_39 {X : ev_E} {l : Launch} (hG : ev_Good X) (hl : l.stackTraces = false) : ev_Snd X l ev_ms x_X8_init tx_X8_init 39 (i_dup 40) := s_dup dX8_init_39
theorem s_X8_init_40 {X : ev_E} {l : Launch} (hG : ev_Good X) (hl : l.stackTraces = false) : ev_Snd X l ev_ms x_X8_init tx_X8_init 40 (i_psh (.int (3)) 41) := s_iconst dX8_init_40 rfl
theorem s_X8_init_41 {X : ev_E} {l : Launch} (hG : ev_Good X) (hl : l.stackTraces = false) : ev_Snd X l ev_ms x_X8_init tx_X8_init 41 (i_nw 12 9 [.null, .int 0, .int 0, .int 0, .int 0, .int 0, .int 0, .int 0, .int 0] 44) := s_new hG (ci := 12) (r := (RX7, TX7, 9)) rfl cw_12 tyX7 tyX7_ok (fun j hj => nw_12 j hj) w_1185 rfl w_1187 rfl w_56 rfl dX8_init_41
theorem s_X8_init_44 {X : ev_E} {l : Launch} (hG : ev_Good X) (hl : l.stackTraces = false) : ev_Snd X l ev_ms x_X8_init tx_X8_init 44 (i_dup 45) := s_dup dX8_init_44
theorem s_X8_init_45 {X : ev_E} {l : Launch} (hG : ev_Good X) (hl : l.stackTraces = false) : ev_Snd X l ev_ms x_X8_init tx_X8_init 45 (i_cI 207 0 1 48) := s_invokeinitN hG (mi := 207) (n := 0) (cal_X7_init (Nat.le_of_ble_eq_true rfl)) rfl w_1188 w_1189 rfl (fun _ => rfl) dX8_init_45
theorem s_X8_init_48 {X : ev_E} {l : Launch} (hG : ev_Good X) (hl : l.stackTraces = false) : ev_Snd X l ev_ms x_X8_init tx_X8_init 48 (i_aast 5 12 49) := s_aastore hG (kd := 5) (ci := 12) (r := (RX7, TX7, 9)) (Nat.le_of_ble_eq_true rfl) rfl rfl dX8_init_48
theorem s_X8_init_49 {X : ev_E} {l : Launch} (hG : ev_Good X) (hl : l.stackTraces = false) : ev_Snd X l ev_ms x_X8_init tx_X8_init 49 (i_pf 13 3 (.array (.object "LastaskedModel$Table")) 52) := s_putfieldF hG (ci := 13) (r := (RX8, TX8, 5)) rfl cw_13 ap_13 (k := 3) (Nat.le_of_ble_eq_true rfl) rfl rfl rfl (by decide +kernel) w_1263 rfl dX8_init_49
theorem s_X8_init_52 {X : ev_E} {l : Launch} (hG : ev_Good X) (hl : l.stackTraces = false) : ev_Snd X l ev_ms x_X8_init tx_X8_init 52 (i_al 0 53) := s_aload_n dX8_init_52 rfl
theorem s_X8_init_53 {X : ev_E} {l : Launch} (hG : ev_Good X) (hl : l.stackTraces = false) : ev_Snd X l ev_ms x_X8_init tx_X8_init 53 (i_nw 4 3 [.int 0, .null, .int 0] 56) := s_new hG (ci := 4) (r := (RJx4a65c, TJx4a65c, 3)) rfl cw_4 tyJx4a65c tyJx4a65c_ok (fun j hj => nw_4 j hj) w_1258 rfl w_1193 rfl w_59 rfl dX8_init_53
theorem s_X8_init_56 {X : ev_E} {l : Launch} (hG : ev_Good X) (hl : l.stackTraces = false) : ev_Snd X l ev_ms x_X8_init tx_X8_init 56 (i_dup 57) := s_dup dX8_init_56
theorem s_X8_init_57 {X : ev_E} {l : Launch} (hG : ev_Good X) (hl : l.stackTraces = false) : ev_Snd X l ev_ms x_X8_init tx_X8_init 57 (i_cI 130 0 1 60) := s_invokeinit hG (mi := 130) (n := 0) (cal_Jx4a65c_init_da8c8 (Nat.le_of_ble_eq_true rfl)) rfl w_1259 w_1195 rfl (fun _ => rfl) dX8_init_57
theorem s_X8_init_60 {X : ev_E} {l : Launch} (hG : ev_Good X) (hl : l.stackTraces = false) : ev_Snd X l ev_ms x_X8_init tx_X8_init 60 (i_pf 13 4 (.object "java/util/ArrayList") 63) := s_putfieldF hG (ci := 13) (r := (RX8, TX8, 5)) rfl cw_13 ap_13 (k := 4) (Nat.le_of_ble_eq_true rfl) rfl rfl rfl (by decide +kernel) w_1264 rfl dX8_init_60
theorem s_X8_init_63 {X : ev_E} {l : Launch} (hG : ev_Good X) (hl : l.stackTraces = false) : ev_Snd X l ev_ms x_X8_init tx_X8_init 63 (i_vr) := s_return rfl dX8_init_63
theorem sa_X8_init {X : ev_E} {l : Launch} (hG : ev_Good X) (hl : l.stackTraces = false) : ∀ q ∈ tb_X8_init X, ev_Snd X l ev_ms x_X8_init tx_X8_init q.1 q.2 := by
  intro q hq
  unfold tb_X8_init at hq
  simp only [List.mem_cons, List.not_mem_nil, or_false] at hq
  rcases hq with rfl | rfl | rfl | rfl | rfl | rfl | rfl | rfl | rfl | rfl | rfl | rfl | rfl | rfl | rfl | rfl | rfl | rfl | rfl | rfl | rfl | rfl | rfl | rfl | rfl | rfl | rfl | rfl | rfl | rfl | rfl | rfl | rfl | rfl | rfl | rfl
  · exact s_X8_init_0 hG hl
  · exact s_X8_init_1 hG hl
  · exact s_X8_init_4 hG hl
  · exact s_X8_init_5 hG hl
  · exact s_X8_init_6 hG hl
  · exact s_X8_init_9 hG hl
  · exact s_X8_init_10 hG hl
  · exact s_X8_init_11 hG hl
  · exact s_X8_init_14 hG hl
  · exact s_X8_init_15 hG hl
  · exact s_X8_init_18 hG hl
  · exact s_X8_init_19 hG hl
  · exact s_X8_init_20 hG hl
  · exact s_X8_init_21 hG hl
  · exact s_X8_init_24 hG hl
  · exact s_X8_init_25 hG hl
  · exact s_X8_init_28 hG hl
  · exact s_X8_init_29 hG hl
  · exact s_X8_init_30 hG hl
  · exact s_X8_init_31 hG hl
  · exact s_X8_init_34 hG hl
  · exact s_X8_init_35 hG hl
  · exact s_X8_init_38 hG hl
  · exact s_X8_init_39 hG hl
  · exact s_X8_init_40 hG hl
  · exact s_X8_init_41 hG hl
  · exact s_X8_init_44 hG hl
  · exact s_X8_init_45 hG hl
  · exact s_X8_init_48 hG hl
  · exact s_X8_init_49 hG hl
  · exact s_X8_init_52 hG hl
  · exact s_X8_init_53 hG hl
  · exact s_X8_init_56 hG hl
  · exact s_X8_init_57 hG hl
  · exact s_X8_init_60 hG hl
  · exact s_X8_init_63 hG hl
def tx_X8_keyAt : ev_X := fun _ _ => some none
noncomputable def tb_X8_keyAt (X : ev_E) : List (Nat × (ev_S → ev_N)) := [(0, i_al 0 1), (1, i_il 1 2), (2, i_cS 118 1 1 5), (5, i_psh (.int (0)) 6), (6, i_psh (.int (0)) 7), (7, i_cV X 63 3 13 4 10), (10, i_ifeq 17 13), (13, i_psh (.int (0)) 14), (14, i_goto 24), (17, i_al 0 18), (18, i_il 1 19), (19, i_il 2 20), (20, i_psh (.int (0)) 21), (21, i_cV X 215 3 13 5 24), (24, i_ir (.int))]
theorem s_X8_keyAt_0 {X : ev_E} {l : Launch} (hG : ev_Good X) (hl : l.stackTraces = false) : ev_Snd X l ev_ms x_X8_keyAt tx_X8_keyAt 0 (i_al 0 1) := s_aload_n dX8_keyAt_0 rfl
theorem s_X8_keyAt_1 {X : ev_E} {l : Launch} (hG : ev_Good X) (hl : l.stackTraces = false) : ev_Snd X l ev_ms x_X8_keyAt tx_X8_keyAt 1 (i_il 1 2) := s_iload_n dX8_keyAt_1 rfl
theorem s_X8_keyAt_2 {X : ev_E} {l : Launch} (hG : ev_Good X) (hl : l.stackTraces = false) : ev_Snd X l ev_ms x_X8_keyAt tx_X8_keyAt 2 (i_cS 118 1 1 5) := s_invokestatic hG (mi := 118) (n := 1) (cal_X8_isNo (Nat.le_of_ble_eq_true rfl)) w_1284 w_1285 dX8_keyAt_2
theorem s_X8_keyAt_5 {X : ev_E} {l : Launch} (hG : ev_Good X) (hl : l.stackTraces = false) : ev_Snd X l ev_ms x_X8_keyAt tx_X8_keyAt 5 (i_psh (.int (0)) 6) := s_iconst dX8_keyAt_5 rfl
theorem s_X8_keyAt_6 {X : ev_E} {l : Launch} (hG : ev_Good X) (hl : l.stackTraces = false) : ev_Snd X l ev_ms x_X8_keyAt tx_X8_keyAt 6 (i_psh (.int (0)) 7) := s_iconst dX8_keyAt_6 rfl
theorem s_X8_keyAt_7 {X : ev_E} {l : Launch} (hG : ev_Good X) (hl : l.stackTraces = false) : ev_Snd X l ev_ms x_X8_keyAt tx_X8_keyAt 7 (i_cV X 63 3 13 4 10) := s_invokevirtual hG (mi := 63) (n := 3) (ci := 13) (r := (RX8, TX8, 5)) rfl (cal_X8_fails (Nat.le_of_ble_eq_true rfl)) w_1290 w_1292 w_22 dX8_keyAt_7
theorem s_X8_keyAt_10 {X : ev_E} {l : Launch} (hG : ev_Good X) (hl : l.stackTraces = false) : ev_Snd X l ev_ms x_X8_keyAt tx_X8_keyAt 10 (i_ifeq 17 13) := s_ifeq dX8_keyAt_10 rfl
theorem s_X8_keyAt_13 {X : ev_E} {l : Launch} (hG : ev_Good X) (hl : l.stackTraces = false) : ev_Snd X l ev_ms x_X8_keyAt tx_X8_keyAt 13 (i_psh (.int (0)) 14) := s_iconst dX8_keyAt_13 rfl
theorem s_X8_keyAt_14 {X : ev_E} {l : Launch} (hG : ev_Good X) (hl : l.stackTraces = false) : ev_Snd X l ev_ms x_X8_keyAt tx_X8_keyAt 14 (i_goto 24) := s_goto dX8_keyAt_14 rfl
theorem s_X8_keyAt_17 {X : ev_E} {l : Launch} (hG : ev_Good X) (hl : l.stackTraces = false) : ev_Snd X l ev_ms x_X8_keyAt tx_X8_keyAt 17 (i_al 0 18) := s_aload_n dX8_keyAt_17 rfl
theorem s_X8_keyAt_18 {X : ev_E} {l : Launch} (hG : ev_Good X) (hl : l.stackTraces = false) : ev_Snd X l ev_ms x_X8_keyAt tx_X8_keyAt 18 (i_il 1 19) := s_iload_n dX8_keyAt_18 rfl
theorem s_X8_keyAt_19 {X : ev_E} {l : Launch} (hG : ev_Good X) (hl : l.stackTraces = false) : ev_Snd X l ev_ms x_X8_keyAt tx_X8_keyAt 19 (i_il 2 20) := s_iload_n dX8_keyAt_19 rfl
theorem s_X8_keyAt_20 {X : ev_E} {l : Launch} (hG : ev_Good X) (hl : l.stackTraces = false) : ev_Snd X l ev_ms x_X8_keyAt tx_X8_keyAt 20 (i_psh (.int (0)) 21) := s_iconst dX8_keyAt_20 rfl
theorem s_X8_keyAt_21 {X : ev_E} {l : Launch} (hG : ev_Good X) (hl : l.stackTraces = false) : ev_Snd X l ev_ms x_X8_keyAt tx_X8_keyAt 21 (i_cV X 215 3 13 5 24) := s_invokevirtual hG (mi := 215) (n := 3) (ci := 13) (r := (RX8, TX8, 5)) rfl (cal_X8_told (Nat.le_of_ble_eq_true rfl)) w_1492 w_1494 w_30 dX8_keyAt_21
theorem s_X8_keyAt_24 {X : ev_E} {l : Launch} (hG : ev_Good X) (hl : l.stackTraces = false) : ev_Snd X l ev_ms x_X8_keyAt tx_X8_keyAt 24 (i_ir (.int)) := s_ireturn rfl dX8_keyAt_24
theorem sa_X8_keyAt {X : ev_E} {l : Launch} (hG : ev_Good X) (hl : l.stackTraces = false) : ∀ q ∈ tb_X8_keyAt X, ev_Snd X l ev_ms x_X8_keyAt tx_X8_keyAt q.1 q.2 := by
  intro q hq
  unfold tb_X8_keyAt at hq
  simp only [List.mem_cons, List.not_mem_nil, or_false] at hq
  rcases hq with rfl | rfl | rfl | rfl | rfl | rfl | rfl | rfl | rfl | rfl | rfl | rfl | rfl | rfl | rfl
  · exact s_X8_keyAt_0 hG hl
  · exact s_X8_keyAt_1 hG hl
  · exact s_X8_keyAt_2 hG hl
  · exact s_X8_keyAt_5 hG hl
  · exact s_X8_keyAt_6 hG hl
  · exact s_X8_keyAt_7 hG hl
  · exact s_X8_keyAt_10 hG hl
  · exact s_X8_keyAt_13 hG hl
  · exact s_X8_keyAt_14 hG hl
  · exact s_X8_keyAt_17 hG hl
  · exact s_X8_keyAt_18 hG hl
  · exact s_X8_keyAt_19 hG hl
  · exact s_X8_keyAt_20 hG hl
  · exact s_X8_keyAt_21 hG hl
  · exact s_X8_keyAt_24 hG hl
def tx_X8_latest : ev_X := fun _ _ => some none
noncomputable def tb_X8_latest (X : ev_E) : List (Nat × (ev_S → ev_N)) := [(0, i_al 0 1), (1, i_il 1 2), (2, i_cS 118 1 1 5), (5, i_psh (.int (0)) 6), (6, i_psh (.int (0)) 7), (7, i_cV X 63 3 13 4 10), (10, i_ifeq 17 13), (13, i_psh (.int (0)) 14), (14, i_goto 37), (17, i_al 0 18), (18, i_il 1 19), (19, i_al 0 20), (20, i_gf X 13 3 23), (23, i_il 1 24), (24, i_ald X FieldType.isReference 25), (25, i_gf X 12 0 28), (28, i_cV X 24 0 4 1 31), (31, i_psh (.int (1)) 32), (32, i_ii (fun a b => a - b) 33), (33, i_psh (.int (0)) 34), (34, i_cV X 215 3 13 5 37), (37, i_ir (.int))]
theorem s_X8_latest_0 {X : ev_E} {l : Launch} (hG : ev_Good X) (hl : l.stackTraces = false) : ev_Snd X l ev_ms x_X8_latest tx_X8_latest 0 (i_al 0 1) := s_aload_n dX8_latest_0 rfl
theorem s_X8_latest_1 {X : ev_E} {l : Launch} (hG : ev_Good X) (hl : l.stackTraces = false) : ev_Snd X l ev_ms x_X8_latest tx_X8_latest 1 (i_il 1 2) := s_iload_n dX8_latest_1 rfl
theorem s_X8_latest_2 {X : ev_E} {l : Launch} (hG : ev_Good X) (hl : l.stackTraces = false) : ev_Snd X l ev_ms x_X8_latest tx_X8_latest 2 (i_cS 118 1 1 5) := s_invokestatic hG (mi := 118) (n := 1) (cal_X8_isNo (Nat.le_of_ble_eq_true rfl)) w_1284 w_1285 dX8_latest_2
theorem s_X8_latest_5 {X : ev_E} {l : Launch} (hG : ev_Good X) (hl : l.stackTraces = false) : ev_Snd X l ev_ms x_X8_latest tx_X8_latest 5 (i_psh (.int (0)) 6) := s_iconst dX8_latest_5 rfl
theorem s_X8_latest_6 {X : ev_E} {l : Launch} (hG : ev_Good X) (hl : l.stackTraces = false) : ev_Snd X l ev_ms x_X8_latest tx_X8_latest 6 (i_psh (.int (0)) 7) := s_iconst dX8_latest_6 rfl
theorem s_X8_latest_7 {X : ev_E} {l : Launch} (hG : ev_Good X) (hl : l.stackTraces = false) : ev_Snd X l ev_ms x_X8_latest tx_X8_latest 7 (i_cV X 63 3 13 4 10) := s_invokevirtual hG (mi := 63) (n := 3) (ci := 13) (r := (RX8, TX8, 5)) rfl (cal_X8_fails (Nat.le_of_ble_eq_true rfl)) w_1290 w_1292 w_22 dX8_latest_7
theorem s_X8_latest_10 {X : ev_E} {l : Launch} (hG : ev_Good X) (hl : l.stackTraces = false) : ev_Snd X l ev_ms x_X8_latest tx_X8_latest 10 (i_ifeq 17 13) := s_ifeq dX8_latest_10 rfl
theorem s_X8_latest_13 {X : ev_E} {l : Launch} (hG : ev_Good X) (hl : l.stackTraces = false) : ev_Snd X l ev_ms x_X8_latest tx_X8_latest 13 (i_psh (.int (0)) 14) := s_iconst dX8_latest_13 rfl
theorem s_X8_latest_14 {X : ev_E} {l : Launch} (hG : ev_Good X) (hl : l.stackTraces = false) : ev_Snd X l ev_ms x_X8_latest tx_X8_latest 14 (i_goto 37) := s_goto dX8_latest_14 rfl
theorem s_X8_latest_17 {X : ev_E} {l : Launch} (hG : ev_Good X) (hl : l.stackTraces = false) : ev_Snd X l ev_ms x_X8_latest tx_X8_latest 17 (i_al 0 18) := s_aload_n dX8_latest_17 rfl
theorem s_X8_latest_18 {X : ev_E} {l : Launch} (hG : ev_Good X) (hl : l.stackTraces = false) : ev_Snd X l ev_ms x_X8_latest tx_X8_latest 18 (i_il 1 19) := s_iload_n dX8_latest_18 rfl
theorem s_X8_latest_19 {X : ev_E} {l : Launch} (hG : ev_Good X) (hl : l.stackTraces = false) : ev_Snd X l ev_ms x_X8_latest tx_X8_latest 19 (i_al 0 20) := s_aload_n dX8_latest_19 rfl
theorem s_X8_latest_20 {X : ev_E} {l : Launch} (hG : ev_Good X) (hl : l.stackTraces = false) : ev_Snd X l ev_ms x_X8_latest tx_X8_latest 20 (i_gf X 13 3 23) := s_getfield hG (ci := 13) (r := (RX8, TX8, 5)) rfl cw_13 (k := 3) (Nat.le_of_ble_eq_true rfl) w_1263 rfl (Or.inl rfl) dX8_latest_20
theorem s_X8_latest_23 {X : ev_E} {l : Launch} (hG : ev_Good X) (hl : l.stackTraces = false) : ev_Snd X l ev_ms x_X8_latest tx_X8_latest 23 (i_il 1 24) := s_iload_n dX8_latest_23 rfl
theorem s_X8_latest_24 {X : ev_E} {l : Launch} (hG : ev_Good X) (hl : l.stackTraces = false) : ev_Snd X l ev_ms x_X8_latest tx_X8_latest 24 (i_ald X FieldType.isReference 25) := s_aaload hG dX8_latest_24
theorem s_X8_latest_25 {X : ev_E} {l : Launch} (hG : ev_Good X) (hl : l.stackTraces = false) : ev_Snd X l ev_ms x_X8_latest tx_X8_latest 25 (i_gf X 12 0 28) := s_getfield hG (ci := 12) (r := (RX7, TX7, 9)) rfl cw_12 (k := 0) (Nat.le_of_ble_eq_true rfl) w_1222 rfl (Or.inl rfl) dX8_latest_25
theorem s_X8_latest_28 {X : ev_E} {l : Launch} (hG : ev_Good X) (hl : l.stackTraces = false) : ev_Snd X l ev_ms x_X8_latest tx_X8_latest 28 (i_cV X 24 0 4 1 31) := s_invokevirtual hG (mi := 24) (n := 0) (ci := 4) (r := (RJx4a65c, TJx4a65c, 3)) rfl (cal_Jx4a65c_size_8abf5 (Nat.le_of_ble_eq_true rfl)) w_1294 w_1295 w_1296 dX8_latest_28
theorem s_X8_latest_31 {X : ev_E} {l : Launch} (hG : ev_Good X) (hl : l.stackTraces = false) : ev_Snd X l ev_ms x_X8_latest tx_X8_latest 31 (i_psh (.int (1)) 32) := s_iconst dX8_latest_31 rfl
theorem s_X8_latest_32 {X : ev_E} {l : Launch} (hG : ev_Good X) (hl : l.stackTraces = false) : ev_Snd X l ev_ms x_X8_latest tx_X8_latest 32 (i_ii (fun a b => a - b) 33) := s_isub dX8_latest_32
theorem s_X8_latest_33 {X : ev_E} {l : Launch} (hG : ev_Good X) (hl : l.stackTraces = false) : ev_Snd X l ev_ms x_X8_latest tx_X8_latest 33 (i_psh (.int (0)) 34) := s_iconst dX8_latest_33 rfl
theorem s_X8_latest_34 {X : ev_E} {l : Launch} (hG : ev_Good X) (hl : l.stackTraces = false) : ev_Snd X l ev_ms x_X8_latest tx_X8_latest 34 (i_cV X 215 3 13 5 37) := s_invokevirtual hG (mi := 215) (n := 3) (ci := 13) (r := (RX8, TX8, 5)) rfl (cal_X8_told (Nat.le_of_ble_eq_true rfl)) w_1492 w_1494 w_30 dX8_latest_34
theorem s_X8_latest_37 {X : ev_E} {l : Launch} (hG : ev_Good X) (hl : l.stackTraces = false) : ev_Snd X l ev_ms x_X8_latest tx_X8_latest 37 (i_ir (.int)) := s_ireturn rfl dX8_latest_37
theorem sa_X8_latest {X : ev_E} {l : Launch} (hG : ev_Good X) (hl : l.stackTraces = false) : ∀ q ∈ tb_X8_latest X, ev_Snd X l ev_ms x_X8_latest tx_X8_latest q.1 q.2 := by
  intro q hq
  unfold tb_X8_latest at hq
  simp only [List.mem_cons, List.not_mem_nil, or_false] at hq
  rcases hq with rfl | rfl | rfl | rfl | rfl | rfl | rfl | rfl | rfl | rfl | rfl | rfl | rfl | rfl | rfl | rfl | rfl | rfl | rfl | rfl | rfl | rfl
  · exact s_X8_latest_0 hG hl
  · exact s_X8_latest_1 hG hl
  · exact s_X8_latest_2 hG hl
  · exact s_X8_latest_5 hG hl
  · exact s_X8_latest_6 hG hl
  · exact s_X8_latest_7 hG hl
  · exact s_X8_latest_10 hG hl
  · exact s_X8_latest_13 hG hl
  · exact s_X8_latest_14 hG hl
  · exact s_X8_latest_17 hG hl
  · exact s_X8_latest_18 hG hl
  · exact s_X8_latest_19 hG hl
  · exact s_X8_latest_20 hG hl
  · exact s_X8_latest_23 hG hl
  · exact s_X8_latest_24 hG hl
  · exact s_X8_latest_25 hG hl
  · exact s_X8_latest_28 hG hl
  · exact s_X8_latest_31 hG hl
  · exact s_X8_latest_32 hG hl
  · exact s_X8_latest_33 hG hl
  · exact s_X8_latest_34 hG hl
  · exact s_X8_latest_37 hG hl
def tx_X8_pairAt : ev_X := fun _ _ => some none
noncomputable def tb_X8_pairAt (X : ev_E) : List (Nat × (ev_S → ev_N)) := [(0, i_al 0 1), (1, i_il 1 2), (2, i_cS 118 1 1 5), (5, i_psh (.int (0)) 6), (6, i_psh (.int (0)) 7), (7, i_cV X 63 3 13 4 10), (10, i_ifeq 17 13), (13, i_psh (.int (0)) 14), (14, i_goto 24), (17, i_al 0 18), (18, i_il 1 19), (19, i_il 2 20), (20, i_psh (.int (2)) 21), (21, i_cV X 215 3 13 5 24), (24, i_ir (.int))]
theorem s_X8_pairAt_0 {X : ev_E} {l : Launch} (hG : ev_Good X) (hl : l.stackTraces = false) : ev_Snd X l ev_ms x_X8_pairAt tx_X8_pairAt 0 (i_al 0 1) := s_aload_n dX8_pairAt_0 rfl
theorem s_X8_pairAt_1 {X : ev_E} {l : Launch} (hG : ev_Good X) (hl : l.stackTraces = false) : ev_Snd X l ev_ms x_X8_pairAt tx_X8_pairAt 1 (i_il 1 2) := s_iload_n dX8_pairAt_1 rfl
theorem s_X8_pairAt_2 {X : ev_E} {l : Launch} (hG : ev_Good X) (hl : l.stackTraces = false) : ev_Snd X l ev_ms x_X8_pairAt tx_X8_pairAt 2 (i_cS 118 1 1 5) := s_invokestatic hG (mi := 118) (n := 1) (cal_X8_isNo (Nat.le_of_ble_eq_true rfl)) w_1284 w_1285 dX8_pairAt_2
theorem s_X8_pairAt_5 {X : ev_E} {l : Launch} (hG : ev_Good X) (hl : l.stackTraces = false) : ev_Snd X l ev_ms x_X8_pairAt tx_X8_pairAt 5 (i_psh (.int (0)) 6) := s_iconst dX8_pairAt_5 rfl
theorem s_X8_pairAt_6 {X : ev_E} {l : Launch} (hG : ev_Good X) (hl : l.stackTraces = false) : ev_Snd X l ev_ms x_X8_pairAt tx_X8_pairAt 6 (i_psh (.int (0)) 7) := s_iconst dX8_pairAt_6 rfl
theorem s_X8_pairAt_7 {X : ev_E} {l : Launch} (hG : ev_Good X) (hl : l.stackTraces = false) : ev_Snd X l ev_ms x_X8_pairAt tx_X8_pairAt 7 (i_cV X 63 3 13 4 10) := s_invokevirtual hG (mi := 63) (n := 3) (ci := 13) (r := (RX8, TX8, 5)) rfl (cal_X8_fails (Nat.le_of_ble_eq_true rfl)) w_1290 w_1292 w_22 dX8_pairAt_7
theorem s_X8_pairAt_10 {X : ev_E} {l : Launch} (hG : ev_Good X) (hl : l.stackTraces = false) : ev_Snd X l ev_ms x_X8_pairAt tx_X8_pairAt 10 (i_ifeq 17 13) := s_ifeq dX8_pairAt_10 rfl
theorem s_X8_pairAt_13 {X : ev_E} {l : Launch} (hG : ev_Good X) (hl : l.stackTraces = false) : ev_Snd X l ev_ms x_X8_pairAt tx_X8_pairAt 13 (i_psh (.int (0)) 14) := s_iconst dX8_pairAt_13 rfl
theorem s_X8_pairAt_14 {X : ev_E} {l : Launch} (hG : ev_Good X) (hl : l.stackTraces = false) : ev_Snd X l ev_ms x_X8_pairAt tx_X8_pairAt 14 (i_goto 24) := s_goto dX8_pairAt_14 rfl
theorem s_X8_pairAt_17 {X : ev_E} {l : Launch} (hG : ev_Good X) (hl : l.stackTraces = false) : ev_Snd X l ev_ms x_X8_pairAt tx_X8_pairAt 17 (i_al 0 18) := s_aload_n dX8_pairAt_17 rfl
theorem s_X8_pairAt_18 {X : ev_E} {l : Launch} (hG : ev_Good X) (hl : l.stackTraces = false) : ev_Snd X l ev_ms x_X8_pairAt tx_X8_pairAt 18 (i_il 1 19) := s_iload_n dX8_pairAt_18 rfl
theorem s_X8_pairAt_19 {X : ev_E} {l : Launch} (hG : ev_Good X) (hl : l.stackTraces = false) : ev_Snd X l ev_ms x_X8_pairAt tx_X8_pairAt 19 (i_il 2 20) := s_iload_n dX8_pairAt_19 rfl
theorem s_X8_pairAt_20 {X : ev_E} {l : Launch} (hG : ev_Good X) (hl : l.stackTraces = false) : ev_Snd X l ev_ms x_X8_pairAt tx_X8_pairAt 20 (i_psh (.int (2)) 21) := s_iconst dX8_pairAt_20 rfl
theorem s_X8_pairAt_21 {X : ev_E} {l : Launch} (hG : ev_Good X) (hl : l.stackTraces = false) : ev_Snd X l ev_ms x_X8_pairAt tx_X8_pairAt 21 (i_cV X 215 3 13 5 24) := s_invokevirtual hG (mi := 215) (n := 3) (ci := 13) (r := (RX8, TX8, 5)) rfl (cal_X8_told (Nat.le_of_ble_eq_true rfl)) w_1492 w_1494 w_30 dX8_pairAt_21
theorem s_X8_pairAt_24 {X : ev_E} {l : Launch} (hG : ev_Good X) (hl : l.stackTraces = false) : ev_Snd X l ev_ms x_X8_pairAt tx_X8_pairAt 24 (i_ir (.int)) := s_ireturn rfl dX8_pairAt_24
theorem sa_X8_pairAt {X : ev_E} {l : Launch} (hG : ev_Good X) (hl : l.stackTraces = false) : ∀ q ∈ tb_X8_pairAt X, ev_Snd X l ev_ms x_X8_pairAt tx_X8_pairAt q.1 q.2 := by
  intro q hq
  unfold tb_X8_pairAt at hq
  simp only [List.mem_cons, List.not_mem_nil, or_false] at hq
  rcases hq with rfl | rfl | rfl | rfl | rfl | rfl | rfl | rfl | rfl | rfl | rfl | rfl | rfl | rfl | rfl
  · exact s_X8_pairAt_0 hG hl
  · exact s_X8_pairAt_1 hG hl
  · exact s_X8_pairAt_2 hG hl
  · exact s_X8_pairAt_5 hG hl
  · exact s_X8_pairAt_6 hG hl
  · exact s_X8_pairAt_7 hG hl
  · exact s_X8_pairAt_10 hG hl
  · exact s_X8_pairAt_13 hG hl
  · exact s_X8_pairAt_14 hG hl
  · exact s_X8_pairAt_17 hG hl
  · exact s_X8_pairAt_18 hG hl
  · exact s_X8_pairAt_19 hG hl
  · exact s_X8_pairAt_20 hG hl
  · exact s_X8_pairAt_21 hG hl
  · exact s_X8_pairAt_24 hG hl
def tx_X8_placeOf : ev_X := fun _ _ => some none
noncomputable def tb_X8_placeOf (X : ev_E) : List (Nat × (ev_S → ev_N)) := [(0, i_al 0 1), (1, i_il 1 2), (2, i_il 2 3), (3, i_cV X 166 2 13 3 6), (6, i_ifeq 13 9), (9, i_psh (.int (0)) 10), (10, i_goto 23), (13, i_al 0 14), (14, i_gf X 13 3 17), (17, i_il 1 18), (18, i_ald X FieldType.isReference 19), (19, i_il 2 20), (20, i_cV X 208 1 12 3 23), (23, i_ir (.int))]
theorem s_X8_placeOf_0 {X : ev_E} {l : Launch} (hG : ev_Good X) (hl : l.stackTraces = false) : ev_Snd X l ev_ms x_X8_placeOf tx_X8_placeOf 0 (i_al 0 1) := s_aload_n dX8_placeOf_0 rfl
theorem s_X8_placeOf_1 {X : ev_E} {l : Launch} (hG : ev_Good X) (hl : l.stackTraces = false) : ev_Snd X l ev_ms x_X8_placeOf tx_X8_placeOf 1 (i_il 1 2) := s_iload_n dX8_placeOf_1 rfl
theorem s_X8_placeOf_2 {X : ev_E} {l : Launch} (hG : ev_Good X) (hl : l.stackTraces = false) : ev_Snd X l ev_ms x_X8_placeOf tx_X8_placeOf 2 (i_il 2 3) := s_iload_n dX8_placeOf_2 rfl
theorem s_X8_placeOf_3 {X : ev_E} {l : Launch} (hG : ev_Good X) (hl : l.stackTraces = false) : ev_Snd X l ev_ms x_X8_placeOf tx_X8_placeOf 3 (i_cV X 166 2 13 3 6) := s_invokevirtual hG (mi := 166) (n := 2) (ci := 13) (r := (RX8, TX8, 5)) rfl (cal_X8_isNoKey (Nat.le_of_ble_eq_true rfl)) w_1402 w_1404 w_27 dX8_placeOf_3
theorem s_X8_placeOf_6 {X : ev_E} {l : Launch} (hG : ev_Good X) (hl : l.stackTraces = false) : ev_Snd X l ev_ms x_X8_placeOf tx_X8_placeOf 6 (i_ifeq 13 9) := s_ifeq dX8_placeOf_6 rfl
theorem s_X8_placeOf_9 {X : ev_E} {l : Launch} (hG : ev_Good X) (hl : l.stackTraces = false) : ev_Snd X l ev_ms x_X8_placeOf tx_X8_placeOf 9 (i_psh (.int (0)) 10) := s_iconst dX8_placeOf_9 rfl
theorem s_X8_placeOf_10 {X : ev_E} {l : Launch} (hG : ev_Good X) (hl : l.stackTraces = false) : ev_Snd X l ev_ms x_X8_placeOf tx_X8_placeOf 10 (i_goto 23) := s_goto dX8_placeOf_10 rfl
theorem s_X8_placeOf_13 {X : ev_E} {l : Launch} (hG : ev_Good X) (hl : l.stackTraces = false) : ev_Snd X l ev_ms x_X8_placeOf tx_X8_placeOf 13 (i_al 0 14) := s_aload_n dX8_placeOf_13 rfl
theorem s_X8_placeOf_14 {X : ev_E} {l : Launch} (hG : ev_Good X) (hl : l.stackTraces = false) : ev_Snd X l ev_ms x_X8_placeOf tx_X8_placeOf 14 (i_gf X 13 3 17) := s_getfield hG (ci := 13) (r := (RX8, TX8, 5)) rfl cw_13 (k := 3) (Nat.le_of_ble_eq_true rfl) w_1263 rfl (Or.inl rfl) dX8_placeOf_14
theorem s_X8_placeOf_17 {X : ev_E} {l : Launch} (hG : ev_Good X) (hl : l.stackTraces = false) : ev_Snd X l ev_ms x_X8_placeOf tx_X8_placeOf 17 (i_il 1 18) := s_iload_n dX8_placeOf_17 rfl
theorem s_X8_placeOf_18 {X : ev_E} {l : Launch} (hG : ev_Good X) (hl : l.stackTraces = false) : ev_Snd X l ev_ms x_X8_placeOf tx_X8_placeOf 18 (i_ald X FieldType.isReference 19) := s_aaload hG dX8_placeOf_18
theorem s_X8_placeOf_19 {X : ev_E} {l : Launch} (hG : ev_Good X) (hl : l.stackTraces = false) : ev_Snd X l ev_ms x_X8_placeOf tx_X8_placeOf 19 (i_il 2 20) := s_iload_n dX8_placeOf_19 rfl
theorem s_X8_placeOf_20 {X : ev_E} {l : Launch} (hG : ev_Good X) (hl : l.stackTraces = false) : ev_Snd X l ev_ms x_X8_placeOf tx_X8_placeOf 20 (i_cV X 208 1 12 3 23) := s_invokevirtual hG (mi := 208) (n := 1) (ci := 12) (r := (RX7, TX7, 9)) rfl (cal_X7_place (Nat.le_of_ble_eq_true rfl)) w_1310 w_1311 w_1312 dX8_placeOf_20
theorem s_X8_placeOf_23 {X : ev_E} {l : Launch} (hG : ev_Good X) (hl : l.stackTraces = false) : ev_Snd X l ev_ms x_X8_placeOf tx_X8_placeOf 23 (i_ir (.int)) := s_ireturn rfl dX8_placeOf_23
theorem sa_X8_placeOf {X : ev_E} {l : Launch} (hG : ev_Good X) (hl : l.stackTraces = false) : ∀ q ∈ tb_X8_placeOf X, ev_Snd X l ev_ms x_X8_placeOf tx_X8_placeOf q.1 q.2 := by
  intro q hq
  unfold tb_X8_placeOf at hq
  simp only [List.mem_cons, List.not_mem_nil, or_false] at hq
  rcases hq with rfl | rfl | rfl | rfl | rfl | rfl | rfl | rfl | rfl | rfl | rfl | rfl | rfl | rfl
  · exact s_X8_placeOf_0 hG hl
  · exact s_X8_placeOf_1 hG hl
  · exact s_X8_placeOf_2 hG hl
  · exact s_X8_placeOf_3 hG hl
  · exact s_X8_placeOf_6 hG hl
  · exact s_X8_placeOf_9 hG hl
  · exact s_X8_placeOf_10 hG hl
  · exact s_X8_placeOf_13 hG hl
  · exact s_X8_placeOf_14 hG hl
  · exact s_X8_placeOf_17 hG hl
  · exact s_X8_placeOf_18 hG hl
  · exact s_X8_placeOf_19 hG hl
  · exact s_X8_placeOf_20 hG hl
  · exact s_X8_placeOf_23 hG hl
def tx_X8_remove : ev_X := fun _ _ => some none
noncomputable def tb_X8_remove (X : ev_E) : List (Nat × (ev_S → ev_N)) := [(0, i_al 0 1), (1, i_il 1 2), (2, i_il 2 3), (3, i_cV X 166 2 13 3 6), (6, i_ifeq 11 9), (9, i_psh (.int (0)) 10), (10, i_ir (.int)), (11, i_al 0 12), (12, i_gf X 13 3 15), (15, i_il 1 16), (16, i_ald X FieldType.isReference 17), (17, i_as 3 18), (18, i_al 3 19), (19, i_psh (.int (1)) 20), (20, i_pf 12 8 (.boolean) 23), (23, i_al 3 24), (24, i_il 2 25), (25, i_cV X 208 1 12 3 28), (28, i_is 4 30), (30, i_il 4 32), (32, i_psh (.int (-1)) 33), (33, i_icne 40 36), (36, i_psh (.int (-1)) 37), (37, i_goto 54), (40, i_al 3 41), (41, i_gf X 12 0 44), (44, i_il 4 46), (46, i_cV X 131 1 4 4 49), (49, i_cca 0 52), (52, i_psh (.int (1)) 53), (53, i_ald X ev_tI 54), (54, i_ir (.int))]
theorem s_X8_remove_0 {X : ev_E} {l : Launch} (hG : ev_Good X) (hl : l.stackTraces = false) : ev_Snd X l ev_ms x_X8_remove tx_X8_remove 0 (i_al 0 1) := s_aload_n dX8_remove_0 rfl
theorem s_X8_remove_1 {X : ev_E} {l : Launch} (hG : ev_Good X) (hl : l.stackTraces = false) : ev_Snd X l ev_ms x_X8_remove tx_X8_remove 1 (i_il 1 2) := s_iload_n dX8_remove_1 rfl
theorem s_X8_remove_2 {X : ev_E} {l : Launch} (hG : ev_Good X) (hl : l.stackTraces = false) : ev_Snd X l ev_ms x_X8_remove tx_X8_remove 2 (i_il 2 3) := s_iload_n dX8_remove_2 rfl
theorem s_X8_remove_3 {X : ev_E} {l : Launch} (hG : ev_Good X) (hl : l.stackTraces = false) : ev_Snd X l ev_ms x_X8_remove tx_X8_remove 3 (i_cV X 166 2 13 3 6) := s_invokevirtual hG (mi := 166) (n := 2) (ci := 13) (r := (RX8, TX8, 5)) rfl (cal_X8_isNoKey (Nat.le_of_ble_eq_true rfl)) w_1402 w_1404 w_27 dX8_remove_3
theorem s_X8_remove_6 {X : ev_E} {l : Launch} (hG : ev_Good X) (hl : l.stackTraces = false) : ev_Snd X l ev_ms x_X8_remove tx_X8_remove 6 (i_ifeq 11 9) := s_ifeq dX8_remove_6 rfl
theorem s_X8_remove_9 {X : ev_E} {l : Launch} (hG : ev_Good X) (hl : l.stackTraces = false) : ev_Snd X l ev_ms x_X8_remove tx_X8_remove 9 (i_psh (.int (0)) 10) := s_iconst dX8_remove_9 rfl
theorem s_X8_remove_10 {X : ev_E} {l : Launch} (hG : ev_Good X) (hl : l.stackTraces = false) : ev_Snd X l ev_ms x_X8_remove tx_X8_remove 10 (i_ir (.int)) := s_ireturn rfl dX8_remove_10
theorem s_X8_remove_11 {X : ev_E} {l : Launch} (hG : ev_Good X) (hl : l.stackTraces = false) : ev_Snd X l ev_ms x_X8_remove tx_X8_remove 11 (i_al 0 12) := s_aload_n dX8_remove_11 rfl
theorem s_X8_remove_12 {X : ev_E} {l : Launch} (hG : ev_Good X) (hl : l.stackTraces = false) : ev_Snd X l ev_ms x_X8_remove tx_X8_remove 12 (i_gf X 13 3 15) := s_getfield hG (ci := 13) (r := (RX8, TX8, 5)) rfl cw_13 (k := 3) (Nat.le_of_ble_eq_true rfl) w_1263 rfl (Or.inl rfl) dX8_remove_12
theorem s_X8_remove_15 {X : ev_E} {l : Launch} (hG : ev_Good X) (hl : l.stackTraces = false) : ev_Snd X l ev_ms x_X8_remove tx_X8_remove 15 (i_il 1 16) := s_iload_n dX8_remove_15 rfl
theorem s_X8_remove_16 {X : ev_E} {l : Launch} (hG : ev_Good X) (hl : l.stackTraces = false) : ev_Snd X l ev_ms x_X8_remove tx_X8_remove 16 (i_ald X FieldType.isReference 17) := s_aaload hG dX8_remove_16
theorem s_X8_remove_17 {X : ev_E} {l : Launch} (hG : ev_Good X) (hl : l.stackTraces = false) : ev_Snd X l ev_ms x_X8_remove tx_X8_remove 17 (i_as 3 18) := s_astore_n dX8_remove_17 rfl (Nat.le_of_ble_eq_true rfl)
theorem s_X8_remove_18 {X : ev_E} {l : Launch} (hG : ev_Good X) (hl : l.stackTraces = false) : ev_Snd X l ev_ms x_X8_remove tx_X8_remove 18 (i_al 3 19) := s_aload_n dX8_remove_18 rfl
theorem s_X8_remove_19 {X : ev_E} {l : Launch} (hG : ev_Good X) (hl : l.stackTraces = false) : ev_Snd X l ev_ms x_X8_remove tx_X8_remove 19 (i_psh (.int (1)) 20) := s_iconst dX8_remove_19 rfl
theorem s_X8_remove_20 {X : ev_E} {l : Launch} (hG : ev_Good X) (hl : l.stackTraces = false) : ev_Snd X l ev_ms x_X8_remove tx_X8_remove 20 (i_pf 12 8 (.boolean) 23) := s_putfield hG (ci := 12) (r := (RX7, TX7, 9)) rfl cw_12 ap_12 (k := 8) (Nat.le_of_ble_eq_true rfl) rfl (by decide +kernel) w_1238 rfl (Or.inl rfl) dX8_remove_20
theorem s_X8_remove_23 {X : ev_E} {l : Launch} (hG : ev_Good X) (hl : l.stackTraces = false) : ev_Snd X l ev_ms x_X8_remove tx_X8_remove 23 (i_al 3 24) := s_aload_n dX8_remove_23 rfl
theorem s_X8_remove_24 {X : ev_E} {l : Launch} (hG : ev_Good X) (hl : l.stackTraces = false) : ev_Snd X l ev_ms x_X8_remove tx_X8_remove 24 (i_il 2 25) := s_iload_n dX8_remove_24 rfl
theorem s_X8_remove_25 {X : ev_E} {l : Launch} (hG : ev_Good X) (hl : l.stackTraces = false) : ev_Snd X l ev_ms x_X8_remove tx_X8_remove 25 (i_cV X 208 1 12 3 28) := s_invokevirtual hG (mi := 208) (n := 1) (ci := 12) (r := (RX7, TX7, 9)) rfl (cal_X7_place (Nat.le_of_ble_eq_true rfl)) w_1310 w_1311 w_1312 dX8_remove_25
theorem s_X8_remove_28 {X : ev_E} {l : Launch} (hG : ev_Good X) (hl : l.stackTraces = false) : ev_Snd X l ev_ms x_X8_remove tx_X8_remove 28 (i_is 4 30) := s_istore dX8_remove_28 (Nat.le_of_ble_eq_true rfl)
theorem s_X8_remove_30 {X : ev_E} {l : Launch} (hG : ev_Good X) (hl : l.stackTraces = false) : ev_Snd X l ev_ms x_X8_remove tx_X8_remove 30 (i_il 4 32) := s_iload dX8_remove_30
theorem s_X8_remove_32 {X : ev_E} {l : Launch} (hG : ev_Good X) (hl : l.stackTraces = false) : ev_Snd X l ev_ms x_X8_remove tx_X8_remove 32 (i_psh (.int (-1)) 33) := s_iconst dX8_remove_32 rfl
theorem s_X8_remove_33 {X : ev_E} {l : Launch} (hG : ev_Good X) (hl : l.stackTraces = false) : ev_Snd X l ev_ms x_X8_remove tx_X8_remove 33 (i_icne 40 36) := s_icne dX8_remove_33 rfl
theorem s_X8_remove_36 {X : ev_E} {l : Launch} (hG : ev_Good X) (hl : l.stackTraces = false) : ev_Snd X l ev_ms x_X8_remove tx_X8_remove 36 (i_psh (.int (-1)) 37) := s_iconst dX8_remove_36 rfl
theorem s_X8_remove_37 {X : ev_E} {l : Launch} (hG : ev_Good X) (hl : l.stackTraces = false) : ev_Snd X l ev_ms x_X8_remove tx_X8_remove 37 (i_goto 54) := s_goto dX8_remove_37 rfl
theorem s_X8_remove_40 {X : ev_E} {l : Launch} (hG : ev_Good X) (hl : l.stackTraces = false) : ev_Snd X l ev_ms x_X8_remove tx_X8_remove 40 (i_al 3 41) := s_aload_n dX8_remove_40 rfl
theorem s_X8_remove_41 {X : ev_E} {l : Launch} (hG : ev_Good X) (hl : l.stackTraces = false) : ev_Snd X l ev_ms x_X8_remove tx_X8_remove 41 (i_gf X 12 0 44) := s_getfield hG (ci := 12) (r := (RX7, TX7, 9)) rfl cw_12 (k := 0) (Nat.le_of_ble_eq_true rfl) w_1222 rfl (Or.inl rfl) dX8_remove_41
theorem s_X8_remove_44 {X : ev_E} {l : Launch} (hG : ev_Good X) (hl : l.stackTraces = false) : ev_Snd X l ev_ms x_X8_remove tx_X8_remove 44 (i_il 4 46) := s_iload dX8_remove_44
theorem s_X8_remove_46 {X : ev_E} {l : Launch} (hG : ev_Good X) (hl : l.stackTraces = false) : ev_Snd X l ev_ms x_X8_remove tx_X8_remove 46 (i_cV X 131 1 4 4 49) := s_invokevirtual hG (mi := 131) (n := 1) (ci := 4) (r := (RJx4a65c, TJx4a65c, 3)) rfl (cal_Jx4a65c_remove_915e3 (Nat.le_of_ble_eq_true rfl)) w_1393 w_1335 w_1336 dX8_remove_46
theorem s_X8_remove_49 {X : ev_E} {l : Launch} (hG : ev_Good X) (hl : l.stackTraces = false) : ev_Snd X l ev_ms x_X8_remove tx_X8_remove 49 (i_cca 0 52) := s_castA hG (kd := 0) (Nat.le_of_ble_eq_true rfl) (by decide +kernel) w_1329 dX8_remove_49
theorem s_X8_remove_52 {X : ev_E} {l : Launch} (hG : ev_Good X) (hl : l.stackTraces = false) : ev_Snd X l ev_ms x_X8_remove tx_X8_remove 52 (i_psh (.int (1)) 53) := s_iconst dX8_remove_52 rfl
theorem s_X8_remove_53 {X : ev_E} {l : Launch} (hG : ev_Good X) (hl : l.stackTraces = false) : ev_Snd X l ev_ms x_X8_remove tx_X8_remove 53 (i_ald X ev_tI 54) := s_iaload hG dX8_remove_53
theorem s_X8_remove_54 {X : ev_E} {l : Launch} (hG : ev_Good X) (hl : l.stackTraces = false) : ev_Snd X l ev_ms x_X8_remove tx_X8_remove 54 (i_ir (.int)) := s_ireturn rfl dX8_remove_54
theorem sa_X8_remove {X : ev_E} {l : Launch} (hG : ev_Good X) (hl : l.stackTraces = false) : ∀ q ∈ tb_X8_remove X, ev_Snd X l ev_ms x_X8_remove tx_X8_remove q.1 q.2 := by
  intro q hq
  unfold tb_X8_remove at hq
  simp only [List.mem_cons, List.not_mem_nil, or_false] at hq
  rcases hq with rfl | rfl | rfl | rfl | rfl | rfl | rfl | rfl | rfl | rfl | rfl | rfl | rfl | rfl | rfl | rfl | rfl | rfl | rfl | rfl | rfl | rfl | rfl | rfl | rfl | rfl | rfl | rfl | rfl | rfl | rfl | rfl
  · exact s_X8_remove_0 hG hl
  · exact s_X8_remove_1 hG hl
  · exact s_X8_remove_2 hG hl
  · exact s_X8_remove_3 hG hl
  · exact s_X8_remove_6 hG hl
  · exact s_X8_remove_9 hG hl
  · exact s_X8_remove_10 hG hl
  · exact s_X8_remove_11 hG hl
  · exact s_X8_remove_12 hG hl
  · exact s_X8_remove_15 hG hl
  · exact s_X8_remove_16 hG hl
  · exact s_X8_remove_17 hG hl
  · exact s_X8_remove_18 hG hl
  · exact s_X8_remove_19 hG hl
  · exact s_X8_remove_20 hG hl
  · exact s_X8_remove_23 hG hl
  · exact s_X8_remove_24 hG hl
  · exact s_X8_remove_25 hG hl
  · exact s_X8_remove_28 hG hl
  · exact s_X8_remove_30 hG hl
  · exact s_X8_remove_32 hG hl
  · exact s_X8_remove_33 hG hl
  · exact s_X8_remove_36 hG hl
  · exact s_X8_remove_37 hG hl
  · exact s_X8_remove_40 hG hl
  · exact s_X8_remove_41 hG hl
  · exact s_X8_remove_44 hG hl
  · exact s_X8_remove_46 hG hl
  · exact s_X8_remove_49 hG hl
  · exact s_X8_remove_52 hG hl
  · exact s_X8_remove_53 hG hl
  · exact s_X8_remove_54 hG hl
def tx_X8_rest : ev_X := fun _ _ => some none
noncomputable def tb_X8_rest (X : ev_E) : List (Nat × (ev_S → ev_N)) := [(0, i_al 0 1), (1, i_il 1 2), (2, i_cS 118 1 1 5), (5, i_psh (.int (0)) 6), (6, i_psh (.int (0)) 7), (7, i_cV X 63 3 13 4 10), (10, i_ifeq 15 13), (13, i_psh (.int (0)) 14), (14, i_ir (.int)), (15, i_al 0 16), (16, i_gf X 13 3 19), (19, i_il 1 20), (20, i_ald X FieldType.isReference 21), (21, i_as 2 22), (22, i_al 2 23), (23, i_cV X 62 0 12 1 26), (26, i_ifne 34 29), (29, i_al 0 30), (30, i_cV X 69 0 13 1 33), (33, i_ir (.int)), (34, i_psh (.int (0)) 35), (35, i_is 3 36), (36, i_al 2 37), (37, i_cV X 115 0 12 1 40), (40, i_ifeq 53 43), (43, i_il 3 44), (44, i_al 2 45), (45, i_cV X 209 0 12 2 48), (48, i_ii (fun a b => a + b) 49), (49, i_is 3 50), (50, i_goto 36), (53, i_il 3 54), (54, i_ir (.int))]
theorem s_X8_rest_0 {X : ev_E} {l : Launch} (hG : ev_Good X) (hl : l.stackTraces = false) : ev_Snd X l ev_ms x_X8_rest tx_X8_rest 0 (i_al 0 1) := s_aload_n dX8_rest_0 rfl
theorem s_X8_rest_1 {X : ev_E} {l : Launch} (hG : ev_Good X) (hl : l.stackTraces = false) : ev_Snd X l ev_ms x_X8_rest tx_X8_rest 1 (i_il 1 2) := s_iload_n dX8_rest_1 rfl
theorem s_X8_rest_2 {X : ev_E} {l : Launch} (hG : ev_Good X) (hl : l.stackTraces = false) : ev_Snd X l ev_ms x_X8_rest tx_X8_rest 2 (i_cS 118 1 1 5) := s_invokestatic hG (mi := 118) (n := 1) (cal_X8_isNo (Nat.le_of_ble_eq_true rfl)) w_1284 w_1285 dX8_rest_2
theorem s_X8_rest_5 {X : ev_E} {l : Launch} (hG : ev_Good X) (hl : l.stackTraces = false) : ev_Snd X l ev_ms x_X8_rest tx_X8_rest 5 (i_psh (.int (0)) 6) := s_iconst dX8_rest_5 rfl
theorem s_X8_rest_6 {X : ev_E} {l : Launch} (hG : ev_Good X) (hl : l.stackTraces = false) : ev_Snd X l ev_ms x_X8_rest tx_X8_rest 6 (i_psh (.int (0)) 7) := s_iconst dX8_rest_6 rfl
theorem s_X8_rest_7 {X : ev_E} {l : Launch} (hG : ev_Good X) (hl : l.stackTraces = false) : ev_Snd X l ev_ms x_X8_rest tx_X8_rest 7 (i_cV X 63 3 13 4 10) := s_invokevirtual hG (mi := 63) (n := 3) (ci := 13) (r := (RX8, TX8, 5)) rfl (cal_X8_fails (Nat.le_of_ble_eq_true rfl)) w_1290 w_1292 w_22 dX8_rest_7
theorem s_X8_rest_10 {X : ev_E} {l : Launch} (hG : ev_Good X) (hl : l.stackTraces = false) : ev_Snd X l ev_ms x_X8_rest tx_X8_rest 10 (i_ifeq 15 13) := s_ifeq dX8_rest_10 rfl
theorem s_X8_rest_13 {X : ev_E} {l : Launch} (hG : ev_Good X) (hl : l.stackTraces = false) : ev_Snd X l ev_ms x_X8_rest tx_X8_rest 13 (i_psh (.int (0)) 14) := s_iconst dX8_rest_13 rfl
theorem s_X8_rest_14 {X : ev_E} {l : Launch} (hG : ev_Good X) (hl : l.stackTraces = false) : ev_Snd X l ev_ms x_X8_rest tx_X8_rest 14 (i_ir (.int)) := s_ireturn rfl dX8_rest_14
theorem s_X8_rest_15 {X : ev_E} {l : Launch} (hG : ev_Good X) (hl : l.stackTraces = false) : ev_Snd X l ev_ms x_X8_rest tx_X8_rest 15 (i_al 0 16) := s_aload_n dX8_rest_15 rfl
theorem s_X8_rest_16 {X : ev_E} {l : Launch} (hG : ev_Good X) (hl : l.stackTraces = false) : ev_Snd X l ev_ms x_X8_rest tx_X8_rest 16 (i_gf X 13 3 19) := s_getfield hG (ci := 13) (r := (RX8, TX8, 5)) rfl cw_13 (k := 3) (Nat.le_of_ble_eq_true rfl) w_1263 rfl (Or.inl rfl) dX8_rest_16
theorem s_X8_rest_19 {X : ev_E} {l : Launch} (hG : ev_Good X) (hl : l.stackTraces = false) : ev_Snd X l ev_ms x_X8_rest tx_X8_rest 19 (i_il 1 20) := s_iload_n dX8_rest_19 rfl
theorem s_X8_rest_20 {X : ev_E} {l : Launch} (hG : ev_Good X) (hl : l.stackTraces = false) : ev_Snd X l ev_ms x_X8_rest tx_X8_rest 20 (i_ald X FieldType.isReference 21) := s_aaload hG dX8_rest_20
theorem s_X8_rest_21 {X : ev_E} {l : Launch} (hG : ev_Good X) (hl : l.stackTraces = false) : ev_Snd X l ev_ms x_X8_rest tx_X8_rest 21 (i_as 2 22) := s_astore_n dX8_rest_21 rfl (Nat.le_of_ble_eq_true rfl)
theorem s_X8_rest_22 {X : ev_E} {l : Launch} (hG : ev_Good X) (hl : l.stackTraces = false) : ev_Snd X l ev_ms x_X8_rest tx_X8_rest 22 (i_al 2 23) := s_aload_n dX8_rest_22 rfl
theorem s_X8_rest_23 {X : ev_E} {l : Launch} (hG : ev_Good X) (hl : l.stackTraces = false) : ev_Snd X l ev_ms x_X8_rest tx_X8_rest 23 (i_cV X 62 0 12 1 26) := s_invokevirtual hG (mi := 62) (n := 0) (ci := 12) (r := (RX7, TX7, 9)) rfl (cal_X7_isOn (Nat.le_of_ble_eq_true rfl)) w_1546 w_1547 w_1548 dX8_rest_23
theorem s_X8_rest_26 {X : ev_E} {l : Launch} (hG : ev_Good X) (hl : l.stackTraces = false) : ev_Snd X l ev_ms x_X8_rest tx_X8_rest 26 (i_ifne 34 29) := s_ifne dX8_rest_26 rfl
theorem s_X8_rest_29 {X : ev_E} {l : Launch} (hG : ev_Good X) (hl : l.stackTraces = false) : ev_Snd X l ev_ms x_X8_rest tx_X8_rest 29 (i_al 0 30) := s_aload_n dX8_rest_29 rfl
theorem s_X8_rest_30 {X : ev_E} {l : Launch} (hG : ev_Good X) (hl : l.stackTraces = false) : ev_Snd X l ev_ms x_X8_rest tx_X8_rest 30 (i_cV X 69 0 13 1 33) := s_invokevirtual hG (mi := 69) (n := 0) (ci := 13) (r := (RX8, TX8, 5)) rfl (cal_X8_no (Nat.le_of_ble_eq_true rfl)) w_1426 w_1428 w_29 dX8_rest_30
theorem s_X8_rest_33 {X : ev_E} {l : Launch} (hG : ev_Good X) (hl : l.stackTraces = false) : ev_Snd X l ev_ms x_X8_rest tx_X8_rest 33 (i_ir (.int)) := s_ireturn rfl dX8_rest_33
theorem s_X8_rest_34 {X : ev_E} {l : Launch} (hG : ev_Good X) (hl : l.stackTraces = false) : ev_Snd X l ev_ms x_X8_rest tx_X8_rest 34 (i_psh (.int (0)) 35) := s_iconst dX8_rest_34 rfl
theorem s_X8_rest_35 {X : ev_E} {l : Launch} (hG : ev_Good X) (hl : l.stackTraces = false) : ev_Snd X l ev_ms x_X8_rest tx_X8_rest 35 (i_is 3 36) := s_istore_n dX8_rest_35 rfl (Nat.le_of_ble_eq_true rfl)
theorem s_X8_rest_36 {X : ev_E} {l : Launch} (hG : ev_Good X) (hl : l.stackTraces = false) : ev_Snd X l ev_ms x_X8_rest tx_X8_rest 36 (i_al 2 37) := s_aload_n dX8_rest_36 rfl
theorem s_X8_rest_37 {X : ev_E} {l : Launch} (hG : ev_Good X) (hl : l.stackTraces = false) : ev_Snd X l ev_ms x_X8_rest tx_X8_rest 37 (i_cV X 115 0 12 1 40) := s_invokevirtual hG (mi := 115) (n := 0) (ci := 12) (r := (RX7, TX7, 9)) rfl (cal_X7_hasMore (Nat.le_of_ble_eq_true rfl)) w_1550 w_1551 w_1552 dX8_rest_37
theorem s_X8_rest_40 {X : ev_E} {l : Launch} (hG : ev_Good X) (hl : l.stackTraces = false) : ev_Snd X l ev_ms x_X8_rest tx_X8_rest 40 (i_ifeq 53 43) := s_ifeq dX8_rest_40 rfl
theorem s_X8_rest_43 {X : ev_E} {l : Launch} (hG : ev_Good X) (hl : l.stackTraces = false) : ev_Snd X l ev_ms x_X8_rest tx_X8_rest 43 (i_il 3 44) := s_iload_n dX8_rest_43 rfl
theorem s_X8_rest_44 {X : ev_E} {l : Launch} (hG : ev_Good X) (hl : l.stackTraces = false) : ev_Snd X l ev_ms x_X8_rest tx_X8_rest 44 (i_al 2 45) := s_aload_n dX8_rest_44 rfl
theorem s_X8_rest_45 {X : ev_E} {l : Launch} (hG : ev_Good X) (hl : l.stackTraces = false) : ev_Snd X l ev_ms x_X8_rest tx_X8_rest 45 (i_cV X 209 0 12 2 48) := s_invokevirtual hG (mi := 209) (n := 0) (ci := 12) (r := (RX7, TX7, 9)) rfl (cal_X7_step (Nat.le_of_ble_eq_true rfl)) w_1555 w_1556 w_1557 dX8_rest_45
theorem s_X8_rest_48 {X : ev_E} {l : Launch} (hG : ev_Good X) (hl : l.stackTraces = false) : ev_Snd X l ev_ms x_X8_rest tx_X8_rest 48 (i_ii (fun a b => a + b) 49) := s_iadd dX8_rest_48
theorem s_X8_rest_49 {X : ev_E} {l : Launch} (hG : ev_Good X) (hl : l.stackTraces = false) : ev_Snd X l ev_ms x_X8_rest tx_X8_rest 49 (i_is 3 50) := s_istore_n dX8_rest_49 rfl (Nat.le_of_ble_eq_true rfl)
theorem s_X8_rest_50 {X : ev_E} {l : Launch} (hG : ev_Good X) (hl : l.stackTraces = false) : ev_Snd X l ev_ms x_X8_rest tx_X8_rest 50 (i_goto 36) := s_goto dX8_rest_50 rfl
theorem s_X8_rest_53 {X : ev_E} {l : Launch} (hG : ev_Good X) (hl : l.stackTraces = false) : ev_Snd X l ev_ms x_X8_rest tx_X8_rest 53 (i_il 3 54) := s_iload_n dX8_rest_53 rfl
theorem s_X8_rest_54 {X : ev_E} {l : Launch} (hG : ev_Good X) (hl : l.stackTraces = false) : ev_Snd X l ev_ms x_X8_rest tx_X8_rest 54 (i_ir (.int)) := s_ireturn rfl dX8_rest_54
theorem sa_X8_rest {X : ev_E} {l : Launch} (hG : ev_Good X) (hl : l.stackTraces = false) : ∀ q ∈ tb_X8_rest X, ev_Snd X l ev_ms x_X8_rest tx_X8_rest q.1 q.2 := by
  intro q hq
  unfold tb_X8_rest at hq
  simp only [List.mem_cons, List.not_mem_nil, or_false] at hq
  rcases hq with rfl | rfl | rfl | rfl | rfl | rfl | rfl | rfl | rfl | rfl | rfl | rfl | rfl | rfl | rfl | rfl | rfl | rfl | rfl | rfl | rfl | rfl | rfl | rfl | rfl | rfl | rfl | rfl | rfl | rfl | rfl | rfl | rfl
  · exact s_X8_rest_0 hG hl
  · exact s_X8_rest_1 hG hl
  · exact s_X8_rest_2 hG hl
  · exact s_X8_rest_5 hG hl
  · exact s_X8_rest_6 hG hl
  · exact s_X8_rest_7 hG hl
  · exact s_X8_rest_10 hG hl
  · exact s_X8_rest_13 hG hl
  · exact s_X8_rest_14 hG hl
  · exact s_X8_rest_15 hG hl
  · exact s_X8_rest_16 hG hl
  · exact s_X8_rest_19 hG hl
  · exact s_X8_rest_20 hG hl
  · exact s_X8_rest_21 hG hl
  · exact s_X8_rest_22 hG hl
  · exact s_X8_rest_23 hG hl
  · exact s_X8_rest_26 hG hl
  · exact s_X8_rest_29 hG hl
  · exact s_X8_rest_30 hG hl
  · exact s_X8_rest_33 hG hl
  · exact s_X8_rest_34 hG hl
  · exact s_X8_rest_35 hG hl
  · exact s_X8_rest_36 hG hl
  · exact s_X8_rest_37 hG hl
  · exact s_X8_rest_40 hG hl
  · exact s_X8_rest_43 hG hl
  · exact s_X8_rest_44 hG hl
  · exact s_X8_rest_45 hG hl
  · exact s_X8_rest_48 hG hl
  · exact s_X8_rest_49 hG hl
  · exact s_X8_rest_50 hG hl
  · exact s_X8_rest_53 hG hl
  · exact s_X8_rest_54 hG hl
def tx_X8_step : ev_X := fun _ _ => some none
noncomputable def tb_X8_step (X : ev_E) : List (Nat × (ev_S → ev_N)) := [(0, i_al 0 1), (1, i_il 1 2), (2, i_cS 118 1 1 5), (5, i_psh (.int (0)) 6), (6, i_psh (.int (0)) 7), (7, i_cV X 63 3 13 4 10), (10, i_ifeq 15 13), (13, i_psh (.int (0)) 14), (14, i_ir (.int)), (15, i_al 0 16), (16, i_gf X 13 3 19), (19, i_il 1 20), (20, i_ald X FieldType.isReference 21), (21, i_as 2 22), (22, i_al 2 23), (23, i_cV X 62 0 12 1 26), (26, i_ifne 34 29), (29, i_al 0 30), (30, i_cV X 69 0 13 1 33), (33, i_ir (.int)), (34, i_al 2 35), (35, i_cV X 115 0 12 1 38), (38, i_ifeq 48 41), (41, i_al 2 42), (42, i_cV X 209 0 12 2 45), (45, i_goto 50), (48, i_psh (.int (-8)) 50), (50, i_ir (.int))]
theorem s_X8_step_0 {X : ev_E} {l : Launch} (hG : ev_Good X) (hl : l.stackTraces = false) : ev_Snd X l ev_ms x_X8_step tx_X8_step 0 (i_al 0 1) := s_aload_n dX8_step_0 rfl
theorem s_X8_step_1 {X : ev_E} {l : Launch} (hG : ev_Good X) (hl : l.stackTraces = false) : ev_Snd X l ev_ms x_X8_step tx_X8_step 1 (i_il 1 2) := s_iload_n dX8_step_1 rfl
theorem s_X8_step_2 {X : ev_E} {l : Launch} (hG : ev_Good X) (hl : l.stackTraces = false) : ev_Snd X l ev_ms x_X8_step tx_X8_step 2 (i_cS 118 1 1 5) := s_invokestatic hG (mi := 118) (n := 1) (cal_X8_isNo (Nat.le_of_ble_eq_true rfl)) w_1284 w_1285 dX8_step_2
theorem s_X8_step_5 {X : ev_E} {l : Launch} (hG : ev_Good X) (hl : l.stackTraces = false) : ev_Snd X l ev_ms x_X8_step tx_X8_step 5 (i_psh (.int (0)) 6) := s_iconst dX8_step_5 rfl
theorem s_X8_step_6 {X : ev_E} {l : Launch} (hG : ev_Good X) (hl : l.stackTraces = false) : ev_Snd X l ev_ms x_X8_step tx_X8_step 6 (i_psh (.int (0)) 7) := s_iconst dX8_step_6 rfl
theorem s_X8_step_7 {X : ev_E} {l : Launch} (hG : ev_Good X) (hl : l.stackTraces = false) : ev_Snd X l ev_ms x_X8_step tx_X8_step 7 (i_cV X 63 3 13 4 10) := s_invokevirtual hG (mi := 63) (n := 3) (ci := 13) (r := (RX8, TX8, 5)) rfl (cal_X8_fails (Nat.le_of_ble_eq_true rfl)) w_1290 w_1292 w_22 dX8_step_7
theorem s_X8_step_10 {X : ev_E} {l : Launch} (hG : ev_Good X) (hl : l.stackTraces = false) : ev_Snd X l ev_ms x_X8_step tx_X8_step 10 (i_ifeq 15 13) := s_ifeq dX8_step_10 rfl
theorem s_X8_step_13 {X : ev_E} {l : Launch} (hG : ev_Good X) (hl : l.stackTraces = false) : ev_Snd X l ev_ms x_X8_step tx_X8_step 13 (i_psh (.int (0)) 14) := s_iconst dX8_step_13 rfl
theorem s_X8_step_14 {X : ev_E} {l : Launch} (hG : ev_Good X) (hl : l.stackTraces = false) : ev_Snd X l ev_ms x_X8_step tx_X8_step 14 (i_ir (.int)) := s_ireturn rfl dX8_step_14
theorem s_X8_step_15 {X : ev_E} {l : Launch} (hG : ev_Good X) (hl : l.stackTraces = false) : ev_Snd X l ev_ms x_X8_step tx_X8_step 15 (i_al 0 16) := s_aload_n dX8_step_15 rfl
theorem s_X8_step_16 {X : ev_E} {l : Launch} (hG : ev_Good X) (hl : l.stackTraces = false) : ev_Snd X l ev_ms x_X8_step tx_X8_step 16 (i_gf X 13 3 19) := s_getfield hG (ci := 13) (r := (RX8, TX8, 5)) rfl cw_13 (k := 3) (Nat.le_of_ble_eq_true rfl) w_1263 rfl (Or.inl rfl) dX8_step_16
theorem s_X8_step_19 {X : ev_E} {l : Launch} (hG : ev_Good X) (hl : l.stackTraces = false) : ev_Snd X l ev_ms x_X8_step tx_X8_step 19 (i_il 1 20) := s_iload_n dX8_step_19 rfl
theorem s_X8_step_20 {X : ev_E} {l : Launch} (hG : ev_Good X) (hl : l.stackTraces = false) : ev_Snd X l ev_ms x_X8_step tx_X8_step 20 (i_ald X FieldType.isReference 21) := s_aaload hG dX8_step_20
theorem s_X8_step_21 {X : ev_E} {l : Launch} (hG : ev_Good X) (hl : l.stackTraces = false) : ev_Snd X l ev_ms x_X8_step tx_X8_step 21 (i_as 2 22) := s_astore_n dX8_step_21 rfl (Nat.le_of_ble_eq_true rfl)
theorem s_X8_step_22 {X : ev_E} {l : Launch} (hG : ev_Good X) (hl : l.stackTraces = false) : ev_Snd X l ev_ms x_X8_step tx_X8_step 22 (i_al 2 23) := s_aload_n dX8_step_22 rfl
theorem s_X8_step_23 {X : ev_E} {l : Launch} (hG : ev_Good X) (hl : l.stackTraces = false) : ev_Snd X l ev_ms x_X8_step tx_X8_step 23 (i_cV X 62 0 12 1 26) := s_invokevirtual hG (mi := 62) (n := 0) (ci := 12) (r := (RX7, TX7, 9)) rfl (cal_X7_isOn (Nat.le_of_ble_eq_true rfl)) w_1546 w_1547 w_1548 dX8_step_23
theorem s_X8_step_26 {X : ev_E} {l : Launch} (hG : ev_Good X) (hl : l.stackTraces = false) : ev_Snd X l ev_ms x_X8_step tx_X8_step 26 (i_ifne 34 29) := s_ifne dX8_step_26 rfl
theorem s_X8_step_29 {X : ev_E} {l : Launch} (hG : ev_Good X) (hl : l.stackTraces = false) : ev_Snd X l ev_ms x_X8_step tx_X8_step 29 (i_al 0 30) := s_aload_n dX8_step_29 rfl
theorem s_X8_step_30 {X : ev_E} {l : Launch} (hG : ev_Good X) (hl : l.stackTraces = false) : ev_Snd X l ev_ms x_X8_step tx_X8_step 30 (i_cV X 69 0 13 1 33) := s_invokevirtual hG (mi := 69) (n := 0) (ci := 13) (r := (RX8, TX8, 5)) rfl (cal_X8_no (Nat.le_of_ble_eq_true rfl)) w_1426 w_1428 w_29 dX8_step_30
theorem s_X8_step_33 {X : ev_E} {l : Launch} (hG : ev_Good X) (hl : l.stackTraces = false) : ev_Snd X l ev_ms x_X8_step tx_X8_step 33 (i_ir (.int)) := s_ireturn rfl dX8_step_33
theorem s_X8_step_34 {X : ev_E} {l : Launch} (hG : ev_Good X) (hl : l.stackTraces = false) : ev_Snd X l ev_ms x_X8_step tx_X8_step 34 (i_al 2 35) := s_aload_n dX8_step_34 rfl
theorem s_X8_step_35 {X : ev_E} {l : Launch} (hG : ev_Good X) (hl : l.stackTraces = false) : ev_Snd X l ev_ms x_X8_step tx_X8_step 35 (i_cV X 115 0 12 1 38) := s_invokevirtual hG (mi := 115) (n := 0) (ci := 12) (r := (RX7, TX7, 9)) rfl (cal_X7_hasMore (Nat.le_of_ble_eq_true rfl)) w_1550 w_1551 w_1552 dX8_step_35
theorem s_X8_step_38 {X : ev_E} {l : Launch} (hG : ev_Good X) (hl : l.stackTraces = false) : ev_Snd X l ev_ms x_X8_step tx_X8_step 38 (i_ifeq 48 41) := s_ifeq dX8_step_38 rfl
theorem s_X8_step_41 {X : ev_E} {l : Launch} (hG : ev_Good X) (hl : l.stackTraces = false) : ev_Snd X l ev_ms x_X8_step tx_X8_step 41 (i_al 2 42) := s_aload_n dX8_step_41 rfl
theorem s_X8_step_42 {X : ev_E} {l : Launch} (hG : ev_Good X) (hl : l.stackTraces = false) : ev_Snd X l ev_ms x_X8_step tx_X8_step 42 (i_cV X 209 0 12 2 45) := s_invokevirtual hG (mi := 209) (n := 0) (ci := 12) (r := (RX7, TX7, 9)) rfl (cal_X7_step (Nat.le_of_ble_eq_true rfl)) w_1555 w_1556 w_1557 dX8_step_42
theorem s_X8_step_45 {X : ev_E} {l : Launch} (hG : ev_Good X) (hl : l.stackTraces = false) : ev_Snd X l ev_ms x_X8_step tx_X8_step 45 (i_goto 50) := s_goto dX8_step_45 rfl
theorem s_X8_step_48 {X : ev_E} {l : Launch} (hG : ev_Good X) (hl : l.stackTraces = false) : ev_Snd X l ev_ms x_X8_step tx_X8_step 48 (i_psh (.int (-8)) 50) := s_bipush dX8_step_48 rfl
theorem s_X8_step_50 {X : ev_E} {l : Launch} (hG : ev_Good X) (hl : l.stackTraces = false) : ev_Snd X l ev_ms x_X8_step tx_X8_step 50 (i_ir (.int)) := s_ireturn rfl dX8_step_50
theorem sa_X8_step {X : ev_E} {l : Launch} (hG : ev_Good X) (hl : l.stackTraces = false) : ∀ q ∈ tb_X8_step X, ev_Snd X l ev_ms x_X8_step tx_X8_step q.1 q.2 := by
  intro q hq
  unfold tb_X8_step at hq
  simp only [List.mem_cons, List.not_mem_nil, or_false] at hq
  rcases hq with rfl | rfl | rfl | rfl | rfl | rfl | rfl | rfl | rfl | rfl | rfl | rfl | rfl | rfl | rfl | rfl | rfl | rfl | rfl | rfl | rfl | rfl | rfl | rfl | rfl | rfl | rfl | rfl
  · exact s_X8_step_0 hG hl
  · exact s_X8_step_1 hG hl
  · exact s_X8_step_2 hG hl
  · exact s_X8_step_5 hG hl
  · exact s_X8_step_6 hG hl
  · exact s_X8_step_7 hG hl
  · exact s_X8_step_10 hG hl
  · exact s_X8_step_13 hG hl
  · exact s_X8_step_14 hG hl
  · exact s_X8_step_15 hG hl
  · exact s_X8_step_16 hG hl
  · exact s_X8_step_19 hG hl
  · exact s_X8_step_20 hG hl
  · exact s_X8_step_21 hG hl
  · exact s_X8_step_22 hG hl
  · exact s_X8_step_23 hG hl
  · exact s_X8_step_26 hG hl
  · exact s_X8_step_29 hG hl
  · exact s_X8_step_30 hG hl
  · exact s_X8_step_33 hG hl
  · exact s_X8_step_34 hG hl
  · exact s_X8_step_35 hG hl
  · exact s_X8_step_38 hG hl
  · exact s_X8_step_41 hG hl
  · exact s_X8_step_42 hG hl
  · exact s_X8_step_45 hG hl
  · exact s_X8_step_48 hG hl
  · exact s_X8_step_50 hG hl
def tx_X8_unlike : ev_X := fun _ _ => some none
noncomputable def tb_X8_unlike (X : ev_E) : List (Nat × (ev_S → ev_N)) := [(0, i_psh (.int (0)) 1), (1, i_is 3 2), (2, i_il 1 3), (3, i_is 4 5), (5, i_il 4 7), (7, i_il 2 8), (8, i_icge 53 11), (11, i_il 3 12), (12, i_al 0 13), (13, i_al 0 14), (14, i_gf X 13 4 17), (17, i_il 4 19), (19, i_cV X 129 1 4 2 22), (22, i_cco X 2 25), (25, i_cV X 12 0 2 1 28), (28, i_il 4 30), (30, i_cV X 211 2 13 4 33), (33, i_il 1 34), (34, i_icge 41 37), (37, i_psh (.int (1)) 38), (38, i_goto 42), (41, i_psh (.int (0)) 42), (42, i_cS 70 1 1 45), (45, i_ii (fun a b => a + b) 46), (46, i_is 3 47), (47, i_inc 4 (1) 50), (50, i_goto 5), (53, i_il 3 54), (54, i_ir (.int))]
theorem s_X8_unlike_0 {X : ev_E} {l : Launch} (hG : ev_Good X) (hl : l.stackTraces = false) : ev_Snd X l ev_ms x_X8_unlike tx_X8_unlike 0 (i_psh (.int (0)) 1) := s_iconst dX8_unlike_0 rfl
theorem s_X8_unlike_1 {X : ev_E} {l : Launch} (hG : ev_Good X) (hl : l.stackTraces = false) : ev_Snd X l ev_ms x_X8_unlike tx_X8_unlike 1 (i_is 3 2) := s_istore_n dX8_unlike_1 rfl (Nat.le_of_ble_eq_true rfl)
theorem s_X8_unlike_2 {X : ev_E} {l : Launch} (hG : ev_Good X) (hl : l.stackTraces = false) : ev_Snd X l ev_ms x_X8_unlike tx_X8_unlike 2 (i_il 1 3) := s_iload_n dX8_unlike_2 rfl
theorem s_X8_unlike_3 {X : ev_E} {l : Launch} (hG : ev_Good X) (hl : l.stackTraces = false) : ev_Snd X l ev_ms x_X8_unlike tx_X8_unlike 3 (i_is 4 5) := s_istore dX8_unlike_3 (Nat.le_of_ble_eq_true rfl)
theorem s_X8_unlike_5 {X : ev_E} {l : Launch} (hG : ev_Good X) (hl : l.stackTraces = false) : ev_Snd X l ev_ms x_X8_unlike tx_X8_unlike 5 (i_il 4 7) := s_iload dX8_unlike_5
theorem s_X8_unlike_7 {X : ev_E} {l : Launch} (hG : ev_Good X) (hl : l.stackTraces = false) : ev_Snd X l ev_ms x_X8_unlike tx_X8_unlike 7 (i_il 2 8) := s_iload_n dX8_unlike_7 rfl
theorem s_X8_unlike_8 {X : ev_E} {l : Launch} (hG : ev_Good X) (hl : l.stackTraces = false) : ev_Snd X l ev_ms x_X8_unlike tx_X8_unlike 8 (i_icge 53 11) := s_icge dX8_unlike_8 rfl
theorem s_X8_unlike_11 {X : ev_E} {l : Launch} (hG : ev_Good X) (hl : l.stackTraces = false) : ev_Snd X l ev_ms x_X8_unlike tx_X8_unlike 11 (i_il 3 12) := s_iload_n dX8_unlike_11 rfl
theorem s_X8_unlike_12 {X : ev_E} {l : Launch} (hG : ev_Good X) (hl : l.stackTraces = false) : ev_Snd X l ev_ms x_X8_unlike tx_X8_unlike 12 (i_al 0 13) := s_aload_n dX8_unlike_12 rfl
theorem s_X8_unlike_13 {X : ev_E} {l : Launch} (hG : ev_Good X) (hl : l.stackTraces = false) : ev_Snd X l ev_ms x_X8_unlike tx_X8_unlike 13 (i_al 0 14) := s_aload_n dX8_unlike_13 rfl
theorem s_X8_unlike_14 {X : ev_E} {l : Launch} (hG : ev_Good X) (hl : l.stackTraces = false) : ev_Snd X l ev_ms x_X8_unlike tx_X8_unlike 14 (i_gf X 13 4 17) := s_getfield hG (ci := 13) (r := (RX8, TX8, 5)) rfl cw_13 (k := 4) (Nat.le_of_ble_eq_true rfl) w_1264 rfl (Or.inl rfl) dX8_unlike_14
theorem s_X8_unlike_17 {X : ev_E} {l : Launch} (hG : ev_Good X) (hl : l.stackTraces = false) : ev_Snd X l ev_ms x_X8_unlike tx_X8_unlike 17 (i_il 4 19) := s_iload dX8_unlike_17
theorem s_X8_unlike_19 {X : ev_E} {l : Launch} (hG : ev_Good X) (hl : l.stackTraces = false) : ev_Snd X l ev_ms x_X8_unlike tx_X8_unlike 19 (i_cV X 129 1 4 2 22) := s_invokevirtual hG (mi := 129) (n := 1) (ci := 4) (r := (RJx4a65c, TJx4a65c, 3)) rfl (cal_Jx4a65c_get_915e3 (Nat.le_of_ble_eq_true rfl)) w_1328 w_1316 w_1317 dX8_unlike_19
theorem s_X8_unlike_22 {X : ev_E} {l : Launch} (hG : ev_Good X) (hl : l.stackTraces = false) : ev_Snd X l ev_ms x_X8_unlike tx_X8_unlike 22 (i_cco X 2 25) := s_castO hG (ci := 2) (r := (RJ6, TJ6, 1)) rfl w_1595 dX8_unlike_22
theorem s_X8_unlike_25 {X : ev_E} {l : Launch} (hG : ev_Good X) (hl : l.stackTraces = false) : ev_Snd X l ev_ms x_X8_unlike tx_X8_unlike 25 (i_cV X 12 0 2 1 28) := s_invokevirtual hG (mi := 12) (n := 0) (ci := 2) (r := (RJ6, TJ6, 1)) rfl (cal_J6_intValue_8abf5 (Nat.le_of_ble_eq_true rfl)) w_1596 w_1597 w_1598 dX8_unlike_25
theorem s_X8_unlike_28 {X : ev_E} {l : Launch} (hG : ev_Good X) (hl : l.stackTraces = false) : ev_Snd X l ev_ms x_X8_unlike tx_X8_unlike 28 (i_il 4 30) := s_iload dX8_unlike_28
theorem s_X8_unlike_30 {X : ev_E} {l : Launch} (hG : ev_Good X) (hl : l.stackTraces = false) : ev_Snd X l ev_ms x_X8_unlike tx_X8_unlike 30 (i_cV X 211 2 13 4 33) := s_invokevirtual hG (mi := 211) (n := 2) (ci := 13) (r := (RX8, TX8, 5)) rfl (cal_X8_before (Nat.le_of_ble_eq_true rfl)) w_1591 w_1593 w_35 dX8_unlike_30
theorem s_X8_unlike_33 {X : ev_E} {l : Launch} (hG : ev_Good X) (hl : l.stackTraces = false) : ev_Snd X l ev_ms x_X8_unlike tx_X8_unlike 33 (i_il 1 34) := s_iload_n dX8_unlike_33 rfl
theorem s_X8_unlike_34 {X : ev_E} {l : Launch} (hG : ev_Good X) (hl : l.stackTraces = false) : ev_Snd X l ev_ms x_X8_unlike tx_X8_unlike 34 (i_icge 41 37) := s_icge dX8_unlike_34 rfl
theorem s_X8_unlike_37 {X : ev_E} {l : Launch} (hG : ev_Good X) (hl : l.stackTraces = false) : ev_Snd X l ev_ms x_X8_unlike tx_X8_unlike 37 (i_psh (.int (1)) 38) := s_iconst dX8_unlike_37 rfl
theorem s_X8_unlike_38 {X : ev_E} {l : Launch} (hG : ev_Good X) (hl : l.stackTraces = false) : ev_Snd X l ev_ms x_X8_unlike tx_X8_unlike 38 (i_goto 42) := s_goto dX8_unlike_38 rfl
theorem s_X8_unlike_41 {X : ev_E} {l : Launch} (hG : ev_Good X) (hl : l.stackTraces = false) : ev_Snd X l ev_ms x_X8_unlike tx_X8_unlike 41 (i_psh (.int (0)) 42) := s_iconst dX8_unlike_41 rfl
theorem s_X8_unlike_42 {X : ev_E} {l : Launch} (hG : ev_Good X) (hl : l.stackTraces = false) : ev_Snd X l ev_ms x_X8_unlike tx_X8_unlike 42 (i_cS 70 1 1 45) := s_invokestatic hG (mi := 70) (n := 1) (cal_X8_one (Nat.le_of_ble_eq_true rfl)) w_1535 w_1536 dX8_unlike_42
theorem s_X8_unlike_45 {X : ev_E} {l : Launch} (hG : ev_Good X) (hl : l.stackTraces = false) : ev_Snd X l ev_ms x_X8_unlike tx_X8_unlike 45 (i_ii (fun a b => a + b) 46) := s_iadd dX8_unlike_45
theorem s_X8_unlike_46 {X : ev_E} {l : Launch} (hG : ev_Good X) (hl : l.stackTraces = false) : ev_Snd X l ev_ms x_X8_unlike tx_X8_unlike 46 (i_is 3 47) := s_istore_n dX8_unlike_46 rfl (Nat.le_of_ble_eq_true rfl)
theorem s_X8_unlike_47 {X : ev_E} {l : Launch} (hG : ev_Good X) (hl : l.stackTraces = false) : ev_Snd X l ev_ms x_X8_unlike tx_X8_unlike 47 (i_inc 4 (1) 50) := s_iinc dX8_unlike_47 rfl (Nat.le_of_ble_eq_true rfl)
theorem s_X8_unlike_50 {X : ev_E} {l : Launch} (hG : ev_Good X) (hl : l.stackTraces = false) : ev_Snd X l ev_ms x_X8_unlike tx_X8_unlike 50 (i_goto 5) := s_goto dX8_unlike_50 rfl
theorem s_X8_unlike_53 {X : ev_E} {l : Launch} (hG : ev_Good X) (hl : l.stackTraces = false) : ev_Snd X l ev_ms x_X8_unlike tx_X8_unlike 53 (i_il 3 54) := s_iload_n dX8_unlike_53 rfl
theorem s_X8_unlike_54 {X : ev_E} {l : Launch} (hG : ev_Good X) (hl : l.stackTraces = false) : ev_Snd X l ev_ms x_X8_unlike tx_X8_unlike 54 (i_ir (.int)) := s_ireturn rfl dX8_unlike_54
theorem sa_X8_unlike {X : ev_E} {l : Launch} (hG : ev_Good X) (hl : l.stackTraces = false) : ∀ q ∈ tb_X8_unlike X, ev_Snd X l ev_ms x_X8_unlike tx_X8_unlike q.1 q.2 := by
  intro q hq
  unfold tb_X8_unlike at hq
  simp only [List.mem_cons, List.not_mem_nil, or_false] at hq
  rcases hq with rfl | rfl | rfl | rfl | rfl | rfl | rfl | rfl | rfl | rfl | rfl | rfl | rfl | rfl | rfl | rfl | rfl | rfl | rfl | rfl | rfl | rfl | rfl | rfl | rfl | rfl | rfl | rfl | rfl
  · exact s_X8_unlike_0 hG hl
  · exact s_X8_unlike_1 hG hl
  · exact s_X8_unlike_2 hG hl
  · exact s_X8_unlike_3 hG hl
  · exact s_X8_unlike_5 hG hl
  · exact s_X8_unlike_7 hG hl
  · exact s_X8_unlike_8 hG hl
  · exact s_X8_unlike_11 hG hl
  · exact s_X8_unlike_12 hG hl
  · exact s_X8_unlike_13 hG hl
  · exact s_X8_unlike_14 hG hl
  · exact s_X8_unlike_17 hG hl
  · exact s_X8_unlike_19 hG hl
  · exact s_X8_unlike_22 hG hl
  · exact s_X8_unlike_25 hG hl
  · exact s_X8_unlike_28 hG hl
  · exact s_X8_unlike_30 hG hl
  · exact s_X8_unlike_33 hG hl
  · exact s_X8_unlike_34 hG hl
  · exact s_X8_unlike_37 hG hl
  · exact s_X8_unlike_38 hG hl
  · exact s_X8_unlike_41 hG hl
  · exact s_X8_unlike_42 hG hl
  · exact s_X8_unlike_45 hG hl
  · exact s_X8_unlike_46 hG hl
  · exact s_X8_unlike_47 hG hl
  · exact s_X8_unlike_50 hG hl
  · exact s_X8_unlike_53 hG hl
  · exact s_X8_unlike_54 hG hl
def tx_X8_valueAt : ev_X := fun _ _ => some none
noncomputable def tb_X8_valueAt (X : ev_E) : List (Nat × (ev_S → ev_N)) := [(0, i_al 0 1), (1, i_il 1 2), (2, i_cS 118 1 1 5), (5, i_psh (.int (0)) 6), (6, i_psh (.int (0)) 7), (7, i_cV X 63 3 13 4 10), (10, i_ifeq 17 13), (13, i_psh (.int (0)) 14), (14, i_goto 24), (17, i_al 0 18), (18, i_il 1 19), (19, i_il 2 20), (20, i_psh (.int (1)) 21), (21, i_cV X 215 3 13 5 24), (24, i_ir (.int))]
theorem s_X8_valueAt_0 {X : ev_E} {l : Launch} (hG : ev_Good X) (hl : l.stackTraces = false) : ev_Snd X l ev_ms x_X8_valueAt tx_X8_valueAt 0 (i_al 0 1) := s_aload_n dX8_valueAt_0 rfl
theorem s_X8_valueAt_1 {X : ev_E} {l : Launch} (hG : ev_Good X) (hl : l.stackTraces = false) : ev_Snd X l ev_ms x_X8_valueAt tx_X8_valueAt 1 (i_il 1 2) := s_iload_n dX8_valueAt_1 rfl
theorem s_X8_valueAt_2 {X : ev_E} {l : Launch} (hG : ev_Good X) (hl : l.stackTraces = false) : ev_Snd X l ev_ms x_X8_valueAt tx_X8_valueAt 2 (i_cS 118 1 1 5) := s_invokestatic hG (mi := 118) (n := 1) (cal_X8_isNo (Nat.le_of_ble_eq_true rfl)) w_1284 w_1285 dX8_valueAt_2
theorem s_X8_valueAt_5 {X : ev_E} {l : Launch} (hG : ev_Good X) (hl : l.stackTraces = false) : ev_Snd X l ev_ms x_X8_valueAt tx_X8_valueAt 5 (i_psh (.int (0)) 6) := s_iconst dX8_valueAt_5 rfl
theorem s_X8_valueAt_6 {X : ev_E} {l : Launch} (hG : ev_Good X) (hl : l.stackTraces = false) : ev_Snd X l ev_ms x_X8_valueAt tx_X8_valueAt 6 (i_psh (.int (0)) 7) := s_iconst dX8_valueAt_6 rfl
theorem s_X8_valueAt_7 {X : ev_E} {l : Launch} (hG : ev_Good X) (hl : l.stackTraces = false) : ev_Snd X l ev_ms x_X8_valueAt tx_X8_valueAt 7 (i_cV X 63 3 13 4 10) := s_invokevirtual hG (mi := 63) (n := 3) (ci := 13) (r := (RX8, TX8, 5)) rfl (cal_X8_fails (Nat.le_of_ble_eq_true rfl)) w_1290 w_1292 w_22 dX8_valueAt_7
theorem s_X8_valueAt_10 {X : ev_E} {l : Launch} (hG : ev_Good X) (hl : l.stackTraces = false) : ev_Snd X l ev_ms x_X8_valueAt tx_X8_valueAt 10 (i_ifeq 17 13) := s_ifeq dX8_valueAt_10 rfl
theorem s_X8_valueAt_13 {X : ev_E} {l : Launch} (hG : ev_Good X) (hl : l.stackTraces = false) : ev_Snd X l ev_ms x_X8_valueAt tx_X8_valueAt 13 (i_psh (.int (0)) 14) := s_iconst dX8_valueAt_13 rfl
theorem s_X8_valueAt_14 {X : ev_E} {l : Launch} (hG : ev_Good X) (hl : l.stackTraces = false) : ev_Snd X l ev_ms x_X8_valueAt tx_X8_valueAt 14 (i_goto 24) := s_goto dX8_valueAt_14 rfl
theorem s_X8_valueAt_17 {X : ev_E} {l : Launch} (hG : ev_Good X) (hl : l.stackTraces = false) : ev_Snd X l ev_ms x_X8_valueAt tx_X8_valueAt 17 (i_al 0 18) := s_aload_n dX8_valueAt_17 rfl
theorem s_X8_valueAt_18 {X : ev_E} {l : Launch} (hG : ev_Good X) (hl : l.stackTraces = false) : ev_Snd X l ev_ms x_X8_valueAt tx_X8_valueAt 18 (i_il 1 19) := s_iload_n dX8_valueAt_18 rfl
theorem s_X8_valueAt_19 {X : ev_E} {l : Launch} (hG : ev_Good X) (hl : l.stackTraces = false) : ev_Snd X l ev_ms x_X8_valueAt tx_X8_valueAt 19 (i_il 2 20) := s_iload_n dX8_valueAt_19 rfl
theorem s_X8_valueAt_20 {X : ev_E} {l : Launch} (hG : ev_Good X) (hl : l.stackTraces = false) : ev_Snd X l ev_ms x_X8_valueAt tx_X8_valueAt 20 (i_psh (.int (1)) 21) := s_iconst dX8_valueAt_20 rfl
theorem s_X8_valueAt_21 {X : ev_E} {l : Launch} (hG : ev_Good X) (hl : l.stackTraces = false) : ev_Snd X l ev_ms x_X8_valueAt tx_X8_valueAt 21 (i_cV X 215 3 13 5 24) := s_invokevirtual hG (mi := 215) (n := 3) (ci := 13) (r := (RX8, TX8, 5)) rfl (cal_X8_told (Nat.le_of_ble_eq_true rfl)) w_1492 w_1494 w_30 dX8_valueAt_21
theorem s_X8_valueAt_24 {X : ev_E} {l : Launch} (hG : ev_Good X) (hl : l.stackTraces = false) : ev_Snd X l ev_ms x_X8_valueAt tx_X8_valueAt 24 (i_ir (.int)) := s_ireturn rfl dX8_valueAt_24
theorem sa_X8_valueAt {X : ev_E} {l : Launch} (hG : ev_Good X) (hl : l.stackTraces = false) : ∀ q ∈ tb_X8_valueAt X, ev_Snd X l ev_ms x_X8_valueAt tx_X8_valueAt q.1 q.2 := by
  intro q hq
  unfold tb_X8_valueAt at hq
  simp only [List.mem_cons, List.not_mem_nil, or_false] at hq
  rcases hq with rfl | rfl | rfl | rfl | rfl | rfl | rfl | rfl | rfl | rfl | rfl | rfl | rfl | rfl | rfl
  · exact s_X8_valueAt_0 hG hl
  · exact s_X8_valueAt_1 hG hl
  · exact s_X8_valueAt_2 hG hl
  · exact s_X8_valueAt_5 hG hl
  · exact s_X8_valueAt_6 hG hl
  · exact s_X8_valueAt_7 hG hl
  · exact s_X8_valueAt_10 hG hl
  · exact s_X8_valueAt_13 hG hl
  · exact s_X8_valueAt_14 hG hl
  · exact s_X8_valueAt_17 hG hl
  · exact s_X8_valueAt_18 hG hl
  · exact s_X8_valueAt_19 hG hl
  · exact s_X8_valueAt_20 hG hl
  · exact s_X8_valueAt_21 hG hl
  · exact s_X8_valueAt_24 hG hl
def tx_X8_best : ev_X := fun _ _ => some none
noncomputable def tb_X8_best (X : ev_E) : List (Nat × (ev_S → ev_N)) := [(0, i_al 0 1), (1, i_il 1 2), (2, i_cS 119 1 1 5), (5, i_psh (.int (0)) 6), (6, i_psh (.int (0)) 7), (7, i_cV X 63 3 13 4 10), (10, i_ifeq 17 13), (13, i_psh (.int (0)) 14), (14, i_goto 22), (17, i_al 0 18), (18, i_il 1 19), (19, i_cV X 232 1 13 8 22), (22, i_ir (.int))]
theorem s_X8_best_0 {X : ev_E} {l : Launch} (hG : ev_Good X) (hl : l.stackTraces = false) : ev_Snd X l ev_ms x_X8_best tx_X8_best 0 (i_al 0 1) := s_aload_n dX8_best_0 rfl
theorem s_X8_best_1 {X : ev_E} {l : Launch} (hG : ev_Good X) (hl : l.stackTraces = false) : ev_Snd X l ev_ms x_X8_best tx_X8_best 1 (i_il 1 2) := s_iload_n dX8_best_1 rfl
theorem s_X8_best_2 {X : ev_E} {l : Launch} (hG : ev_Good X) (hl : l.stackTraces = false) : ev_Snd X l ev_ms x_X8_best tx_X8_best 2 (i_cS 119 1 1 5) := s_invokestatic hG (mi := 119) (n := 1) (cal_X8_isNoSize (Nat.le_of_ble_eq_true rfl)) w_1670 w_1671 dX8_best_2
theorem s_X8_best_5 {X : ev_E} {l : Launch} (hG : ev_Good X) (hl : l.stackTraces = false) : ev_Snd X l ev_ms x_X8_best tx_X8_best 5 (i_psh (.int (0)) 6) := s_iconst dX8_best_5 rfl
theorem s_X8_best_6 {X : ev_E} {l : Launch} (hG : ev_Good X) (hl : l.stackTraces = false) : ev_Snd X l ev_ms x_X8_best tx_X8_best 6 (i_psh (.int (0)) 7) := s_iconst dX8_best_6 rfl
theorem s_X8_best_7 {X : ev_E} {l : Launch} (hG : ev_Good X) (hl : l.stackTraces = false) : ev_Snd X l ev_ms x_X8_best tx_X8_best 7 (i_cV X 63 3 13 4 10) := s_invokevirtual hG (mi := 63) (n := 3) (ci := 13) (r := (RX8, TX8, 5)) rfl (cal_X8_fails (Nat.le_of_ble_eq_true rfl)) w_1290 w_1292 w_22 dX8_best_7
theorem s_X8_best_10 {X : ev_E} {l : Launch} (hG : ev_Good X) (hl : l.stackTraces = false) : ev_Snd X l ev_ms x_X8_best tx_X8_best 10 (i_ifeq 17 13) := s_ifeq dX8_best_10 rfl
theorem s_X8_best_13 {X : ev_E} {l : Launch} (hG : ev_Good X) (hl : l.stackTraces = false) : ev_Snd X l ev_ms x_X8_best tx_X8_best 13 (i_psh (.int (0)) 14) := s_iconst dX8_best_13 rfl
theorem s_X8_best_14 {X : ev_E} {l : Launch} (hG : ev_Good X) (hl : l.stackTraces = false) : ev_Snd X l ev_ms x_X8_best tx_X8_best 14 (i_goto 22) := s_goto dX8_best_14 rfl
theorem s_X8_best_17 {X : ev_E} {l : Launch} (hG : ev_Good X) (hl : l.stackTraces = false) : ev_Snd X l ev_ms x_X8_best tx_X8_best 17 (i_al 0 18) := s_aload_n dX8_best_17 rfl
theorem s_X8_best_18 {X : ev_E} {l : Launch} (hG : ev_Good X) (hl : l.stackTraces = false) : ev_Snd X l ev_ms x_X8_best tx_X8_best 18 (i_il 1 19) := s_iload_n dX8_best_18 rfl
theorem s_X8_best_19 {X : ev_E} {l : Launch} (hG : ev_Good X) (hl : l.stackTraces = false) : ev_Snd X l ev_ms x_X8_best tx_X8_best 19 (i_cV X 232 1 13 8 22) := s_invokevirtual hG (mi := 232) (n := 1) (ci := 13) (r := (RX8, TX8, 5)) rfl (cal_X8_bestNow (Nat.le_of_ble_eq_true rfl)) w_1721 w_1723 w_45 dX8_best_19
theorem s_X8_best_22 {X : ev_E} {l : Launch} (hG : ev_Good X) (hl : l.stackTraces = false) : ev_Snd X l ev_ms x_X8_best tx_X8_best 22 (i_ir (.int)) := s_ireturn rfl dX8_best_22
theorem sa_X8_best {X : ev_E} {l : Launch} (hG : ev_Good X) (hl : l.stackTraces = false) : ∀ q ∈ tb_X8_best X, ev_Snd X l ev_ms x_X8_best tx_X8_best q.1 q.2 := by
  intro q hq
  unfold tb_X8_best at hq
  simp only [List.mem_cons, List.not_mem_nil, or_false] at hq
  rcases hq with rfl | rfl | rfl | rfl | rfl | rfl | rfl | rfl | rfl | rfl | rfl | rfl | rfl
  · exact s_X8_best_0 hG hl
  · exact s_X8_best_1 hG hl
  · exact s_X8_best_2 hG hl
  · exact s_X8_best_5 hG hl
  · exact s_X8_best_6 hG hl
  · exact s_X8_best_7 hG hl
  · exact s_X8_best_10 hG hl
  · exact s_X8_best_13 hG hl
  · exact s_X8_best_14 hG hl
  · exact s_X8_best_17 hG hl
  · exact s_X8_best_18 hG hl
  · exact s_X8_best_19 hG hl
  · exact s_X8_best_22 hG hl
def tx_X8_depthOf : ev_X := fun _ _ => some none
noncomputable def tb_X8_depthOf (X : ev_E) : List (Nat × (ev_S → ev_N)) := [(0, i_al 0 1), (1, i_il 1 2), (2, i_il 2 3), (3, i_cV X 211 2 13 4 6), (6, i_is 3 7), (7, i_il 3 8), (8, i_psh (.int (-1)) 9), (9, i_icne 16 12), (12, i_psh (.int (0)) 13), (13, i_goto 26), (16, i_psh (.int (1)) 17), (17, i_al 0 18), (18, i_il 3 19), (19, i_psh (.int (1)) 20), (20, i_ii (fun a b => a + b) 21), (21, i_il 2 22), (22, i_cV X 243 2 13 5 25), (25, i_ii (fun a b => a + b) 26), (26, i_ir (.int))]
theorem s_X8_depthOf_0 {X : ev_E} {l : Launch} (hG : ev_Good X) (hl : l.stackTraces = false) : ev_Snd X l ev_ms x_X8_depthOf tx_X8_depthOf 0 (i_al 0 1) := s_aload_n dX8_depthOf_0 rfl
theorem s_X8_depthOf_1 {X : ev_E} {l : Launch} (hG : ev_Good X) (hl : l.stackTraces = false) : ev_Snd X l ev_ms x_X8_depthOf tx_X8_depthOf 1 (i_il 1 2) := s_iload_n dX8_depthOf_1 rfl
theorem s_X8_depthOf_2 {X : ev_E} {l : Launch} (hG : ev_Good X) (hl : l.stackTraces = false) : ev_Snd X l ev_ms x_X8_depthOf tx_X8_depthOf 2 (i_il 2 3) := s_iload_n dX8_depthOf_2 rfl
theorem s_X8_depthOf_3 {X : ev_E} {l : Launch} (hG : ev_Good X) (hl : l.stackTraces = false) : ev_Snd X l ev_ms x_X8_depthOf tx_X8_depthOf 3 (i_cV X 211 2 13 4 6) := s_invokevirtual hG (mi := 211) (n := 2) (ci := 13) (r := (RX8, TX8, 5)) rfl (cal_X8_before (Nat.le_of_ble_eq_true rfl)) w_1591 w_1593 w_35 dX8_depthOf_3
theorem s_X8_depthOf_6 {X : ev_E} {l : Launch} (hG : ev_Good X) (hl : l.stackTraces = false) : ev_Snd X l ev_ms x_X8_depthOf tx_X8_depthOf 6 (i_is 3 7) := s_istore_n dX8_depthOf_6 rfl (Nat.le_of_ble_eq_true rfl)
theorem s_X8_depthOf_7 {X : ev_E} {l : Launch} (hG : ev_Good X) (hl : l.stackTraces = false) : ev_Snd X l ev_ms x_X8_depthOf tx_X8_depthOf 7 (i_il 3 8) := s_iload_n dX8_depthOf_7 rfl
theorem s_X8_depthOf_8 {X : ev_E} {l : Launch} (hG : ev_Good X) (hl : l.stackTraces = false) : ev_Snd X l ev_ms x_X8_depthOf tx_X8_depthOf 8 (i_psh (.int (-1)) 9) := s_iconst dX8_depthOf_8 rfl
theorem s_X8_depthOf_9 {X : ev_E} {l : Launch} (hG : ev_Good X) (hl : l.stackTraces = false) : ev_Snd X l ev_ms x_X8_depthOf tx_X8_depthOf 9 (i_icne 16 12) := s_icne dX8_depthOf_9 rfl
theorem s_X8_depthOf_12 {X : ev_E} {l : Launch} (hG : ev_Good X) (hl : l.stackTraces = false) : ev_Snd X l ev_ms x_X8_depthOf tx_X8_depthOf 12 (i_psh (.int (0)) 13) := s_iconst dX8_depthOf_12 rfl
theorem s_X8_depthOf_13 {X : ev_E} {l : Launch} (hG : ev_Good X) (hl : l.stackTraces = false) : ev_Snd X l ev_ms x_X8_depthOf tx_X8_depthOf 13 (i_goto 26) := s_goto dX8_depthOf_13 rfl
theorem s_X8_depthOf_16 {X : ev_E} {l : Launch} (hG : ev_Good X) (hl : l.stackTraces = false) : ev_Snd X l ev_ms x_X8_depthOf tx_X8_depthOf 16 (i_psh (.int (1)) 17) := s_iconst dX8_depthOf_16 rfl
theorem s_X8_depthOf_17 {X : ev_E} {l : Launch} (hG : ev_Good X) (hl : l.stackTraces = false) : ev_Snd X l ev_ms x_X8_depthOf tx_X8_depthOf 17 (i_al 0 18) := s_aload_n dX8_depthOf_17 rfl
theorem s_X8_depthOf_18 {X : ev_E} {l : Launch} (hG : ev_Good X) (hl : l.stackTraces = false) : ev_Snd X l ev_ms x_X8_depthOf tx_X8_depthOf 18 (i_il 3 19) := s_iload_n dX8_depthOf_18 rfl
theorem s_X8_depthOf_19 {X : ev_E} {l : Launch} (hG : ev_Good X) (hl : l.stackTraces = false) : ev_Snd X l ev_ms x_X8_depthOf tx_X8_depthOf 19 (i_psh (.int (1)) 20) := s_iconst dX8_depthOf_19 rfl
theorem s_X8_depthOf_20 {X : ev_E} {l : Launch} (hG : ev_Good X) (hl : l.stackTraces = false) : ev_Snd X l ev_ms x_X8_depthOf tx_X8_depthOf 20 (i_ii (fun a b => a + b) 21) := s_iadd dX8_depthOf_20
theorem s_X8_depthOf_21 {X : ev_E} {l : Launch} (hG : ev_Good X) (hl : l.stackTraces = false) : ev_Snd X l ev_ms x_X8_depthOf tx_X8_depthOf 21 (i_il 2 22) := s_iload_n dX8_depthOf_21 rfl
theorem s_X8_depthOf_22 {X : ev_E} {l : Launch} (hG : ev_Good X) (hl : l.stackTraces = false) : ev_Snd X l ev_ms x_X8_depthOf tx_X8_depthOf 22 (i_cV X 243 2 13 5 25) := s_invokevirtual hG (mi := 243) (n := 2) (ci := 13) (r := (RX8, TX8, 5)) rfl (cal_X8_unlike (Nat.le_of_ble_eq_true rfl)) w_1600 w_1602 w_36 dX8_depthOf_22
theorem s_X8_depthOf_25 {X : ev_E} {l : Launch} (hG : ev_Good X) (hl : l.stackTraces = false) : ev_Snd X l ev_ms x_X8_depthOf tx_X8_depthOf 25 (i_ii (fun a b => a + b) 26) := s_iadd dX8_depthOf_25
theorem s_X8_depthOf_26 {X : ev_E} {l : Launch} (hG : ev_Good X) (hl : l.stackTraces = false) : ev_Snd X l ev_ms x_X8_depthOf tx_X8_depthOf 26 (i_ir (.int)) := s_ireturn rfl dX8_depthOf_26
theorem sa_X8_depthOf {X : ev_E} {l : Launch} (hG : ev_Good X) (hl : l.stackTraces = false) : ∀ q ∈ tb_X8_depthOf X, ev_Snd X l ev_ms x_X8_depthOf tx_X8_depthOf q.1 q.2 := by
  intro q hq
  unfold tb_X8_depthOf at hq
  simp only [List.mem_cons, List.not_mem_nil, or_false] at hq
  rcases hq with rfl | rfl | rfl | rfl | rfl | rfl | rfl | rfl | rfl | rfl | rfl | rfl | rfl | rfl | rfl | rfl | rfl | rfl | rfl
  · exact s_X8_depthOf_0 hG hl
  · exact s_X8_depthOf_1 hG hl
  · exact s_X8_depthOf_2 hG hl
  · exact s_X8_depthOf_3 hG hl
  · exact s_X8_depthOf_6 hG hl
  · exact s_X8_depthOf_7 hG hl
  · exact s_X8_depthOf_8 hG hl
  · exact s_X8_depthOf_9 hG hl
  · exact s_X8_depthOf_12 hG hl
  · exact s_X8_depthOf_13 hG hl
  · exact s_X8_depthOf_16 hG hl
  · exact s_X8_depthOf_17 hG hl
  · exact s_X8_depthOf_18 hG hl
  · exact s_X8_depthOf_19 hG hl
  · exact s_X8_depthOf_20 hG hl
  · exact s_X8_depthOf_21 hG hl
  · exact s_X8_depthOf_22 hG hl
  · exact s_X8_depthOf_25 hG hl
  · exact s_X8_depthOf_26 hG hl
def tx_X8_houseNow : ev_X := fun _ _ => some none
noncomputable def tb_X8_houseNow_c0 (X : ev_E) : List (Nat × (ev_S → ev_N)) := [(0, i_psh (.int (0)) 1), (1, i_is 2 2), (2, i_al 0 3), (3, i_gf X 13 3 6), (6, i_as 3 7), (7, i_al 3 8), (8, i_len X 9), (9, i_is 4 11), (11, i_psh (.int (0)) 12), (12, i_is 5 14), (14, i_il 5 16), (16, i_il 4 18), (18, i_icge 44 21), (21, i_al 3 22), (22, i_il 5 24), (24, i_ald X FieldType.isReference 25), (25, i_as 6 27), (27, i_il 2 28), (28, i_al 6 30), (30, i_gf X 12 0 33), (33, i_cV X 24 0 4 1 36), (36, i_ii (fun a b => a + b) 37), (37, i_is 2 38), (38, i_inc 5 (1) 41), (41, i_goto 14), (44, i_psh (.int (5)) 45), (45, i_na 0 (.int 0) 47), (47, i_dup 48), (48, i_psh (.int (0)) 49), (49, i_il 2 50), (50, i_ast ev_tI (fun v => v) 51), (51, i_dup 52), (52, i_psh (.int (1)) 53), (53, i_al 0 54), (54, i_gf X 13 4 57), (57, i_cV X 24 0 4 1 60), (60, i_ast ev_tI (fun v => v) 61), (61, i_dup 62), (62, i_psh (.int (2)) 63), (63, i_al 0 64), (64, i_psh (.int (0)) 65), (65, i_al 0 66), (66, i_gf X 13 4 69), (69, i_cV X 24 0 4 1 72), (72, i_cV X 243 2 13 5 75), (75, i_ast ev_tI (fun v => v) 76), (76, i_dup 77), (77, i_psh (.int (3)) 78), (78, i_al 0 79), (79, i_gf X 13 1 82), (82, i_ast ev_tI (fun v => v) 83), (83, i_dup 84), (84, i_psh (.int (4)) 85), (85, i_al 0 86), (86, i_gf X 13 2 89), (89, i_ast ev_tI (fun v => v) 90), (90, i_as 3 91), (91, i_al 3 92), (92, i_il 1 93), (93, i_ald X ev_tI 94)]
noncomputable def tb_X8_houseNow_c1 (X : ev_E) : List (Nat × (ev_S → ev_N)) := [(94, i_ir (.int))]
noncomputable def tb_X8_houseNow (X : ev_E) : List (Nat × (ev_S → ev_N)) := tb_X8_houseNow_c0 X ++ (tb_X8_houseNow_c1 X)
theorem s_X8_houseNow_0 {X : ev_E} {l : Launch} (hG : ev_Good X) (hl : l.stackTraces = false) : ev_Snd X l ev_ms x_X8_houseNow tx_X8_houseNow 0 (i_psh (.int (0)) 1) := s_iconst dX8_houseNow_0 rfl
theorem s_X8_houseNow_1 {X : ev_E} {l : Launch} (hG : ev_Good X) (hl : l.stackTraces = false) : ev_Snd X l ev_ms x_X8_houseNow tx_X8_houseNow 1 (i_is 2 2) := s_istore_n dX8_houseNow_1 rfl (Nat.le_of_ble_eq_true rfl)
theorem s_X8_houseNow_2 {X : ev_E} {l : Launch} (hG : ev_Good X) (hl : l.stackTraces = false) : ev_Snd X l ev_ms x_X8_houseNow tx_X8_houseNow 2 (i_al 0 3) := s_aload_n dX8_houseNow_2 rfl
theorem s_X8_houseNow_3 {X : ev_E} {l : Launch} (hG : ev_Good X) (hl : l.stackTraces = false) : ev_Snd X l ev_ms x_X8_houseNow tx_X8_houseNow 3 (i_gf X 13 3 6) := s_getfield hG (ci := 13) (r := (RX8, TX8, 5)) rfl cw_13 (k := 3) (Nat.le_of_ble_eq_true rfl) w_1263 rfl (Or.inl rfl) dX8_houseNow_3
theorem s_X8_houseNow_6 {X : ev_E} {l : Launch} (hG : ev_Good X) (hl : l.stackTraces = false) : ev_Snd X l ev_ms x_X8_houseNow tx_X8_houseNow 6 (i_as 3 7) := s_astore_n dX8_houseNow_6 rfl (Nat.le_of_ble_eq_true rfl)
theorem s_X8_houseNow_7 {X : ev_E} {l : Launch} (hG : ev_Good X) (hl : l.stackTraces = false) : ev_Snd X l ev_ms x_X8_houseNow tx_X8_houseNow 7 (i_al 3 8) := s_aload_n dX8_houseNow_7 rfl
theorem s_X8_houseNow_8 {X : ev_E} {l : Launch} (hG : ev_Good X) (hl : l.stackTraces = false) : ev_Snd X l ev_ms x_X8_houseNow tx_X8_houseNow 8 (i_len X 9) := s_arraylength hG dX8_houseNow_8
theorem s_X8_houseNow_9 {X : ev_E} {l : Launch} (hG : ev_Good X) (hl : l.stackTraces = false) : ev_Snd X l ev_ms x_X8_houseNow tx_X8_houseNow 9 (i_is 4 11) := s_istore dX8_houseNow_9 (Nat.le_of_ble_eq_true rfl)
theorem s_X8_houseNow_11 {X : ev_E} {l : Launch} (hG : ev_Good X) (hl : l.stackTraces = false) : ev_Snd X l ev_ms x_X8_houseNow tx_X8_houseNow 11 (i_psh (.int (0)) 12) := s_iconst dX8_houseNow_11 rfl
theorem s_X8_houseNow_12 {X : ev_E} {l : Launch} (hG : ev_Good X) (hl : l.stackTraces = false) : ev_Snd X l ev_ms x_X8_houseNow tx_X8_houseNow 12 (i_is 5 14) := s_istore dX8_houseNow_12 (Nat.le_of_ble_eq_true rfl)
theorem s_X8_houseNow_14 {X : ev_E} {l : Launch} (hG : ev_Good X) (hl : l.stackTraces = false) : ev_Snd X l ev_ms x_X8_houseNow tx_X8_houseNow 14 (i_il 5 16) := s_iload dX8_houseNow_14
theorem s_X8_houseNow_16 {X : ev_E} {l : Launch} (hG : ev_Good X) (hl : l.stackTraces = false) : ev_Snd X l ev_ms x_X8_houseNow tx_X8_houseNow 16 (i_il 4 18) := s_iload dX8_houseNow_16
theorem s_X8_houseNow_18 {X : ev_E} {l : Launch} (hG : ev_Good X) (hl : l.stackTraces = false) : ev_Snd X l ev_ms x_X8_houseNow tx_X8_houseNow 18 (i_icge 44 21) := s_icge dX8_houseNow_18 rfl
theorem s_X8_houseNow_21 {X : ev_E} {l : Launch} (hG : ev_Good X) (hl : l.stackTraces = false) : ev_Snd X l ev_ms x_X8_houseNow tx_X8_houseNow 21 (i_al 3 22) := s_aload_n dX8_houseNow_21 rfl
theorem s_X8_houseNow_22 {X : ev_E} {l : Launch} (hG : ev_Good X) (hl : l.stackTraces = false) : ev_Snd X l ev_ms x_X8_houseNow tx_X8_houseNow 22 (i_il 5 24) := s_iload dX8_houseNow_22
theorem s_X8_houseNow_24 {X : ev_E} {l : Launch} (hG : ev_Good X) (hl : l.stackTraces = false) : ev_Snd X l ev_ms x_X8_houseNow tx_X8_houseNow 24 (i_ald X FieldType.isReference 25) := s_aaload hG dX8_houseNow_24
theorem s_X8_houseNow_25 {X : ev_E} {l : Launch} (hG : ev_Good X) (hl : l.stackTraces = false) : ev_Snd X l ev_ms x_X8_houseNow tx_X8_houseNow 25 (i_as 6 27) := s_astore dX8_houseNow_25 (Nat.le_of_ble_eq_true rfl)
theorem s_X8_houseNow_27 {X : ev_E} {l : Launch} (hG : ev_Good X) (hl : l.stackTraces = false) : ev_Snd X l ev_ms x_X8_houseNow tx_X8_houseNow 27 (i_il 2 28) := s_iload_n dX8_houseNow_27 rfl
theorem s_X8_houseNow_28 {X : ev_E} {l : Launch} (hG : ev_Good X) (hl : l.stackTraces = false) : ev_Snd X l ev_ms x_X8_houseNow tx_X8_houseNow 28 (i_al 6 30) := s_aload dX8_houseNow_28
theorem s_X8_houseNow_30 {X : ev_E} {l : Launch} (hG : ev_Good X) (hl : l.stackTraces = false) : ev_Snd X l ev_ms x_X8_houseNow tx_X8_houseNow 30 (i_gf X 12 0 33) := s_getfield hG (ci := 12) (r := (RX7, TX7, 9)) rfl cw_12 (k := 0) (Nat.le_of_ble_eq_true rfl) w_1222 rfl (Or.inl rfl) dX8_houseNow_30
theorem s_X8_houseNow_33 {X : ev_E} {l : Launch} (hG : ev_Good X) (hl : l.stackTraces = false) : ev_Snd X l ev_ms x_X8_houseNow tx_X8_houseNow 33 (i_cV X 24 0 4 1 36) := s_invokevirtual hG (mi := 24) (n := 0) (ci := 4) (r := (RJx4a65c, TJx4a65c, 3)) rfl (cal_Jx4a65c_size_8abf5 (Nat.le_of_ble_eq_true rfl)) w_1294 w_1295 w_1296 dX8_houseNow_33
theorem s_X8_houseNow_36 {X : ev_E} {l : Launch} (hG : ev_Good X) (hl : l.stackTraces = false) : ev_Snd X l ev_ms x_X8_houseNow tx_X8_houseNow 36 (i_ii (fun a b => a + b) 37) := s_iadd dX8_houseNow_36
theorem s_X8_houseNow_37 {X : ev_E} {l : Launch} (hG : ev_Good X) (hl : l.stackTraces = false) : ev_Snd X l ev_ms x_X8_houseNow tx_X8_houseNow 37 (i_is 2 38) := s_istore_n dX8_houseNow_37 rfl (Nat.le_of_ble_eq_true rfl)
theorem s_X8_houseNow_38 {X : ev_E} {l : Launch} (hG : ev_Good X) (hl : l.stackTraces = false) : ev_Snd X l ev_ms x_X8_houseNow tx_X8_houseNow 38 (i_inc 5 (1) 41) := s_iinc dX8_houseNow_38 rfl (Nat.le_of_ble_eq_true rfl)
theorem s_X8_houseNow_41 {X : ev_E} {l : Launch} (hG : ev_Good X) (hl : l.stackTraces = false) : ev_Snd X l ev_ms x_X8_houseNow tx_X8_houseNow 41 (i_goto 14) := s_goto dX8_houseNow_41 rfl
theorem s_X8_houseNow_44 {X : ev_E} {l : Launch} (hG : ev_Good X) (hl : l.stackTraces = false) : ev_Snd X l ev_ms x_X8_houseNow tx_X8_houseNow 44 (i_psh (.int (5)) 45) := s_iconst dX8_houseNow_44 rfl
theorem s_X8_houseNow_45 {X : ev_E} {l : Launch} (hG : ev_Good X) (hl : l.stackTraces = false) : ev_Snd X l ev_ms x_X8_houseNow tx_X8_houseNow 45 (i_na 0 (.int 0) 47) := s_newarray hG (kd := 0) (at' := .int) (Nat.le_of_ble_eq_true rfl) rfl (by decide) rfl dX8_houseNow_45 w_120
theorem s_X8_houseNow_47 {X : ev_E} {l : Launch} (hG : ev_Good X) (hl : l.stackTraces = false) : ev_Snd X l ev_ms x_X8_houseNow tx_X8_houseNow 47 (i_dup 48) := s_dup dX8_houseNow_47
theorem s_X8_houseNow_48 {X : ev_E} {l : Launch} (hG : ev_Good X) (hl : l.stackTraces = false) : ev_Snd X l ev_ms x_X8_houseNow tx_X8_houseNow 48 (i_psh (.int (0)) 49) := s_iconst dX8_houseNow_48 rfl
theorem s_X8_houseNow_49 {X : ev_E} {l : Launch} (hG : ev_Good X) (hl : l.stackTraces = false) : ev_Snd X l ev_ms x_X8_houseNow tx_X8_houseNow 49 (i_il 2 50) := s_iload_n dX8_houseNow_49 rfl
theorem s_X8_houseNow_50 {X : ev_E} {l : Launch} (hG : ev_Good X) (hl : l.stackTraces = false) : ev_Snd X l ev_ms x_X8_houseNow tx_X8_houseNow 50 (i_ast ev_tI (fun v => v) 51) := s_iastore hG dX8_houseNow_50
theorem s_X8_houseNow_51 {X : ev_E} {l : Launch} (hG : ev_Good X) (hl : l.stackTraces = false) : ev_Snd X l ev_ms x_X8_houseNow tx_X8_houseNow 51 (i_dup 52) := s_dup dX8_houseNow_51
theorem s_X8_houseNow_52 {X : ev_E} {l : Launch} (hG : ev_Good X) (hl : l.stackTraces = false) : ev_Snd X l ev_ms x_X8_houseNow tx_X8_houseNow 52 (i_psh (.int (1)) 53) := s_iconst dX8_houseNow_52 rfl
theorem s_X8_houseNow_53 {X : ev_E} {l : Launch} (hG : ev_Good X) (hl : l.stackTraces = false) : ev_Snd X l ev_ms x_X8_houseNow tx_X8_houseNow 53 (i_al 0 54) := s_aload_n dX8_houseNow_53 rfl
theorem s_X8_houseNow_54 {X : ev_E} {l : Launch} (hG : ev_Good X) (hl : l.stackTraces = false) : ev_Snd X l ev_ms x_X8_houseNow tx_X8_houseNow 54 (i_gf X 13 4 57) := s_getfield hG (ci := 13) (r := (RX8, TX8, 5)) rfl cw_13 (k := 4) (Nat.le_of_ble_eq_true rfl) w_1264 rfl (Or.inl rfl) dX8_houseNow_54
theorem s_X8_houseNow_57 {X : ev_E} {l : Launch} (hG : ev_Good X) (hl : l.stackTraces = false) : ev_Snd X l ev_ms x_X8_houseNow tx_X8_houseNow 57 (i_cV X 24 0 4 1 60) := s_invokevirtual hG (mi := 24) (n := 0) (ci := 4) (r := (RJx4a65c, TJx4a65c, 3)) rfl (cal_Jx4a65c_size_8abf5 (Nat.le_of_ble_eq_true rfl)) w_1294 w_1295 w_1296 dX8_houseNow_57
theorem s_X8_houseNow_60 {X : ev_E} {l : Launch} (hG : ev_Good X) (hl : l.stackTraces = false) : ev_Snd X l ev_ms x_X8_houseNow tx_X8_houseNow 60 (i_ast ev_tI (fun v => v) 61) := s_iastore hG dX8_houseNow_60
theorem s_X8_houseNow_61 {X : ev_E} {l : Launch} (hG : ev_Good X) (hl : l.stackTraces = false) : ev_Snd X l ev_ms x_X8_houseNow tx_X8_houseNow 61 (i_dup 62) := s_dup dX8_houseNow_61
theorem s_X8_houseNow_62 {X : ev_E} {l : Launch} (hG : ev_Good X) (hl : l.stackTraces = false) : ev_Snd X l ev_ms x_X8_houseNow tx_X8_houseNow 62 (i_psh (.int (2)) 63) := s_iconst dX8_houseNow_62 rfl
theorem s_X8_houseNow_63 {X : ev_E} {l : Launch} (hG : ev_Good X) (hl : l.stackTraces = false) : ev_Snd X l ev_ms x_X8_houseNow tx_X8_houseNow 63 (i_al 0 64) := s_aload_n dX8_houseNow_63 rfl
theorem s_X8_houseNow_64 {X : ev_E} {l : Launch} (hG : ev_Good X) (hl : l.stackTraces = false) : ev_Snd X l ev_ms x_X8_houseNow tx_X8_houseNow 64 (i_psh (.int (0)) 65) := s_iconst dX8_houseNow_64 rfl
theorem s_X8_houseNow_65 {X : ev_E} {l : Launch} (hG : ev_Good X) (hl : l.stackTraces = false) : ev_Snd X l ev_ms x_X8_houseNow tx_X8_houseNow 65 (i_al 0 66) := s_aload_n dX8_houseNow_65 rfl
theorem s_X8_houseNow_66 {X : ev_E} {l : Launch} (hG : ev_Good X) (hl : l.stackTraces = false) : ev_Snd X l ev_ms x_X8_houseNow tx_X8_houseNow 66 (i_gf X 13 4 69) := s_getfield hG (ci := 13) (r := (RX8, TX8, 5)) rfl cw_13 (k := 4) (Nat.le_of_ble_eq_true rfl) w_1264 rfl (Or.inl rfl) dX8_houseNow_66
theorem s_X8_houseNow_69 {X : ev_E} {l : Launch} (hG : ev_Good X) (hl : l.stackTraces = false) : ev_Snd X l ev_ms x_X8_houseNow tx_X8_houseNow 69 (i_cV X 24 0 4 1 72) := s_invokevirtual hG (mi := 24) (n := 0) (ci := 4) (r := (RJx4a65c, TJx4a65c, 3)) rfl (cal_Jx4a65c_size_8abf5 (Nat.le_of_ble_eq_true rfl)) w_1294 w_1295 w_1296 dX8_houseNow_69
theorem s_X8_houseNow_72 {X : ev_E} {l : Launch} (hG : ev_Good X) (hl : l.stackTraces = false) : ev_Snd X l ev_ms x_X8_houseNow tx_X8_houseNow 72 (i_cV X 243 2 13 5 75) := s_invokevirtual hG (mi := 243) (n := 2) (ci := 13) (r := (RX8, TX8, 5)) rfl (cal_X8_unlike (Nat.le_of_ble_eq_true rfl)) w_1600 w_1602 w_36 dX8_houseNow_72
theorem s_X8_houseNow_75 {X : ev_E} {l : Launch} (hG : ev_Good X) (hl : l.stackTraces = false) : ev_Snd X l ev_ms x_X8_houseNow tx_X8_houseNow 75 (i_ast ev_tI (fun v => v) 76) := s_iastore hG dX8_houseNow_75
theorem s_X8_houseNow_76 {X : ev_E} {l : Launch} (hG : ev_Good X) (hl : l.stackTraces = false) : ev_Snd X l ev_ms x_X8_houseNow tx_X8_houseNow 76 (i_dup 77) := s_dup dX8_houseNow_76
theorem s_X8_houseNow_77 {X : ev_E} {l : Launch} (hG : ev_Good X) (hl : l.stackTraces = false) : ev_Snd X l ev_ms x_X8_houseNow tx_X8_houseNow 77 (i_psh (.int (3)) 78) := s_iconst dX8_houseNow_77 rfl
theorem s_X8_houseNow_78 {X : ev_E} {l : Launch} (hG : ev_Good X) (hl : l.stackTraces = false) : ev_Snd X l ev_ms x_X8_houseNow tx_X8_houseNow 78 (i_al 0 79) := s_aload_n dX8_houseNow_78 rfl
theorem s_X8_houseNow_79 {X : ev_E} {l : Launch} (hG : ev_Good X) (hl : l.stackTraces = false) : ev_Snd X l ev_ms x_X8_houseNow tx_X8_houseNow 79 (i_gf X 13 1 82) := s_getfield hG (ci := 13) (r := (RX8, TX8, 5)) rfl cw_13 (k := 1) (Nat.le_of_ble_eq_true rfl) w_1261 rfl (Or.inl rfl) dX8_houseNow_79
theorem s_X8_houseNow_82 {X : ev_E} {l : Launch} (hG : ev_Good X) (hl : l.stackTraces = false) : ev_Snd X l ev_ms x_X8_houseNow tx_X8_houseNow 82 (i_ast ev_tI (fun v => v) 83) := s_iastore hG dX8_houseNow_82
theorem s_X8_houseNow_83 {X : ev_E} {l : Launch} (hG : ev_Good X) (hl : l.stackTraces = false) : ev_Snd X l ev_ms x_X8_houseNow tx_X8_houseNow 83 (i_dup 84) := s_dup dX8_houseNow_83
theorem s_X8_houseNow_84 {X : ev_E} {l : Launch} (hG : ev_Good X) (hl : l.stackTraces = false) : ev_Snd X l ev_ms x_X8_houseNow tx_X8_houseNow 84 (i_psh (.int (4)) 85) := s_iconst dX8_houseNow_84 rfl
theorem s_X8_houseNow_85 {X : ev_E} {l : Launch} (hG : ev_Good X) (hl : l.stackTraces = false) : ev_Snd X l ev_ms x_X8_houseNow tx_X8_houseNow 85 (i_al 0 86) := s_aload_n dX8_houseNow_85 rfl
theorem s_X8_houseNow_86 {X : ev_E} {l : Launch} (hG : ev_Good X) (hl : l.stackTraces = false) : ev_Snd X l ev_ms x_X8_houseNow tx_X8_houseNow 86 (i_gf X 13 2 89) := s_getfield hG (ci := 13) (r := (RX8, TX8, 5)) rfl cw_13 (k := 2) (Nat.le_of_ble_eq_true rfl) w_1262 rfl (Or.inl rfl) dX8_houseNow_86
theorem s_X8_houseNow_89 {X : ev_E} {l : Launch} (hG : ev_Good X) (hl : l.stackTraces = false) : ev_Snd X l ev_ms x_X8_houseNow tx_X8_houseNow 89 (i_ast ev_tI (fun v => v) 90) := s_iastore hG dX8_houseNow_89
theorem s_X8_houseNow_90 {X : ev_E} {l : Launch} (hG : ev_Good X) (hl : l.stackTraces = false) : ev_Snd X l ev_ms x_X8_houseNow tx_X8_houseNow 90 (i_as 3 91) := s_astore_n dX8_houseNow_90 rfl (Nat.le_of_ble_eq_true rfl)
theorem s_X8_houseNow_91 {X : ev_E} {l : Launch} (hG : ev_Good X) (hl : l.stackTraces = false) : ev_Snd X l ev_ms x_X8_houseNow tx_X8_houseNow 91 (i_al 3 92) := s_aload_n dX8_houseNow_91 rfl
theorem s_X8_houseNow_92 {X : ev_E} {l : Launch} (hG : ev_Good X) (hl : l.stackTraces = false) : ev_Snd X l ev_ms x_X8_houseNow tx_X8_houseNow 92 (i_il 1 93) := s_iload_n dX8_houseNow_92 rfl
theorem s_X8_houseNow_93 {X : ev_E} {l : Launch} (hG : ev_Good X) (hl : l.stackTraces = false) : ev_Snd X l ev_ms x_X8_houseNow tx_X8_houseNow 93 (i_ald X ev_tI 94) := s_iaload hG dX8_houseNow_93
theorem s_X8_houseNow_94 {X : ev_E} {l : Launch} (hG : ev_Good X) (hl : l.stackTraces = false) : ev_Snd X l ev_ms x_X8_houseNow tx_X8_houseNow 94 (i_ir (.int)) := s_ireturn rfl dX8_houseNow_94
theorem sa_X8_houseNow_c0 {X : ev_E} {l : Launch} (hG : ev_Good X) (hl : l.stackTraces = false) : ∀ q ∈ tb_X8_houseNow_c0 X, ev_Snd X l ev_ms x_X8_houseNow tx_X8_houseNow q.1 q.2 := by
  intro q hq
  unfold tb_X8_houseNow_c0 at hq
  simp only [List.mem_cons, List.not_mem_nil, or_false] at hq
  rcases hq with rfl | rfl | rfl | rfl | rfl | rfl | rfl | rfl | rfl | rfl | rfl | rfl | rfl | rfl | rfl | rfl | rfl | rfl | rfl | rfl | rfl | rfl | rfl | rfl | rfl | rfl | rfl | rfl | rfl | rfl | rfl | rfl | rfl | rfl | rfl | rfl | rfl | rfl | rfl | rfl | rfl | rfl | rfl | rfl | rfl | rfl | rfl | rfl | rfl | rfl | rfl | rfl | rfl | rfl | rfl | rfl | rfl | rfl | rfl | rfl
  · exact s_X8_houseNow_0 hG hl
  · exact s_X8_houseNow_1 hG hl
  · exact s_X8_houseNow_2 hG hl
  · exact s_X8_houseNow_3 hG hl
  · exact s_X8_houseNow_6 hG hl
  · exact s_X8_houseNow_7 hG hl
  · exact s_X8_houseNow_8 hG hl
  · exact s_X8_houseNow_9 hG hl
  · exact s_X8_houseNow_11 hG hl
  · exact s_X8_houseNow_12 hG hl
  · exact s_X8_houseNow_14 hG hl
  · exact s_X8_houseNow_16 hG hl
  · exact s_X8_houseNow_18 hG hl
  · exact s_X8_houseNow_21 hG hl
  · exact s_X8_houseNow_22 hG hl
  · exact s_X8_houseNow_24 hG hl
  · exact s_X8_houseNow_25 hG hl
  · exact s_X8_houseNow_27 hG hl
  · exact s_X8_houseNow_28 hG hl
  · exact s_X8_houseNow_30 hG hl
  · exact s_X8_houseNow_33 hG hl
  · exact s_X8_houseNow_36 hG hl
  · exact s_X8_houseNow_37 hG hl
  · exact s_X8_houseNow_38 hG hl
  · exact s_X8_houseNow_41 hG hl
  · exact s_X8_houseNow_44 hG hl
  · exact s_X8_houseNow_45 hG hl
  · exact s_X8_houseNow_47 hG hl
  · exact s_X8_houseNow_48 hG hl
  · exact s_X8_houseNow_49 hG hl
  · exact s_X8_houseNow_50 hG hl
  · exact s_X8_houseNow_51 hG hl
  · exact s_X8_houseNow_52 hG hl
  · exact s_X8_houseNow_53 hG hl
  · exact s_X8_houseNow_54 hG hl
  · exact s_X8_houseNow_57 hG hl
  · exact s_X8_houseNow_60 hG hl
  · exact s_X8_houseNow_61 hG hl
  · exact s_X8_houseNow_62 hG hl
  · exact s_X8_houseNow_63 hG hl
  · exact s_X8_houseNow_64 hG hl
  · exact s_X8_houseNow_65 hG hl
  · exact s_X8_houseNow_66 hG hl
  · exact s_X8_houseNow_69 hG hl
  · exact s_X8_houseNow_72 hG hl
  · exact s_X8_houseNow_75 hG hl
  · exact s_X8_houseNow_76 hG hl
  · exact s_X8_houseNow_77 hG hl
  · exact s_X8_houseNow_78 hG hl
  · exact s_X8_houseNow_79 hG hl
  · exact s_X8_houseNow_82 hG hl
  · exact s_X8_houseNow_83 hG hl
  · exact s_X8_houseNow_84 hG hl
  · exact s_X8_houseNow_85 hG hl
  · exact s_X8_houseNow_86 hG hl
  · exact s_X8_houseNow_89 hG hl
  · exact s_X8_houseNow_90 hG hl
  · exact s_X8_houseNow_91 hG hl
  · exact s_X8_houseNow_92 hG hl
  · exact s_X8_houseNow_93 hG hl
theorem sa_X8_houseNow_c1 {X : ev_E} {l : Launch} (hG : ev_Good X) (hl : l.stackTraces = false) : ∀ q ∈ tb_X8_houseNow_c1 X, ev_Snd X l ev_ms x_X8_houseNow tx_X8_houseNow q.1 q.2 := by
  intro q hq
  unfold tb_X8_houseNow_c1 at hq
  simp only [List.mem_cons, List.not_mem_nil, or_false] at hq
  rcases hq with rfl
  · exact s_X8_houseNow_94 hG hl
theorem sa_X8_houseNow {X : ev_E} {l : Launch} (hG : ev_Good X) (hl : l.stackTraces = false) : ∀ q ∈ tb_X8_houseNow X, ev_Snd X l ev_ms x_X8_houseNow tx_X8_houseNow q.1 q.2 := List.forall_mem_append.mpr ⟨sa_X8_houseNow_c0 hG hl, sa_X8_houseNow_c1 hG hl⟩
def tx_X8_depth : ev_X := fun _ _ => some none
noncomputable def tb_X8_depth (X : ev_E) : List (Nat × (ev_S → ev_N)) := [(0, i_al 0 1), (1, i_il 1 2), (2, i_psh (.int (20)) 4), (4, i_cS 65 2 2 7), (7, i_psh (.int (0)) 8), (8, i_psh (.int (0)) 9), (9, i_cV X 63 3 13 4 12), (12, i_ifeq 19 15), (15, i_psh (.int (0)) 16), (16, i_goto 31), (19, i_al 0 20), (20, i_il 1 21), (21, i_al 0 22), (22, i_gf X 13 4 25), (25, i_cV X 24 0 4 1 28), (28, i_cV X 257 2 13 4 31), (31, i_ir (.int))]
theorem s_X8_depth_0 {X : ev_E} {l : Launch} (hG : ev_Good X) (hl : l.stackTraces = false) : ev_Snd X l ev_ms x_X8_depth tx_X8_depth 0 (i_al 0 1) := s_aload_n dX8_depth_0 rfl
theorem s_X8_depth_1 {X : ev_E} {l : Launch} (hG : ev_Good X) (hl : l.stackTraces = false) : ev_Snd X l ev_ms x_X8_depth tx_X8_depth 1 (i_il 1 2) := s_iload_n dX8_depth_1 rfl
theorem s_X8_depth_2 {X : ev_E} {l : Launch} (hG : ev_Good X) (hl : l.stackTraces = false) : ev_Snd X l ev_ms x_X8_depth tx_X8_depth 2 (i_psh (.int (20)) 4) := s_bipush dX8_depth_2 rfl
theorem s_X8_depth_4 {X : ev_E} {l : Launch} (hG : ev_Good X) (hl : l.stackTraces = false) : ev_Snd X l ev_ms x_X8_depth tx_X8_depth 4 (i_cS 65 2 2 7) := s_invokestatic hG (mi := 65) (n := 2) (cal_X8_isOut (Nat.le_of_ble_eq_true rfl)) w_1287 w_1288 dX8_depth_4
theorem s_X8_depth_7 {X : ev_E} {l : Launch} (hG : ev_Good X) (hl : l.stackTraces = false) : ev_Snd X l ev_ms x_X8_depth tx_X8_depth 7 (i_psh (.int (0)) 8) := s_iconst dX8_depth_7 rfl
theorem s_X8_depth_8 {X : ev_E} {l : Launch} (hG : ev_Good X) (hl : l.stackTraces = false) : ev_Snd X l ev_ms x_X8_depth tx_X8_depth 8 (i_psh (.int (0)) 9) := s_iconst dX8_depth_8 rfl
theorem s_X8_depth_9 {X : ev_E} {l : Launch} (hG : ev_Good X) (hl : l.stackTraces = false) : ev_Snd X l ev_ms x_X8_depth tx_X8_depth 9 (i_cV X 63 3 13 4 12) := s_invokevirtual hG (mi := 63) (n := 3) (ci := 13) (r := (RX8, TX8, 5)) rfl (cal_X8_fails (Nat.le_of_ble_eq_true rfl)) w_1290 w_1292 w_22 dX8_depth_9
theorem s_X8_depth_12 {X : ev_E} {l : Launch} (hG : ev_Good X) (hl : l.stackTraces = false) : ev_Snd X l ev_ms x_X8_depth tx_X8_depth 12 (i_ifeq 19 15) := s_ifeq dX8_depth_12 rfl
theorem s_X8_depth_15 {X : ev_E} {l : Launch} (hG : ev_Good X) (hl : l.stackTraces = false) : ev_Snd X l ev_ms x_X8_depth tx_X8_depth 15 (i_psh (.int (0)) 16) := s_iconst dX8_depth_15 rfl
theorem s_X8_depth_16 {X : ev_E} {l : Launch} (hG : ev_Good X) (hl : l.stackTraces = false) : ev_Snd X l ev_ms x_X8_depth tx_X8_depth 16 (i_goto 31) := s_goto dX8_depth_16 rfl
theorem s_X8_depth_19 {X : ev_E} {l : Launch} (hG : ev_Good X) (hl : l.stackTraces = false) : ev_Snd X l ev_ms x_X8_depth tx_X8_depth 19 (i_al 0 20) := s_aload_n dX8_depth_19 rfl
theorem s_X8_depth_20 {X : ev_E} {l : Launch} (hG : ev_Good X) (hl : l.stackTraces = false) : ev_Snd X l ev_ms x_X8_depth tx_X8_depth 20 (i_il 1 21) := s_iload_n dX8_depth_20 rfl
theorem s_X8_depth_21 {X : ev_E} {l : Launch} (hG : ev_Good X) (hl : l.stackTraces = false) : ev_Snd X l ev_ms x_X8_depth tx_X8_depth 21 (i_al 0 22) := s_aload_n dX8_depth_21 rfl
theorem s_X8_depth_22 {X : ev_E} {l : Launch} (hG : ev_Good X) (hl : l.stackTraces = false) : ev_Snd X l ev_ms x_X8_depth tx_X8_depth 22 (i_gf X 13 4 25) := s_getfield hG (ci := 13) (r := (RX8, TX8, 5)) rfl cw_13 (k := 4) (Nat.le_of_ble_eq_true rfl) w_1264 rfl (Or.inl rfl) dX8_depth_22
theorem s_X8_depth_25 {X : ev_E} {l : Launch} (hG : ev_Good X) (hl : l.stackTraces = false) : ev_Snd X l ev_ms x_X8_depth tx_X8_depth 25 (i_cV X 24 0 4 1 28) := s_invokevirtual hG (mi := 24) (n := 0) (ci := 4) (r := (RJx4a65c, TJx4a65c, 3)) rfl (cal_Jx4a65c_size_8abf5 (Nat.le_of_ble_eq_true rfl)) w_1294 w_1295 w_1296 dX8_depth_25
theorem s_X8_depth_28 {X : ev_E} {l : Launch} (hG : ev_Good X) (hl : l.stackTraces = false) : ev_Snd X l ev_ms x_X8_depth tx_X8_depth 28 (i_cV X 257 2 13 4 31) := s_invokevirtual hG (mi := 257) (n := 2) (ci := 13) (r := (RX8, TX8, 5)) rfl (cal_X8_depthOf (Nat.le_of_ble_eq_true rfl)) w_1587 w_1589 w_34 dX8_depth_28
theorem s_X8_depth_31 {X : ev_E} {l : Launch} (hG : ev_Good X) (hl : l.stackTraces = false) : ev_Snd X l ev_ms x_X8_depth tx_X8_depth 31 (i_ir (.int)) := s_ireturn rfl dX8_depth_31
theorem sa_X8_depth {X : ev_E} {l : Launch} (hG : ev_Good X) (hl : l.stackTraces = false) : ∀ q ∈ tb_X8_depth X, ev_Snd X l ev_ms x_X8_depth tx_X8_depth q.1 q.2 := by
  intro q hq
  unfold tb_X8_depth at hq
  simp only [List.mem_cons, List.not_mem_nil, or_false] at hq
  rcases hq with rfl | rfl | rfl | rfl | rfl | rfl | rfl | rfl | rfl | rfl | rfl | rfl | rfl | rfl | rfl | rfl | rfl
  · exact s_X8_depth_0 hG hl
  · exact s_X8_depth_1 hG hl
  · exact s_X8_depth_2 hG hl
  · exact s_X8_depth_4 hG hl
  · exact s_X8_depth_7 hG hl
  · exact s_X8_depth_8 hG hl
  · exact s_X8_depth_9 hG hl
  · exact s_X8_depth_12 hG hl
  · exact s_X8_depth_15 hG hl
  · exact s_X8_depth_16 hG hl
  · exact s_X8_depth_19 hG hl
  · exact s_X8_depth_20 hG hl
  · exact s_X8_depth_21 hG hl
  · exact s_X8_depth_22 hG hl
  · exact s_X8_depth_25 hG hl
  · exact s_X8_depth_28 hG hl
  · exact s_X8_depth_31 hG hl
def tx_X8_depthAt : ev_X := fun _ _ => some none
noncomputable def tb_X8_depthAt (X : ev_E) : List (Nat × (ev_S → ev_N)) := [(0, i_al 0 1), (1, i_psh (.int (0)) 2), (2, i_pf 13 0 (.int) 5), (5, i_il 1 6), (6, i_al 0 7), (7, i_gf X 13 4 10), (10, i_cV X 24 0 4 1 13), (13, i_cS 65 2 2 16), (16, i_ifeq 23 19), (19, i_psh (.int (-1)) 20), (20, i_goto 42), (23, i_al 0 24), (24, i_al 0 25), (25, i_gf X 13 4 28), (28, i_il 1 29), (29, i_cV X 129 1 4 2 32), (32, i_cco X 2 35), (35, i_cV X 12 0 2 1 38), (38, i_il 1 39), (39, i_cV X 257 2 13 4 42), (42, i_ir (.int))]
theorem s_X8_depthAt_0 {X : ev_E} {l : Launch} (hG : ev_Good X) (hl : l.stackTraces = false) : ev_Snd X l ev_ms x_X8_depthAt tx_X8_depthAt 0 (i_al 0 1) := s_aload_n dX8_depthAt_0 rfl
theorem s_X8_depthAt_1 {X : ev_E} {l : Launch} (hG : ev_Good X) (hl : l.stackTraces = false) : ev_Snd X l ev_ms x_X8_depthAt tx_X8_depthAt 1 (i_psh (.int (0)) 2) := s_iconst dX8_depthAt_1 rfl
theorem s_X8_depthAt_2 {X : ev_E} {l : Launch} (hG : ev_Good X) (hl : l.stackTraces = false) : ev_Snd X l ev_ms x_X8_depthAt tx_X8_depthAt 2 (i_pf 13 0 (.int) 5) := s_putfield hG (ci := 13) (r := (RX8, TX8, 5)) rfl cw_13 ap_13 (k := 0) (Nat.le_of_ble_eq_true rfl) rfl (by decide +kernel) w_1260 rfl (Or.inl rfl) dX8_depthAt_2
theorem s_X8_depthAt_5 {X : ev_E} {l : Launch} (hG : ev_Good X) (hl : l.stackTraces = false) : ev_Snd X l ev_ms x_X8_depthAt tx_X8_depthAt 5 (i_il 1 6) := s_iload_n dX8_depthAt_5 rfl
theorem s_X8_depthAt_6 {X : ev_E} {l : Launch} (hG : ev_Good X) (hl : l.stackTraces = false) : ev_Snd X l ev_ms x_X8_depthAt tx_X8_depthAt 6 (i_al 0 7) := s_aload_n dX8_depthAt_6 rfl
theorem s_X8_depthAt_7 {X : ev_E} {l : Launch} (hG : ev_Good X) (hl : l.stackTraces = false) : ev_Snd X l ev_ms x_X8_depthAt tx_X8_depthAt 7 (i_gf X 13 4 10) := s_getfield hG (ci := 13) (r := (RX8, TX8, 5)) rfl cw_13 (k := 4) (Nat.le_of_ble_eq_true rfl) w_1264 rfl (Or.inl rfl) dX8_depthAt_7
theorem s_X8_depthAt_10 {X : ev_E} {l : Launch} (hG : ev_Good X) (hl : l.stackTraces = false) : ev_Snd X l ev_ms x_X8_depthAt tx_X8_depthAt 10 (i_cV X 24 0 4 1 13) := s_invokevirtual hG (mi := 24) (n := 0) (ci := 4) (r := (RJx4a65c, TJx4a65c, 3)) rfl (cal_Jx4a65c_size_8abf5 (Nat.le_of_ble_eq_true rfl)) w_1294 w_1295 w_1296 dX8_depthAt_10
theorem s_X8_depthAt_13 {X : ev_E} {l : Launch} (hG : ev_Good X) (hl : l.stackTraces = false) : ev_Snd X l ev_ms x_X8_depthAt tx_X8_depthAt 13 (i_cS 65 2 2 16) := s_invokestatic hG (mi := 65) (n := 2) (cal_X8_isOut (Nat.le_of_ble_eq_true rfl)) w_1287 w_1288 dX8_depthAt_13
theorem s_X8_depthAt_16 {X : ev_E} {l : Launch} (hG : ev_Good X) (hl : l.stackTraces = false) : ev_Snd X l ev_ms x_X8_depthAt tx_X8_depthAt 16 (i_ifeq 23 19) := s_ifeq dX8_depthAt_16 rfl
theorem s_X8_depthAt_19 {X : ev_E} {l : Launch} (hG : ev_Good X) (hl : l.stackTraces = false) : ev_Snd X l ev_ms x_X8_depthAt tx_X8_depthAt 19 (i_psh (.int (-1)) 20) := s_iconst dX8_depthAt_19 rfl
theorem s_X8_depthAt_20 {X : ev_E} {l : Launch} (hG : ev_Good X) (hl : l.stackTraces = false) : ev_Snd X l ev_ms x_X8_depthAt tx_X8_depthAt 20 (i_goto 42) := s_goto dX8_depthAt_20 rfl
theorem s_X8_depthAt_23 {X : ev_E} {l : Launch} (hG : ev_Good X) (hl : l.stackTraces = false) : ev_Snd X l ev_ms x_X8_depthAt tx_X8_depthAt 23 (i_al 0 24) := s_aload_n dX8_depthAt_23 rfl
theorem s_X8_depthAt_24 {X : ev_E} {l : Launch} (hG : ev_Good X) (hl : l.stackTraces = false) : ev_Snd X l ev_ms x_X8_depthAt tx_X8_depthAt 24 (i_al 0 25) := s_aload_n dX8_depthAt_24 rfl
theorem s_X8_depthAt_25 {X : ev_E} {l : Launch} (hG : ev_Good X) (hl : l.stackTraces = false) : ev_Snd X l ev_ms x_X8_depthAt tx_X8_depthAt 25 (i_gf X 13 4 28) := s_getfield hG (ci := 13) (r := (RX8, TX8, 5)) rfl cw_13 (k := 4) (Nat.le_of_ble_eq_true rfl) w_1264 rfl (Or.inl rfl) dX8_depthAt_25
theorem s_X8_depthAt_28 {X : ev_E} {l : Launch} (hG : ev_Good X) (hl : l.stackTraces = false) : ev_Snd X l ev_ms x_X8_depthAt tx_X8_depthAt 28 (i_il 1 29) := s_iload_n dX8_depthAt_28 rfl
theorem s_X8_depthAt_29 {X : ev_E} {l : Launch} (hG : ev_Good X) (hl : l.stackTraces = false) : ev_Snd X l ev_ms x_X8_depthAt tx_X8_depthAt 29 (i_cV X 129 1 4 2 32) := s_invokevirtual hG (mi := 129) (n := 1) (ci := 4) (r := (RJx4a65c, TJx4a65c, 3)) rfl (cal_Jx4a65c_get_915e3 (Nat.le_of_ble_eq_true rfl)) w_1328 w_1316 w_1317 dX8_depthAt_29
theorem s_X8_depthAt_32 {X : ev_E} {l : Launch} (hG : ev_Good X) (hl : l.stackTraces = false) : ev_Snd X l ev_ms x_X8_depthAt tx_X8_depthAt 32 (i_cco X 2 35) := s_castO hG (ci := 2) (r := (RJ6, TJ6, 1)) rfl w_1595 dX8_depthAt_32
theorem s_X8_depthAt_35 {X : ev_E} {l : Launch} (hG : ev_Good X) (hl : l.stackTraces = false) : ev_Snd X l ev_ms x_X8_depthAt tx_X8_depthAt 35 (i_cV X 12 0 2 1 38) := s_invokevirtual hG (mi := 12) (n := 0) (ci := 2) (r := (RJ6, TJ6, 1)) rfl (cal_J6_intValue_8abf5 (Nat.le_of_ble_eq_true rfl)) w_1596 w_1597 w_1598 dX8_depthAt_35
theorem s_X8_depthAt_38 {X : ev_E} {l : Launch} (hG : ev_Good X) (hl : l.stackTraces = false) : ev_Snd X l ev_ms x_X8_depthAt tx_X8_depthAt 38 (i_il 1 39) := s_iload_n dX8_depthAt_38 rfl
theorem s_X8_depthAt_39 {X : ev_E} {l : Launch} (hG : ev_Good X) (hl : l.stackTraces = false) : ev_Snd X l ev_ms x_X8_depthAt tx_X8_depthAt 39 (i_cV X 257 2 13 4 42) := s_invokevirtual hG (mi := 257) (n := 2) (ci := 13) (r := (RX8, TX8, 5)) rfl (cal_X8_depthOf (Nat.le_of_ble_eq_true rfl)) w_1587 w_1589 w_34 dX8_depthAt_39
theorem s_X8_depthAt_42 {X : ev_E} {l : Launch} (hG : ev_Good X) (hl : l.stackTraces = false) : ev_Snd X l ev_ms x_X8_depthAt tx_X8_depthAt 42 (i_ir (.int)) := s_ireturn rfl dX8_depthAt_42
theorem sa_X8_depthAt {X : ev_E} {l : Launch} (hG : ev_Good X) (hl : l.stackTraces = false) : ∀ q ∈ tb_X8_depthAt X, ev_Snd X l ev_ms x_X8_depthAt tx_X8_depthAt q.1 q.2 := by
  intro q hq
  unfold tb_X8_depthAt at hq
  simp only [List.mem_cons, List.not_mem_nil, or_false] at hq
  rcases hq with rfl | rfl | rfl | rfl | rfl | rfl | rfl | rfl | rfl | rfl | rfl | rfl | rfl | rfl | rfl | rfl | rfl | rfl | rfl | rfl | rfl
  · exact s_X8_depthAt_0 hG hl
  · exact s_X8_depthAt_1 hG hl
  · exact s_X8_depthAt_2 hG hl
  · exact s_X8_depthAt_5 hG hl
  · exact s_X8_depthAt_6 hG hl
  · exact s_X8_depthAt_7 hG hl
  · exact s_X8_depthAt_10 hG hl
  · exact s_X8_depthAt_13 hG hl
  · exact s_X8_depthAt_16 hG hl
  · exact s_X8_depthAt_19 hG hl
  · exact s_X8_depthAt_20 hG hl
  · exact s_X8_depthAt_23 hG hl
  · exact s_X8_depthAt_24 hG hl
  · exact s_X8_depthAt_25 hG hl
  · exact s_X8_depthAt_28 hG hl
  · exact s_X8_depthAt_29 hG hl
  · exact s_X8_depthAt_32 hG hl
  · exact s_X8_depthAt_35 hG hl
  · exact s_X8_depthAt_38 hG hl
  · exact s_X8_depthAt_39 hG hl
  · exact s_X8_depthAt_42 hG hl
def tx_X8_house : ev_X := fun _ _ => some none
noncomputable def tb_X8_house (X : ev_E) : List (Nat × (ev_S → ev_N)) := [(0, i_al 0 1), (1, i_il 1 2), (2, i_psh (.int (5)) 3), (3, i_cS 65 2 2 6), (6, i_psh (.int (0)) 7), (7, i_psh (.int (0)) 8), (8, i_cV X 63 3 13 4 11), (11, i_ifeq 18 14), (14, i_psh (.int (0)) 15), (15, i_goto 23), (18, i_al 0 19), (19, i_il 1 20), (20, i_cV X 258 1 13 7 23), (23, i_ir (.int))]
theorem s_X8_house_0 {X : ev_E} {l : Launch} (hG : ev_Good X) (hl : l.stackTraces = false) : ev_Snd X l ev_ms x_X8_house tx_X8_house 0 (i_al 0 1) := s_aload_n dX8_house_0 rfl
theorem s_X8_house_1 {X : ev_E} {l : Launch} (hG : ev_Good X) (hl : l.stackTraces = false) : ev_Snd X l ev_ms x_X8_house tx_X8_house 1 (i_il 1 2) := s_iload_n dX8_house_1 rfl
theorem s_X8_house_2 {X : ev_E} {l : Launch} (hG : ev_Good X) (hl : l.stackTraces = false) : ev_Snd X l ev_ms x_X8_house tx_X8_house 2 (i_psh (.int (5)) 3) := s_iconst dX8_house_2 rfl
theorem s_X8_house_3 {X : ev_E} {l : Launch} (hG : ev_Good X) (hl : l.stackTraces = false) : ev_Snd X l ev_ms x_X8_house tx_X8_house 3 (i_cS 65 2 2 6) := s_invokestatic hG (mi := 65) (n := 2) (cal_X8_isOut (Nat.le_of_ble_eq_true rfl)) w_1287 w_1288 dX8_house_3
theorem s_X8_house_6 {X : ev_E} {l : Launch} (hG : ev_Good X) (hl : l.stackTraces = false) : ev_Snd X l ev_ms x_X8_house tx_X8_house 6 (i_psh (.int (0)) 7) := s_iconst dX8_house_6 rfl
theorem s_X8_house_7 {X : ev_E} {l : Launch} (hG : ev_Good X) (hl : l.stackTraces = false) : ev_Snd X l ev_ms x_X8_house tx_X8_house 7 (i_psh (.int (0)) 8) := s_iconst dX8_house_7 rfl
theorem s_X8_house_8 {X : ev_E} {l : Launch} (hG : ev_Good X) (hl : l.stackTraces = false) : ev_Snd X l ev_ms x_X8_house tx_X8_house 8 (i_cV X 63 3 13 4 11) := s_invokevirtual hG (mi := 63) (n := 3) (ci := 13) (r := (RX8, TX8, 5)) rfl (cal_X8_fails (Nat.le_of_ble_eq_true rfl)) w_1290 w_1292 w_22 dX8_house_8
theorem s_X8_house_11 {X : ev_E} {l : Launch} (hG : ev_Good X) (hl : l.stackTraces = false) : ev_Snd X l ev_ms x_X8_house tx_X8_house 11 (i_ifeq 18 14) := s_ifeq dX8_house_11 rfl
theorem s_X8_house_14 {X : ev_E} {l : Launch} (hG : ev_Good X) (hl : l.stackTraces = false) : ev_Snd X l ev_ms x_X8_house tx_X8_house 14 (i_psh (.int (0)) 15) := s_iconst dX8_house_14 rfl
theorem s_X8_house_15 {X : ev_E} {l : Launch} (hG : ev_Good X) (hl : l.stackTraces = false) : ev_Snd X l ev_ms x_X8_house tx_X8_house 15 (i_goto 23) := s_goto dX8_house_15 rfl
theorem s_X8_house_18 {X : ev_E} {l : Launch} (hG : ev_Good X) (hl : l.stackTraces = false) : ev_Snd X l ev_ms x_X8_house tx_X8_house 18 (i_al 0 19) := s_aload_n dX8_house_18 rfl
theorem s_X8_house_19 {X : ev_E} {l : Launch} (hG : ev_Good X) (hl : l.stackTraces = false) : ev_Snd X l ev_ms x_X8_house tx_X8_house 19 (i_il 1 20) := s_iload_n dX8_house_19 rfl
theorem s_X8_house_20 {X : ev_E} {l : Launch} (hG : ev_Good X) (hl : l.stackTraces = false) : ev_Snd X l ev_ms x_X8_house tx_X8_house 20 (i_cV X 258 1 13 7 23) := s_invokevirtual hG (mi := 258) (n := 1) (ci := 13) (r := (RX8, TX8, 5)) rfl (cal_X8_houseNow (Nat.le_of_ble_eq_true rfl)) w_1729 w_1731 w_46 dX8_house_20
theorem s_X8_house_23 {X : ev_E} {l : Launch} (hG : ev_Good X) (hl : l.stackTraces = false) : ev_Snd X l ev_ms x_X8_house tx_X8_house 23 (i_ir (.int)) := s_ireturn rfl dX8_house_23
theorem sa_X8_house {X : ev_E} {l : Launch} (hG : ev_Good X) (hl : l.stackTraces = false) : ∀ q ∈ tb_X8_house X, ev_Snd X l ev_ms x_X8_house tx_X8_house q.1 q.2 := by
  intro q hq
  unfold tb_X8_house at hq
  simp only [List.mem_cons, List.not_mem_nil, or_false] at hq
  rcases hq with rfl | rfl | rfl | rfl | rfl | rfl | rfl | rfl | rfl | rfl | rfl | rfl | rfl | rfl
  · exact s_X8_house_0 hG hl
  · exact s_X8_house_1 hG hl
  · exact s_X8_house_2 hG hl
  · exact s_X8_house_3 hG hl
  · exact s_X8_house_6 hG hl
  · exact s_X8_house_7 hG hl
  · exact s_X8_house_8 hG hl
  · exact s_X8_house_11 hG hl
  · exact s_X8_house_14 hG hl
  · exact s_X8_house_15 hG hl
  · exact s_X8_house_18 hG hl
  · exact s_X8_house_19 hG hl
  · exact s_X8_house_20 hG hl
  · exact s_X8_house_23 hG hl
def tx_X8_isHit : ev_X := fun _ _ => some none
noncomputable def tb_X8_isHit (X : ev_E) : List (Nat × (ev_S → ev_N)) := [(0, i_al 0 1), (1, i_al 0 2), (2, i_gf X 13 4 5), (5, i_il 2 6), (6, i_cV X 129 1 4 2 9), (9, i_cco X 2 12), (12, i_cV X 12 0 2 1 15), (15, i_il 2 16), (16, i_cV X 257 2 13 4 19), (19, i_is 3 20), (20, i_il 3 21), (21, i_ifle 33 24), (24, i_il 3 25), (25, i_il 1 26), (26, i_icgt 33 29), (29, i_psh (.int (1)) 30), (30, i_goto 34), (33, i_psh (.int (0)) 34), (34, i_ir (.boolean))]
theorem s_X8_isHit_0 {X : ev_E} {l : Launch} (hG : ev_Good X) (hl : l.stackTraces = false) : ev_Snd X l ev_ms x_X8_isHit tx_X8_isHit 0 (i_al 0 1) := s_aload_n dX8_isHit_0 rfl
theorem s_X8_isHit_1 {X : ev_E} {l : Launch} (hG : ev_Good X) (hl : l.stackTraces = false) : ev_Snd X l ev_ms x_X8_isHit tx_X8_isHit 1 (i_al 0 2) := s_aload_n dX8_isHit_1 rfl
theorem s_X8_isHit_2 {X : ev_E} {l : Launch} (hG : ev_Good X) (hl : l.stackTraces = false) : ev_Snd X l ev_ms x_X8_isHit tx_X8_isHit 2 (i_gf X 13 4 5) := s_getfield hG (ci := 13) (r := (RX8, TX8, 5)) rfl cw_13 (k := 4) (Nat.le_of_ble_eq_true rfl) w_1264 rfl (Or.inl rfl) dX8_isHit_2
theorem s_X8_isHit_5 {X : ev_E} {l : Launch} (hG : ev_Good X) (hl : l.stackTraces = false) : ev_Snd X l ev_ms x_X8_isHit tx_X8_isHit 5 (i_il 2 6) := s_iload_n dX8_isHit_5 rfl
theorem s_X8_isHit_6 {X : ev_E} {l : Launch} (hG : ev_Good X) (hl : l.stackTraces = false) : ev_Snd X l ev_ms x_X8_isHit tx_X8_isHit 6 (i_cV X 129 1 4 2 9) := s_invokevirtual hG (mi := 129) (n := 1) (ci := 4) (r := (RJx4a65c, TJx4a65c, 3)) rfl (cal_Jx4a65c_get_915e3 (Nat.le_of_ble_eq_true rfl)) w_1328 w_1316 w_1317 dX8_isHit_6
theorem s_X8_isHit_9 {X : ev_E} {l : Launch} (hG : ev_Good X) (hl : l.stackTraces = false) : ev_Snd X l ev_ms x_X8_isHit tx_X8_isHit 9 (i_cco X 2 12) := s_castO hG (ci := 2) (r := (RJ6, TJ6, 1)) rfl w_1595 dX8_isHit_9
theorem s_X8_isHit_12 {X : ev_E} {l : Launch} (hG : ev_Good X) (hl : l.stackTraces = false) : ev_Snd X l ev_ms x_X8_isHit tx_X8_isHit 12 (i_cV X 12 0 2 1 15) := s_invokevirtual hG (mi := 12) (n := 0) (ci := 2) (r := (RJ6, TJ6, 1)) rfl (cal_J6_intValue_8abf5 (Nat.le_of_ble_eq_true rfl)) w_1596 w_1597 w_1598 dX8_isHit_12
theorem s_X8_isHit_15 {X : ev_E} {l : Launch} (hG : ev_Good X) (hl : l.stackTraces = false) : ev_Snd X l ev_ms x_X8_isHit tx_X8_isHit 15 (i_il 2 16) := s_iload_n dX8_isHit_15 rfl
theorem s_X8_isHit_16 {X : ev_E} {l : Launch} (hG : ev_Good X) (hl : l.stackTraces = false) : ev_Snd X l ev_ms x_X8_isHit tx_X8_isHit 16 (i_cV X 257 2 13 4 19) := s_invokevirtual hG (mi := 257) (n := 2) (ci := 13) (r := (RX8, TX8, 5)) rfl (cal_X8_depthOf (Nat.le_of_ble_eq_true rfl)) w_1587 w_1589 w_34 dX8_isHit_16
theorem s_X8_isHit_19 {X : ev_E} {l : Launch} (hG : ev_Good X) (hl : l.stackTraces = false) : ev_Snd X l ev_ms x_X8_isHit tx_X8_isHit 19 (i_is 3 20) := s_istore_n dX8_isHit_19 rfl (Nat.le_of_ble_eq_true rfl)
theorem s_X8_isHit_20 {X : ev_E} {l : Launch} (hG : ev_Good X) (hl : l.stackTraces = false) : ev_Snd X l ev_ms x_X8_isHit tx_X8_isHit 20 (i_il 3 21) := s_iload_n dX8_isHit_20 rfl
theorem s_X8_isHit_21 {X : ev_E} {l : Launch} (hG : ev_Good X) (hl : l.stackTraces = false) : ev_Snd X l ev_ms x_X8_isHit tx_X8_isHit 21 (i_ifle 33 24) := s_ifle dX8_isHit_21 rfl
theorem s_X8_isHit_24 {X : ev_E} {l : Launch} (hG : ev_Good X) (hl : l.stackTraces = false) : ev_Snd X l ev_ms x_X8_isHit tx_X8_isHit 24 (i_il 3 25) := s_iload_n dX8_isHit_24 rfl
theorem s_X8_isHit_25 {X : ev_E} {l : Launch} (hG : ev_Good X) (hl : l.stackTraces = false) : ev_Snd X l ev_ms x_X8_isHit tx_X8_isHit 25 (i_il 1 26) := s_iload_n dX8_isHit_25 rfl
theorem s_X8_isHit_26 {X : ev_E} {l : Launch} (hG : ev_Good X) (hl : l.stackTraces = false) : ev_Snd X l ev_ms x_X8_isHit tx_X8_isHit 26 (i_icgt 33 29) := s_icgt dX8_isHit_26 rfl
theorem s_X8_isHit_29 {X : ev_E} {l : Launch} (hG : ev_Good X) (hl : l.stackTraces = false) : ev_Snd X l ev_ms x_X8_isHit tx_X8_isHit 29 (i_psh (.int (1)) 30) := s_iconst dX8_isHit_29 rfl
theorem s_X8_isHit_30 {X : ev_E} {l : Launch} (hG : ev_Good X) (hl : l.stackTraces = false) : ev_Snd X l ev_ms x_X8_isHit tx_X8_isHit 30 (i_goto 34) := s_goto dX8_isHit_30 rfl
theorem s_X8_isHit_33 {X : ev_E} {l : Launch} (hG : ev_Good X) (hl : l.stackTraces = false) : ev_Snd X l ev_ms x_X8_isHit tx_X8_isHit 33 (i_psh (.int (0)) 34) := s_iconst dX8_isHit_33 rfl
theorem s_X8_isHit_34 {X : ev_E} {l : Launch} (hG : ev_Good X) (hl : l.stackTraces = false) : ev_Snd X l ev_ms x_X8_isHit tx_X8_isHit 34 (i_ir (.boolean)) := s_ireturn rfl dX8_isHit_34
theorem sa_X8_isHit {X : ev_E} {l : Launch} (hG : ev_Good X) (hl : l.stackTraces = false) : ∀ q ∈ tb_X8_isHit X, ev_Snd X l ev_ms x_X8_isHit tx_X8_isHit q.1 q.2 := by
  intro q hq
  unfold tb_X8_isHit at hq
  simp only [List.mem_cons, List.not_mem_nil, or_false] at hq
  rcases hq with rfl | rfl | rfl | rfl | rfl | rfl | rfl | rfl | rfl | rfl | rfl | rfl | rfl | rfl | rfl | rfl | rfl | rfl | rfl
  · exact s_X8_isHit_0 hG hl
  · exact s_X8_isHit_1 hG hl
  · exact s_X8_isHit_2 hG hl
  · exact s_X8_isHit_5 hG hl
  · exact s_X8_isHit_6 hG hl
  · exact s_X8_isHit_9 hG hl
  · exact s_X8_isHit_12 hG hl
  · exact s_X8_isHit_15 hG hl
  · exact s_X8_isHit_16 hG hl
  · exact s_X8_isHit_19 hG hl
  · exact s_X8_isHit_20 hG hl
  · exact s_X8_isHit_21 hG hl
  · exact s_X8_isHit_24 hG hl
  · exact s_X8_isHit_25 hG hl
  · exact s_X8_isHit_26 hG hl
  · exact s_X8_isHit_29 hG hl
  · exact s_X8_isHit_30 hG hl
  · exact s_X8_isHit_33 hG hl
  · exact s_X8_isHit_34 hG hl
def tx_X8_isKept : ev_X := fun _ _ => some none
noncomputable def tb_X8_isKept (X : ev_E) : List (Nat × (ev_S → ev_N)) := [(0, i_al 0 1), (1, i_il 2 2), (2, i_al 0 3), (3, i_gf X 13 4 6), (6, i_cV X 24 0 4 1 9), (9, i_cV X 257 2 13 4 12), (12, i_is 3 13), (13, i_il 3 14), (14, i_ifle 26 17), (17, i_il 3 18), (18, i_il 1 19), (19, i_icgt 26 22), (22, i_psh (.int (1)) 23), (23, i_goto 27), (26, i_psh (.int (0)) 27), (27, i_ir (.boolean))]
theorem s_X8_isKept_0 {X : ev_E} {l : Launch} (hG : ev_Good X) (hl : l.stackTraces = false) : ev_Snd X l ev_ms x_X8_isKept tx_X8_isKept 0 (i_al 0 1) := s_aload_n dX8_isKept_0 rfl
theorem s_X8_isKept_1 {X : ev_E} {l : Launch} (hG : ev_Good X) (hl : l.stackTraces = false) : ev_Snd X l ev_ms x_X8_isKept tx_X8_isKept 1 (i_il 2 2) := s_iload_n dX8_isKept_1 rfl
theorem s_X8_isKept_2 {X : ev_E} {l : Launch} (hG : ev_Good X) (hl : l.stackTraces = false) : ev_Snd X l ev_ms x_X8_isKept tx_X8_isKept 2 (i_al 0 3) := s_aload_n dX8_isKept_2 rfl
theorem s_X8_isKept_3 {X : ev_E} {l : Launch} (hG : ev_Good X) (hl : l.stackTraces = false) : ev_Snd X l ev_ms x_X8_isKept tx_X8_isKept 3 (i_gf X 13 4 6) := s_getfield hG (ci := 13) (r := (RX8, TX8, 5)) rfl cw_13 (k := 4) (Nat.le_of_ble_eq_true rfl) w_1264 rfl (Or.inl rfl) dX8_isKept_3
theorem s_X8_isKept_6 {X : ev_E} {l : Launch} (hG : ev_Good X) (hl : l.stackTraces = false) : ev_Snd X l ev_ms x_X8_isKept tx_X8_isKept 6 (i_cV X 24 0 4 1 9) := s_invokevirtual hG (mi := 24) (n := 0) (ci := 4) (r := (RJx4a65c, TJx4a65c, 3)) rfl (cal_Jx4a65c_size_8abf5 (Nat.le_of_ble_eq_true rfl)) w_1294 w_1295 w_1296 dX8_isKept_6
theorem s_X8_isKept_9 {X : ev_E} {l : Launch} (hG : ev_Good X) (hl : l.stackTraces = false) : ev_Snd X l ev_ms x_X8_isKept tx_X8_isKept 9 (i_cV X 257 2 13 4 12) := s_invokevirtual hG (mi := 257) (n := 2) (ci := 13) (r := (RX8, TX8, 5)) rfl (cal_X8_depthOf (Nat.le_of_ble_eq_true rfl)) w_1587 w_1589 w_34 dX8_isKept_9
theorem s_X8_isKept_12 {X : ev_E} {l : Launch} (hG : ev_Good X) (hl : l.stackTraces = false) : ev_Snd X l ev_ms x_X8_isKept tx_X8_isKept 12 (i_is 3 13) := s_istore_n dX8_isKept_12 rfl (Nat.le_of_ble_eq_true rfl)
theorem s_X8_isKept_13 {X : ev_E} {l : Launch} (hG : ev_Good X) (hl : l.stackTraces = false) : ev_Snd X l ev_ms x_X8_isKept tx_X8_isKept 13 (i_il 3 14) := s_iload_n dX8_isKept_13 rfl
theorem s_X8_isKept_14 {X : ev_E} {l : Launch} (hG : ev_Good X) (hl : l.stackTraces = false) : ev_Snd X l ev_ms x_X8_isKept tx_X8_isKept 14 (i_ifle 26 17) := s_ifle dX8_isKept_14 rfl
theorem s_X8_isKept_17 {X : ev_E} {l : Launch} (hG : ev_Good X) (hl : l.stackTraces = false) : ev_Snd X l ev_ms x_X8_isKept tx_X8_isKept 17 (i_il 3 18) := s_iload_n dX8_isKept_17 rfl
theorem s_X8_isKept_18 {X : ev_E} {l : Launch} (hG : ev_Good X) (hl : l.stackTraces = false) : ev_Snd X l ev_ms x_X8_isKept tx_X8_isKept 18 (i_il 1 19) := s_iload_n dX8_isKept_18 rfl
theorem s_X8_isKept_19 {X : ev_E} {l : Launch} (hG : ev_Good X) (hl : l.stackTraces = false) : ev_Snd X l ev_ms x_X8_isKept tx_X8_isKept 19 (i_icgt 26 22) := s_icgt dX8_isKept_19 rfl
theorem s_X8_isKept_22 {X : ev_E} {l : Launch} (hG : ev_Good X) (hl : l.stackTraces = false) : ev_Snd X l ev_ms x_X8_isKept tx_X8_isKept 22 (i_psh (.int (1)) 23) := s_iconst dX8_isKept_22 rfl
theorem s_X8_isKept_23 {X : ev_E} {l : Launch} (hG : ev_Good X) (hl : l.stackTraces = false) : ev_Snd X l ev_ms x_X8_isKept tx_X8_isKept 23 (i_goto 27) := s_goto dX8_isKept_23 rfl
theorem s_X8_isKept_26 {X : ev_E} {l : Launch} (hG : ev_Good X) (hl : l.stackTraces = false) : ev_Snd X l ev_ms x_X8_isKept tx_X8_isKept 26 (i_psh (.int (0)) 27) := s_iconst dX8_isKept_26 rfl
theorem s_X8_isKept_27 {X : ev_E} {l : Launch} (hG : ev_Good X) (hl : l.stackTraces = false) : ev_Snd X l ev_ms x_X8_isKept tx_X8_isKept 27 (i_ir (.boolean)) := s_ireturn rfl dX8_isKept_27
theorem sa_X8_isKept {X : ev_E} {l : Launch} (hG : ev_Good X) (hl : l.stackTraces = false) : ∀ q ∈ tb_X8_isKept X, ev_Snd X l ev_ms x_X8_isKept tx_X8_isKept q.1 q.2 := by
  intro q hq
  unfold tb_X8_isKept at hq
  simp only [List.mem_cons, List.not_mem_nil, or_false] at hq
  rcases hq with rfl | rfl | rfl | rfl | rfl | rfl | rfl | rfl | rfl | rfl | rfl | rfl | rfl | rfl | rfl | rfl
  · exact s_X8_isKept_0 hG hl
  · exact s_X8_isKept_1 hG hl
  · exact s_X8_isKept_2 hG hl
  · exact s_X8_isKept_3 hG hl
  · exact s_X8_isKept_6 hG hl
  · exact s_X8_isKept_9 hG hl
  · exact s_X8_isKept_12 hG hl
  · exact s_X8_isKept_13 hG hl
  · exact s_X8_isKept_14 hG hl
  · exact s_X8_isKept_17 hG hl
  · exact s_X8_isKept_18 hG hl
  · exact s_X8_isKept_19 hG hl
  · exact s_X8_isKept_22 hG hl
  · exact s_X8_isKept_23 hG hl
  · exact s_X8_isKept_26 hG hl
  · exact s_X8_isKept_27 hG hl
def tx_X8_keyWith : ev_X := fun _ _ => some none
noncomputable def tb_X8_keyWith (X : ev_E) : List (Nat × (ev_S → ev_N)) := [(0, i_psh (.int (0)) 1), (1, i_is 3 2), (2, i_il 3 3), (3, i_psh (.int (20)) 5), (5, i_icge 26 8), (8, i_al 0 9), (9, i_il 3 10), (10, i_il 2 11), (11, i_cV X 257 2 13 4 14), (14, i_il 1 15), (15, i_icne 20 18), (18, i_il 3 19), (19, i_ir (.int)), (20, i_inc 3 (1) 23), (23, i_goto 2), (26, i_psh (.int (-1)) 27), (27, i_ir (.int))]
theorem s_X8_keyWith_0 {X : ev_E} {l : Launch} (hG : ev_Good X) (hl : l.stackTraces = false) : ev_Snd X l ev_ms x_X8_keyWith tx_X8_keyWith 0 (i_psh (.int (0)) 1) := s_iconst dX8_keyWith_0 rfl
theorem s_X8_keyWith_1 {X : ev_E} {l : Launch} (hG : ev_Good X) (hl : l.stackTraces = false) : ev_Snd X l ev_ms x_X8_keyWith tx_X8_keyWith 1 (i_is 3 2) := s_istore_n dX8_keyWith_1 rfl (Nat.le_of_ble_eq_true rfl)
theorem s_X8_keyWith_2 {X : ev_E} {l : Launch} (hG : ev_Good X) (hl : l.stackTraces = false) : ev_Snd X l ev_ms x_X8_keyWith tx_X8_keyWith 2 (i_il 3 3) := s_iload_n dX8_keyWith_2 rfl
theorem s_X8_keyWith_3 {X : ev_E} {l : Launch} (hG : ev_Good X) (hl : l.stackTraces = false) : ev_Snd X l ev_ms x_X8_keyWith tx_X8_keyWith 3 (i_psh (.int (20)) 5) := s_bipush dX8_keyWith_3 rfl
theorem s_X8_keyWith_5 {X : ev_E} {l : Launch} (hG : ev_Good X) (hl : l.stackTraces = false) : ev_Snd X l ev_ms x_X8_keyWith tx_X8_keyWith 5 (i_icge 26 8) := s_icge dX8_keyWith_5 rfl
theorem s_X8_keyWith_8 {X : ev_E} {l : Launch} (hG : ev_Good X) (hl : l.stackTraces = false) : ev_Snd X l ev_ms x_X8_keyWith tx_X8_keyWith 8 (i_al 0 9) := s_aload_n dX8_keyWith_8 rfl
theorem s_X8_keyWith_9 {X : ev_E} {l : Launch} (hG : ev_Good X) (hl : l.stackTraces = false) : ev_Snd X l ev_ms x_X8_keyWith tx_X8_keyWith 9 (i_il 3 10) := s_iload_n dX8_keyWith_9 rfl
theorem s_X8_keyWith_10 {X : ev_E} {l : Launch} (hG : ev_Good X) (hl : l.stackTraces = false) : ev_Snd X l ev_ms x_X8_keyWith tx_X8_keyWith 10 (i_il 2 11) := s_iload_n dX8_keyWith_10 rfl
theorem s_X8_keyWith_11 {X : ev_E} {l : Launch} (hG : ev_Good X) (hl : l.stackTraces = false) : ev_Snd X l ev_ms x_X8_keyWith tx_X8_keyWith 11 (i_cV X 257 2 13 4 14) := s_invokevirtual hG (mi := 257) (n := 2) (ci := 13) (r := (RX8, TX8, 5)) rfl (cal_X8_depthOf (Nat.le_of_ble_eq_true rfl)) w_1587 w_1589 w_34 dX8_keyWith_11
theorem s_X8_keyWith_14 {X : ev_E} {l : Launch} (hG : ev_Good X) (hl : l.stackTraces = false) : ev_Snd X l ev_ms x_X8_keyWith tx_X8_keyWith 14 (i_il 1 15) := s_iload_n dX8_keyWith_14 rfl
theorem s_X8_keyWith_15 {X : ev_E} {l : Launch} (hG : ev_Good X) (hl : l.stackTraces = false) : ev_Snd X l ev_ms x_X8_keyWith tx_X8_keyWith 15 (i_icne 20 18) := s_icne dX8_keyWith_15 rfl
theorem s_X8_keyWith_18 {X : ev_E} {l : Launch} (hG : ev_Good X) (hl : l.stackTraces = false) : ev_Snd X l ev_ms x_X8_keyWith tx_X8_keyWith 18 (i_il 3 19) := s_iload_n dX8_keyWith_18 rfl
theorem s_X8_keyWith_19 {X : ev_E} {l : Launch} (hG : ev_Good X) (hl : l.stackTraces = false) : ev_Snd X l ev_ms x_X8_keyWith tx_X8_keyWith 19 (i_ir (.int)) := s_ireturn rfl dX8_keyWith_19
theorem s_X8_keyWith_20 {X : ev_E} {l : Launch} (hG : ev_Good X) (hl : l.stackTraces = false) : ev_Snd X l ev_ms x_X8_keyWith tx_X8_keyWith 20 (i_inc 3 (1) 23) := s_iinc dX8_keyWith_20 rfl (Nat.le_of_ble_eq_true rfl)
theorem s_X8_keyWith_23 {X : ev_E} {l : Launch} (hG : ev_Good X) (hl : l.stackTraces = false) : ev_Snd X l ev_ms x_X8_keyWith tx_X8_keyWith 23 (i_goto 2) := s_goto dX8_keyWith_23 rfl
theorem s_X8_keyWith_26 {X : ev_E} {l : Launch} (hG : ev_Good X) (hl : l.stackTraces = false) : ev_Snd X l ev_ms x_X8_keyWith tx_X8_keyWith 26 (i_psh (.int (-1)) 27) := s_iconst dX8_keyWith_26 rfl
theorem s_X8_keyWith_27 {X : ev_E} {l : Launch} (hG : ev_Good X) (hl : l.stackTraces = false) : ev_Snd X l ev_ms x_X8_keyWith tx_X8_keyWith 27 (i_ir (.int)) := s_ireturn rfl dX8_keyWith_27
theorem sa_X8_keyWith {X : ev_E} {l : Launch} (hG : ev_Good X) (hl : l.stackTraces = false) : ∀ q ∈ tb_X8_keyWith X, ev_Snd X l ev_ms x_X8_keyWith tx_X8_keyWith q.1 q.2 := by
  intro q hq
  unfold tb_X8_keyWith at hq
  simp only [List.mem_cons, List.not_mem_nil, or_false] at hq
  rcases hq with rfl | rfl | rfl | rfl | rfl | rfl | rfl | rfl | rfl | rfl | rfl | rfl | rfl | rfl | rfl | rfl | rfl
  · exact s_X8_keyWith_0 hG hl
  · exact s_X8_keyWith_1 hG hl
  · exact s_X8_keyWith_2 hG hl
  · exact s_X8_keyWith_3 hG hl
  · exact s_X8_keyWith_5 hG hl
  · exact s_X8_keyWith_8 hG hl
  · exact s_X8_keyWith_9 hG hl
  · exact s_X8_keyWith_10 hG hl
  · exact s_X8_keyWith_11 hG hl
  · exact s_X8_keyWith_14 hG hl
  · exact s_X8_keyWith_15 hG hl
  · exact s_X8_keyWith_18 hG hl
  · exact s_X8_keyWith_19 hG hl
  · exact s_X8_keyWith_20 hG hl
  · exact s_X8_keyWith_23 hG hl
  · exact s_X8_keyWith_26 hG hl
  · exact s_X8_keyWith_27 hG hl
def tx_X8_withDepth : ev_X := fun _ _ => some none
noncomputable def tb_X8_withDepth (X : ev_E) : List (Nat × (ev_S → ev_N)) := [(0, i_al 0 1), (1, i_psh (.int (0)) 2), (2, i_pf 13 0 (.int) 5), (5, i_psh (.int (0)) 6), (6, i_is 2 7), (7, i_psh (.int (0)) 8), (8, i_is 3 9), (9, i_il 3 10), (10, i_al 0 11), (11, i_gf X 13 4 14), (14, i_cV X 24 0 4 1 17), (17, i_icge 60 20), (20, i_il 2 21), (21, i_al 0 22), (22, i_al 0 23), (23, i_gf X 13 4 26), (26, i_il 3 27), (27, i_cV X 129 1 4 2 30), (30, i_cco X 2 33), (33, i_cV X 12 0 2 1 36), (36, i_il 3 37), (37, i_cV X 257 2 13 4 40), (40, i_il 1 41), (41, i_icne 48 44), (44, i_psh (.int (1)) 45), (45, i_goto 49), (48, i_psh (.int (0)) 49), (49, i_cS 70 1 1 52), (52, i_ii (fun a b => a + b) 53), (53, i_is 2 54), (54, i_inc 3 (1) 57), (57, i_goto 9), (60, i_il 2 61), (61, i_ir (.int))]
theorem s_X8_withDepth_0 {X : ev_E} {l : Launch} (hG : ev_Good X) (hl : l.stackTraces = false) : ev_Snd X l ev_ms x_X8_withDepth tx_X8_withDepth 0 (i_al 0 1) := s_aload_n dX8_withDepth_0 rfl
theorem s_X8_withDepth_1 {X : ev_E} {l : Launch} (hG : ev_Good X) (hl : l.stackTraces = false) : ev_Snd X l ev_ms x_X8_withDepth tx_X8_withDepth 1 (i_psh (.int (0)) 2) := s_iconst dX8_withDepth_1 rfl
theorem s_X8_withDepth_2 {X : ev_E} {l : Launch} (hG : ev_Good X) (hl : l.stackTraces = false) : ev_Snd X l ev_ms x_X8_withDepth tx_X8_withDepth 2 (i_pf 13 0 (.int) 5) := s_putfield hG (ci := 13) (r := (RX8, TX8, 5)) rfl cw_13 ap_13 (k := 0) (Nat.le_of_ble_eq_true rfl) rfl (by decide +kernel) w_1260 rfl (Or.inl rfl) dX8_withDepth_2
theorem s_X8_withDepth_5 {X : ev_E} {l : Launch} (hG : ev_Good X) (hl : l.stackTraces = false) : ev_Snd X l ev_ms x_X8_withDepth tx_X8_withDepth 5 (i_psh (.int (0)) 6) := s_iconst dX8_withDepth_5 rfl
theorem s_X8_withDepth_6 {X : ev_E} {l : Launch} (hG : ev_Good X) (hl : l.stackTraces = false) : ev_Snd X l ev_ms x_X8_withDepth tx_X8_withDepth 6 (i_is 2 7) := s_istore_n dX8_withDepth_6 rfl (Nat.le_of_ble_eq_true rfl)
theorem s_X8_withDepth_7 {X : ev_E} {l : Launch} (hG : ev_Good X) (hl : l.stackTraces = false) : ev_Snd X l ev_ms x_X8_withDepth tx_X8_withDepth 7 (i_psh (.int (0)) 8) := s_iconst dX8_withDepth_7 rfl
theorem s_X8_withDepth_8 {X : ev_E} {l : Launch} (hG : ev_Good X) (hl : l.stackTraces = false) : ev_Snd X l ev_ms x_X8_withDepth tx_X8_withDepth 8 (i_is 3 9) := s_istore_n dX8_withDepth_8 rfl (Nat.le_of_ble_eq_true rfl)
theorem s_X8_withDepth_9 {X : ev_E} {l : Launch} (hG : ev_Good X) (hl : l.stackTraces = false) : ev_Snd X l ev_ms x_X8_withDepth tx_X8_withDepth 9 (i_il 3 10) := s_iload_n dX8_withDepth_9 rfl
theorem s_X8_withDepth_10 {X : ev_E} {l : Launch} (hG : ev_Good X) (hl : l.stackTraces = false) : ev_Snd X l ev_ms x_X8_withDepth tx_X8_withDepth 10 (i_al 0 11) := s_aload_n dX8_withDepth_10 rfl
theorem s_X8_withDepth_11 {X : ev_E} {l : Launch} (hG : ev_Good X) (hl : l.stackTraces = false) : ev_Snd X l ev_ms x_X8_withDepth tx_X8_withDepth 11 (i_gf X 13 4 14) := s_getfield hG (ci := 13) (r := (RX8, TX8, 5)) rfl cw_13 (k := 4) (Nat.le_of_ble_eq_true rfl) w_1264 rfl (Or.inl rfl) dX8_withDepth_11
theorem s_X8_withDepth_14 {X : ev_E} {l : Launch} (hG : ev_Good X) (hl : l.stackTraces = false) : ev_Snd X l ev_ms x_X8_withDepth tx_X8_withDepth 14 (i_cV X 24 0 4 1 17) := s_invokevirtual hG (mi := 24) (n := 0) (ci := 4) (r := (RJx4a65c, TJx4a65c, 3)) rfl (cal_Jx4a65c_size_8abf5 (Nat.le_of_ble_eq_true rfl)) w_1294 w_1295 w_1296 dX8_withDepth_14
theorem s_X8_withDepth_17 {X : ev_E} {l : Launch} (hG : ev_Good X) (hl : l.stackTraces = false) : ev_Snd X l ev_ms x_X8_withDepth tx_X8_withDepth 17 (i_icge 60 20) := s_icge dX8_withDepth_17 rfl
theorem s_X8_withDepth_20 {X : ev_E} {l : Launch} (hG : ev_Good X) (hl : l.stackTraces = false) : ev_Snd X l ev_ms x_X8_withDepth tx_X8_withDepth 20 (i_il 2 21) := s_iload_n dX8_withDepth_20 rfl
theorem s_X8_withDepth_21 {X : ev_E} {l : Launch} (hG : ev_Good X) (hl : l.stackTraces = false) : ev_Snd X l ev_ms x_X8_withDepth tx_X8_withDepth 21 (i_al 0 22) := s_aload_n dX8_withDepth_21 rfl
theorem s_X8_withDepth_22 {X : ev_E} {l : Launch} (hG : ev_Good X) (hl : l.stackTraces = false) : ev_Snd X l ev_ms x_X8_withDepth tx_X8_withDepth 22 (i_al 0 23) := s_aload_n dX8_withDepth_22 rfl
theorem s_X8_withDepth_23 {X : ev_E} {l : Launch} (hG : ev_Good X) (hl : l.stackTraces = false) : ev_Snd X l ev_ms x_X8_withDepth tx_X8_withDepth 23 (i_gf X 13 4 26) := s_getfield hG (ci := 13) (r := (RX8, TX8, 5)) rfl cw_13 (k := 4) (Nat.le_of_ble_eq_true rfl) w_1264 rfl (Or.inl rfl) dX8_withDepth_23
theorem s_X8_withDepth_26 {X : ev_E} {l : Launch} (hG : ev_Good X) (hl : l.stackTraces = false) : ev_Snd X l ev_ms x_X8_withDepth tx_X8_withDepth 26 (i_il 3 27) := s_iload_n dX8_withDepth_26 rfl
theorem s_X8_withDepth_27 {X : ev_E} {l : Launch} (hG : ev_Good X) (hl : l.stackTraces = false) : ev_Snd X l ev_ms x_X8_withDepth tx_X8_withDepth 27 (i_cV X 129 1 4 2 30) := s_invokevirtual hG (mi := 129) (n := 1) (ci := 4) (r := (RJx4a65c, TJx4a65c, 3)) rfl (cal_Jx4a65c_get_915e3 (Nat.le_of_ble_eq_true rfl)) w_1328 w_1316 w_1317 dX8_withDepth_27
theorem s_X8_withDepth_30 {X : ev_E} {l : Launch} (hG : ev_Good X) (hl : l.stackTraces = false) : ev_Snd X l ev_ms x_X8_withDepth tx_X8_withDepth 30 (i_cco X 2 33) := s_castO hG (ci := 2) (r := (RJ6, TJ6, 1)) rfl w_1595 dX8_withDepth_30
theorem s_X8_withDepth_33 {X : ev_E} {l : Launch} (hG : ev_Good X) (hl : l.stackTraces = false) : ev_Snd X l ev_ms x_X8_withDepth tx_X8_withDepth 33 (i_cV X 12 0 2 1 36) := s_invokevirtual hG (mi := 12) (n := 0) (ci := 2) (r := (RJ6, TJ6, 1)) rfl (cal_J6_intValue_8abf5 (Nat.le_of_ble_eq_true rfl)) w_1596 w_1597 w_1598 dX8_withDepth_33
theorem s_X8_withDepth_36 {X : ev_E} {l : Launch} (hG : ev_Good X) (hl : l.stackTraces = false) : ev_Snd X l ev_ms x_X8_withDepth tx_X8_withDepth 36 (i_il 3 37) := s_iload_n dX8_withDepth_36 rfl
theorem s_X8_withDepth_37 {X : ev_E} {l : Launch} (hG : ev_Good X) (hl : l.stackTraces = false) : ev_Snd X l ev_ms x_X8_withDepth tx_X8_withDepth 37 (i_cV X 257 2 13 4 40) := s_invokevirtual hG (mi := 257) (n := 2) (ci := 13) (r := (RX8, TX8, 5)) rfl (cal_X8_depthOf (Nat.le_of_ble_eq_true rfl)) w_1587 w_1589 w_34 dX8_withDepth_37
theorem s_X8_withDepth_40 {X : ev_E} {l : Launch} (hG : ev_Good X) (hl : l.stackTraces = false) : ev_Snd X l ev_ms x_X8_withDepth tx_X8_withDepth 40 (i_il 1 41) := s_iload_n dX8_withDepth_40 rfl
theorem s_X8_withDepth_41 {X : ev_E} {l : Launch} (hG : ev_Good X) (hl : l.stackTraces = false) : ev_Snd X l ev_ms x_X8_withDepth tx_X8_withDepth 41 (i_icne 48 44) := s_icne dX8_withDepth_41 rfl
theorem s_X8_withDepth_44 {X : ev_E} {l : Launch} (hG : ev_Good X) (hl : l.stackTraces = false) : ev_Snd X l ev_ms x_X8_withDepth tx_X8_withDepth 44 (i_psh (.int (1)) 45) := s_iconst dX8_withDepth_44 rfl
theorem s_X8_withDepth_45 {X : ev_E} {l : Launch} (hG : ev_Good X) (hl : l.stackTraces = false) : ev_Snd X l ev_ms x_X8_withDepth tx_X8_withDepth 45 (i_goto 49) := s_goto dX8_withDepth_45 rfl
theorem s_X8_withDepth_48 {X : ev_E} {l : Launch} (hG : ev_Good X) (hl : l.stackTraces = false) : ev_Snd X l ev_ms x_X8_withDepth tx_X8_withDepth 48 (i_psh (.int (0)) 49) := s_iconst dX8_withDepth_48 rfl
theorem s_X8_withDepth_49 {X : ev_E} {l : Launch} (hG : ev_Good X) (hl : l.stackTraces = false) : ev_Snd X l ev_ms x_X8_withDepth tx_X8_withDepth 49 (i_cS 70 1 1 52) := s_invokestatic hG (mi := 70) (n := 1) (cal_X8_one (Nat.le_of_ble_eq_true rfl)) w_1535 w_1536 dX8_withDepth_49
theorem s_X8_withDepth_52 {X : ev_E} {l : Launch} (hG : ev_Good X) (hl : l.stackTraces = false) : ev_Snd X l ev_ms x_X8_withDepth tx_X8_withDepth 52 (i_ii (fun a b => a + b) 53) := s_iadd dX8_withDepth_52
theorem s_X8_withDepth_53 {X : ev_E} {l : Launch} (hG : ev_Good X) (hl : l.stackTraces = false) : ev_Snd X l ev_ms x_X8_withDepth tx_X8_withDepth 53 (i_is 2 54) := s_istore_n dX8_withDepth_53 rfl (Nat.le_of_ble_eq_true rfl)
theorem s_X8_withDepth_54 {X : ev_E} {l : Launch} (hG : ev_Good X) (hl : l.stackTraces = false) : ev_Snd X l ev_ms x_X8_withDepth tx_X8_withDepth 54 (i_inc 3 (1) 57) := s_iinc dX8_withDepth_54 rfl (Nat.le_of_ble_eq_true rfl)
theorem s_X8_withDepth_57 {X : ev_E} {l : Launch} (hG : ev_Good X) (hl : l.stackTraces = false) : ev_Snd X l ev_ms x_X8_withDepth tx_X8_withDepth 57 (i_goto 9) := s_goto dX8_withDepth_57 rfl
theorem s_X8_withDepth_60 {X : ev_E} {l : Launch} (hG : ev_Good X) (hl : l.stackTraces = false) : ev_Snd X l ev_ms x_X8_withDepth tx_X8_withDepth 60 (i_il 2 61) := s_iload_n dX8_withDepth_60 rfl
theorem s_X8_withDepth_61 {X : ev_E} {l : Launch} (hG : ev_Good X) (hl : l.stackTraces = false) : ev_Snd X l ev_ms x_X8_withDepth tx_X8_withDepth 61 (i_ir (.int)) := s_ireturn rfl dX8_withDepth_61
theorem sa_X8_withDepth {X : ev_E} {l : Launch} (hG : ev_Good X) (hl : l.stackTraces = false) : ∀ q ∈ tb_X8_withDepth X, ev_Snd X l ev_ms x_X8_withDepth tx_X8_withDepth q.1 q.2 := by
  intro q hq
  unfold tb_X8_withDepth at hq
  simp only [List.mem_cons, List.not_mem_nil, or_false] at hq
  rcases hq with rfl | rfl | rfl | rfl | rfl | rfl | rfl | rfl | rfl | rfl | rfl | rfl | rfl | rfl | rfl | rfl | rfl | rfl | rfl | rfl | rfl | rfl | rfl | rfl | rfl | rfl | rfl | rfl | rfl | rfl | rfl | rfl | rfl | rfl
  · exact s_X8_withDepth_0 hG hl
  · exact s_X8_withDepth_1 hG hl
  · exact s_X8_withDepth_2 hG hl
  · exact s_X8_withDepth_5 hG hl
  · exact s_X8_withDepth_6 hG hl
  · exact s_X8_withDepth_7 hG hl
  · exact s_X8_withDepth_8 hG hl
  · exact s_X8_withDepth_9 hG hl
  · exact s_X8_withDepth_10 hG hl
  · exact s_X8_withDepth_11 hG hl
  · exact s_X8_withDepth_14 hG hl
  · exact s_X8_withDepth_17 hG hl
  · exact s_X8_withDepth_20 hG hl
  · exact s_X8_withDepth_21 hG hl
  · exact s_X8_withDepth_22 hG hl
  · exact s_X8_withDepth_23 hG hl
  · exact s_X8_withDepth_26 hG hl
  · exact s_X8_withDepth_27 hG hl
  · exact s_X8_withDepth_30 hG hl
  · exact s_X8_withDepth_33 hG hl
  · exact s_X8_withDepth_36 hG hl
  · exact s_X8_withDepth_37 hG hl
  · exact s_X8_withDepth_40 hG hl
  · exact s_X8_withDepth_41 hG hl
  · exact s_X8_withDepth_44 hG hl
  · exact s_X8_withDepth_45 hG hl
  · exact s_X8_withDepth_48 hG hl
  · exact s_X8_withDepth_49 hG hl
  · exact s_X8_withDepth_52 hG hl
  · exact s_X8_withDepth_53 hG hl
  · exact s_X8_withDepth_54 hG hl
  · exact s_X8_withDepth_57 hG hl
  · exact s_X8_withDepth_60 hG hl
  · exact s_X8_withDepth_61 hG hl
def tx_X7_asked : ev_X := fun _ _ => some none
noncomputable def tb_X7_asked (X : ev_E) : List (Nat × (ev_S → ev_N)) := [(0, i_al 0 1), (1, i_gf X 12 1 4), (4, i_ifeq 26 7), (7, i_al 0 8), (8, i_gf X 12 0 11), (11, i_al 0 12), (12, i_gf X 12 0 15), (15, i_il 1 16), (16, i_cV X 131 1 4 4 19), (19, i_cca 0 22), (22, i_cV X 262 1 4 2 25), (25, i_pop 26), (26, i_vr)]
theorem s_X7_asked_0 {X : ev_E} {l : Launch} (hG : ev_Good X) (hl : l.stackTraces = false) : ev_Snd X l ev_ms x_X7_asked tx_X7_asked 0 (i_al 0 1) := s_aload_n dX7_asked_0 rfl
theorem s_X7_asked_1 {X : ev_E} {l : Launch} (hG : ev_Good X) (hl : l.stackTraces = false) : ev_Snd X l ev_ms x_X7_asked tx_X7_asked 1 (i_gf X 12 1 4) := s_getfield hG (ci := 12) (r := (RX7, TX7, 9)) rfl cw_12 (k := 1) (Nat.le_of_ble_eq_true rfl) w_1223 rfl (Or.inl rfl) dX7_asked_1
theorem s_X7_asked_4 {X : ev_E} {l : Launch} (hG : ev_Good X) (hl : l.stackTraces = false) : ev_Snd X l ev_ms x_X7_asked tx_X7_asked 4 (i_ifeq 26 7) := s_ifeq dX7_asked_4 rfl
theorem s_X7_asked_7 {X : ev_E} {l : Launch} (hG : ev_Good X) (hl : l.stackTraces = false) : ev_Snd X l ev_ms x_X7_asked tx_X7_asked 7 (i_al 0 8) := s_aload_n dX7_asked_7 rfl
theorem s_X7_asked_8 {X : ev_E} {l : Launch} (hG : ev_Good X) (hl : l.stackTraces = false) : ev_Snd X l ev_ms x_X7_asked tx_X7_asked 8 (i_gf X 12 0 11) := s_getfield hG (ci := 12) (r := (RX7, TX7, 9)) rfl cw_12 (k := 0) (Nat.le_of_ble_eq_true rfl) w_1221 rfl (Or.inl rfl) dX7_asked_8
theorem s_X7_asked_11 {X : ev_E} {l : Launch} (hG : ev_Good X) (hl : l.stackTraces = false) : ev_Snd X l ev_ms x_X7_asked tx_X7_asked 11 (i_al 0 12) := s_aload_n dX7_asked_11 rfl
theorem s_X7_asked_12 {X : ev_E} {l : Launch} (hG : ev_Good X) (hl : l.stackTraces = false) : ev_Snd X l ev_ms x_X7_asked tx_X7_asked 12 (i_gf X 12 0 15) := s_getfield hG (ci := 12) (r := (RX7, TX7, 9)) rfl cw_12 (k := 0) (Nat.le_of_ble_eq_true rfl) w_1221 rfl (Or.inl rfl) dX7_asked_12
theorem s_X7_asked_15 {X : ev_E} {l : Launch} (hG : ev_Good X) (hl : l.stackTraces = false) : ev_Snd X l ev_ms x_X7_asked tx_X7_asked 15 (i_il 1 16) := s_iload_n dX7_asked_15 rfl
theorem s_X7_asked_16 {X : ev_E} {l : Launch} (hG : ev_Good X) (hl : l.stackTraces = false) : ev_Snd X l ev_ms x_X7_asked tx_X7_asked 16 (i_cV X 131 1 4 4 19) := s_invokevirtual hG (mi := 131) (n := 1) (ci := 4) (r := (RJx4a65c, TJx4a65c, 3)) rfl (cal_Jx4a65c_remove_915e3 (Nat.le_of_ble_eq_true rfl)) w_1334 w_1335 w_1336 dX7_asked_16
theorem s_X7_asked_19 {X : ev_E} {l : Launch} (hG : ev_Good X) (hl : l.stackTraces = false) : ev_Snd X l ev_ms x_X7_asked tx_X7_asked 19 (i_cca 0 22) := s_castA hG (kd := 0) (Nat.le_of_ble_eq_true rfl) (by decide +kernel) w_1327 dX7_asked_19
theorem s_X7_asked_22 {X : ev_E} {l : Launch} (hG : ev_Good X) (hl : l.stackTraces = false) : ev_Snd X l ev_ms x_X7_asked tx_X7_asked 22 (i_cV X 262 1 4 2 25) := s_invokevirtual hG (mi := 262) (n := 1) (ci := 4) (r := (RJx4a65c, TJx4a65c, 3)) rfl (cal_Jx4a65c_add_9ea2d (Nat.le_of_ble_eq_true rfl)) w_1343 w_1344 w_1345 dX7_asked_22
theorem s_X7_asked_25 {X : ev_E} {l : Launch} (hG : ev_Good X) (hl : l.stackTraces = false) : ev_Snd X l ev_ms x_X7_asked tx_X7_asked 25 (i_pop 26) := s_pop dX7_asked_25
theorem s_X7_asked_26 {X : ev_E} {l : Launch} (hG : ev_Good X) (hl : l.stackTraces = false) : ev_Snd X l ev_ms x_X7_asked tx_X7_asked 26 (i_vr) := s_return rfl dX7_asked_26
theorem sa_X7_asked {X : ev_E} {l : Launch} (hG : ev_Good X) (hl : l.stackTraces = false) : ∀ q ∈ tb_X7_asked X, ev_Snd X l ev_ms x_X7_asked tx_X7_asked q.1 q.2 := by
  intro q hq
  unfold tb_X7_asked at hq
  simp only [List.mem_cons, List.not_mem_nil, or_false] at hq
  rcases hq with rfl | rfl | rfl | rfl | rfl | rfl | rfl | rfl | rfl | rfl | rfl | rfl | rfl
  · exact s_X7_asked_0 hG hl
  · exact s_X7_asked_1 hG hl
  · exact s_X7_asked_4 hG hl
  · exact s_X7_asked_7 hG hl
  · exact s_X7_asked_8 hG hl
  · exact s_X7_asked_11 hG hl
  · exact s_X7_asked_12 hG hl
  · exact s_X7_asked_15 hG hl
  · exact s_X7_asked_16 hG hl
  · exact s_X7_asked_19 hG hl
  · exact s_X7_asked_22 hG hl
  · exact s_X7_asked_25 hG hl
  · exact s_X7_asked_26 hG hl
def tx_X8_asks : ev_X := fun _ _ => some none
noncomputable def tb_X8_asks (X : ev_E) : List (Nat × (ev_S → ev_N)) := [(0, i_al 0 1), (1, i_il 1 2), (2, i_al 0 3), (3, i_gf X 13 4 6), (6, i_cV X 24 0 4 1 9), (9, i_cV X 257 2 13 4 12), (12, i_is 2 13), (13, i_al 0 14), (14, i_gf X 13 4 17), (17, i_il 1 18), (18, i_cS 126 1 1 21), (21, i_cV X 262 1 4 2 24), (24, i_pop 25), (25, i_al 0 26), (26, i_il 2 27), (27, i_cV X 64 1 13 2 30), (30, i_ir (.int))]
theorem s_X8_asks_0 {X : ev_E} {l : Launch} (hG : ev_Good X) (hl : l.stackTraces = false) : ev_Snd X l ev_ms x_X8_asks tx_X8_asks 0 (i_al 0 1) := s_aload_n dX8_asks_0 rfl
theorem s_X8_asks_1 {X : ev_E} {l : Launch} (hG : ev_Good X) (hl : l.stackTraces = false) : ev_Snd X l ev_ms x_X8_asks tx_X8_asks 1 (i_il 1 2) := s_iload_n dX8_asks_1 rfl
theorem s_X8_asks_2 {X : ev_E} {l : Launch} (hG : ev_Good X) (hl : l.stackTraces = false) : ev_Snd X l ev_ms x_X8_asks tx_X8_asks 2 (i_al 0 3) := s_aload_n dX8_asks_2 rfl
theorem s_X8_asks_3 {X : ev_E} {l : Launch} (hG : ev_Good X) (hl : l.stackTraces = false) : ev_Snd X l ev_ms x_X8_asks tx_X8_asks 3 (i_gf X 13 4 6) := s_getfield hG (ci := 13) (r := (RX8, TX8, 5)) rfl cw_13 (k := 4) (Nat.le_of_ble_eq_true rfl) w_1264 rfl (Or.inl rfl) dX8_asks_3
theorem s_X8_asks_6 {X : ev_E} {l : Launch} (hG : ev_Good X) (hl : l.stackTraces = false) : ev_Snd X l ev_ms x_X8_asks tx_X8_asks 6 (i_cV X 24 0 4 1 9) := s_invokevirtual hG (mi := 24) (n := 0) (ci := 4) (r := (RJx4a65c, TJx4a65c, 3)) rfl (cal_Jx4a65c_size_8abf5 (Nat.le_of_ble_eq_true rfl)) w_1294 w_1295 w_1296 dX8_asks_6
theorem s_X8_asks_9 {X : ev_E} {l : Launch} (hG : ev_Good X) (hl : l.stackTraces = false) : ev_Snd X l ev_ms x_X8_asks tx_X8_asks 9 (i_cV X 257 2 13 4 12) := s_invokevirtual hG (mi := 257) (n := 2) (ci := 13) (r := (RX8, TX8, 5)) rfl (cal_X8_depthOf (Nat.le_of_ble_eq_true rfl)) w_1587 w_1589 w_34 dX8_asks_9
theorem s_X8_asks_12 {X : ev_E} {l : Launch} (hG : ev_Good X) (hl : l.stackTraces = false) : ev_Snd X l ev_ms x_X8_asks tx_X8_asks 12 (i_is 2 13) := s_istore_n dX8_asks_12 rfl (Nat.le_of_ble_eq_true rfl)
theorem s_X8_asks_13 {X : ev_E} {l : Launch} (hG : ev_Good X) (hl : l.stackTraces = false) : ev_Snd X l ev_ms x_X8_asks tx_X8_asks 13 (i_al 0 14) := s_aload_n dX8_asks_13 rfl
theorem s_X8_asks_14 {X : ev_E} {l : Launch} (hG : ev_Good X) (hl : l.stackTraces = false) : ev_Snd X l ev_ms x_X8_asks tx_X8_asks 14 (i_gf X 13 4 17) := s_getfield hG (ci := 13) (r := (RX8, TX8, 5)) rfl cw_13 (k := 4) (Nat.le_of_ble_eq_true rfl) w_1264 rfl (Or.inl rfl) dX8_asks_14
theorem s_X8_asks_17 {X : ev_E} {l : Launch} (hG : ev_Good X) (hl : l.stackTraces = false) : ev_Snd X l ev_ms x_X8_asks tx_X8_asks 17 (i_il 1 18) := s_iload_n dX8_asks_17 rfl
theorem s_X8_asks_18 {X : ev_E} {l : Launch} (hG : ev_Good X) (hl : l.stackTraces = false) : ev_Snd X l ev_ms x_X8_asks tx_X8_asks 18 (i_cS 126 1 1 21) := s_invokestatic hG (mi := 126) (n := 1) (cal_J6_valueOf_2dffe (Nat.le_of_ble_eq_true rfl)) w_1604 w_1605 dX8_asks_18
theorem s_X8_asks_21 {X : ev_E} {l : Launch} (hG : ev_Good X) (hl : l.stackTraces = false) : ev_Snd X l ev_ms x_X8_asks tx_X8_asks 21 (i_cV X 262 1 4 2 24) := s_invokevirtual hG (mi := 262) (n := 1) (ci := 4) (r := (RJx4a65c, TJx4a65c, 3)) rfl (cal_Jx4a65c_add_9ea2d (Nat.le_of_ble_eq_true rfl)) w_1392 w_1344 w_1345 dX8_asks_21
theorem s_X8_asks_24 {X : ev_E} {l : Launch} (hG : ev_Good X) (hl : l.stackTraces = false) : ev_Snd X l ev_ms x_X8_asks tx_X8_asks 24 (i_pop 25) := s_pop dX8_asks_24
theorem s_X8_asks_25 {X : ev_E} {l : Launch} (hG : ev_Good X) (hl : l.stackTraces = false) : ev_Snd X l ev_ms x_X8_asks tx_X8_asks 25 (i_al 0 26) := s_aload_n dX8_asks_25 rfl
theorem s_X8_asks_26 {X : ev_E} {l : Launch} (hG : ev_Good X) (hl : l.stackTraces = false) : ev_Snd X l ev_ms x_X8_asks tx_X8_asks 26 (i_il 2 27) := s_iload_n dX8_asks_26 rfl
theorem s_X8_asks_27 {X : ev_E} {l : Launch} (hG : ev_Good X) (hl : l.stackTraces = false) : ev_Snd X l ev_ms x_X8_asks tx_X8_asks 27 (i_cV X 64 1 13 2 30) := s_invokevirtual hG (mi := 64) (n := 1) (ci := 13) (r := (RX8, TX8, 5)) rfl (cal_X8_hitsOf (Nat.le_of_ble_eq_true rfl)) w_1624 w_1626 w_37 dX8_asks_27
theorem s_X8_asks_30 {X : ev_E} {l : Launch} (hG : ev_Good X) (hl : l.stackTraces = false) : ev_Snd X l ev_ms x_X8_asks tx_X8_asks 30 (i_ir (.int)) := s_ireturn rfl dX8_asks_30
theorem sa_X8_asks {X : ev_E} {l : Launch} (hG : ev_Good X) (hl : l.stackTraces = false) : ∀ q ∈ tb_X8_asks X, ev_Snd X l ev_ms x_X8_asks tx_X8_asks q.1 q.2 := by
  intro q hq
  unfold tb_X8_asks at hq
  simp only [List.mem_cons, List.not_mem_nil, or_false] at hq
  rcases hq with rfl | rfl | rfl | rfl | rfl | rfl | rfl | rfl | rfl | rfl | rfl | rfl | rfl | rfl | rfl | rfl | rfl
  · exact s_X8_asks_0 hG hl
  · exact s_X8_asks_1 hG hl
  · exact s_X8_asks_2 hG hl
  · exact s_X8_asks_3 hG hl
  · exact s_X8_asks_6 hG hl
  · exact s_X8_asks_9 hG hl
  · exact s_X8_asks_12 hG hl
  · exact s_X8_asks_13 hG hl
  · exact s_X8_asks_14 hG hl
  · exact s_X8_asks_17 hG hl
  · exact s_X8_asks_18 hG hl
  · exact s_X8_asks_21 hG hl
  · exact s_X8_asks_24 hG hl
  · exact s_X8_asks_25 hG hl
  · exact s_X8_asks_26 hG hl
  · exact s_X8_asks_27 hG hl
  · exact s_X8_asks_30 hG hl
def tx_X8_copy : ev_X := fun pc _ => bif List.elem pc [34, 54, 64, 123, 133] then none else some none
noncomputable def tb_X8_copy_c0 (X : ev_E) : List (Nat × (ev_S → ev_N)) := [(0, i_al 0 1), (1, i_il 1 2), (2, i_cS 118 1 1 5), (5, i_ifne 15 8), (8, i_il 2 9), (9, i_cS 118 1 1 12), (12, i_ifeq 19 15), (15, i_psh (.int (1)) 16), (16, i_goto 20), (19, i_psh (.int (0)) 20), (20, i_psh (.int (0)) 21), (21, i_psh (.int (0)) 22), (22, i_cV X 63 3 13 4 25), (25, i_ifeq 30 28), (28, i_psh (.int (0)) 29), (29, i_ir (.int)), (30, i_nw 4 3 [.int 0, .null, .int 0] 33), (33, i_dup 34), (34, i_cI 130 0 1 37), (37, i_as 3 38), (38, i_al 0 39), (39, i_gf X 13 3 42), (42, i_il 1 43), (43, i_ald X FieldType.isReference 44), (44, i_gf X 12 0 47), (47, i_cV X 87 0 4 1 50), (50, i_as 4 52), (52, i_al 4 54), (54, i_cV X 19 0 3 1 59), (59, i_ifeq 99 62), (62, i_al 4 64), (64, i_cV X 86 0 3 3 69), (69, i_cca 0 72), (72, i_as 5 74), (74, i_al 3 75), (75, i_psh (.int (2)) 76), (76, i_na 0 (.int 0) 78), (78, i_dup 79), (79, i_psh (.int (0)) 80), (80, i_al 5 82), (82, i_psh (.int (0)) 83), (83, i_ald X ev_tI 84), (84, i_ast ev_tI (fun v => v) 85), (85, i_dup 86), (86, i_psh (.int (1)) 87), (87, i_al 5 89), (89, i_psh (.int (1)) 90), (90, i_ald X ev_tI 91), (91, i_ast ev_tI (fun v => v) 92), (92, i_cV X 262 1 4 2 95), (95, i_pop 96), (96, i_goto 52), (99, i_al 0 100), (100, i_gf X 13 3 103), (103, i_il 2 104), (104, i_ald X FieldType.isReference 105), (105, i_as 4 107), (107, i_al 4 109), (109, i_gf X 12 0 112), (112, i_cV X 21 0 4 4 115)]
noncomputable def tb_X8_copy_c1 (X : ev_E) : List (Nat × (ev_S → ev_N)) := [(115, i_al 3 116), (116, i_cV X 87 0 4 1 119), (119, i_as 5 121), (121, i_al 5 123), (123, i_cV X 19 0 3 1 128), (128, i_ifeq 157 131), (131, i_al 5 133), (133, i_cV X 86 0 3 3 138), (138, i_cca 0 141), (141, i_as 6 143), (143, i_al 4 145), (145, i_gf X 12 0 148), (148, i_al 6 150), (150, i_cV X 262 1 4 2 153), (153, i_pop 154), (154, i_goto 121), (157, i_al 4 159), (159, i_psh (.int (0)) 160), (160, i_psh (.int (-1)) 161), (161, i_cV X 61 2 12 3 164), (164, i_al 4 166), (166, i_psh (.int (1)) 167), (167, i_pf 12 8 (.boolean) 170), (170, i_al 3 171), (171, i_cV X 24 0 4 1 174), (174, i_ir (.int))]
noncomputable def tb_X8_copy (X : ev_E) : List (Nat × (ev_S → ev_N)) := tb_X8_copy_c0 X ++ (tb_X8_copy_c1 X)
theorem s_X8_copy_0 {X : ev_E} {l : Launch} (hG : ev_Good X) (hl : l.stackTraces = false) : ev_Snd X l ev_ms x_X8_copy tx_X8_copy 0 (i_al 0 1) := s_aload_n dX8_copy_0 rfl
theorem s_X8_copy_1 {X : ev_E} {l : Launch} (hG : ev_Good X) (hl : l.stackTraces = false) : ev_Snd X l ev_ms x_X8_copy tx_X8_copy 1 (i_il 1 2) := s_iload_n dX8_copy_1 rfl
theorem s_X8_copy_2 {X : ev_E} {l : Launch} (hG : ev_Good X) (hl : l.stackTraces = false) : ev_Snd X l ev_ms x_X8_copy tx_X8_copy 2 (i_cS 118 1 1 5) := s_invokestatic hG (mi := 118) (n := 1) (cal_X8_isNo (Nat.le_of_ble_eq_true rfl)) w_1284 w_1285 dX8_copy_2
theorem s_X8_copy_5 {X : ev_E} {l : Launch} (hG : ev_Good X) (hl : l.stackTraces = false) : ev_Snd X l ev_ms x_X8_copy tx_X8_copy 5 (i_ifne 15 8) := s_ifne dX8_copy_5 rfl
theorem s_X8_copy_8 {X : ev_E} {l : Launch} (hG : ev_Good X) (hl : l.stackTraces = false) : ev_Snd X l ev_ms x_X8_copy tx_X8_copy 8 (i_il 2 9) := s_iload_n dX8_copy_8 rfl
theorem s_X8_copy_9 {X : ev_E} {l : Launch} (hG : ev_Good X) (hl : l.stackTraces = false) : ev_Snd X l ev_ms x_X8_copy tx_X8_copy 9 (i_cS 118 1 1 12) := s_invokestatic hG (mi := 118) (n := 1) (cal_X8_isNo (Nat.le_of_ble_eq_true rfl)) w_1284 w_1285 dX8_copy_9
theorem s_X8_copy_12 {X : ev_E} {l : Launch} (hG : ev_Good X) (hl : l.stackTraces = false) : ev_Snd X l ev_ms x_X8_copy tx_X8_copy 12 (i_ifeq 19 15) := s_ifeq dX8_copy_12 rfl
theorem s_X8_copy_15 {X : ev_E} {l : Launch} (hG : ev_Good X) (hl : l.stackTraces = false) : ev_Snd X l ev_ms x_X8_copy tx_X8_copy 15 (i_psh (.int (1)) 16) := s_iconst dX8_copy_15 rfl
theorem s_X8_copy_16 {X : ev_E} {l : Launch} (hG : ev_Good X) (hl : l.stackTraces = false) : ev_Snd X l ev_ms x_X8_copy tx_X8_copy 16 (i_goto 20) := s_goto dX8_copy_16 rfl
theorem s_X8_copy_19 {X : ev_E} {l : Launch} (hG : ev_Good X) (hl : l.stackTraces = false) : ev_Snd X l ev_ms x_X8_copy tx_X8_copy 19 (i_psh (.int (0)) 20) := s_iconst dX8_copy_19 rfl
theorem s_X8_copy_20 {X : ev_E} {l : Launch} (hG : ev_Good X) (hl : l.stackTraces = false) : ev_Snd X l ev_ms x_X8_copy tx_X8_copy 20 (i_psh (.int (0)) 21) := s_iconst dX8_copy_20 rfl
theorem s_X8_copy_21 {X : ev_E} {l : Launch} (hG : ev_Good X) (hl : l.stackTraces = false) : ev_Snd X l ev_ms x_X8_copy tx_X8_copy 21 (i_psh (.int (0)) 22) := s_iconst dX8_copy_21 rfl
theorem s_X8_copy_22 {X : ev_E} {l : Launch} (hG : ev_Good X) (hl : l.stackTraces = false) : ev_Snd X l ev_ms x_X8_copy tx_X8_copy 22 (i_cV X 63 3 13 4 25) := s_invokevirtual hG (mi := 63) (n := 3) (ci := 13) (r := (RX8, TX8, 5)) rfl (cal_X8_fails (Nat.le_of_ble_eq_true rfl)) w_1290 w_1292 w_22 dX8_copy_22
theorem s_X8_copy_25 {X : ev_E} {l : Launch} (hG : ev_Good X) (hl : l.stackTraces = false) : ev_Snd X l ev_ms x_X8_copy tx_X8_copy 25 (i_ifeq 30 28) := s_ifeq dX8_copy_25 rfl
theorem s_X8_copy_28 {X : ev_E} {l : Launch} (hG : ev_Good X) (hl : l.stackTraces = false) : ev_Snd X l ev_ms x_X8_copy tx_X8_copy 28 (i_psh (.int (0)) 29) := s_iconst dX8_copy_28 rfl
theorem s_X8_copy_29 {X : ev_E} {l : Launch} (hG : ev_Good X) (hl : l.stackTraces = false) : ev_Snd X l ev_ms x_X8_copy tx_X8_copy 29 (i_ir (.int)) := s_ireturn rfl dX8_copy_29
theorem s_X8_copy_30 {X : ev_E} {l : Launch} (hG : ev_Good X) (hl : l.stackTraces = false) : ev_Snd X l ev_ms x_X8_copy tx_X8_copy 30 (i_nw 4 3 [.int 0, .null, .int 0] 33) := s_new hG (ci := 4) (r := (RJx4a65c, TJx4a65c, 3)) rfl cw_4 tyJx4a65c tyJx4a65c_ok (fun j hj => nw_4 j hj) w_1258 rfl w_1193 rfl w_59 rfl dX8_copy_30
theorem s_X8_copy_33 {X : ev_E} {l : Launch} (hG : ev_Good X) (hl : l.stackTraces = false) : ev_Snd X l ev_ms x_X8_copy tx_X8_copy 33 (i_dup 34) := s_dup dX8_copy_33
theorem s_X8_copy_34 {X : ev_E} {l : Launch} (hG : ev_Good X) (hl : l.stackTraces = false) : ev_Snd X l ev_ms x_X8_copy tx_X8_copy 34 (i_cI 130 0 1 37) := s_invokeinit hG (mi := 130) (n := 0) (cal_Jx4a65c_init_da8c8 (Nat.le_of_ble_eq_true rfl)) rfl w_1259 w_1195 rfl (fun _ => rfl) dX8_copy_34
theorem s_X8_copy_37 {X : ev_E} {l : Launch} (hG : ev_Good X) (hl : l.stackTraces = false) : ev_Snd X l ev_ms x_X8_copy tx_X8_copy 37 (i_as 3 38) := s_astore_n dX8_copy_37 rfl (Nat.le_of_ble_eq_true rfl)
theorem s_X8_copy_38 {X : ev_E} {l : Launch} (hG : ev_Good X) (hl : l.stackTraces = false) : ev_Snd X l ev_ms x_X8_copy tx_X8_copy 38 (i_al 0 39) := s_aload_n dX8_copy_38 rfl
theorem s_X8_copy_39 {X : ev_E} {l : Launch} (hG : ev_Good X) (hl : l.stackTraces = false) : ev_Snd X l ev_ms x_X8_copy tx_X8_copy 39 (i_gf X 13 3 42) := s_getfield hG (ci := 13) (r := (RX8, TX8, 5)) rfl cw_13 (k := 3) (Nat.le_of_ble_eq_true rfl) w_1263 rfl (Or.inl rfl) dX8_copy_39
theorem s_X8_copy_42 {X : ev_E} {l : Launch} (hG : ev_Good X) (hl : l.stackTraces = false) : ev_Snd X l ev_ms x_X8_copy tx_X8_copy 42 (i_il 1 43) := s_iload_n dX8_copy_42 rfl
theorem s_X8_copy_43 {X : ev_E} {l : Launch} (hG : ev_Good X) (hl : l.stackTraces = false) : ev_Snd X l ev_ms x_X8_copy tx_X8_copy 43 (i_ald X FieldType.isReference 44) := s_aaload hG dX8_copy_43
theorem s_X8_copy_44 {X : ev_E} {l : Launch} (hG : ev_Good X) (hl : l.stackTraces = false) : ev_Snd X l ev_ms x_X8_copy tx_X8_copy 44 (i_gf X 12 0 47) := s_getfield hG (ci := 12) (r := (RX7, TX7, 9)) rfl cw_12 (k := 0) (Nat.le_of_ble_eq_true rfl) w_1222 rfl (Or.inl rfl) dX8_copy_44
theorem s_X8_copy_47 {X : ev_E} {l : Launch} (hG : ev_Good X) (hl : l.stackTraces = false) : ev_Snd X l ev_ms x_X8_copy tx_X8_copy 47 (i_cV X 87 0 4 1 50) := s_invokevirtual hG (mi := 87) (n := 0) (ci := 4) (r := (RJx4a65c, TJx4a65c, 3)) rfl (cal_Jx4a65c_iterator_32c93 (Nat.le_of_ble_eq_true rfl)) w_1434 w_1435 w_1436 dX8_copy_47
theorem s_X8_copy_50 {X : ev_E} {l : Launch} (hG : ev_Good X) (hl : l.stackTraces = false) : ev_Snd X l ev_ms x_X8_copy tx_X8_copy 50 (i_as 4 52) := s_astore dX8_copy_50 (Nat.le_of_ble_eq_true rfl)
theorem s_X8_copy_52 {X : ev_E} {l : Launch} (hG : ev_Good X) (hl : l.stackTraces = false) : ev_Snd X l ev_ms x_X8_copy tx_X8_copy 52 (i_al 4 54) := s_aload dX8_copy_52
theorem s_X8_copy_54 {X : ev_E} {l : Launch} (hG : ev_Good X) (hl : l.stackTraces = false) : ev_Snd X l ev_ms x_X8_copy tx_X8_copy 54 (i_cV X 19 0 3 1 59) := s_invokeif hG (mi := 19) (n := 0) (ci := 3) (r := (RJx35411, TJx35411, 4)) rfl (cal_Jx35411_hasNext_aae02 (Nat.le_of_ble_eq_true rfl)) (y := ⟨"java/util/Iterator", "hasNext", "()Z"⟩) w_1458 w_1460 w_1459 w_1462 w_1464 w_1465 w_1463 w_1461 (by decide +kernel) rfl (fun _ => rfl) dX8_copy_54
theorem s_X8_copy_59 {X : ev_E} {l : Launch} (hG : ev_Good X) (hl : l.stackTraces = false) : ev_Snd X l ev_ms x_X8_copy tx_X8_copy 59 (i_ifeq 99 62) := s_ifeq dX8_copy_59 rfl
theorem s_X8_copy_62 {X : ev_E} {l : Launch} (hG : ev_Good X) (hl : l.stackTraces = false) : ev_Snd X l ev_ms x_X8_copy tx_X8_copy 62 (i_al 4 64) := s_aload dX8_copy_62
theorem s_X8_copy_64 {X : ev_E} {l : Launch} (hG : ev_Good X) (hl : l.stackTraces = false) : ev_Snd X l ev_ms x_X8_copy tx_X8_copy 64 (i_cV X 86 0 3 3 69) := s_invokeif hG (mi := 86) (n := 0) (ci := 3) (r := (RJx35411, TJx35411, 4)) rfl (cal_Jx35411_next_0502b (Nat.le_of_ble_eq_true rfl)) (y := ⟨"java/util/Iterator", "next", "()Ljava/lang/Object;"⟩) w_1468 w_1470 w_1469 w_1471 w_1473 w_1474 w_1472 w_1461 (by decide +kernel) rfl (fun _ => rfl) dX8_copy_64
theorem s_X8_copy_69 {X : ev_E} {l : Launch} (hG : ev_Good X) (hl : l.stackTraces = false) : ev_Snd X l ev_ms x_X8_copy tx_X8_copy 69 (i_cca 0 72) := s_castA hG (kd := 0) (Nat.le_of_ble_eq_true rfl) (by decide +kernel) w_1329 dX8_copy_69
theorem s_X8_copy_72 {X : ev_E} {l : Launch} (hG : ev_Good X) (hl : l.stackTraces = false) : ev_Snd X l ev_ms x_X8_copy tx_X8_copy 72 (i_as 5 74) := s_astore dX8_copy_72 (Nat.le_of_ble_eq_true rfl)
theorem s_X8_copy_74 {X : ev_E} {l : Launch} (hG : ev_Good X) (hl : l.stackTraces = false) : ev_Snd X l ev_ms x_X8_copy tx_X8_copy 74 (i_al 3 75) := s_aload_n dX8_copy_74 rfl
theorem s_X8_copy_75 {X : ev_E} {l : Launch} (hG : ev_Good X) (hl : l.stackTraces = false) : ev_Snd X l ev_ms x_X8_copy tx_X8_copy 75 (i_psh (.int (2)) 76) := s_iconst dX8_copy_75 rfl
theorem s_X8_copy_76 {X : ev_E} {l : Launch} (hG : ev_Good X) (hl : l.stackTraces = false) : ev_Snd X l ev_ms x_X8_copy tx_X8_copy 76 (i_na 0 (.int 0) 78) := s_newarray hG (kd := 0) (at' := .int) (Nat.le_of_ble_eq_true rfl) rfl (by decide) rfl dX8_copy_76 w_120
theorem s_X8_copy_78 {X : ev_E} {l : Launch} (hG : ev_Good X) (hl : l.stackTraces = false) : ev_Snd X l ev_ms x_X8_copy tx_X8_copy 78 (i_dup 79) := s_dup dX8_copy_78
theorem s_X8_copy_79 {X : ev_E} {l : Launch} (hG : ev_Good X) (hl : l.stackTraces = false) : ev_Snd X l ev_ms x_X8_copy tx_X8_copy 79 (i_psh (.int (0)) 80) := s_iconst dX8_copy_79 rfl
theorem s_X8_copy_80 {X : ev_E} {l : Launch} (hG : ev_Good X) (hl : l.stackTraces = false) : ev_Snd X l ev_ms x_X8_copy tx_X8_copy 80 (i_al 5 82) := s_aload dX8_copy_80
theorem s_X8_copy_82 {X : ev_E} {l : Launch} (hG : ev_Good X) (hl : l.stackTraces = false) : ev_Snd X l ev_ms x_X8_copy tx_X8_copy 82 (i_psh (.int (0)) 83) := s_iconst dX8_copy_82 rfl
theorem s_X8_copy_83 {X : ev_E} {l : Launch} (hG : ev_Good X) (hl : l.stackTraces = false) : ev_Snd X l ev_ms x_X8_copy tx_X8_copy 83 (i_ald X ev_tI 84) := s_iaload hG dX8_copy_83
theorem s_X8_copy_84 {X : ev_E} {l : Launch} (hG : ev_Good X) (hl : l.stackTraces = false) : ev_Snd X l ev_ms x_X8_copy tx_X8_copy 84 (i_ast ev_tI (fun v => v) 85) := s_iastore hG dX8_copy_84
theorem s_X8_copy_85 {X : ev_E} {l : Launch} (hG : ev_Good X) (hl : l.stackTraces = false) : ev_Snd X l ev_ms x_X8_copy tx_X8_copy 85 (i_dup 86) := s_dup dX8_copy_85
theorem s_X8_copy_86 {X : ev_E} {l : Launch} (hG : ev_Good X) (hl : l.stackTraces = false) : ev_Snd X l ev_ms x_X8_copy tx_X8_copy 86 (i_psh (.int (1)) 87) := s_iconst dX8_copy_86 rfl
theorem s_X8_copy_87 {X : ev_E} {l : Launch} (hG : ev_Good X) (hl : l.stackTraces = false) : ev_Snd X l ev_ms x_X8_copy tx_X8_copy 87 (i_al 5 89) := s_aload dX8_copy_87
theorem s_X8_copy_89 {X : ev_E} {l : Launch} (hG : ev_Good X) (hl : l.stackTraces = false) : ev_Snd X l ev_ms x_X8_copy tx_X8_copy 89 (i_psh (.int (1)) 90) := s_iconst dX8_copy_89 rfl
theorem s_X8_copy_90 {X : ev_E} {l : Launch} (hG : ev_Good X) (hl : l.stackTraces = false) : ev_Snd X l ev_ms x_X8_copy tx_X8_copy 90 (i_ald X ev_tI 91) := s_iaload hG dX8_copy_90
theorem s_X8_copy_91 {X : ev_E} {l : Launch} (hG : ev_Good X) (hl : l.stackTraces = false) : ev_Snd X l ev_ms x_X8_copy tx_X8_copy 91 (i_ast ev_tI (fun v => v) 92) := s_iastore hG dX8_copy_91
theorem s_X8_copy_92 {X : ev_E} {l : Launch} (hG : ev_Good X) (hl : l.stackTraces = false) : ev_Snd X l ev_ms x_X8_copy tx_X8_copy 92 (i_cV X 262 1 4 2 95) := s_invokevirtual hG (mi := 262) (n := 1) (ci := 4) (r := (RJx4a65c, TJx4a65c, 3)) rfl (cal_Jx4a65c_add_9ea2d (Nat.le_of_ble_eq_true rfl)) w_1392 w_1344 w_1345 dX8_copy_92
theorem s_X8_copy_95 {X : ev_E} {l : Launch} (hG : ev_Good X) (hl : l.stackTraces = false) : ev_Snd X l ev_ms x_X8_copy tx_X8_copy 95 (i_pop 96) := s_pop dX8_copy_95
theorem s_X8_copy_96 {X : ev_E} {l : Launch} (hG : ev_Good X) (hl : l.stackTraces = false) : ev_Snd X l ev_ms x_X8_copy tx_X8_copy 96 (i_goto 52) := s_goto dX8_copy_96 rfl
theorem s_X8_copy_99 {X : ev_E} {l : Launch} (hG : ev_Good X) (hl : l.stackTraces = false) : ev_Snd X l ev_ms x_X8_copy tx_X8_copy 99 (i_al 0 100) := s_aload_n dX8_copy_99 rfl
theorem s_X8_copy_100 {X : ev_E} {l : Launch} (hG : ev_Good X) (hl : l.stackTraces = false) : ev_Snd X l ev_ms x_X8_copy tx_X8_copy 100 (i_gf X 13 3 103) := s_getfield hG (ci := 13) (r := (RX8, TX8, 5)) rfl cw_13 (k := 3) (Nat.le_of_ble_eq_true rfl) w_1263 rfl (Or.inl rfl) dX8_copy_100
theorem s_X8_copy_103 {X : ev_E} {l : Launch} (hG : ev_Good X) (hl : l.stackTraces = false) : ev_Snd X l ev_ms x_X8_copy tx_X8_copy 103 (i_il 2 104) := s_iload_n dX8_copy_103 rfl
theorem s_X8_copy_104 {X : ev_E} {l : Launch} (hG : ev_Good X) (hl : l.stackTraces = false) : ev_Snd X l ev_ms x_X8_copy tx_X8_copy 104 (i_ald X FieldType.isReference 105) := s_aaload hG dX8_copy_104
theorem s_X8_copy_105 {X : ev_E} {l : Launch} (hG : ev_Good X) (hl : l.stackTraces = false) : ev_Snd X l ev_ms x_X8_copy tx_X8_copy 105 (i_as 4 107) := s_astore dX8_copy_105 (Nat.le_of_ble_eq_true rfl)
theorem s_X8_copy_107 {X : ev_E} {l : Launch} (hG : ev_Good X) (hl : l.stackTraces = false) : ev_Snd X l ev_ms x_X8_copy tx_X8_copy 107 (i_al 4 109) := s_aload dX8_copy_107
theorem s_X8_copy_109 {X : ev_E} {l : Launch} (hG : ev_Good X) (hl : l.stackTraces = false) : ev_Snd X l ev_ms x_X8_copy tx_X8_copy 109 (i_gf X 12 0 112) := s_getfield hG (ci := 12) (r := (RX7, TX7, 9)) rfl cw_12 (k := 0) (Nat.le_of_ble_eq_true rfl) w_1222 rfl (Or.inl rfl) dX8_copy_109
theorem s_X8_copy_112 {X : ev_E} {l : Launch} (hG : ev_Good X) (hl : l.stackTraces = false) : ev_Snd X l ev_ms x_X8_copy tx_X8_copy 112 (i_cV X 21 0 4 4 115) := s_invokevirtual hG (mi := 21) (n := 0) (ci := 4) (r := (RJx4a65c, TJx4a65c, 3)) rfl (cal_Jx4a65c_clear_da8c8 (Nat.le_of_ble_eq_true rfl)) w_1298 w_1299 w_1300 dX8_copy_112
theorem s_X8_copy_115 {X : ev_E} {l : Launch} (hG : ev_Good X) (hl : l.stackTraces = false) : ev_Snd X l ev_ms x_X8_copy tx_X8_copy 115 (i_al 3 116) := s_aload_n dX8_copy_115 rfl
theorem s_X8_copy_116 {X : ev_E} {l : Launch} (hG : ev_Good X) (hl : l.stackTraces = false) : ev_Snd X l ev_ms x_X8_copy tx_X8_copy 116 (i_cV X 87 0 4 1 119) := s_invokevirtual hG (mi := 87) (n := 0) (ci := 4) (r := (RJx4a65c, TJx4a65c, 3)) rfl (cal_Jx4a65c_iterator_32c93 (Nat.le_of_ble_eq_true rfl)) w_1434 w_1435 w_1436 dX8_copy_116
theorem s_X8_copy_119 {X : ev_E} {l : Launch} (hG : ev_Good X) (hl : l.stackTraces = false) : ev_Snd X l ev_ms x_X8_copy tx_X8_copy 119 (i_as 5 121) := s_astore dX8_copy_119 (Nat.le_of_ble_eq_true rfl)
theorem s_X8_copy_121 {X : ev_E} {l : Launch} (hG : ev_Good X) (hl : l.stackTraces = false) : ev_Snd X l ev_ms x_X8_copy tx_X8_copy 121 (i_al 5 123) := s_aload dX8_copy_121
theorem s_X8_copy_123 {X : ev_E} {l : Launch} (hG : ev_Good X) (hl : l.stackTraces = false) : ev_Snd X l ev_ms x_X8_copy tx_X8_copy 123 (i_cV X 19 0 3 1 128) := s_invokeif hG (mi := 19) (n := 0) (ci := 3) (r := (RJx35411, TJx35411, 4)) rfl (cal_Jx35411_hasNext_aae02 (Nat.le_of_ble_eq_true rfl)) (y := ⟨"java/util/Iterator", "hasNext", "()Z"⟩) w_1458 w_1460 w_1459 w_1462 w_1464 w_1465 w_1463 w_1461 (by decide +kernel) rfl (fun _ => rfl) dX8_copy_123
theorem s_X8_copy_128 {X : ev_E} {l : Launch} (hG : ev_Good X) (hl : l.stackTraces = false) : ev_Snd X l ev_ms x_X8_copy tx_X8_copy 128 (i_ifeq 157 131) := s_ifeq dX8_copy_128 rfl
theorem s_X8_copy_131 {X : ev_E} {l : Launch} (hG : ev_Good X) (hl : l.stackTraces = false) : ev_Snd X l ev_ms x_X8_copy tx_X8_copy 131 (i_al 5 133) := s_aload dX8_copy_131
theorem s_X8_copy_133 {X : ev_E} {l : Launch} (hG : ev_Good X) (hl : l.stackTraces = false) : ev_Snd X l ev_ms x_X8_copy tx_X8_copy 133 (i_cV X 86 0 3 3 138) := s_invokeif hG (mi := 86) (n := 0) (ci := 3) (r := (RJx35411, TJx35411, 4)) rfl (cal_Jx35411_next_0502b (Nat.le_of_ble_eq_true rfl)) (y := ⟨"java/util/Iterator", "next", "()Ljava/lang/Object;"⟩) w_1468 w_1470 w_1469 w_1471 w_1473 w_1474 w_1472 w_1461 (by decide +kernel) rfl (fun _ => rfl) dX8_copy_133
theorem s_X8_copy_138 {X : ev_E} {l : Launch} (hG : ev_Good X) (hl : l.stackTraces = false) : ev_Snd X l ev_ms x_X8_copy tx_X8_copy 138 (i_cca 0 141) := s_castA hG (kd := 0) (Nat.le_of_ble_eq_true rfl) (by decide +kernel) w_1329 dX8_copy_138
theorem s_X8_copy_141 {X : ev_E} {l : Launch} (hG : ev_Good X) (hl : l.stackTraces = false) : ev_Snd X l ev_ms x_X8_copy tx_X8_copy 141 (i_as 6 143) := s_astore dX8_copy_141 (Nat.le_of_ble_eq_true rfl)
theorem s_X8_copy_143 {X : ev_E} {l : Launch} (hG : ev_Good X) (hl : l.stackTraces = false) : ev_Snd X l ev_ms x_X8_copy tx_X8_copy 143 (i_al 4 145) := s_aload dX8_copy_143
theorem s_X8_copy_145 {X : ev_E} {l : Launch} (hG : ev_Good X) (hl : l.stackTraces = false) : ev_Snd X l ev_ms x_X8_copy tx_X8_copy 145 (i_gf X 12 0 148) := s_getfield hG (ci := 12) (r := (RX7, TX7, 9)) rfl cw_12 (k := 0) (Nat.le_of_ble_eq_true rfl) w_1222 rfl (Or.inl rfl) dX8_copy_145
theorem s_X8_copy_148 {X : ev_E} {l : Launch} (hG : ev_Good X) (hl : l.stackTraces = false) : ev_Snd X l ev_ms x_X8_copy tx_X8_copy 148 (i_al 6 150) := s_aload dX8_copy_148
theorem s_X8_copy_150 {X : ev_E} {l : Launch} (hG : ev_Good X) (hl : l.stackTraces = false) : ev_Snd X l ev_ms x_X8_copy tx_X8_copy 150 (i_cV X 262 1 4 2 153) := s_invokevirtual hG (mi := 262) (n := 1) (ci := 4) (r := (RJx4a65c, TJx4a65c, 3)) rfl (cal_Jx4a65c_add_9ea2d (Nat.le_of_ble_eq_true rfl)) w_1392 w_1344 w_1345 dX8_copy_150
theorem s_X8_copy_153 {X : ev_E} {l : Launch} (hG : ev_Good X) (hl : l.stackTraces = false) : ev_Snd X l ev_ms x_X8_copy tx_X8_copy 153 (i_pop 154) := s_pop dX8_copy_153
theorem s_X8_copy_154 {X : ev_E} {l : Launch} (hG : ev_Good X) (hl : l.stackTraces = false) : ev_Snd X l ev_ms x_X8_copy tx_X8_copy 154 (i_goto 121) := s_goto dX8_copy_154 rfl
theorem s_X8_copy_157 {X : ev_E} {l : Launch} (hG : ev_Good X) (hl : l.stackTraces = false) : ev_Snd X l ev_ms x_X8_copy tx_X8_copy 157 (i_al 4 159) := s_aload dX8_copy_157
theorem s_X8_copy_159 {X : ev_E} {l : Launch} (hG : ev_Good X) (hl : l.stackTraces = false) : ev_Snd X l ev_ms x_X8_copy tx_X8_copy 159 (i_psh (.int (0)) 160) := s_iconst dX8_copy_159 rfl
theorem s_X8_copy_160 {X : ev_E} {l : Launch} (hG : ev_Good X) (hl : l.stackTraces = false) : ev_Snd X l ev_ms x_X8_copy tx_X8_copy 160 (i_psh (.int (-1)) 161) := s_iconst dX8_copy_160 rfl
theorem s_X8_copy_161 {X : ev_E} {l : Launch} (hG : ev_Good X) (hl : l.stackTraces = false) : ev_Snd X l ev_ms x_X8_copy tx_X8_copy 161 (i_cV X 61 2 12 3 164) := s_invokevirtual hG (mi := 61) (n := 2) (ci := 12) (r := (RX7, TX7, 9)) rfl (cal_X7_anew (Nat.le_of_ble_eq_true rfl)) w_1302 w_1303 w_1304 dX8_copy_161
theorem s_X8_copy_164 {X : ev_E} {l : Launch} (hG : ev_Good X) (hl : l.stackTraces = false) : ev_Snd X l ev_ms x_X8_copy tx_X8_copy 164 (i_al 4 166) := s_aload dX8_copy_164
theorem s_X8_copy_166 {X : ev_E} {l : Launch} (hG : ev_Good X) (hl : l.stackTraces = false) : ev_Snd X l ev_ms x_X8_copy tx_X8_copy 166 (i_psh (.int (1)) 167) := s_iconst dX8_copy_166 rfl
theorem s_X8_copy_167 {X : ev_E} {l : Launch} (hG : ev_Good X) (hl : l.stackTraces = false) : ev_Snd X l ev_ms x_X8_copy tx_X8_copy 167 (i_pf 12 8 (.boolean) 170) := s_putfield hG (ci := 12) (r := (RX7, TX7, 9)) rfl cw_12 ap_12 (k := 8) (Nat.le_of_ble_eq_true rfl) rfl (by decide +kernel) w_1238 rfl (Or.inl rfl) dX8_copy_167
theorem s_X8_copy_170 {X : ev_E} {l : Launch} (hG : ev_Good X) (hl : l.stackTraces = false) : ev_Snd X l ev_ms x_X8_copy tx_X8_copy 170 (i_al 3 171) := s_aload_n dX8_copy_170 rfl
theorem s_X8_copy_171 {X : ev_E} {l : Launch} (hG : ev_Good X) (hl : l.stackTraces = false) : ev_Snd X l ev_ms x_X8_copy tx_X8_copy 171 (i_cV X 24 0 4 1 174) := s_invokevirtual hG (mi := 24) (n := 0) (ci := 4) (r := (RJx4a65c, TJx4a65c, 3)) rfl (cal_Jx4a65c_size_8abf5 (Nat.le_of_ble_eq_true rfl)) w_1294 w_1295 w_1296 dX8_copy_171
theorem s_X8_copy_174 {X : ev_E} {l : Launch} (hG : ev_Good X) (hl : l.stackTraces = false) : ev_Snd X l ev_ms x_X8_copy tx_X8_copy 174 (i_ir (.int)) := s_ireturn rfl dX8_copy_174
theorem sa_X8_copy_c0 {X : ev_E} {l : Launch} (hG : ev_Good X) (hl : l.stackTraces = false) : ∀ q ∈ tb_X8_copy_c0 X, ev_Snd X l ev_ms x_X8_copy tx_X8_copy q.1 q.2 := by
  intro q hq
  unfold tb_X8_copy_c0 at hq
  simp only [List.mem_cons, List.not_mem_nil, or_false] at hq
  rcases hq with rfl | rfl | rfl | rfl | rfl | rfl | rfl | rfl | rfl | rfl | rfl | rfl | rfl | rfl | rfl | rfl | rfl | rfl | rfl | rfl | rfl | rfl | rfl | rfl | rfl | rfl | rfl | rfl | rfl | rfl | rfl | rfl | rfl | rfl | rfl | rfl | rfl | rfl | rfl | rfl | rfl | rfl | rfl | rfl | rfl | rfl | rfl | rfl | rfl | rfl | rfl | rfl | rfl | rfl | rfl | rfl | rfl | rfl | rfl | rfl
  · exact s_X8_copy_0 hG hl
  · exact s_X8_copy_1 hG hl
  · exact s_X8_copy_2 hG hl
  · exact s_X8_copy_5 hG hl
  · exact s_X8_copy_8 hG hl
  · exact s_X8_copy_9 hG hl
  · exact s_X8_copy_12 hG hl
  · exact s_X8_copy_15 hG hl
  · exact s_X8_copy_16 hG hl
  · exact s_X8_copy_19 hG hl
  · exact s_X8_copy_20 hG hl
  · exact s_X8_copy_21 hG hl
  · exact s_X8_copy_22 hG hl
  · exact s_X8_copy_25 hG hl
  · exact s_X8_copy_28 hG hl
  · exact s_X8_copy_29 hG hl
  · exact s_X8_copy_30 hG hl
  · exact s_X8_copy_33 hG hl
  · exact s_X8_copy_34 hG hl
  · exact s_X8_copy_37 hG hl
  · exact s_X8_copy_38 hG hl
  · exact s_X8_copy_39 hG hl
  · exact s_X8_copy_42 hG hl
  · exact s_X8_copy_43 hG hl
  · exact s_X8_copy_44 hG hl
  · exact s_X8_copy_47 hG hl
  · exact s_X8_copy_50 hG hl
  · exact s_X8_copy_52 hG hl
  · exact s_X8_copy_54 hG hl
  · exact s_X8_copy_59 hG hl
  · exact s_X8_copy_62 hG hl
  · exact s_X8_copy_64 hG hl
  · exact s_X8_copy_69 hG hl
  · exact s_X8_copy_72 hG hl
  · exact s_X8_copy_74 hG hl
  · exact s_X8_copy_75 hG hl
  · exact s_X8_copy_76 hG hl
  · exact s_X8_copy_78 hG hl
  · exact s_X8_copy_79 hG hl
  · exact s_X8_copy_80 hG hl
  · exact s_X8_copy_82 hG hl
  · exact s_X8_copy_83 hG hl
  · exact s_X8_copy_84 hG hl
  · exact s_X8_copy_85 hG hl
  · exact s_X8_copy_86 hG hl
  · exact s_X8_copy_87 hG hl
  · exact s_X8_copy_89 hG hl
  · exact s_X8_copy_90 hG hl
  · exact s_X8_copy_91 hG hl
  · exact s_X8_copy_92 hG hl
  · exact s_X8_copy_95 hG hl
  · exact s_X8_copy_96 hG hl
  · exact s_X8_copy_99 hG hl
  · exact s_X8_copy_100 hG hl
  · exact s_X8_copy_103 hG hl
  · exact s_X8_copy_104 hG hl
  · exact s_X8_copy_105 hG hl
  · exact s_X8_copy_107 hG hl
  · exact s_X8_copy_109 hG hl
  · exact s_X8_copy_112 hG hl
theorem sa_X8_copy_c1 {X : ev_E} {l : Launch} (hG : ev_Good X) (hl : l.stackTraces = false) : ∀ q ∈ tb_X8_copy_c1 X, ev_Snd X l ev_ms x_X8_copy tx_X8_copy q.1 q.2 := by
  intro q hq
  unfold tb_X8_copy_c1 at hq
  simp only [List.mem_cons, List.not_mem_nil, or_false] at hq
  rcases hq with rfl | rfl | rfl | rfl | rfl | rfl | rfl | rfl | rfl | rfl | rfl | rfl | rfl | rfl | rfl | rfl | rfl | rfl | rfl | rfl | rfl | rfl | rfl | rfl | rfl | rfl
  · exact s_X8_copy_115 hG hl
  · exact s_X8_copy_116 hG hl
  · exact s_X8_copy_119 hG hl
  · exact s_X8_copy_121 hG hl
  · exact s_X8_copy_123 hG hl
  · exact s_X8_copy_128 hG hl
  · exact s_X8_copy_131 hG hl
  · exact s_X8_copy_133 hG hl
  · exact s_X8_copy_138 hG hl
  · exact s_X8_copy_141 hG hl
  · exact s_X8_copy_143 hG hl
  · exact s_X8_copy_145 hG hl
  · exact s_X8_copy_148 hG hl
  · exact s_X8_copy_150 hG hl
  · exact s_X8_copy_153 hG hl
  · exact s_X8_copy_154 hG hl
  · exact s_X8_copy_157 hG hl
  · exact s_X8_copy_159 hG hl
  · exact s_X8_copy_160 hG hl
  · exact s_X8_copy_161 hG hl
  · exact s_X8_copy_164 hG hl
  · exact s_X8_copy_166 hG hl
  · exact s_X8_copy_167 hG hl
  · exact s_X8_copy_170 hG hl
  · exact s_X8_copy_171 hG hl
  · exact s_X8_copy_174 hG hl
theorem sa_X8_copy {X : ev_E} {l : Launch} (hG : ev_Good X) (hl : l.stackTraces = false) : ∀ q ∈ tb_X8_copy X, ev_Snd X l ev_ms x_X8_copy tx_X8_copy q.1 q.2 := List.forall_mem_append.mpr ⟨sa_X8_copy_c0 hG hl, sa_X8_copy_c1 hG hl⟩
def tx_X8_keeps : ev_X := fun _ _ => some none
noncomputable def tb_X8_keeps (X : ev_E) : List (Nat × (ev_S → ev_N)) := [(0, i_al 0 1), (1, i_il 1 2), (2, i_cS 119 1 1 5), (5, i_ifne 17 8), (8, i_il 2 9), (9, i_psh (.int (20)) 11), (11, i_cS 65 2 2 14), (14, i_ifeq 21 17), (17, i_psh (.int (1)) 18), (18, i_goto 22), (21, i_psh (.int (0)) 22), (22, i_psh (.int (0)) 23), (23, i_psh (.int (0)) 24), (24, i_cV X 63 3 13 4 27), (27, i_ifne 43 30), (30, i_al 0 31), (31, i_il 1 32), (32, i_il 2 33), (33, i_cV X 270 2 13 4 36), (36, i_ifeq 43 39), (39, i_psh (.int (1)) 40), (40, i_goto 44), (43, i_psh (.int (0)) 44), (44, i_ir (.boolean))]
theorem s_X8_keeps_0 {X : ev_E} {l : Launch} (hG : ev_Good X) (hl : l.stackTraces = false) : ev_Snd X l ev_ms x_X8_keeps tx_X8_keeps 0 (i_al 0 1) := s_aload_n dX8_keeps_0 rfl
theorem s_X8_keeps_1 {X : ev_E} {l : Launch} (hG : ev_Good X) (hl : l.stackTraces = false) : ev_Snd X l ev_ms x_X8_keeps tx_X8_keeps 1 (i_il 1 2) := s_iload_n dX8_keeps_1 rfl
theorem s_X8_keeps_2 {X : ev_E} {l : Launch} (hG : ev_Good X) (hl : l.stackTraces = false) : ev_Snd X l ev_ms x_X8_keeps tx_X8_keeps 2 (i_cS 119 1 1 5) := s_invokestatic hG (mi := 119) (n := 1) (cal_X8_isNoSize (Nat.le_of_ble_eq_true rfl)) w_1670 w_1671 dX8_keeps_2
theorem s_X8_keeps_5 {X : ev_E} {l : Launch} (hG : ev_Good X) (hl : l.stackTraces = false) : ev_Snd X l ev_ms x_X8_keeps tx_X8_keeps 5 (i_ifne 17 8) := s_ifne dX8_keeps_5 rfl
theorem s_X8_keeps_8 {X : ev_E} {l : Launch} (hG : ev_Good X) (hl : l.stackTraces = false) : ev_Snd X l ev_ms x_X8_keeps tx_X8_keeps 8 (i_il 2 9) := s_iload_n dX8_keeps_8 rfl
theorem s_X8_keeps_9 {X : ev_E} {l : Launch} (hG : ev_Good X) (hl : l.stackTraces = false) : ev_Snd X l ev_ms x_X8_keeps tx_X8_keeps 9 (i_psh (.int (20)) 11) := s_bipush dX8_keeps_9 rfl
theorem s_X8_keeps_11 {X : ev_E} {l : Launch} (hG : ev_Good X) (hl : l.stackTraces = false) : ev_Snd X l ev_ms x_X8_keeps tx_X8_keeps 11 (i_cS 65 2 2 14) := s_invokestatic hG (mi := 65) (n := 2) (cal_X8_isOut (Nat.le_of_ble_eq_true rfl)) w_1287 w_1288 dX8_keeps_11
theorem s_X8_keeps_14 {X : ev_E} {l : Launch} (hG : ev_Good X) (hl : l.stackTraces = false) : ev_Snd X l ev_ms x_X8_keeps tx_X8_keeps 14 (i_ifeq 21 17) := s_ifeq dX8_keeps_14 rfl
theorem s_X8_keeps_17 {X : ev_E} {l : Launch} (hG : ev_Good X) (hl : l.stackTraces = false) : ev_Snd X l ev_ms x_X8_keeps tx_X8_keeps 17 (i_psh (.int (1)) 18) := s_iconst dX8_keeps_17 rfl
theorem s_X8_keeps_18 {X : ev_E} {l : Launch} (hG : ev_Good X) (hl : l.stackTraces = false) : ev_Snd X l ev_ms x_X8_keeps tx_X8_keeps 18 (i_goto 22) := s_goto dX8_keeps_18 rfl
theorem s_X8_keeps_21 {X : ev_E} {l : Launch} (hG : ev_Good X) (hl : l.stackTraces = false) : ev_Snd X l ev_ms x_X8_keeps tx_X8_keeps 21 (i_psh (.int (0)) 22) := s_iconst dX8_keeps_21 rfl
theorem s_X8_keeps_22 {X : ev_E} {l : Launch} (hG : ev_Good X) (hl : l.stackTraces = false) : ev_Snd X l ev_ms x_X8_keeps tx_X8_keeps 22 (i_psh (.int (0)) 23) := s_iconst dX8_keeps_22 rfl
theorem s_X8_keeps_23 {X : ev_E} {l : Launch} (hG : ev_Good X) (hl : l.stackTraces = false) : ev_Snd X l ev_ms x_X8_keeps tx_X8_keeps 23 (i_psh (.int (0)) 24) := s_iconst dX8_keeps_23 rfl
theorem s_X8_keeps_24 {X : ev_E} {l : Launch} (hG : ev_Good X) (hl : l.stackTraces = false) : ev_Snd X l ev_ms x_X8_keeps tx_X8_keeps 24 (i_cV X 63 3 13 4 27) := s_invokevirtual hG (mi := 63) (n := 3) (ci := 13) (r := (RX8, TX8, 5)) rfl (cal_X8_fails (Nat.le_of_ble_eq_true rfl)) w_1290 w_1292 w_22 dX8_keeps_24
theorem s_X8_keeps_27 {X : ev_E} {l : Launch} (hG : ev_Good X) (hl : l.stackTraces = false) : ev_Snd X l ev_ms x_X8_keeps tx_X8_keeps 27 (i_ifne 43 30) := s_ifne dX8_keeps_27 rfl
theorem s_X8_keeps_30 {X : ev_E} {l : Launch} (hG : ev_Good X) (hl : l.stackTraces = false) : ev_Snd X l ev_ms x_X8_keeps tx_X8_keeps 30 (i_al 0 31) := s_aload_n dX8_keeps_30 rfl
theorem s_X8_keeps_31 {X : ev_E} {l : Launch} (hG : ev_Good X) (hl : l.stackTraces = false) : ev_Snd X l ev_ms x_X8_keeps tx_X8_keeps 31 (i_il 1 32) := s_iload_n dX8_keeps_31 rfl
theorem s_X8_keeps_32 {X : ev_E} {l : Launch} (hG : ev_Good X) (hl : l.stackTraces = false) : ev_Snd X l ev_ms x_X8_keeps tx_X8_keeps 32 (i_il 2 33) := s_iload_n dX8_keeps_32 rfl
theorem s_X8_keeps_33 {X : ev_E} {l : Launch} (hG : ev_Good X) (hl : l.stackTraces = false) : ev_Snd X l ev_ms x_X8_keeps tx_X8_keeps 33 (i_cV X 270 2 13 4 36) := s_invokevirtual hG (mi := 270) (n := 2) (ci := 13) (r := (RX8, TX8, 5)) rfl (cal_X8_isKept (Nat.le_of_ble_eq_true rfl)) w_1677 w_1679 w_40 dX8_keeps_33
theorem s_X8_keeps_36 {X : ev_E} {l : Launch} (hG : ev_Good X) (hl : l.stackTraces = false) : ev_Snd X l ev_ms x_X8_keeps tx_X8_keeps 36 (i_ifeq 43 39) := s_ifeq dX8_keeps_36 rfl
theorem s_X8_keeps_39 {X : ev_E} {l : Launch} (hG : ev_Good X) (hl : l.stackTraces = false) : ev_Snd X l ev_ms x_X8_keeps tx_X8_keeps 39 (i_psh (.int (1)) 40) := s_iconst dX8_keeps_39 rfl
theorem s_X8_keeps_40 {X : ev_E} {l : Launch} (hG : ev_Good X) (hl : l.stackTraces = false) : ev_Snd X l ev_ms x_X8_keeps tx_X8_keeps 40 (i_goto 44) := s_goto dX8_keeps_40 rfl
theorem s_X8_keeps_43 {X : ev_E} {l : Launch} (hG : ev_Good X) (hl : l.stackTraces = false) : ev_Snd X l ev_ms x_X8_keeps tx_X8_keeps 43 (i_psh (.int (0)) 44) := s_iconst dX8_keeps_43 rfl
theorem s_X8_keeps_44 {X : ev_E} {l : Launch} (hG : ev_Good X) (hl : l.stackTraces = false) : ev_Snd X l ev_ms x_X8_keeps tx_X8_keeps 44 (i_ir (.boolean)) := s_ireturn rfl dX8_keeps_44
theorem sa_X8_keeps {X : ev_E} {l : Launch} (hG : ev_Good X) (hl : l.stackTraces = false) : ∀ q ∈ tb_X8_keeps X, ev_Snd X l ev_ms x_X8_keeps tx_X8_keeps q.1 q.2 := by
  intro q hq
  unfold tb_X8_keeps at hq
  simp only [List.mem_cons, List.not_mem_nil, or_false] at hq
  rcases hq with rfl | rfl | rfl | rfl | rfl | rfl | rfl | rfl | rfl | rfl | rfl | rfl | rfl | rfl | rfl | rfl | rfl | rfl | rfl | rfl | rfl | rfl | rfl | rfl
  · exact s_X8_keeps_0 hG hl
  · exact s_X8_keeps_1 hG hl
  · exact s_X8_keeps_2 hG hl
  · exact s_X8_keeps_5 hG hl
  · exact s_X8_keeps_8 hG hl
  · exact s_X8_keeps_9 hG hl
  · exact s_X8_keeps_11 hG hl
  · exact s_X8_keeps_14 hG hl
  · exact s_X8_keeps_17 hG hl
  · exact s_X8_keeps_18 hG hl
  · exact s_X8_keeps_21 hG hl
  · exact s_X8_keeps_22 hG hl
  · exact s_X8_keeps_23 hG hl
  · exact s_X8_keeps_24 hG hl
  · exact s_X8_keeps_27 hG hl
  · exact s_X8_keeps_30 hG hl
  · exact s_X8_keeps_31 hG hl
  · exact s_X8_keeps_32 hG hl
  · exact s_X8_keeps_33 hG hl
  · exact s_X8_keeps_36 hG hl
  · exact s_X8_keeps_39 hG hl
  · exact s_X8_keeps_40 hG hl
  · exact s_X8_keeps_43 hG hl
  · exact s_X8_keeps_44 hG hl
def tx_X8_lostNow : ev_X := fun _ _ => some none
noncomputable def tb_X8_lostNow (X : ev_E) : List (Nat × (ev_S → ev_N)) := [(0, i_al 0 1), (1, i_gf X 13 4 4), (4, i_cV X 24 0 4 1 7), (7, i_psh (.int (1)) 8), (8, i_ii (fun a b => a - b) 9), (9, i_is 2 10), (10, i_il 2 11), (11, i_iflt 46 14), (14, i_al 0 15), (15, i_il 1 16), (16, i_il 2 17), (17, i_cV X 269 2 13 4 20), (20, i_ifne 40 23), (23, i_al 0 24), (24, i_il 1 25), (25, i_il 2 26), (26, i_cV X 271 2 13 4 29), (29, i_psh (.int (-1)) 30), (30, i_iceq 40 33), (33, i_al 0 34), (34, i_il 1 35), (35, i_il 2 36), (36, i_cV X 271 2 13 4 39), (39, i_ir (.int)), (40, i_inc 2 (-1) 43), (43, i_goto 10), (46, i_psh (.int (-1)) 47), (47, i_ir (.int))]
theorem s_X8_lostNow_0 {X : ev_E} {l : Launch} (hG : ev_Good X) (hl : l.stackTraces = false) : ev_Snd X l ev_ms x_X8_lostNow tx_X8_lostNow 0 (i_al 0 1) := s_aload_n dX8_lostNow_0 rfl
theorem s_X8_lostNow_1 {X : ev_E} {l : Launch} (hG : ev_Good X) (hl : l.stackTraces = false) : ev_Snd X l ev_ms x_X8_lostNow tx_X8_lostNow 1 (i_gf X 13 4 4) := s_getfield hG (ci := 13) (r := (RX8, TX8, 5)) rfl cw_13 (k := 4) (Nat.le_of_ble_eq_true rfl) w_1264 rfl (Or.inl rfl) dX8_lostNow_1
theorem s_X8_lostNow_4 {X : ev_E} {l : Launch} (hG : ev_Good X) (hl : l.stackTraces = false) : ev_Snd X l ev_ms x_X8_lostNow tx_X8_lostNow 4 (i_cV X 24 0 4 1 7) := s_invokevirtual hG (mi := 24) (n := 0) (ci := 4) (r := (RJx4a65c, TJx4a65c, 3)) rfl (cal_Jx4a65c_size_8abf5 (Nat.le_of_ble_eq_true rfl)) w_1294 w_1295 w_1296 dX8_lostNow_4
theorem s_X8_lostNow_7 {X : ev_E} {l : Launch} (hG : ev_Good X) (hl : l.stackTraces = false) : ev_Snd X l ev_ms x_X8_lostNow tx_X8_lostNow 7 (i_psh (.int (1)) 8) := s_iconst dX8_lostNow_7 rfl
theorem s_X8_lostNow_8 {X : ev_E} {l : Launch} (hG : ev_Good X) (hl : l.stackTraces = false) : ev_Snd X l ev_ms x_X8_lostNow tx_X8_lostNow 8 (i_ii (fun a b => a - b) 9) := s_isub dX8_lostNow_8
theorem s_X8_lostNow_9 {X : ev_E} {l : Launch} (hG : ev_Good X) (hl : l.stackTraces = false) : ev_Snd X l ev_ms x_X8_lostNow tx_X8_lostNow 9 (i_is 2 10) := s_istore_n dX8_lostNow_9 rfl (Nat.le_of_ble_eq_true rfl)
theorem s_X8_lostNow_10 {X : ev_E} {l : Launch} (hG : ev_Good X) (hl : l.stackTraces = false) : ev_Snd X l ev_ms x_X8_lostNow tx_X8_lostNow 10 (i_il 2 11) := s_iload_n dX8_lostNow_10 rfl
theorem s_X8_lostNow_11 {X : ev_E} {l : Launch} (hG : ev_Good X) (hl : l.stackTraces = false) : ev_Snd X l ev_ms x_X8_lostNow tx_X8_lostNow 11 (i_iflt 46 14) := s_iflt dX8_lostNow_11 rfl
theorem s_X8_lostNow_14 {X : ev_E} {l : Launch} (hG : ev_Good X) (hl : l.stackTraces = false) : ev_Snd X l ev_ms x_X8_lostNow tx_X8_lostNow 14 (i_al 0 15) := s_aload_n dX8_lostNow_14 rfl
theorem s_X8_lostNow_15 {X : ev_E} {l : Launch} (hG : ev_Good X) (hl : l.stackTraces = false) : ev_Snd X l ev_ms x_X8_lostNow tx_X8_lostNow 15 (i_il 1 16) := s_iload_n dX8_lostNow_15 rfl
theorem s_X8_lostNow_16 {X : ev_E} {l : Launch} (hG : ev_Good X) (hl : l.stackTraces = false) : ev_Snd X l ev_ms x_X8_lostNow tx_X8_lostNow 16 (i_il 2 17) := s_iload_n dX8_lostNow_16 rfl
theorem s_X8_lostNow_17 {X : ev_E} {l : Launch} (hG : ev_Good X) (hl : l.stackTraces = false) : ev_Snd X l ev_ms x_X8_lostNow tx_X8_lostNow 17 (i_cV X 269 2 13 4 20) := s_invokevirtual hG (mi := 269) (n := 2) (ci := 13) (r := (RX8, TX8, 5)) rfl (cal_X8_isHit (Nat.le_of_ble_eq_true rfl)) w_1689 w_1691 w_42 dX8_lostNow_17
theorem s_X8_lostNow_20 {X : ev_E} {l : Launch} (hG : ev_Good X) (hl : l.stackTraces = false) : ev_Snd X l ev_ms x_X8_lostNow tx_X8_lostNow 20 (i_ifne 40 23) := s_ifne dX8_lostNow_20 rfl
theorem s_X8_lostNow_23 {X : ev_E} {l : Launch} (hG : ev_Good X) (hl : l.stackTraces = false) : ev_Snd X l ev_ms x_X8_lostNow tx_X8_lostNow 23 (i_al 0 24) := s_aload_n dX8_lostNow_23 rfl
theorem s_X8_lostNow_24 {X : ev_E} {l : Launch} (hG : ev_Good X) (hl : l.stackTraces = false) : ev_Snd X l ev_ms x_X8_lostNow tx_X8_lostNow 24 (i_il 1 25) := s_iload_n dX8_lostNow_24 rfl
theorem s_X8_lostNow_25 {X : ev_E} {l : Launch} (hG : ev_Good X) (hl : l.stackTraces = false) : ev_Snd X l ev_ms x_X8_lostNow tx_X8_lostNow 25 (i_il 2 26) := s_iload_n dX8_lostNow_25 rfl
theorem s_X8_lostNow_26 {X : ev_E} {l : Launch} (hG : ev_Good X) (hl : l.stackTraces = false) : ev_Snd X l ev_ms x_X8_lostNow tx_X8_lostNow 26 (i_cV X 271 2 13 4 29) := s_invokevirtual hG (mi := 271) (n := 2) (ci := 13) (r := (RX8, TX8, 5)) rfl (cal_X8_keyWith (Nat.le_of_ble_eq_true rfl)) w_1660 w_1662 w_39 dX8_lostNow_26
theorem s_X8_lostNow_29 {X : ev_E} {l : Launch} (hG : ev_Good X) (hl : l.stackTraces = false) : ev_Snd X l ev_ms x_X8_lostNow tx_X8_lostNow 29 (i_psh (.int (-1)) 30) := s_iconst dX8_lostNow_29 rfl
theorem s_X8_lostNow_30 {X : ev_E} {l : Launch} (hG : ev_Good X) (hl : l.stackTraces = false) : ev_Snd X l ev_ms x_X8_lostNow tx_X8_lostNow 30 (i_iceq 40 33) := s_iceq dX8_lostNow_30 rfl
theorem s_X8_lostNow_33 {X : ev_E} {l : Launch} (hG : ev_Good X) (hl : l.stackTraces = false) : ev_Snd X l ev_ms x_X8_lostNow tx_X8_lostNow 33 (i_al 0 34) := s_aload_n dX8_lostNow_33 rfl
theorem s_X8_lostNow_34 {X : ev_E} {l : Launch} (hG : ev_Good X) (hl : l.stackTraces = false) : ev_Snd X l ev_ms x_X8_lostNow tx_X8_lostNow 34 (i_il 1 35) := s_iload_n dX8_lostNow_34 rfl
theorem s_X8_lostNow_35 {X : ev_E} {l : Launch} (hG : ev_Good X) (hl : l.stackTraces = false) : ev_Snd X l ev_ms x_X8_lostNow tx_X8_lostNow 35 (i_il 2 36) := s_iload_n dX8_lostNow_35 rfl
theorem s_X8_lostNow_36 {X : ev_E} {l : Launch} (hG : ev_Good X) (hl : l.stackTraces = false) : ev_Snd X l ev_ms x_X8_lostNow tx_X8_lostNow 36 (i_cV X 271 2 13 4 39) := s_invokevirtual hG (mi := 271) (n := 2) (ci := 13) (r := (RX8, TX8, 5)) rfl (cal_X8_keyWith (Nat.le_of_ble_eq_true rfl)) w_1660 w_1662 w_39 dX8_lostNow_36
theorem s_X8_lostNow_39 {X : ev_E} {l : Launch} (hG : ev_Good X) (hl : l.stackTraces = false) : ev_Snd X l ev_ms x_X8_lostNow tx_X8_lostNow 39 (i_ir (.int)) := s_ireturn rfl dX8_lostNow_39
theorem s_X8_lostNow_40 {X : ev_E} {l : Launch} (hG : ev_Good X) (hl : l.stackTraces = false) : ev_Snd X l ev_ms x_X8_lostNow tx_X8_lostNow 40 (i_inc 2 (-1) 43) := s_iinc dX8_lostNow_40 rfl (Nat.le_of_ble_eq_true rfl)
theorem s_X8_lostNow_43 {X : ev_E} {l : Launch} (hG : ev_Good X) (hl : l.stackTraces = false) : ev_Snd X l ev_ms x_X8_lostNow tx_X8_lostNow 43 (i_goto 10) := s_goto dX8_lostNow_43 rfl
theorem s_X8_lostNow_46 {X : ev_E} {l : Launch} (hG : ev_Good X) (hl : l.stackTraces = false) : ev_Snd X l ev_ms x_X8_lostNow tx_X8_lostNow 46 (i_psh (.int (-1)) 47) := s_iconst dX8_lostNow_46 rfl
theorem s_X8_lostNow_47 {X : ev_E} {l : Launch} (hG : ev_Good X) (hl : l.stackTraces = false) : ev_Snd X l ev_ms x_X8_lostNow tx_X8_lostNow 47 (i_ir (.int)) := s_ireturn rfl dX8_lostNow_47
theorem sa_X8_lostNow {X : ev_E} {l : Launch} (hG : ev_Good X) (hl : l.stackTraces = false) : ∀ q ∈ tb_X8_lostNow X, ev_Snd X l ev_ms x_X8_lostNow tx_X8_lostNow q.1 q.2 := by
  intro q hq
  unfold tb_X8_lostNow at hq
  simp only [List.mem_cons, List.not_mem_nil, or_false] at hq
  rcases hq with rfl | rfl | rfl | rfl | rfl | rfl | rfl | rfl | rfl | rfl | rfl | rfl | rfl | rfl | rfl | rfl | rfl | rfl | rfl | rfl | rfl | rfl | rfl | rfl | rfl | rfl | rfl | rfl
  · exact s_X8_lostNow_0 hG hl
  · exact s_X8_lostNow_1 hG hl
  · exact s_X8_lostNow_4 hG hl
  · exact s_X8_lostNow_7 hG hl
  · exact s_X8_lostNow_8 hG hl
  · exact s_X8_lostNow_9 hG hl
  · exact s_X8_lostNow_10 hG hl
  · exact s_X8_lostNow_11 hG hl
  · exact s_X8_lostNow_14 hG hl
  · exact s_X8_lostNow_15 hG hl
  · exact s_X8_lostNow_16 hG hl
  · exact s_X8_lostNow_17 hG hl
  · exact s_X8_lostNow_20 hG hl
  · exact s_X8_lostNow_23 hG hl
  · exact s_X8_lostNow_24 hG hl
  · exact s_X8_lostNow_25 hG hl
  · exact s_X8_lostNow_26 hG hl
  · exact s_X8_lostNow_29 hG hl
  · exact s_X8_lostNow_30 hG hl
  · exact s_X8_lostNow_33 hG hl
  · exact s_X8_lostNow_34 hG hl
  · exact s_X8_lostNow_35 hG hl
  · exact s_X8_lostNow_36 hG hl
  · exact s_X8_lostNow_39 hG hl
  · exact s_X8_lostNow_40 hG hl
  · exact s_X8_lostNow_43 hG hl
  · exact s_X8_lostNow_46 hG hl
  · exact s_X8_lostNow_47 hG hl
def tx_X8_missesNow : ev_X := fun _ _ => some none
noncomputable def tb_X8_missesNow (X : ev_E) : List (Nat × (ev_S → ev_N)) := [(0, i_psh (.int (0)) 1), (1, i_is 2 2), (2, i_psh (.int (0)) 3), (3, i_is 3 4), (4, i_il 3 5), (5, i_al 0 6), (6, i_gf X 13 4 9), (9, i_cV X 24 0 4 1 12), (12, i_icge 41 15), (15, i_il 2 16), (16, i_al 0 17), (17, i_il 1 18), (18, i_il 3 19), (19, i_cV X 269 2 13 4 22), (22, i_ifne 29 25), (25, i_psh (.int (1)) 26), (26, i_goto 30), (29, i_psh (.int (0)) 30), (30, i_cS 70 1 1 33), (33, i_ii (fun a b => a + b) 34), (34, i_is 2 35), (35, i_inc 3 (1) 38), (38, i_goto 4), (41, i_il 2 42), (42, i_ir (.int))]
theorem s_X8_missesNow_0 {X : ev_E} {l : Launch} (hG : ev_Good X) (hl : l.stackTraces = false) : ev_Snd X l ev_ms x_X8_missesNow tx_X8_missesNow 0 (i_psh (.int (0)) 1) := s_iconst dX8_missesNow_0 rfl
theorem s_X8_missesNow_1 {X : ev_E} {l : Launch} (hG : ev_Good X) (hl : l.stackTraces = false) : ev_Snd X l ev_ms x_X8_missesNow tx_X8_missesNow 1 (i_is 2 2) := s_istore_n dX8_missesNow_1 rfl (Nat.le_of_ble_eq_true rfl)
theorem s_X8_missesNow_2 {X : ev_E} {l : Launch} (hG : ev_Good X) (hl : l.stackTraces = false) : ev_Snd X l ev_ms x_X8_missesNow tx_X8_missesNow 2 (i_psh (.int (0)) 3) := s_iconst dX8_missesNow_2 rfl
theorem s_X8_missesNow_3 {X : ev_E} {l : Launch} (hG : ev_Good X) (hl : l.stackTraces = false) : ev_Snd X l ev_ms x_X8_missesNow tx_X8_missesNow 3 (i_is 3 4) := s_istore_n dX8_missesNow_3 rfl (Nat.le_of_ble_eq_true rfl)
theorem s_X8_missesNow_4 {X : ev_E} {l : Launch} (hG : ev_Good X) (hl : l.stackTraces = false) : ev_Snd X l ev_ms x_X8_missesNow tx_X8_missesNow 4 (i_il 3 5) := s_iload_n dX8_missesNow_4 rfl
theorem s_X8_missesNow_5 {X : ev_E} {l : Launch} (hG : ev_Good X) (hl : l.stackTraces = false) : ev_Snd X l ev_ms x_X8_missesNow tx_X8_missesNow 5 (i_al 0 6) := s_aload_n dX8_missesNow_5 rfl
theorem s_X8_missesNow_6 {X : ev_E} {l : Launch} (hG : ev_Good X) (hl : l.stackTraces = false) : ev_Snd X l ev_ms x_X8_missesNow tx_X8_missesNow 6 (i_gf X 13 4 9) := s_getfield hG (ci := 13) (r := (RX8, TX8, 5)) rfl cw_13 (k := 4) (Nat.le_of_ble_eq_true rfl) w_1264 rfl (Or.inl rfl) dX8_missesNow_6
theorem s_X8_missesNow_9 {X : ev_E} {l : Launch} (hG : ev_Good X) (hl : l.stackTraces = false) : ev_Snd X l ev_ms x_X8_missesNow tx_X8_missesNow 9 (i_cV X 24 0 4 1 12) := s_invokevirtual hG (mi := 24) (n := 0) (ci := 4) (r := (RJx4a65c, TJx4a65c, 3)) rfl (cal_Jx4a65c_size_8abf5 (Nat.le_of_ble_eq_true rfl)) w_1294 w_1295 w_1296 dX8_missesNow_9
theorem s_X8_missesNow_12 {X : ev_E} {l : Launch} (hG : ev_Good X) (hl : l.stackTraces = false) : ev_Snd X l ev_ms x_X8_missesNow tx_X8_missesNow 12 (i_icge 41 15) := s_icge dX8_missesNow_12 rfl
theorem s_X8_missesNow_15 {X : ev_E} {l : Launch} (hG : ev_Good X) (hl : l.stackTraces = false) : ev_Snd X l ev_ms x_X8_missesNow tx_X8_missesNow 15 (i_il 2 16) := s_iload_n dX8_missesNow_15 rfl
theorem s_X8_missesNow_16 {X : ev_E} {l : Launch} (hG : ev_Good X) (hl : l.stackTraces = false) : ev_Snd X l ev_ms x_X8_missesNow tx_X8_missesNow 16 (i_al 0 17) := s_aload_n dX8_missesNow_16 rfl
theorem s_X8_missesNow_17 {X : ev_E} {l : Launch} (hG : ev_Good X) (hl : l.stackTraces = false) : ev_Snd X l ev_ms x_X8_missesNow tx_X8_missesNow 17 (i_il 1 18) := s_iload_n dX8_missesNow_17 rfl
theorem s_X8_missesNow_18 {X : ev_E} {l : Launch} (hG : ev_Good X) (hl : l.stackTraces = false) : ev_Snd X l ev_ms x_X8_missesNow tx_X8_missesNow 18 (i_il 3 19) := s_iload_n dX8_missesNow_18 rfl
theorem s_X8_missesNow_19 {X : ev_E} {l : Launch} (hG : ev_Good X) (hl : l.stackTraces = false) : ev_Snd X l ev_ms x_X8_missesNow tx_X8_missesNow 19 (i_cV X 269 2 13 4 22) := s_invokevirtual hG (mi := 269) (n := 2) (ci := 13) (r := (RX8, TX8, 5)) rfl (cal_X8_isHit (Nat.le_of_ble_eq_true rfl)) w_1689 w_1691 w_42 dX8_missesNow_19
theorem s_X8_missesNow_22 {X : ev_E} {l : Launch} (hG : ev_Good X) (hl : l.stackTraces = false) : ev_Snd X l ev_ms x_X8_missesNow tx_X8_missesNow 22 (i_ifne 29 25) := s_ifne dX8_missesNow_22 rfl
theorem s_X8_missesNow_25 {X : ev_E} {l : Launch} (hG : ev_Good X) (hl : l.stackTraces = false) : ev_Snd X l ev_ms x_X8_missesNow tx_X8_missesNow 25 (i_psh (.int (1)) 26) := s_iconst dX8_missesNow_25 rfl
theorem s_X8_missesNow_26 {X : ev_E} {l : Launch} (hG : ev_Good X) (hl : l.stackTraces = false) : ev_Snd X l ev_ms x_X8_missesNow tx_X8_missesNow 26 (i_goto 30) := s_goto dX8_missesNow_26 rfl
theorem s_X8_missesNow_29 {X : ev_E} {l : Launch} (hG : ev_Good X) (hl : l.stackTraces = false) : ev_Snd X l ev_ms x_X8_missesNow tx_X8_missesNow 29 (i_psh (.int (0)) 30) := s_iconst dX8_missesNow_29 rfl
theorem s_X8_missesNow_30 {X : ev_E} {l : Launch} (hG : ev_Good X) (hl : l.stackTraces = false) : ev_Snd X l ev_ms x_X8_missesNow tx_X8_missesNow 30 (i_cS 70 1 1 33) := s_invokestatic hG (mi := 70) (n := 1) (cal_X8_one (Nat.le_of_ble_eq_true rfl)) w_1535 w_1536 dX8_missesNow_30
theorem s_X8_missesNow_33 {X : ev_E} {l : Launch} (hG : ev_Good X) (hl : l.stackTraces = false) : ev_Snd X l ev_ms x_X8_missesNow tx_X8_missesNow 33 (i_ii (fun a b => a + b) 34) := s_iadd dX8_missesNow_33
theorem s_X8_missesNow_34 {X : ev_E} {l : Launch} (hG : ev_Good X) (hl : l.stackTraces = false) : ev_Snd X l ev_ms x_X8_missesNow tx_X8_missesNow 34 (i_is 2 35) := s_istore_n dX8_missesNow_34 rfl (Nat.le_of_ble_eq_true rfl)
theorem s_X8_missesNow_35 {X : ev_E} {l : Launch} (hG : ev_Good X) (hl : l.stackTraces = false) : ev_Snd X l ev_ms x_X8_missesNow tx_X8_missesNow 35 (i_inc 3 (1) 38) := s_iinc dX8_missesNow_35 rfl (Nat.le_of_ble_eq_true rfl)
theorem s_X8_missesNow_38 {X : ev_E} {l : Launch} (hG : ev_Good X) (hl : l.stackTraces = false) : ev_Snd X l ev_ms x_X8_missesNow tx_X8_missesNow 38 (i_goto 4) := s_goto dX8_missesNow_38 rfl
theorem s_X8_missesNow_41 {X : ev_E} {l : Launch} (hG : ev_Good X) (hl : l.stackTraces = false) : ev_Snd X l ev_ms x_X8_missesNow tx_X8_missesNow 41 (i_il 2 42) := s_iload_n dX8_missesNow_41 rfl
theorem s_X8_missesNow_42 {X : ev_E} {l : Launch} (hG : ev_Good X) (hl : l.stackTraces = false) : ev_Snd X l ev_ms x_X8_missesNow tx_X8_missesNow 42 (i_ir (.int)) := s_ireturn rfl dX8_missesNow_42
theorem sa_X8_missesNow {X : ev_E} {l : Launch} (hG : ev_Good X) (hl : l.stackTraces = false) : ∀ q ∈ tb_X8_missesNow X, ev_Snd X l ev_ms x_X8_missesNow tx_X8_missesNow q.1 q.2 := by
  intro q hq
  unfold tb_X8_missesNow at hq
  simp only [List.mem_cons, List.not_mem_nil, or_false] at hq
  rcases hq with rfl | rfl | rfl | rfl | rfl | rfl | rfl | rfl | rfl | rfl | rfl | rfl | rfl | rfl | rfl | rfl | rfl | rfl | rfl | rfl | rfl | rfl | rfl | rfl | rfl
  · exact s_X8_missesNow_0 hG hl
  · exact s_X8_missesNow_1 hG hl
  · exact s_X8_missesNow_2 hG hl
  · exact s_X8_missesNow_3 hG hl
  · exact s_X8_missesNow_4 hG hl
  · exact s_X8_missesNow_5 hG hl
  · exact s_X8_missesNow_6 hG hl
  · exact s_X8_missesNow_9 hG hl
  · exact s_X8_missesNow_12 hG hl
  · exact s_X8_missesNow_15 hG hl
  · exact s_X8_missesNow_16 hG hl
  · exact s_X8_missesNow_17 hG hl
  · exact s_X8_missesNow_18 hG hl
  · exact s_X8_missesNow_19 hG hl
  · exact s_X8_missesNow_22 hG hl
  · exact s_X8_missesNow_25 hG hl
  · exact s_X8_missesNow_26 hG hl
  · exact s_X8_missesNow_29 hG hl
  · exact s_X8_missesNow_30 hG hl
  · exact s_X8_missesNow_33 hG hl
  · exact s_X8_missesNow_34 hG hl
  · exact s_X8_missesNow_35 hG hl
  · exact s_X8_missesNow_38 hG hl
  · exact s_X8_missesNow_41 hG hl
  · exact s_X8_missesNow_42 hG hl
def tx_X8_takenNow : ev_X := fun _ _ => some none
noncomputable def tb_X8_takenNow (X : ev_E) : List (Nat × (ev_S → ev_N)) := [(0, i_al 0 1), (1, i_il 1 2), (2, i_il 2 3), (3, i_cV X 270 2 13 4 6), (6, i_ifne 11 9), (9, i_psh (.int (-1)) 10), (10, i_ir (.int)), (11, i_al 0 12), (12, i_il 2 13), (13, i_al 0 14), (14, i_gf X 13 4 17), (17, i_cV X 24 0 4 1 20), (20, i_cV X 211 2 13 4 23), (23, i_is 3 24), (24, i_al 0 25), (25, i_il 1 26), (26, i_il 3 27), (27, i_cV X 269 2 13 4 30), (30, i_ifeq 43 33), (33, i_al 0 34), (34, i_il 2 35), (35, i_il 3 36), (36, i_cV X 211 2 13 4 39), (39, i_is 3 40), (40, i_goto 24), (43, i_il 3 44), (44, i_ir (.int))]
theorem s_X8_takenNow_0 {X : ev_E} {l : Launch} (hG : ev_Good X) (hl : l.stackTraces = false) : ev_Snd X l ev_ms x_X8_takenNow tx_X8_takenNow 0 (i_al 0 1) := s_aload_n dX8_takenNow_0 rfl
theorem s_X8_takenNow_1 {X : ev_E} {l : Launch} (hG : ev_Good X) (hl : l.stackTraces = false) : ev_Snd X l ev_ms x_X8_takenNow tx_X8_takenNow 1 (i_il 1 2) := s_iload_n dX8_takenNow_1 rfl
theorem s_X8_takenNow_2 {X : ev_E} {l : Launch} (hG : ev_Good X) (hl : l.stackTraces = false) : ev_Snd X l ev_ms x_X8_takenNow tx_X8_takenNow 2 (i_il 2 3) := s_iload_n dX8_takenNow_2 rfl
theorem s_X8_takenNow_3 {X : ev_E} {l : Launch} (hG : ev_Good X) (hl : l.stackTraces = false) : ev_Snd X l ev_ms x_X8_takenNow tx_X8_takenNow 3 (i_cV X 270 2 13 4 6) := s_invokevirtual hG (mi := 270) (n := 2) (ci := 13) (r := (RX8, TX8, 5)) rfl (cal_X8_isKept (Nat.le_of_ble_eq_true rfl)) w_1677 w_1679 w_40 dX8_takenNow_3
theorem s_X8_takenNow_6 {X : ev_E} {l : Launch} (hG : ev_Good X) (hl : l.stackTraces = false) : ev_Snd X l ev_ms x_X8_takenNow tx_X8_takenNow 6 (i_ifne 11 9) := s_ifne dX8_takenNow_6 rfl
theorem s_X8_takenNow_9 {X : ev_E} {l : Launch} (hG : ev_Good X) (hl : l.stackTraces = false) : ev_Snd X l ev_ms x_X8_takenNow tx_X8_takenNow 9 (i_psh (.int (-1)) 10) := s_iconst dX8_takenNow_9 rfl
theorem s_X8_takenNow_10 {X : ev_E} {l : Launch} (hG : ev_Good X) (hl : l.stackTraces = false) : ev_Snd X l ev_ms x_X8_takenNow tx_X8_takenNow 10 (i_ir (.int)) := s_ireturn rfl dX8_takenNow_10
theorem s_X8_takenNow_11 {X : ev_E} {l : Launch} (hG : ev_Good X) (hl : l.stackTraces = false) : ev_Snd X l ev_ms x_X8_takenNow tx_X8_takenNow 11 (i_al 0 12) := s_aload_n dX8_takenNow_11 rfl
theorem s_X8_takenNow_12 {X : ev_E} {l : Launch} (hG : ev_Good X) (hl : l.stackTraces = false) : ev_Snd X l ev_ms x_X8_takenNow tx_X8_takenNow 12 (i_il 2 13) := s_iload_n dX8_takenNow_12 rfl
theorem s_X8_takenNow_13 {X : ev_E} {l : Launch} (hG : ev_Good X) (hl : l.stackTraces = false) : ev_Snd X l ev_ms x_X8_takenNow tx_X8_takenNow 13 (i_al 0 14) := s_aload_n dX8_takenNow_13 rfl
theorem s_X8_takenNow_14 {X : ev_E} {l : Launch} (hG : ev_Good X) (hl : l.stackTraces = false) : ev_Snd X l ev_ms x_X8_takenNow tx_X8_takenNow 14 (i_gf X 13 4 17) := s_getfield hG (ci := 13) (r := (RX8, TX8, 5)) rfl cw_13 (k := 4) (Nat.le_of_ble_eq_true rfl) w_1264 rfl (Or.inl rfl) dX8_takenNow_14
theorem s_X8_takenNow_17 {X : ev_E} {l : Launch} (hG : ev_Good X) (hl : l.stackTraces = false) : ev_Snd X l ev_ms x_X8_takenNow tx_X8_takenNow 17 (i_cV X 24 0 4 1 20) := s_invokevirtual hG (mi := 24) (n := 0) (ci := 4) (r := (RJx4a65c, TJx4a65c, 3)) rfl (cal_Jx4a65c_size_8abf5 (Nat.le_of_ble_eq_true rfl)) w_1294 w_1295 w_1296 dX8_takenNow_17
theorem s_X8_takenNow_20 {X : ev_E} {l : Launch} (hG : ev_Good X) (hl : l.stackTraces = false) : ev_Snd X l ev_ms x_X8_takenNow tx_X8_takenNow 20 (i_cV X 211 2 13 4 23) := s_invokevirtual hG (mi := 211) (n := 2) (ci := 13) (r := (RX8, TX8, 5)) rfl (cal_X8_before (Nat.le_of_ble_eq_true rfl)) w_1591 w_1593 w_35 dX8_takenNow_20
theorem s_X8_takenNow_23 {X : ev_E} {l : Launch} (hG : ev_Good X) (hl : l.stackTraces = false) : ev_Snd X l ev_ms x_X8_takenNow tx_X8_takenNow 23 (i_is 3 24) := s_istore_n dX8_takenNow_23 rfl (Nat.le_of_ble_eq_true rfl)
theorem s_X8_takenNow_24 {X : ev_E} {l : Launch} (hG : ev_Good X) (hl : l.stackTraces = false) : ev_Snd X l ev_ms x_X8_takenNow tx_X8_takenNow 24 (i_al 0 25) := s_aload_n dX8_takenNow_24 rfl
theorem s_X8_takenNow_25 {X : ev_E} {l : Launch} (hG : ev_Good X) (hl : l.stackTraces = false) : ev_Snd X l ev_ms x_X8_takenNow tx_X8_takenNow 25 (i_il 1 26) := s_iload_n dX8_takenNow_25 rfl
theorem s_X8_takenNow_26 {X : ev_E} {l : Launch} (hG : ev_Good X) (hl : l.stackTraces = false) : ev_Snd X l ev_ms x_X8_takenNow tx_X8_takenNow 26 (i_il 3 27) := s_iload_n dX8_takenNow_26 rfl
theorem s_X8_takenNow_27 {X : ev_E} {l : Launch} (hG : ev_Good X) (hl : l.stackTraces = false) : ev_Snd X l ev_ms x_X8_takenNow tx_X8_takenNow 27 (i_cV X 269 2 13 4 30) := s_invokevirtual hG (mi := 269) (n := 2) (ci := 13) (r := (RX8, TX8, 5)) rfl (cal_X8_isHit (Nat.le_of_ble_eq_true rfl)) w_1689 w_1691 w_42 dX8_takenNow_27
theorem s_X8_takenNow_30 {X : ev_E} {l : Launch} (hG : ev_Good X) (hl : l.stackTraces = false) : ev_Snd X l ev_ms x_X8_takenNow tx_X8_takenNow 30 (i_ifeq 43 33) := s_ifeq dX8_takenNow_30 rfl
theorem s_X8_takenNow_33 {X : ev_E} {l : Launch} (hG : ev_Good X) (hl : l.stackTraces = false) : ev_Snd X l ev_ms x_X8_takenNow tx_X8_takenNow 33 (i_al 0 34) := s_aload_n dX8_takenNow_33 rfl
theorem s_X8_takenNow_34 {X : ev_E} {l : Launch} (hG : ev_Good X) (hl : l.stackTraces = false) : ev_Snd X l ev_ms x_X8_takenNow tx_X8_takenNow 34 (i_il 2 35) := s_iload_n dX8_takenNow_34 rfl
theorem s_X8_takenNow_35 {X : ev_E} {l : Launch} (hG : ev_Good X) (hl : l.stackTraces = false) : ev_Snd X l ev_ms x_X8_takenNow tx_X8_takenNow 35 (i_il 3 36) := s_iload_n dX8_takenNow_35 rfl
theorem s_X8_takenNow_36 {X : ev_E} {l : Launch} (hG : ev_Good X) (hl : l.stackTraces = false) : ev_Snd X l ev_ms x_X8_takenNow tx_X8_takenNow 36 (i_cV X 211 2 13 4 39) := s_invokevirtual hG (mi := 211) (n := 2) (ci := 13) (r := (RX8, TX8, 5)) rfl (cal_X8_before (Nat.le_of_ble_eq_true rfl)) w_1591 w_1593 w_35 dX8_takenNow_36
theorem s_X8_takenNow_39 {X : ev_E} {l : Launch} (hG : ev_Good X) (hl : l.stackTraces = false) : ev_Snd X l ev_ms x_X8_takenNow tx_X8_takenNow 39 (i_is 3 40) := s_istore_n dX8_takenNow_39 rfl (Nat.le_of_ble_eq_true rfl)
theorem s_X8_takenNow_40 {X : ev_E} {l : Launch} (hG : ev_Good X) (hl : l.stackTraces = false) : ev_Snd X l ev_ms x_X8_takenNow tx_X8_takenNow 40 (i_goto 24) := s_goto dX8_takenNow_40 rfl
theorem s_X8_takenNow_43 {X : ev_E} {l : Launch} (hG : ev_Good X) (hl : l.stackTraces = false) : ev_Snd X l ev_ms x_X8_takenNow tx_X8_takenNow 43 (i_il 3 44) := s_iload_n dX8_takenNow_43 rfl
theorem s_X8_takenNow_44 {X : ev_E} {l : Launch} (hG : ev_Good X) (hl : l.stackTraces = false) : ev_Snd X l ev_ms x_X8_takenNow tx_X8_takenNow 44 (i_ir (.int)) := s_ireturn rfl dX8_takenNow_44
theorem sa_X8_takenNow {X : ev_E} {l : Launch} (hG : ev_Good X) (hl : l.stackTraces = false) : ∀ q ∈ tb_X8_takenNow X, ev_Snd X l ev_ms x_X8_takenNow tx_X8_takenNow q.1 q.2 := by
  intro q hq
  unfold tb_X8_takenNow at hq
  simp only [List.mem_cons, List.not_mem_nil, or_false] at hq
  rcases hq with rfl | rfl | rfl | rfl | rfl | rfl | rfl | rfl | rfl | rfl | rfl | rfl | rfl | rfl | rfl | rfl | rfl | rfl | rfl | rfl | rfl | rfl | rfl | rfl | rfl | rfl | rfl
  · exact s_X8_takenNow_0 hG hl
  · exact s_X8_takenNow_1 hG hl
  · exact s_X8_takenNow_2 hG hl
  · exact s_X8_takenNow_3 hG hl
  · exact s_X8_takenNow_6 hG hl
  · exact s_X8_takenNow_9 hG hl
  · exact s_X8_takenNow_10 hG hl
  · exact s_X8_takenNow_11 hG hl
  · exact s_X8_takenNow_12 hG hl
  · exact s_X8_takenNow_13 hG hl
  · exact s_X8_takenNow_14 hG hl
  · exact s_X8_takenNow_17 hG hl
  · exact s_X8_takenNow_20 hG hl
  · exact s_X8_takenNow_23 hG hl
  · exact s_X8_takenNow_24 hG hl
  · exact s_X8_takenNow_25 hG hl
  · exact s_X8_takenNow_26 hG hl
  · exact s_X8_takenNow_27 hG hl
  · exact s_X8_takenNow_30 hG hl
  · exact s_X8_takenNow_33 hG hl
  · exact s_X8_takenNow_34 hG hl
  · exact s_X8_takenNow_35 hG hl
  · exact s_X8_takenNow_36 hG hl
  · exact s_X8_takenNow_39 hG hl
  · exact s_X8_takenNow_40 hG hl
  · exact s_X8_takenNow_43 hG hl
  · exact s_X8_takenNow_44 hG hl
