def tx_X5_text : ev_X := fun _ _ => some none
noncomputable def tb_X5_text (X : ev_E) : List (Nat × (ev_S → ev_N)) := [(0, i_al 0 1), (1, i_il 1 2), (2, i_cV X 59 1 10 2 5), (5, i_as 3 6), (6, i_il 2 7), (7, i_cS 49 1 1 10), (10, i_al 3 11), (11, i_gf X 8 0 14), (14, i_il 2 15), (15, i_cV X 286 1 7 4 18), (18, i_ar)]
theorem s_X5_text_0 {X : ev_E} {l : Launch} (hG : ev_Good X) (hl : l.stackTraces = false) : ev_Snd X l ev_ms x_X5_text tx_X5_text 0 (i_al 0 1) := s_aload_n dX5_text_0 rfl
theorem s_X5_text_1 {X : ev_E} {l : Launch} (hG : ev_Good X) (hl : l.stackTraces = false) : ev_Snd X l ev_ms x_X5_text tx_X5_text 1 (i_il 1 2) := s_iload_n dX5_text_1 rfl
theorem s_X5_text_2 {X : ev_E} {l : Launch} (hG : ev_Good X) (hl : l.stackTraces = false) : ev_Snd X l ev_ms x_X5_text tx_X5_text 2 (i_cV X 59 1 10 2 5) := s_invokevirtual hG (mi := 59) (n := 1) (ci := 10) (r := (RX5, TX5, 7)) rfl (cal_X5_tableOf (Nat.le_of_ble_eq_true rfl)) w_705 w_707 w_11 dX5_text_2
theorem s_X5_text_5 {X : ev_E} {l : Launch} (hG : ev_Good X) (hl : l.stackTraces = false) : ev_Snd X l ev_ms x_X5_text tx_X5_text 5 (i_as 3 6) := s_astore_n dX5_text_5 rfl (Nat.le_of_ble_eq_true rfl)
theorem s_X5_text_6 {X : ev_E} {l : Launch} (hG : ev_Good X) (hl : l.stackTraces = false) : ev_Snd X l ev_ms x_X5_text tx_X5_text 6 (i_il 2 7) := s_iload_n dX5_text_6 rfl
theorem s_X5_text_7 {X : ev_E} {l : Launch} (hG : ev_Good X) (hl : l.stackTraces = false) : ev_Snd X l ev_ms x_X5_text tx_X5_text 7 (i_cS 49 1 1 10) := s_invokestatic hG (mi := 49) (n := 1) (cal_X5_demandKindOfWalk (Nat.le_of_ble_eq_true rfl)) w_1017 w_1018 dX5_text_7
theorem s_X5_text_10 {X : ev_E} {l : Launch} (hG : ev_Good X) (hl : l.stackTraces = false) : ev_Snd X l ev_ms x_X5_text tx_X5_text 10 (i_al 3 11) := s_aload_n dX5_text_10 rfl
theorem s_X5_text_11 {X : ev_E} {l : Launch} (hG : ev_Good X) (hl : l.stackTraces = false) : ev_Snd X l ev_ms x_X5_text tx_X5_text 11 (i_gf X 8 0 14) := s_getfieldN hG (ci := 8) (r := (RX3, TX3, 2)) rfl cw_8 (k := 0) (Nat.le_of_ble_eq_true rfl) w_189 rfl dX5_text_11
theorem s_X5_text_14 {X : ev_E} {l : Launch} (hG : ev_Good X) (hl : l.stackTraces = false) : ev_Snd X l ev_ms x_X5_text tx_X5_text 14 (i_il 2 15) := s_iload_n dX5_text_14 rfl
theorem s_X5_text_15 {X : ev_E} {l : Launch} (hG : ev_Good X) (hl : l.stackTraces = false) : ev_Snd X l ev_ms x_X5_text tx_X5_text 15 (i_cV X 286 1 7 4 18) := s_invokevirtual hG (mi := 286) (n := 1) (ci := 7) (r := (RX2, TX2, 7)) rfl (cal_X2_written (Nat.le_of_ble_eq_true rfl)) w_276 w_277 w_278 dX5_text_15
theorem s_X5_text_18 {X : ev_E} {l : Launch} (hG : ev_Good X) (hl : l.stackTraces = false) : ev_Snd X l ev_ms x_X5_text tx_X5_text 18 (i_ar) := s_areturn (rt := (.object "java/lang/String")) rfl (by first | exact Or.inl ⟨_, rfl⟩ | exact Or.inr ⟨_, rfl⟩) dX5_text_18
theorem sa_X5_text {X : ev_E} {l : Launch} (hG : ev_Good X) (hl : l.stackTraces = false) : ∀ q ∈ tb_X5_text X, ev_Snd X l ev_ms x_X5_text tx_X5_text q.1 q.2 := by
  intro q hq
  unfold tb_X5_text at hq
  simp only [List.mem_cons, List.not_mem_nil, or_false] at hq
  rcases hq with rfl | rfl | rfl | rfl | rfl | rfl | rfl | rfl | rfl | rfl | rfl
  · exact s_X5_text_0 hG hl
  · exact s_X5_text_1 hG hl
  · exact s_X5_text_2 hG hl
  · exact s_X5_text_5 hG hl
  · exact s_X5_text_6 hG hl
  · exact s_X5_text_7 hG hl
  · exact s_X5_text_10 hG hl
  · exact s_X5_text_11 hG hl
  · exact s_X5_text_14 hG hl
  · exact s_X5_text_15 hG hl
  · exact s_X5_text_18 hG hl
