/-! ===== walks along a list of the JDK; small Integers ===== -/
def ev_itc (l cur : Nat) (last mc : Int32) : ev_C := .inr (3, [.int (nI cur), .int last, .int mc, .ref l])
section IT
variable {X : ev_E} {H : ev_M} {l e i k cur : Nat} {L : List Value} {mc last : Int32} {n q : Nat} {P : ev_O → ev_M → Nat → Nat → Prop}
theorem I_iter (hl : H l = some (ev_alc mc e k)) (hln : ¬ l = n) (c : P (.inl (some (.ref n))) (ev_up H n (ev_itc l 0 (-1) mc)) (n + 1) (q + 4)) : ev_ok (ev_TT X) 87 0 [.ref l] [] H n q P := by
  unfold ev_alc at hl
  unfold ev_itc at c
  rw [nI_0] at c
  have hF := fun c => ev_up_n (h := H) (c := c) hln
  simp (disch := omega) only [t_Jx4a65c_iterator_32c93_0, t_Jx4a65c_iterator_32c93_3, t_Jx4a65c_iterator_32c93_3_i, t_Jx4a65c_iterator_32c93_4, t_Jx4a65c_iterator_32c93_5, t_Jx4a65c_iterator_32c93_8, t_Jx35411_init_45d68_0, t_Jx35411_init_45d68_1, t_Jx35411_init_45d68_2, t_Jx35411_init_45d68_5, t_Jx35411_init_45d68_6, t_Jx35411_init_45d68_9, t_Jx35411_init_45d68_10, t_Jx35411_init_45d68_11, t_Jx35411_init_45d68_14, t_Jx35411_init_45d68_15, t_Jx35411_init_45d68_16, t_Jx35411_init_45d68_19, t_Jx35411_init_45d68_22, t_Jx35411_init_45d68_25, ↓reduceIte, ev_k_i, ev_k_r, ev_k_l, ev_k_J, ev_k_n, ev_kr_1, ev_kr_0, ev_isK_y, ev_aG_y, ev_aS_y, ev_aN_y, ev_inA_0, ev_isA_0, ev_ft_I, ev_ft_0, ev_ft_1, ev_ft_o, ev_ft_a, ev_nb_0, ev_nb_1, and_true, true_and, if_true, if_false, not_true_eq_false, not_false_eq_true, nI_1, ev_fG_0, ev_fG_1, ev_fG_2, ev_fG_3, ev_fG_4, ev_fG_5, ev_fG_6, ev_fG_7, ev_fG_8, ev_fS_0, ev_fS_1, ev_fS_2, ev_fS_3, ev_fS_4, ev_fS_5, ev_fS_6, ev_fS_7, ev_fS_8, ev_isO_0, ev_isO_1, ev_isO_2, ev_isO_3, ev_isO_4, ev_isO_5, ev_isO_6, ev_isO_7, ev_isO_8, ev_z0, ev_z1, ev_z2, eq_self, ev_ofN, ev_up_s, ev_up_up, ev_lk_s ev_up_s, hF, hl, ev_lk_s ((hF _).trans hl)]
  exact c
theorem I_has_y (hi : H i = some (ev_itc l cur last mc)) {mc' : Int32} (hl : H l = some (ev_alc mc' e k)) (hk : k < 2 ^ 31) (hc : cur < k) (c : P (.inl (some (.int 1))) H n q) : ev_ok (ev_TT X) 19 0 [.ref i] [] H n q P := by
  unfold ev_alc at hl
  unfold ev_itc at hi
  have hne : ¬ nI cur = nI k := fun z => by have := (nI_eq (by omega) hk).mp z; omega
  simp (disch := omega) only [t_Jx35411_hasNext_aae02_0, t_Jx35411_hasNext_aae02_1, t_Jx35411_hasNext_aae02_4, t_Jx35411_hasNext_aae02_5, t_Jx35411_hasNext_aae02_8, t_Jx35411_hasNext_aae02_11, t_Jx35411_hasNext_aae02_14, t_Jx35411_hasNext_aae02_15, t_Jx35411_hasNext_aae02_18, t_Jx35411_hasNext_aae02_19, ↓reduceIte, ev_k_i, ev_k_r, ev_k_l, ev_k_J, ev_k_n, ev_kr_1, ev_kr_0, ev_isK_y, ev_aG_y, ev_aS_y, ev_aN_y, ev_inA_0, ev_isA_0, ev_ft_I, ev_ft_0, ev_ft_1, ev_ft_o, ev_ft_a, ev_nb_0, ev_nb_1, and_true, true_and, if_true, if_false, not_true_eq_false, not_false_eq_true, nI_1, ev_fG_0, ev_fG_1, ev_fG_2, ev_fG_3, ev_fG_4, ev_fG_5, ev_fG_6, ev_fG_7, ev_fG_8, ev_fS_0, ev_fS_1, ev_fS_2, ev_fS_3, ev_fS_4, ev_fS_5, ev_fS_6, ev_fS_7, ev_fS_8, ev_isO_0, ev_isO_1, ev_isO_2, ev_isO_3, ev_isO_4, ev_isO_5, ev_isO_6, ev_isO_7, ev_isO_8, ev_z0, ev_z1, ev_z2, eq_self, ev_ofN, ev_lk_s hi, ev_lk_s hl, hne]
  exact c
theorem I_has_n (hi : H i = some (ev_itc l k last mc)) {mc' : Int32} (hl : H l = some (ev_alc mc' e k)) (c : P (.inl (some (.int 0))) H n q) : ev_ok (ev_TT X) 19 0 [.ref i] [] H n q P := by
  unfold ev_alc at hl
  unfold ev_itc at hi
  simp (disch := omega) only [t_Jx35411_hasNext_aae02_0, t_Jx35411_hasNext_aae02_1, t_Jx35411_hasNext_aae02_4, t_Jx35411_hasNext_aae02_5, t_Jx35411_hasNext_aae02_8, t_Jx35411_hasNext_aae02_11, t_Jx35411_hasNext_aae02_14, t_Jx35411_hasNext_aae02_15, t_Jx35411_hasNext_aae02_18, t_Jx35411_hasNext_aae02_19, ↓reduceIte, ev_k_i, ev_k_r, ev_k_l, ev_k_J, ev_k_n, ev_kr_1, ev_kr_0, ev_isK_y, ev_aG_y, ev_aS_y, ev_aN_y, ev_inA_0, ev_isA_0, ev_ft_I, ev_ft_0, ev_ft_1, ev_ft_o, ev_ft_a, ev_nb_0, ev_nb_1, and_true, true_and, if_true, if_false, not_true_eq_false, not_false_eq_true, nI_1, ev_fG_0, ev_fG_1, ev_fG_2, ev_fG_3, ev_fG_4, ev_fG_5, ev_fG_6, ev_fG_7, ev_fG_8, ev_fS_0, ev_fS_1, ev_fS_2, ev_fS_3, ev_fS_4, ev_fS_5, ev_fS_6, ev_fS_7, ev_fS_8, ev_isO_0, ev_isO_1, ev_isO_2, ev_isO_3, ev_isO_4, ev_isO_5, ev_isO_6, ev_isO_7, ev_isO_8, ev_z0, ev_z1, ev_z2, eq_self, ev_ofN, ev_lk_s hi, ev_lk_s hl]
  exact c
theorem I_next (hi : H i = some (ev_itc l cur last mc)) (hl : H l = some (ev_alc mc e L.length)) (hA : ev_AE X H e L) (hL : L.length < 90) {y : Nat} (hj : L[cur]? = some (.ref y)) (c : P (.inl (some (.ref y))) (ev_up H i (ev_itc l (cur + 1) (nI cur) mc)) n q) : ev_ok (ev_TT X) 86 0 [.ref i, ev_J, ev_J] [] H n q P := by
  unfold ev_alc at hl
  unfold ev_itc at hi c
  have hj2 := (List.getElem?_eq_some_iff.mp hj).1
  have h1 : nI cur < nI L.length := nI_lt hj2 (by omega)
  have hil : ¬ l = i := fun z => by rw [z, hi] at hl; cases hl
  rcases hA.2 with ⟨-, -, -, rfl⟩ | ⟨N, f, he, hN, -, hN9, hf⟩
  · simp at hj2
  · have hie : ¬ e = i := fun z => by rw [z, hi] at he; cases he
    have hp := nI_pos' (n := cur) (by omega)
    have hfj := hf cur _ hj
    have hjN : cur < N := by omega
    have h2 : nI cur < nI N := nI_lt hjN (by omega)
    simp (disch := omega) only [t_Jx35411_next_0502b_0, t_Jx35411_next_0502b_1, t_Jx35411_next_0502b_4, t_Jx35411_next_0502b_5, t_Jx35411_next_0502b_8, t_Jx35411_next_0502b_9, t_Jx35411_next_0502b_10, t_Jx35411_next_0502b_11, t_Jx35411_next_0502b_14, t_Jx35411_next_0502b_17, t_Jx35411_next_0502b_28, t_Jx35411_next_0502b_29, t_Jx35411_next_0502b_32, t_Jx35411_next_0502b_35, t_Jx35411_next_0502b_36, t_Jx35411_next_0502b_37, t_Jx35411_next_0502b_38, t_Jx35411_next_0502b_39, t_Jx35411_next_0502b_50, t_Jx35411_next_0502b_51, t_Jx35411_next_0502b_52, t_Jx35411_next_0502b_53, t_Jx35411_next_0502b_54, t_Jx35411_next_0502b_57, t_Jx35411_next_0502b_58, t_Jx35411_next_0502b_59, t_Jx35411_next_0502b_60, t_Jx35411_next_0502b_60_r, t_Jx35411_next_0502b_61, t_Jx35411_next_0502b_64, t_Jx35411_next_0502b_65, t_Jx35411_checkForComodification_da8c8_0, t_Jx35411_checkForComodification_da8c8_1, t_Jx35411_checkForComodification_da8c8_4, t_Jx35411_checkForComodification_da8c8_7, t_Jx35411_checkForComodification_da8c8_8, t_Jx35411_checkForComodification_da8c8_11, t_Jx35411_checkForComodification_da8c8_22, ↓reduceIte, ev_k_i, ev_k_r, ev_k_l, ev_k_J, ev_k_n, ev_kr_1, ev_kr_0, ev_isK_y, ev_aG_y, ev_aS_y, ev_aN_y, ev_inA_0, ev_isA_0, ev_ft_I, ev_ft_0, ev_ft_1, ev_ft_o, ev_ft_a, ev_nb_0, ev_nb_1, and_true, true_and, if_true, if_false, not_true_eq_false, not_false_eq_true, nI_1, ev_fG_0, ev_fG_1, ev_fG_2, ev_fG_3, ev_fG_4, ev_fG_5, ev_fG_6, ev_fG_7, ev_fG_8, ev_fS_0, ev_fS_1, ev_fS_2, ev_fS_3, ev_fS_4, ev_fS_5, ev_fS_6, ev_fS_7, ev_fS_8, ev_isO_0, ev_isO_1, ev_isO_2, ev_isO_3, ev_isO_4, ev_isO_5, ev_isO_6, ev_isO_7, ev_isO_8, ev_z0, ev_z1, ev_z2, eq_self, ev_ofN, ev_lk_s hi, hi, ev_lk_s hl, ev_lk_s he, ev_up_s, ev_up_up, ev_lk_s ev_up_s, ev_isA_2, ev_inA_2, h1, h2, ev_up_n hil, ev_up_n hie, ev_lk_s ((ev_up_n hie).trans he), nI_clamp, hp, hfj, hjN]
    exact c
/-- the Integers of the JDK's cache, as they can be read -/
def ev_IC (X : ev_E) (zf : Nat → Nat) : Prop := ∃ (N : Nat) (cf : Nat → Value), X.2.2.2.2.1 (X.2.2.2.2.2 0) = some (.inl (9, N, cf)) ∧ 256 ≤ N ∧ N < 2 ^ 31 ∧ X.2.2.2.2.2 0 < X.1.heap.size ∧ ∀ j, j < 128 → cf (j + 128) = .ref (zf j) ∧ X.2.2.2.2.1 (zf j) = some (.inr (2, [.int (nI j)])) ∧ zf j < X.1.heap.size
/-- nothing of one's own lies below the start -/
def ev_low (X : ev_E) (H : ev_M) : Prop := ∀ a, a < X.1.heap.size → H a = none
theorem I_val {zf : Nat → Nat} (hI : ev_IC X zf) (hw : ev_low X H) {j : Nat} (hj : j < 128) (c : P (.inl (some (.ref (zf j)))) H n q) : ev_ok (ev_TT X) 126 0 [.int (nI j)] [] H n q P := by
  obtain ⟨N, cf, h1, h2, h3, h4, h5⟩ := hI
  obtain ⟨h6, h7, h8⟩ := h5 j hj
  have hA : ¬ nI j < -128 := Int32.not_lt.mpr (Int32.le_trans (by decide : (-128 : Int32) ≤ 0) (nI_pos' (by omega)))
  have hB : ¬ (127 : Int32) < nI j := nI_nlt (b := j) (a := 127) (by omega) (by omega)
  have hC : nI j + 128 = nI (j + 128) := nI_add j 128
  have hp := nI_pos' (n := j + 128) (by omega)
  have hjN : j + 128 < N := by omega
  simp (disch := omega) only [t_J6_valueOf_2dffe_0, t_J6_valueOf_2dffe_1, t_J6_valueOf_2dffe_3, t_J6_valueOf_2dffe_6, t_J6_valueOf_2dffe_7, t_J6_valueOf_2dffe_10, t_J6_valueOf_2dffe_13, t_J6_valueOf_2dffe_16, t_J6_valueOf_2dffe_17, t_J6_valueOf_2dffe_20, t_J6_valueOf_2dffe_21, t_J6_valueOf_2dffe_22, t_J6_valueOf_2dffe_23, t_J6_valueOf_2dffe_26, t_J6_valueOf_2dffe_26_i, t_J6_valueOf_2dffe_27, t_J6_valueOf_2dffe_28, t_J6_valueOf_2dffe_31, ↓reduceIte, ev_k_i, ev_k_r, ev_k_l, ev_k_J, ev_k_n, ev_kr_1, ev_kr_0, ev_isK_y, ev_aG_y, ev_aS_y, ev_aN_y, ev_inA_0, ev_isA_0, ev_ft_I, ev_ft_0, ev_ft_1, ev_ft_o, ev_ft_a, ev_nb_0, ev_nb_1, and_true, true_and, if_true, if_false, not_true_eq_false, not_false_eq_true, nI_1, ev_fG_0, ev_fG_1, ev_fG_2, ev_fG_3, ev_fG_4, ev_fG_5, ev_fG_6, ev_fG_7, ev_fG_8, ev_fS_0, ev_fS_1, ev_fS_2, ev_fS_3, ev_fS_4, ev_fS_5, ev_fS_6, ev_fS_7, ev_fS_8, ev_isO_0, ev_isO_1, ev_isO_2, ev_isO_3, ev_isO_4, ev_isO_5, ev_isO_6, ev_isO_7, ev_isO_8, ev_z0, ev_z1, ev_z2, eq_self, ev_ofN, hA, hB, hC, ev_lk_o (hw _ h4) h1, ev_inA_9, nI_clamp, hp, h6, hjN]
  exact c
theorem I_int {zf : Nat → Nat} (hI : ev_IC X zf) (hw : ev_low X H) {j : Nat} (hj : j < 128) (c : P (.inl (some (.int (nI j)))) H n q) : ev_ok (ev_TT X) 12 0 [.ref (zf j)] [] H n q P := by
  obtain ⟨N, cf, h1, h2, h3, h4, h5⟩ := hI
  obtain ⟨h6, h7, h8⟩ := h5 j hj
  simp (disch := omega) only [t_J6_intValue_8abf5_0, t_J6_intValue_8abf5_1, t_J6_intValue_8abf5_4, ↓reduceIte, ev_k_i, ev_k_r, ev_k_l, ev_k_J, ev_k_n, ev_kr_1, ev_kr_0, ev_isK_y, ev_aG_y, ev_aS_y, ev_aN_y, ev_inA_0, ev_isA_0, ev_ft_I, ev_ft_0, ev_ft_1, ev_ft_o, ev_ft_a, ev_nb_0, ev_nb_1, and_true, true_and, if_true, if_false, not_true_eq_false, not_false_eq_true, nI_1, ev_fG_0, ev_fG_1, ev_fG_2, ev_fG_3, ev_fG_4, ev_fG_5, ev_fG_6, ev_fG_7, ev_fG_8, ev_fS_0, ev_fS_1, ev_fS_2, ev_fS_3, ev_fS_4, ev_fS_5, ev_fS_6, ev_fS_7, ev_fS_8, ev_isO_0, ev_isO_1, ev_isO_2, ev_isO_3, ev_isO_4, ev_isO_5, ev_isO_6, ev_isO_7, ev_isO_8, ev_z0, ev_z1, ev_z2, eq_self, ev_ofN, ev_lk_o (hw _ h8) h7]
  exact c
end IT
