/-! ===== a walk along a row ===== -/
def ev_bb (b : Bool) : Int32 := match b with
  | true => 1
  | false => 0
theorem ev_bb_t : ev_bb true = 1 := rfl
theorem ev_bb_f : ev_bb false = 0 := rfl
theorem ev_bb_B (b : Bool) : ev_isB (ev_bb b) := by
  cases b
  · exact ev_isB_0
  · exact ev_isB_1
theorem ev_b_d (p : Prop) [Decidable p] : ev_b p = ev_bb (decide p) := by
  unfold ev_b
  by_cases h : p
  · rw [if_pos h, decide_eq_true h]; rfl
  · rw [if_neg h, decide_eq_false h]; rfl
def ev_wkc (r : Nat) (bg old cd : Bool) (kd : Int32) (k : Nat) : ev_C := .inr (9, [.ref r, .int (ev_bb bg), .int (ev_bb old), .int (ev_bb cd), .int kd, .int (nI k)])
theorem ev_rL_up {h H : ev_M} {r : Nat} {L : ev_PL} {b m lm ll : Int32} (hH : ev_rL h r L b m lm ll H) {a : Nat} {c : ev_C} (h0 : ¬ a = r) (h1 : ¬ a = r + 1) (h2 : ¬ a = r + 2) : ev_rL (ev_up h a c) r L b m lm ll (ev_up H a c) := by
  obtain ⟨kf, vf, hR, rfl⟩ := hH
  refine ⟨kf, vf, hR, ?_⟩
  funext x
  unfold ev_up ev_row
  by_cases e : x = a
  · subst e
    simp only [eq_self, if_true, if_neg h0, if_neg h1, if_neg h2]
  · simp only [if_neg e]
theorem ev_rL_o {h H : ev_M} {r : Nat} {L : ev_PL} {b m lm ll : Int32} (hH : ev_rL h r L b m lm ll H) {a : Nat} (h0 : ¬ a = r) (h1 : ¬ a = r + 1) (h2 : ¬ a = r + 2) : H a = h a := by
  obtain ⟨kf, vf, hR, rfl⟩ := hH
  exact ev_row_o h0 h1 h2
theorem ev_rL_self {h H : ev_M} {r : Nat} {L : ev_PL} {b m lm ll : Int32} (hH : ev_rL h r L b m lm ll H) : ev_rL H r L b m lm ll H := by
  obtain ⟨kf, vf, hR, rfl⟩ := hH
  exact ⟨kf, vf, hR, ev_row_row.symm⟩
section WK
variable {X : ev_E} {H : ev_M} {r w : Nat} {L : ev_PL} {b m lm ll : Int32} {bg old cd : Bool} {kd : Int32} {k : Nat} {n q : Nat} {P : ev_O → ev_M → Nat → Nat → Prop}
theorem W_isUsable (hw : H w = some (ev_wkc r bg old cd kd k)) (k1 : P (.inl (some (.int (ev_bb (bg && !old))))) H n q) : ev_ok (ev_TT X) 44 0 [.ref w] [] H n q P := by
  unfold ev_wkc at hw
  cases bg <;> cases old <;> (
    simp (disch := omega) only [t_X4_isUsable_0, t_X4_isUsable_1, t_X4_isUsable_4, t_X4_isUsable_7, t_X4_isUsable_8, t_X4_isUsable_11, t_X4_isUsable_14, t_X4_isUsable_15, t_X4_isUsable_18, t_X4_isUsable_19, ↓reduceIte, ev_k_i, ev_k_r, ev_k_l, ev_k_J, ev_k_n, ev_kr_1, ev_kr_0, ev_isK_y, ev_aG_y, ev_aS_y, ev_aN_y, ev_inA_0, ev_isA_0, ev_ft_I, ev_ft_0, ev_ft_1, ev_ft_o, ev_ft_a, ev_nb_0, ev_nb_1, and_true, true_and, if_true, if_false, not_true_eq_false, not_false_eq_true, nI_1, ev_fG_0, ev_fG_1, ev_fG_2, ev_fG_3, ev_fG_4, ev_fG_5, ev_fG_6, ev_fG_7, ev_fG_8, ev_fS_0, ev_fS_1, ev_fS_2, ev_fS_3, ev_fS_4, ev_fS_5, ev_fS_6, ev_fS_7, ev_fS_8, ev_isO_0, ev_isO_1, ev_isO_2, ev_isO_3, ev_isO_4, ev_isO_5, ev_isO_6, ev_isO_7, ev_isO_8, ev_z0, ev_z1, ev_z2, eq_self, ev_lk_s hw, hw, ev_up_s, ev_up_up, ev_bb_t, ev_bb_f, ev_lk_s ev_up_s]
    exact k1)
theorem W_isOutdated (hw : H w = some (ev_wkc r bg old cd kd k)) (k1 : P (.inl (some (.int (ev_bb (bg && old))))) H n q) : ev_ok (ev_TT X) 43 0 [.ref w] [] H n q P := by
  unfold ev_wkc at hw
  cases bg <;> cases old <;> (
    simp (disch := omega) only [t_X4_isOutdated_0, t_X4_isOutdated_1, t_X4_isOutdated_4, t_X4_isOutdated_7, t_X4_isOutdated_8, t_X4_isOutdated_11, t_X4_isOutdated_14, t_X4_isOutdated_15, t_X4_isOutdated_18, t_X4_isOutdated_19, ↓reduceIte, ev_k_i, ev_k_r, ev_k_l, ev_k_J, ev_k_n, ev_kr_1, ev_kr_0, ev_isK_y, ev_aG_y, ev_aS_y, ev_aN_y, ev_inA_0, ev_isA_0, ev_ft_I, ev_ft_0, ev_ft_1, ev_ft_o, ev_ft_a, ev_nb_0, ev_nb_1, and_true, true_and, if_true, if_false, not_true_eq_false, not_false_eq_true, nI_1, ev_fG_0, ev_fG_1, ev_fG_2, ev_fG_3, ev_fG_4, ev_fG_5, ev_fG_6, ev_fG_7, ev_fG_8, ev_fS_0, ev_fS_1, ev_fS_2, ev_fS_3, ev_fS_4, ev_fS_5, ev_fS_6, ev_fS_7, ev_fS_8, ev_isO_0, ev_isO_1, ev_isO_2, ev_isO_3, ev_isO_4, ev_isO_5, ev_isO_6, ev_isO_7, ev_isO_8, ev_z0, ev_z1, ev_z2, eq_self, ev_lk_s hw, hw, ev_up_s, ev_up_up, ev_bb_t, ev_bb_f, ev_lk_s ev_up_s]
    exact k1)
theorem W_outdate (hw : H w = some (ev_wkc r bg old cd kd k)) (k1 : P (.inl none) (ev_up H w (ev_wkc r bg true cd kd k)) n q) : ev_ok (ev_TT X) 45 0 [.ref w] [] H n q P := by
  unfold ev_wkc at hw k1
  simp (disch := omega) only [t_X4_outdate_0, t_X4_outdate_1, t_X4_outdate_2, t_X4_outdate_5, ↓reduceIte, ev_k_i, ev_k_r, ev_k_l, ev_k_J, ev_k_n, ev_kr_1, ev_kr_0, ev_isK_y, ev_aG_y, ev_aS_y, ev_aN_y, ev_inA_0, ev_isA_0, ev_ft_I, ev_ft_0, ev_ft_1, ev_ft_o, ev_ft_a, ev_nb_0, ev_nb_1, and_true, true_and, if_true, if_false, not_true_eq_false, not_false_eq_true, nI_1, ev_fG_0, ev_fG_1, ev_fG_2, ev_fG_3, ev_fG_4, ev_fG_5, ev_fG_6, ev_fG_7, ev_fG_8, ev_fS_0, ev_fS_1, ev_fS_2, ev_fS_3, ev_fS_4, ev_fS_5, ev_fS_6, ev_fS_7, ev_fS_8, ev_isO_0, ev_isO_1, ev_isO_2, ev_isO_3, ev_isO_4, ev_isO_5, ev_isO_6, ev_isO_7, ev_isO_8, ev_z0, ev_z1, ev_z2, eq_self, ev_lk_s hw, hw, ev_up_s, ev_up_up, ev_bb_t, ev_bb_f, ev_lk_s ev_up_s]
  exact k1
theorem W_begin (hw : H w = some (ev_wkc r bg old cd kd k)) {x : Int32} (k1 : P (.inl none) (ev_up H w (ev_wkc r true false false x 0)) n q) : ev_ok (ev_TT X) 41 0 [.ref w, .int x] [] H n q P := by
  unfold ev_wkc at hw k1
  simp (disch := omega) only [t_X4_begin_0, t_X4_begin_1, t_X4_begin_2, t_X4_begin_5, t_X4_begin_6, t_X4_begin_7, t_X4_begin_10, t_X4_begin_11, t_X4_begin_12, t_X4_begin_15, t_X4_begin_16, t_X4_begin_17, t_X4_begin_20, t_X4_begin_21, t_X4_begin_22, t_X4_begin_25, ↓reduceIte, ev_k_i, ev_k_r, ev_k_l, ev_k_J, ev_k_n, ev_kr_1, ev_kr_0, ev_isK_y, ev_aG_y, ev_aS_y, ev_aN_y, ev_inA_0, ev_isA_0, ev_ft_I, ev_ft_0, ev_ft_1, ev_ft_o, ev_ft_a, ev_nb_0, ev_nb_1, and_true, true_and, if_true, if_false, not_true_eq_false, not_false_eq_true, nI_1, ev_fG_0, ev_fG_1, ev_fG_2, ev_fG_3, ev_fG_4, ev_fG_5, ev_fG_6, ev_fG_7, ev_fG_8, ev_fS_0, ev_fS_1, ev_fS_2, ev_fS_3, ev_fS_4, ev_fS_5, ev_fS_6, ev_fS_7, ev_fS_8, ev_isO_0, ev_isO_1, ev_isO_2, ev_isO_3, ev_isO_4, ev_isO_5, ev_isO_6, ev_isO_7, ev_isO_8, ev_z0, ev_z1, ev_z2, eq_self, ev_lk_s hw, hw, ev_up_s, ev_up_up, ev_bb_t, ev_bb_f, ev_lk_s ev_up_s]
  exact k1
theorem W_canCut (hw : H w = some (ev_wkc r bg old cd kd k)) (k1 : P (.inl (some (.int (ev_bb (bg && !old && cd))))) H n q) : ev_ok (ev_TT X) 98 0 [.ref w] [] H n q P := by
  have hk : ev_isK (ev_lk X H w) 9 = True := by rw [ev_lk_s hw]; exact ev_isK_y
  simp (disch := omega) only [t_X4_canCut_0, t_X4_canCut_1, t_X4_canCut_4, t_X4_canCut_7, t_X4_canCut_8, t_X4_canCut_11, t_X4_canCut_14, t_X4_canCut_15, t_X4_canCut_18, t_X4_canCut_19, ↓reduceIte, ev_k_i, ev_k_r, ev_k_l, ev_k_J, ev_k_n, ev_kr_1, ev_kr_0, ev_isK_y, ev_aG_y, ev_aS_y, ev_aN_y, ev_inA_0, ev_isA_0, ev_ft_I, ev_ft_0, ev_ft_1, ev_ft_o, ev_ft_a, ev_nb_0, ev_nb_1, and_true, true_and, if_true, if_false, not_true_eq_false, not_false_eq_true, nI_1, ev_fG_0, ev_fG_1, ev_fG_2, ev_fG_3, ev_fG_4, ev_fG_5, ev_fG_6, ev_fG_7, ev_fG_8, ev_fS_0, ev_fS_1, ev_fS_2, ev_fS_3, ev_fS_4, ev_fS_5, ev_fS_6, ev_fS_7, ev_fS_8, ev_isO_0, ev_isO_1, ev_isO_2, ev_isO_3, ev_isO_4, ev_isO_5, ev_isO_6, ev_isO_7, ev_isO_8, ev_z0, ev_z1, ev_z2, eq_self, hk]
  refine W_isUsable hw ?_
  unfold ev_wkc at hw
  cases bg <;> cases old <;> cases cd <;> (
    simp (disch := omega) only [t_X4_canCut_0, t_X4_canCut_1, t_X4_canCut_4, t_X4_canCut_7, t_X4_canCut_8, t_X4_canCut_11, t_X4_canCut_14, t_X4_canCut_15, t_X4_canCut_18, t_X4_canCut_19, ↓reduceIte, ev_k_i, ev_k_r, ev_k_l, ev_k_J, ev_k_n, ev_kr_1, ev_kr_0, ev_isK_y, ev_aG_y, ev_aS_y, ev_aN_y, ev_inA_0, ev_isA_0, ev_ft_I, ev_ft_0, ev_ft_1, ev_ft_o, ev_ft_a, ev_nb_0, ev_nb_1, and_true, true_and, if_true, if_false, not_true_eq_false, not_false_eq_true, nI_1, ev_fG_0, ev_fG_1, ev_fG_2, ev_fG_3, ev_fG_4, ev_fG_5, ev_fG_6, ev_fG_7, ev_fG_8, ev_fS_0, ev_fS_1, ev_fS_2, ev_fS_3, ev_fS_4, ev_fS_5, ev_fS_6, ev_fS_7, ev_fS_8, ev_isO_0, ev_isO_1, ev_isO_2, ev_isO_3, ev_isO_4, ev_isO_5, ev_isO_6, ev_isO_7, ev_isO_8, ev_z0, ev_z1, ev_z2, eq_self, ev_lk_s hw, hw, ev_up_s, ev_up_up, ev_bb_t, ev_bb_f, ev_lk_s ev_up_s, Bool.and_true, Bool.and_false, Bool.true_and, Bool.false_and, Bool.not_true, Bool.not_false]
    exact k1)
theorem W_isAnyAhead (hw : H w = some (ev_wkc r bg old cd kd k)) (hH : ev_rL H r L b m lm ll H) (hc : L.length ≤ 20) (hk : k < 2 ^ 31) (k1 : P (.inl (some (.int (ev_bb (bg && !old && decide (k < L.length)))))) H n q) : ev_ok (ev_TT X) 99 0 [.ref w] [] H n q P := by
  have hk9 : ev_isK (ev_lk X H w) 9 = True := by rw [ev_lk_s hw]; exact ev_isK_y
  simp (disch := omega) only [t_X4_isAnyAhead_0, t_X4_isAnyAhead_1, t_X4_isAnyAhead_4, t_X4_isAnyAhead_7, t_X4_isAnyAhead_8, t_X4_isAnyAhead_11, t_X4_isAnyAhead_12, t_X4_isAnyAhead_15, t_X4_isAnyAhead_18, t_X4_isAnyAhead_21, t_X4_isAnyAhead_22, t_X4_isAnyAhead_25, t_X4_isAnyAhead_26, ↓reduceIte, ev_k_i, ev_k_r, ev_k_l, ev_k_J, ev_k_n, ev_kr_1, ev_kr_0, ev_isK_y, ev_aG_y, ev_aS_y, ev_aN_y, ev_inA_0, ev_isA_0, ev_ft_I, ev_ft_0, ev_ft_1, ev_ft_o, ev_ft_a, ev_nb_0, ev_nb_1, and_true, true_and, if_true, if_false, not_true_eq_false, not_false_eq_true, nI_1, ev_fG_0, ev_fG_1, ev_fG_2, ev_fG_3, ev_fG_4, ev_fG_5, ev_fG_6, ev_fG_7, ev_fG_8, ev_fS_0, ev_fS_1, ev_fS_2, ev_fS_3, ev_fS_4, ev_fS_5, ev_fS_6, ev_fS_7, ev_fS_8, ev_isO_0, ev_isO_1, ev_isO_2, ev_isO_3, ev_isO_4, ev_isO_5, ev_isO_6, ev_isO_7, ev_isO_8, ev_z0, ev_z1, ev_z2, eq_self, hk9]
  refine W_isUsable hw ?_
  have hr := ev_rL_k (X := X) hH
  have hw2 := hw
  unfold ev_wkc at hw
  have hd : decide (0 ≤ nI k ∧ nI k < nI L.length) = decide (k < L.length) := by
    have : (0 ≤ nI k ∧ nI k < nI L.length) ↔ k < L.length := by
      rw [nI_ltI hk (by omega)]
      exact ⟨fun z => z.2, fun z => ⟨nI_pos' hk, z⟩⟩
    by_cases e : k < L.length
    · rw [decide_eq_true e, decide_eq_true (this.mpr e)]
    · rw [decide_eq_false e, decide_eq_false (fun z => e (this.mp z))]
  cases bg <;> cases old <;> (
    simp (disch := omega) only [t_X4_isAnyAhead_0, t_X4_isAnyAhead_1, t_X4_isAnyAhead_4, t_X4_isAnyAhead_7, t_X4_isAnyAhead_8, t_X4_isAnyAhead_11, t_X4_isAnyAhead_12, t_X4_isAnyAhead_15, t_X4_isAnyAhead_18, t_X4_isAnyAhead_21, t_X4_isAnyAhead_22, t_X4_isAnyAhead_25, t_X4_isAnyAhead_26, ↓reduceIte, ev_k_i, ev_k_r, ev_k_l, ev_k_J, ev_k_n, ev_kr_1, ev_kr_0, ev_isK_y, ev_aG_y, ev_aS_y, ev_aN_y, ev_inA_0, ev_isA_0, ev_ft_I, ev_ft_0, ev_ft_1, ev_ft_o, ev_ft_a, ev_nb_0, ev_nb_1, and_true, true_and, if_true, if_false, not_true_eq_false, not_false_eq_true, nI_1, ev_fG_0, ev_fG_1, ev_fG_2, ev_fG_3, ev_fG_4, ev_fG_5, ev_fG_6, ev_fG_7, ev_fG_8, ev_fS_0, ev_fS_1, ev_fS_2, ev_fS_3, ev_fS_4, ev_fS_5, ev_fS_6, ev_fS_7, ev_fS_8, ev_isO_0, ev_isO_1, ev_isO_2, ev_isO_3, ev_isO_4, ev_isO_5, ev_isO_6, ev_isO_7, ev_isO_8, ev_z0, ev_z1, ev_z2, eq_self, ev_lk_s hw, hw, ev_up_s, ev_up_up, ev_bb_t, ev_bb_f, ev_lk_s ev_up_s, hr, Bool.and_true, Bool.and_false, Bool.true_and, Bool.false_and, Bool.not_true, Bool.not_false]
    first
      | exact k1
      | (refine R_isPlace hH hc ?_
         rw [ev_b_d, hd]
         rcases hb : decide (k < L.length) <;> (
           rw [hb] at k1
           simp (disch := omega) only [t_X4_isAnyAhead_0, t_X4_isAnyAhead_1, t_X4_isAnyAhead_4, t_X4_isAnyAhead_7, t_X4_isAnyAhead_8, t_X4_isAnyAhead_11, t_X4_isAnyAhead_12, t_X4_isAnyAhead_15, t_X4_isAnyAhead_18, t_X4_isAnyAhead_21, t_X4_isAnyAhead_22, t_X4_isAnyAhead_25, t_X4_isAnyAhead_26, ↓reduceIte, ev_k_i, ev_k_r, ev_k_l, ev_k_J, ev_k_n, ev_kr_1, ev_kr_0, ev_isK_y, ev_aG_y, ev_aS_y, ev_aN_y, ev_inA_0, ev_isA_0, ev_ft_I, ev_ft_0, ev_ft_1, ev_ft_o, ev_ft_a, ev_nb_0, ev_nb_1, and_true, true_and, if_true, if_false, not_true_eq_false, not_false_eq_true, nI_1, ev_fG_0, ev_fG_1, ev_fG_2, ev_fG_3, ev_fG_4, ev_fG_5, ev_fG_6, ev_fG_7, ev_fG_8, ev_fS_0, ev_fS_1, ev_fS_2, ev_fS_3, ev_fS_4, ev_fS_5, ev_fS_6, ev_fS_7, ev_fS_8, ev_isO_0, ev_isO_1, ev_isO_2, ev_isO_3, ev_isO_4, ev_isO_5, ev_isO_6, ev_isO_7, ev_isO_8, ev_z0, ev_z1, ev_z2, eq_self, ev_lk_s hw, hw, ev_up_s, ev_up_up, ev_bb_t, ev_bb_f, ev_lk_s ev_up_s]
           exact k1)))
theorem W_advance (hw : H w = some (ev_wkc r bg old cd kd k)) (hH : ev_rL H r L b m lm ll H) (hc : L.length ≤ 20) (k1 : P (.inl (some (.int (pr_told L (nI k) kd)))) (ev_up H w (ev_wkc r bg old true kd (k + 1))) n q) : ev_ok (ev_TT X) 145 0 [.ref w, ev_J] [] H n q P := by
  have hr := ev_rL_k (X := X) hH
  unfold ev_wkc at hw k1
  simp (disch := omega) only [t_X4_advance_0, t_X4_advance_1, t_X4_advance_4, t_X4_advance_5, t_X4_advance_8, t_X4_advance_9, t_X4_advance_12, t_X4_advance_15, t_X4_advance_16, t_X4_advance_17, t_X4_advance_17_i, t_X4_advance_18, t_X4_advance_21, t_X4_advance_22, t_X4_advance_23, t_X4_advance_26, t_X4_advance_27, t_X4_advance_28, t_X4_advance_31, t_X4_advance_32, ↓reduceIte, ev_k_i, ev_k_r, ev_k_l, ev_k_J, ev_k_n, ev_kr_1, ev_kr_0, ev_isK_y, ev_aG_y, ev_aS_y, ev_aN_y, ev_inA_0, ev_isA_0, ev_ft_I, ev_ft_0, ev_ft_1, ev_ft_o, ev_ft_a, ev_nb_0, ev_nb_1, and_true, true_and, if_true, if_false, not_true_eq_false, not_false_eq_true, nI_1, ev_fG_0, ev_fG_1, ev_fG_2, ev_fG_3, ev_fG_4, ev_fG_5, ev_fG_6, ev_fG_7, ev_fG_8, ev_fS_0, ev_fS_1, ev_fS_2, ev_fS_3, ev_fS_4, ev_fS_5, ev_fS_6, ev_fS_7, ev_fS_8, ev_isO_0, ev_isO_1, ev_isO_2, ev_isO_3, ev_isO_4, ev_isO_5, ev_isO_6, ev_isO_7, ev_isO_8, ev_z0, ev_z1, ev_z2, eq_self, ev_lk_s hw, hw, ev_up_s, ev_up_up, ev_bb_t, ev_bb_f, ev_lk_s ev_up_s, hr]
  refine R_told hH hc ?_
  simp (disch := omega) only [t_X4_advance_0, t_X4_advance_1, t_X4_advance_4, t_X4_advance_5, t_X4_advance_8, t_X4_advance_9, t_X4_advance_12, t_X4_advance_15, t_X4_advance_16, t_X4_advance_17, t_X4_advance_17_i, t_X4_advance_18, t_X4_advance_21, t_X4_advance_22, t_X4_advance_23, t_X4_advance_26, t_X4_advance_27, t_X4_advance_28, t_X4_advance_31, t_X4_advance_32, ↓reduceIte, ev_k_i, ev_k_r, ev_k_l, ev_k_J, ev_k_n, ev_kr_1, ev_kr_0, ev_isK_y, ev_aG_y, ev_aS_y, ev_aN_y, ev_inA_0, ev_isA_0, ev_ft_I, ev_ft_0, ev_ft_1, ev_ft_o, ev_ft_a, ev_nb_0, ev_nb_1, and_true, true_and, if_true, if_false, not_true_eq_false, not_false_eq_true, nI_1, ev_fG_0, ev_fG_1, ev_fG_2, ev_fG_3, ev_fG_4, ev_fG_5, ev_fG_6, ev_fG_7, ev_fG_8, ev_fS_0, ev_fS_1, ev_fS_2, ev_fS_3, ev_fS_4, ev_fS_5, ev_fS_6, ev_fS_7, ev_fS_8, ev_isO_0, ev_isO_1, ev_isO_2, ev_isO_3, ev_isO_4, ev_isO_5, ev_isO_6, ev_isO_7, ev_isO_8, ev_z0, ev_z1, ev_z2, eq_self, ev_lk_s hw, hw, ev_up_s, ev_up_up, ev_bb_t, ev_bb_f, ev_lk_s ev_up_s]
  exact k1
noncomputable def pr_acc (L : ev_PL) (kd : Int32) : Nat → Nat → Int32 → Int32
  | 0, _, s => s
  | d + 1, k, s => pr_acc L kd d (k + 1) (s + pr_told L (nI k) kd)
theorem W_toEnd_loop (a : Nat) (ha : a ≤ 20) (h0 : ¬ w = r) (h1 : ¬ w = r + 1) (h2 : ¬ w = r + 2) (hc : L.length ≤ 20) : ∀ (d i k : Nat) (cd : Bool) (s : Int32) (H : ev_M) (P : ev_O → ev_M → Nat → Nat → Prop), i + d = a → H w = some (ev_wkc r bg old cd kd k) → ev_rL H r L b m lm ll H →
    P (.inl (some (.int (pr_acc L kd d k s)))) (ev_up H w (ev_wkc r bg old (cd || decide (0 < d)) kd (k + d))) n q → ev_ok (ev_TT X) 198 17 [.ref w, .int (nI a), .int s, .int (nI i)] [] H n q P := by
  intro d
  induction d with
  | zero =>
    intro i k cd s H P hi hw hH k1
    have hi2 : a ≤ i := by omega
    simp (disch := omega) only [t_X4_advanceToEnd_0, t_X4_advanceToEnd_1, t_X4_advanceToEnd_4, t_X4_advanceToEnd_7, t_X4_advanceToEnd_8, t_X4_advanceToEnd_11, t_X4_advanceToEnd_12, t_X4_advanceToEnd_13, t_X4_advanceToEnd_14, t_X4_advanceToEnd_15, t_X4_advanceToEnd_16, t_X4_advanceToEnd_17, t_X4_advanceToEnd_18, t_X4_advanceToEnd_19, t_X4_advanceToEnd_22, t_X4_advanceToEnd_23, t_X4_advanceToEnd_24, t_X4_advanceToEnd_27, t_X4_advanceToEnd_28, t_X4_advanceToEnd_29, t_X4_advanceToEnd_32, t_X4_advanceToEnd_35, t_X4_advanceToEnd_36, ↓reduceIte, ev_k_i, ev_k_r, ev_k_l, ev_k_J, ev_k_n, ev_kr_1, ev_kr_0, ev_isK_y, ev_aG_y, ev_aS_y, ev_aN_y, ev_inA_0, ev_isA_0, ev_ft_I, ev_ft_0, ev_ft_1, ev_ft_o, ev_ft_a, ev_nb_0, ev_nb_1, and_true, true_and, if_true, if_false, not_true_eq_false, not_false_eq_true, nI_1, ev_fG_0, ev_fG_1, ev_fG_2, ev_fG_3, ev_fG_4, ev_fG_5, ev_fG_6, ev_fG_7, ev_fG_8, ev_fS_0, ev_fS_1, ev_fS_2, ev_fS_3, ev_fS_4, ev_fS_5, ev_fS_6, ev_fS_7, ev_fS_8, ev_isO_0, ev_isO_1, ev_isO_2, ev_isO_3, ev_isO_4, ev_isO_5, ev_isO_6, ev_isO_7, ev_isO_8, ev_z0, ev_z1, ev_z2, eq_self, nI_leI, hi2]
    rw [ev_up_t (by rw [hw, decide_eq_false (by omega), Bool.or_false]; rfl)] at k1
    exact k1
  | succ d ih =>
    intro i k cd s H P hi hw hH k1
    have hi2 : ¬ a ≤ i := by omega
    have hw2 : ev_isK (ev_lk X H w) 9 = True := by rw [ev_lk_s hw]; exact ev_isK_y
    simp (disch := omega) only [t_X4_advanceToEnd_0, t_X4_advanceToEnd_1, t_X4_advanceToEnd_4, t_X4_advanceToEnd_7, t_X4_advanceToEnd_8, t_X4_advanceToEnd_11, t_X4_advanceToEnd_12, t_X4_advanceToEnd_13, t_X4_advanceToEnd_14, t_X4_advanceToEnd_15, t_X4_advanceToEnd_16, t_X4_advanceToEnd_17, t_X4_advanceToEnd_18, t_X4_advanceToEnd_19, t_X4_advanceToEnd_22, t_X4_advanceToEnd_23, t_X4_advanceToEnd_24, t_X4_advanceToEnd_27, t_X4_advanceToEnd_28, t_X4_advanceToEnd_29, t_X4_advanceToEnd_32, t_X4_advanceToEnd_35, t_X4_advanceToEnd_36, ↓reduceIte, ev_k_i, ev_k_r, ev_k_l, ev_k_J, ev_k_n, ev_kr_1, ev_kr_0, ev_isK_y, ev_aG_y, ev_aS_y, ev_aN_y, ev_inA_0, ev_isA_0, ev_ft_I, ev_ft_0, ev_ft_1, ev_ft_o, ev_ft_a, ev_nb_0, ev_nb_1, and_true, true_and, if_true, if_false, not_true_eq_false, not_false_eq_true, nI_1, ev_fG_0, ev_fG_1, ev_fG_2, ev_fG_3, ev_fG_4, ev_fG_5, ev_fG_6, ev_fG_7, ev_fG_8, ev_fS_0, ev_fS_1, ev_fS_2, ev_fS_3, ev_fS_4, ev_fS_5, ev_fS_6, ev_fS_7, ev_fS_8, ev_isO_0, ev_isO_1, ev_isO_2, ev_isO_3, ev_isO_4, ev_isO_5, ev_isO_6, ev_isO_7, ev_isO_8, ev_z0, ev_z1, ev_z2, eq_self, nI_leI, hi2, hw2]
    refine W_advance hw hH hc ?_
    simp (disch := omega) only [t_X4_advanceToEnd_0, t_X4_advanceToEnd_1, t_X4_advanceToEnd_4, t_X4_advanceToEnd_7, t_X4_advanceToEnd_8, t_X4_advanceToEnd_11, t_X4_advanceToEnd_12, t_X4_advanceToEnd_13, t_X4_advanceToEnd_14, t_X4_advanceToEnd_15, t_X4_advanceToEnd_16, t_X4_advanceToEnd_18, t_X4_advanceToEnd_19, t_X4_advanceToEnd_22, t_X4_advanceToEnd_23, t_X4_advanceToEnd_24, t_X4_advanceToEnd_27, t_X4_advanceToEnd_28, t_X4_advanceToEnd_29, t_X4_advanceToEnd_32, t_X4_advanceToEnd_35, t_X4_advanceToEnd_36, ↓reduceIte, ev_k_i, ev_k_r, ev_k_l, ev_k_J, ev_k_n, ev_kr_1, ev_kr_0, ev_isK_y, ev_aG_y, ev_aS_y, ev_aN_y, ev_inA_0, ev_isA_0, ev_ft_I, ev_ft_0, ev_ft_1, ev_ft_o, ev_ft_a, ev_nb_0, ev_nb_1, and_true, true_and, if_true, if_false, not_true_eq_false, not_false_eq_true, nI_1, ev_fG_0, ev_fG_1, ev_fG_2, ev_fG_3, ev_fG_4, ev_fG_5, ev_fG_6, ev_fG_7, ev_fG_8, ev_fS_0, ev_fS_1, ev_fS_2, ev_fS_3, ev_fS_4, ev_fS_5, ev_fS_6, ev_fS_7, ev_fS_8, ev_isO_0, ev_isO_1, ev_isO_2, ev_isO_3, ev_isO_4, ev_isO_5, ev_isO_6, ev_isO_7, ev_isO_8, ev_z0, ev_z1, ev_z2, eq_self]
    refine ih (i + 1) (k + 1) true _ _ P (by omega) ev_up_s (ev_rL_up hH h0 h1 h2) ?_
    rw [ev_up_up]
    rw [decide_eq_true (show 0 < d + 1 by omega), Bool.or_true] at k1
    rw [Bool.true_or, show k + 1 + d = k + (d + 1) by omega]
    rw [pr_acc] at k1
    exact k1
theorem W_toEnd (hw : H w = some (ev_wkc r bg old cd kd k)) (hH : ev_rL H r L b m lm ll H) (hc : L.length ≤ 20) (hk : k ≤ L.length) (h0 : ¬ w = r) (h1 : ¬ w = r + 1) (h2 : ¬ w = r + 2) (k1 : P (.inl (some (.int (pr_acc L kd (L.length - k) k 0)))) (ev_up H w (ev_wkc r bg old (cd || decide (0 < L.length - k)) kd L.length)) n q) : ev_ok (ev_TT X) 198 0 [.ref w, ev_J, ev_J, ev_J] [] H n q P := by
  have hw2 := hw
  have hx := (ev_rL_b (X := X) hH).2.1
  unfold ev_wkc at hw
  simp (disch := omega) only [t_X4_advanceToEnd_0, t_X4_advanceToEnd_1, t_X4_advanceToEnd_4, t_X4_advanceToEnd_7, t_X4_advanceToEnd_8, t_X4_advanceToEnd_11, t_X4_advanceToEnd_12, t_X4_advanceToEnd_13, t_X4_advanceToEnd_14, t_X4_advanceToEnd_15, t_X4_advanceToEnd_16, t_X4_advanceToEnd_18, t_X4_advanceToEnd_19, t_X4_advanceToEnd_22, t_X4_advanceToEnd_23, t_X4_advanceToEnd_24, t_X4_advanceToEnd_27, t_X4_advanceToEnd_28, t_X4_advanceToEnd_29, t_X4_advanceToEnd_32, t_X4_advanceToEnd_35, t_X4_advanceToEnd_36, ↓reduceIte, ev_k_i, ev_k_r, ev_k_l, ev_k_J, ev_k_n, ev_kr_1, ev_kr_0, ev_isK_y, ev_aG_y, ev_aS_y, ev_aN_y, ev_inA_0, ev_isA_0, ev_ft_I, ev_ft_0, ev_ft_1, ev_ft_o, ev_ft_a, ev_nb_0, ev_nb_1, and_true, true_and, if_true, if_false, not_true_eq_false, not_false_eq_true, nI_1, ev_fG_0, ev_fG_1, ev_fG_2, ev_fG_3, ev_fG_4, ev_fG_5, ev_fG_6, ev_fG_7, ev_fG_8, ev_fS_0, ev_fS_1, ev_fS_2, ev_fS_3, ev_fS_4, ev_fS_5, ev_fS_6, ev_fS_7, ev_fS_8, ev_isO_0, ev_isO_1, ev_isO_2, ev_isO_3, ev_isO_4, ev_isO_5, ev_isO_6, ev_isO_7, ev_isO_8, ev_z0, ev_z1, ev_z2, eq_self, ev_lk_s hw, hw, ev_up_s, ev_up_up, ev_bb_t, ev_bb_f, ev_lk_s ev_up_s, hx.1, hx.2, pk_sub hk]
  rw [← nI_0]
  refine W_toEnd_loop (L.length - k) (by omega) h0 h1 h2 hc (L.length - k) 0 k cd _ H P (by omega) hw2 hH ?_
  rw [nI_0, show k + (L.length - k) = L.length by omega]
  exact k1
theorem W_cutLast (hw : H w = some (ev_wkc r bg old cd kd (k + 1))) (hH : ev_rL H r L b m lm ll H) (hc : L.length ≤ 20) (hk : k < L.length) (h0 : ¬ w = r) (h1 : ¬ w = r + 1) (h2 : ¬ w = r + 2) (k1 : ∀ H1, ev_rL (ev_up H w (ev_wkc r bg old false kd k)) r (L.eraseIdx k) b m lm ll H1 → P (.inl none) H1 n q) : ev_ok (ev_TT X) 146 0 [.ref w] [] H n q P := by
  have hr := ev_rL_k (X := X) (ev_rL_up hH (c := ev_wkc r bg old false kd k) h0 h1 h2)
  have hU := ev_rL_up hH (c := ev_wkc r bg old false kd k) h0 h1 h2
  unfold ev_wkc at hw k1 hr hU
  rw [ev_bb_f] at k1 hr hU
  simp (disch := omega) only [t_X4_cutLast_0, t_X4_cutLast_1, t_X4_cutLast_1_i, t_X4_cutLast_2, t_X4_cutLast_5, t_X4_cutLast_6, t_X4_cutLast_7, t_X4_cutLast_10, t_X4_cutLast_11, t_X4_cutLast_12, t_X4_cutLast_15, t_X4_cutLast_16, t_X4_cutLast_19, t_X4_cutLast_20, t_X4_cutLast_23, t_X4_cutLast_26, ↓reduceIte, ev_k_i, ev_k_r, ev_k_l, ev_k_J, ev_k_n, ev_kr_1, ev_kr_0, ev_isK_y, ev_aG_y, ev_aS_y, ev_aN_y, ev_inA_0, ev_isA_0, ev_ft_I, ev_ft_0, ev_ft_1, ev_ft_o, ev_ft_a, ev_nb_0, ev_nb_1, and_true, true_and, if_true, if_false, not_true_eq_false, not_false_eq_true, nI_1, ev_fG_0, ev_fG_1, ev_fG_2, ev_fG_3, ev_fG_4, ev_fG_5, ev_fG_6, ev_fG_7, ev_fG_8, ev_fS_0, ev_fS_1, ev_fS_2, ev_fS_3, ev_fS_4, ev_fS_5, ev_fS_6, ev_fS_7, ev_fS_8, ev_isO_0, ev_isO_1, ev_isO_2, ev_isO_3, ev_isO_4, ev_isO_5, ev_isO_6, ev_isO_7, ev_isO_8, ev_z0, ev_z1, ev_z2, eq_self, ev_lk_s hw, hw, ev_up_s, ev_up_up, ev_bb_t, ev_bb_f, ev_lk_s ev_up_s, nI_pred, hr]
  refine R_dropAt hU hc hk fun H1 hH1 => ?_
  simp (disch := omega) only [t_X4_cutLast_0, t_X4_cutLast_1, t_X4_cutLast_1_i, t_X4_cutLast_2, t_X4_cutLast_5, t_X4_cutLast_6, t_X4_cutLast_7, t_X4_cutLast_10, t_X4_cutLast_11, t_X4_cutLast_12, t_X4_cutLast_15, t_X4_cutLast_16, t_X4_cutLast_19, t_X4_cutLast_20, t_X4_cutLast_23, t_X4_cutLast_26, ↓reduceIte, ev_k_i, ev_k_r, ev_k_l, ev_k_J, ev_k_n, ev_kr_1, ev_kr_0, ev_isK_y, ev_aG_y, ev_aS_y, ev_aN_y, ev_inA_0, ev_isA_0, ev_ft_I, ev_ft_0, ev_ft_1, ev_ft_o, ev_ft_a, ev_nb_0, ev_nb_1, and_true, true_and, if_true, if_false, not_true_eq_false, not_false_eq_true, nI_1, ev_fG_0, ev_fG_1, ev_fG_2, ev_fG_3, ev_fG_4, ev_fG_5, ev_fG_6, ev_fG_7, ev_fG_8, ev_fS_0, ev_fS_1, ev_fS_2, ev_fS_3, ev_fS_4, ev_fS_5, ev_fS_6, ev_fS_7, ev_fS_8, ev_isO_0, ev_isO_1, ev_isO_2, ev_isO_3, ev_isO_4, ev_isO_5, ev_isO_6, ev_isO_7, ev_isO_8, ev_z0, ev_z1, ev_z2, eq_self]
  exact k1 H1 hH1
end WK
