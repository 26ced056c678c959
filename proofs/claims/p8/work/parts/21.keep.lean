/-! ===== a keeper; a table with its walk ===== -/
def ev_kec (r : Nat) (ms ht : Int32) : ev_C := .inr (6, [.ref r, .int ms, .int ht])
def ev_tbc (r : Nat) : ev_C := .inr (8, [.ref r, .ref (r + 3)])
theorem pr_fetchIn_01 {L : ev_PL} {b m lm ll x v : Int32} : (pr_fetchIn L b m lm ll x v).1 = 0 ∨ (pr_fetchIn L b m lm ll x v).1 = 1 := by
  unfold pr_fetchIn
  rcases pf_find L x with _ | j
  · exact Or.inl rfl
  · exact Or.inr rfl
section KE
variable {X : ev_E} {H : ev_M} {w r : Nat} {L : ev_PL} {b m lm ll ms ht : Int32} {n q : Nat} {P : ev_O → ev_M → Nat → Nat → Prop}
theorem C_anew (hw : H w = some (ev_kec r ms ht)) (hH : ev_rL H r L b m lm ll H) (h0 : ¬ w = r) (h1 : ¬ w = r + 1) (h2 : ¬ w = r + 2) (hc : L.length ≤ 20) (k : ∀ H1, ev_rL (ev_up H w (ev_kec r 0 0)) r [] 1 m 0 (-1) H1 → P (.inl none) H1 n q) : ev_ok (ev_TT X) 140 0 [.ref w] [] H n q P := by
  have hm := (ev_rL_b (X := X) hH).2.2.1
  have hr := ev_rL_k (X := X) hH
  unfold ev_kec at hw k
  simp (disch := omega) only [t_X1_startAnew_0, t_X1_startAnew_1, t_X1_startAnew_4, t_X1_startAnew_5, t_X1_startAnew_6, t_X1_startAnew_9, t_X1_startAnew_12, t_X1_startAnew_15, t_X1_startAnew_15_i, t_X1_startAnew_16, t_X1_startAnew_17, t_X1_startAnew_18, t_X1_startAnew_21, t_X1_startAnew_22, t_X1_startAnew_23, t_X1_startAnew_26, ↓reduceIte, ev_k_i, ev_k_r, ev_k_l, ev_k_J, ev_k_n, ev_kr_1, ev_kr_0, ev_isK_y, ev_aG_y, ev_aS_y, ev_aN_y, ev_inA_0, ev_isA_0, ev_ft_I, ev_ft_0, ev_ft_1, ev_ft_o, ev_ft_a, ev_nb_0, ev_nb_1, and_true, true_and, if_true, if_false, not_true_eq_false, not_false_eq_true, nI_1, ev_fG_0, ev_fG_1, ev_fG_2, ev_fG_3, ev_fG_4, ev_fG_5, ev_fG_6, ev_fG_7, ev_fG_8, ev_fS_0, ev_fS_1, ev_fS_2, ev_fS_3, ev_fS_4, ev_fS_5, ev_fS_6, ev_fS_7, ev_fS_8, ev_isO_0, ev_isO_1, ev_isO_2, ev_isO_3, ev_isO_4, ev_isO_5, ev_isO_6, ev_isO_7, ev_isO_8, ev_z0, ev_z1, ev_z2, eq_self, ev_lk_s hw, hm.1, hm.2, hr]
  refine R_renew hH ev_isB_1 fun H1 hH1 => ?_
  have hw1 : H1 w = _ := (ev_rL_o hH1 h0 h1 h2).trans hw
  simp (disch := omega) only [t_X1_startAnew_0, t_X1_startAnew_1, t_X1_startAnew_4, t_X1_startAnew_5, t_X1_startAnew_6, t_X1_startAnew_9, t_X1_startAnew_12, t_X1_startAnew_15, t_X1_startAnew_15_i, t_X1_startAnew_16, t_X1_startAnew_17, t_X1_startAnew_18, t_X1_startAnew_21, t_X1_startAnew_22, t_X1_startAnew_23, t_X1_startAnew_26, ↓reduceIte, ev_k_i, ev_k_r, ev_k_l, ev_k_J, ev_k_n, ev_kr_1, ev_kr_0, ev_isK_y, ev_aG_y, ev_aS_y, ev_aN_y, ev_inA_0, ev_isA_0, ev_ft_I, ev_ft_0, ev_ft_1, ev_ft_o, ev_ft_a, ev_nb_0, ev_nb_1, and_true, true_and, if_true, if_false, not_true_eq_false, not_false_eq_true, nI_1, ev_fG_0, ev_fG_1, ev_fG_2, ev_fG_3, ev_fG_4, ev_fG_5, ev_fG_6, ev_fG_7, ev_fG_8, ev_fS_0, ev_fS_1, ev_fS_2, ev_fS_3, ev_fS_4, ev_fS_5, ev_fS_6, ev_fS_7, ev_fS_8, ev_isO_0, ev_isO_1, ev_isO_2, ev_isO_3, ev_isO_4, ev_isO_5, ev_isO_6, ev_isO_7, ev_isO_8, ev_z0, ev_z1, ev_z2, eq_self, hw1, ev_up_s, ev_up_up]
  exact k _ (ev_rL_up hH1 h0 h1 h2)
theorem C_meet (hw : H w = some (ev_kec r ms ht)) (hH : ev_rL H r L b m lm ll H) (h0 : ¬ w = r) (h1 : ¬ w = r + 1) (h2 : ¬ w = r + 2) (hb : ev_isB b) (hc : L.length ≤ 20) {x v : Int32} (hn : pf_find L x = none → L.length < 20)
    (k : ∀ H1, ev_rL (ev_up H w (ev_kec r (if (pr_fetchIn L b m lm ll x v).1 = 0 then ms + 1 else ms) (if (pr_fetchIn L b m lm ll x v).1 = 0 then ht else ht + 1))) r (pr_fetchIn L b m lm ll x v).2.1 b m (pr_fetchIn L b m lm ll x v).2.2.1 (pr_fetchIn L b m lm ll x v).2.2.2 H1 → P (.inl (some (.int (pr_fetchIn L b m lm ll x v).1))) H1 n q) : ev_ok (ev_TT X) 225 0 [.ref w, .int x, .int v, ev_J] [] H n q P := by
  have hr := ev_rL_k (X := X) hH
  unfold ev_kec at hw k
  simp (disch := omega) only [t_X1_meet_0, t_X1_meet_1, t_X1_meet_4, t_X1_meet_5, t_X1_meet_6, t_X1_meet_9, t_X1_meet_10, t_X1_meet_11, t_X1_meet_14, t_X1_meet_15, t_X1_meet_15_i, t_X1_meet_16, t_X1_meet_19, t_X1_meet_20, t_X1_meet_21, t_X1_meet_24, t_X1_meet_27, t_X1_meet_28, t_X1_meet_28_i, t_X1_meet_29, t_X1_meet_32, t_X1_meet_33, t_X1_meet_34, t_X1_meet_37, t_X1_meet_38, ↓reduceIte, ev_k_i, ev_k_r, ev_k_l, ev_k_J, ev_k_n, ev_kr_1, ev_kr_0, ev_isK_y, ev_aG_y, ev_aS_y, ev_aN_y, ev_inA_0, ev_isA_0, ev_ft_I, ev_ft_0, ev_ft_1, ev_ft_o, ev_ft_a, ev_nb_0, ev_nb_1, and_true, true_and, if_true, if_false, not_true_eq_false, not_false_eq_true, nI_1, ev_fG_0, ev_fG_1, ev_fG_2, ev_fG_3, ev_fG_4, ev_fG_5, ev_fG_6, ev_fG_7, ev_fG_8, ev_fS_0, ev_fS_1, ev_fS_2, ev_fS_3, ev_fS_4, ev_fS_5, ev_fS_6, ev_fS_7, ev_fS_8, ev_isO_0, ev_isO_1, ev_isO_2, ev_isO_3, ev_isO_4, ev_isO_5, ev_isO_6, ev_isO_7, ev_isO_8, ev_z0, ev_z1, ev_z2, eq_self, ev_lk_s hw, hr]
  refine R_fetchIn hH hb hc hn fun H1 hH1 => ?_
  have hw1 : H1 w = _ := (ev_rL_o hH1 h0 h1 h2).trans hw
  rcases pr_fetchIn_01 (L := L) (b := b) (m := m) (lm := lm) (ll := ll) (x := x) (v := v) with e | e
  · rw [e] at k ⊢
    rw [if_pos rfl, if_pos rfl] at k
    simp (disch := omega) only [t_X1_meet_0, t_X1_meet_1, t_X1_meet_4, t_X1_meet_5, t_X1_meet_6, t_X1_meet_9, t_X1_meet_10, t_X1_meet_11, t_X1_meet_14, t_X1_meet_15, t_X1_meet_15_i, t_X1_meet_16, t_X1_meet_19, t_X1_meet_20, t_X1_meet_21, t_X1_meet_24, t_X1_meet_27, t_X1_meet_28, t_X1_meet_28_i, t_X1_meet_29, t_X1_meet_32, t_X1_meet_33, t_X1_meet_34, t_X1_meet_37, t_X1_meet_38, ↓reduceIte, ev_k_i, ev_k_r, ev_k_l, ev_k_J, ev_k_n, ev_kr_1, ev_kr_0, ev_isK_y, ev_aG_y, ev_aS_y, ev_aN_y, ev_inA_0, ev_isA_0, ev_ft_I, ev_ft_0, ev_ft_1, ev_ft_o, ev_ft_a, ev_nb_0, ev_nb_1, and_true, true_and, if_true, if_false, not_true_eq_false, not_false_eq_true, nI_1, ev_fG_0, ev_fG_1, ev_fG_2, ev_fG_3, ev_fG_4, ev_fG_5, ev_fG_6, ev_fG_7, ev_fG_8, ev_fS_0, ev_fS_1, ev_fS_2, ev_fS_3, ev_fS_4, ev_fS_5, ev_fS_6, ev_fS_7, ev_fS_8, ev_isO_0, ev_isO_1, ev_isO_2, ev_isO_3, ev_isO_4, ev_isO_5, ev_isO_6, ev_isO_7, ev_isO_8, ev_z0, ev_z1, ev_z2, eq_self, hw1, ev_lk_s hw1, ev_up_s, ev_up_up]
    exact k _ (ev_rL_up hH1 h0 h1 h2)
  · rw [e] at k ⊢
    rw [if_neg (by decide), if_neg (by decide)] at k
    simp (disch := omega) only [t_X1_meet_0, t_X1_meet_1, t_X1_meet_4, t_X1_meet_5, t_X1_meet_6, t_X1_meet_9, t_X1_meet_10, t_X1_meet_11, t_X1_meet_14, t_X1_meet_15, t_X1_meet_15_i, t_X1_meet_16, t_X1_meet_19, t_X1_meet_20, t_X1_meet_21, t_X1_meet_24, t_X1_meet_27, t_X1_meet_28, t_X1_meet_28_i, t_X1_meet_29, t_X1_meet_32, t_X1_meet_33, t_X1_meet_34, t_X1_meet_37, t_X1_meet_38, ↓reduceIte, ev_k_i, ev_k_r, ev_k_l, ev_k_J, ev_k_n, ev_kr_1, ev_kr_0, ev_isK_y, ev_aG_y, ev_aS_y, ev_aN_y, ev_inA_0, ev_isA_0, ev_ft_I, ev_ft_0, ev_ft_1, ev_ft_o, ev_ft_a, ev_nb_0, ev_nb_1, and_true, true_and, if_true, if_false, not_true_eq_false, not_false_eq_true, nI_1, ev_fG_0, ev_fG_1, ev_fG_2, ev_fG_3, ev_fG_4, ev_fG_5, ev_fG_6, ev_fG_7, ev_fG_8, ev_fS_0, ev_fS_1, ev_fS_2, ev_fS_3, ev_fS_4, ev_fS_5, ev_fS_6, ev_fS_7, ev_fS_8, ev_isO_0, ev_isO_1, ev_isO_2, ev_isO_3, ev_isO_4, ev_isO_5, ev_isO_6, ev_isO_7, ev_isO_8, ev_z0, ev_z1, ev_z2, eq_self, hw1, ev_lk_s hw1, ev_up_s, ev_up_up]
    exact k _ (ev_rL_up hH1 h0 h1 h2)
end KE
