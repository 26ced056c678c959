/-! ===== the class: askedAt, depthAt ===== -/
section CU
variable {X : ev_E} {x : Nat} {G : ev_CS} {H : ev_M} {n q : Nat} {P : ev_O → ev_M → Nat → Nat → Prop}
theorem C_askedAt (hc : c_all x G H) (hG : okG G) {p : Int32} (k0 : ¬ (0 ≤ p ∧ p < nI G.2.2.2.1.2.2) → P (.inl (some (.int (-1)))) H n q) (k1 : ∀ j, j < G.2.2.2.1.2.2 → p = nI j → P (.inl (some (.int (G.2.2.2.1.1 j)))) H n q) : ev_ok (ev_TT X) 101 0 [.ref x, .int p] [] H n q P := by
  have h0 := hc.1
  unfold c_top at h0
  have ha0 := c_ask0 hc
  have ha1 := c_ask1 hc
  have h6 := hG.2.2.2
  have hak : ev_isK (ev_lk X H (x + 2)) 5 = True := by rw [ev_lk_s ha0]; exact ev_isK_y
  obtain ⟨ne, hk1, hn1, hH, hN⟩ := hc.2.2.1
  simp (disch := omega) only [t_X5_askedAt_0, t_X5_askedAt_1, t_X5_askedAt_4, t_X5_askedAt_5, t_X5_askedAt_8, t_X5_askedAt_11, t_X5_askedAt_12, t_X5_askedAt_15, t_X5_askedAt_18, t_X5_askedAt_19, t_X5_askedAt_20, t_X5_askedAt_23, t_X5_askedAt_24, x_X5_askedAt_5, ↓reduceIte, ev_k_i, ev_k_r, ev_k_l, ev_k_J, ev_k_n, ev_kr_1, ev_kr_0, ev_isK_y, ev_aG_y, ev_aS_y, ev_aN_y, ev_inA_0, ev_isA_0, ev_ft_I, ev_ft_0, ev_ft_1, ev_ft_o, ev_ft_a, ev_nb_0, ev_nb_1, and_true, true_and, if_true, if_false, not_true_eq_false, not_false_eq_true, nI_1, ev_fG_0, ev_fG_1, ev_fG_2, ev_fG_3, ev_fG_4, ev_fG_5, ev_fG_6, ev_fG_7, ev_fG_8, ev_fS_0, ev_fS_1, ev_fS_2, ev_fS_3, ev_fS_4, ev_fS_5, ev_fS_6, ev_fS_7, ev_fS_8, ev_isO_0, ev_isO_1, ev_isO_2, ev_isO_3, ev_isO_4, ev_isO_5, ev_isO_6, ev_isO_7, ev_isO_8, ev_z0, ev_z1, ev_z2, eq_self, ev_ofN, ev_lk_s h0, hak]
  rw [hH]
  refine A_isNum h6 ?_
  rw [← hH]
  unfold ev_b
  by_cases e : 0 ≤ p ∧ p < nI G.2.2.2.1.2.2
  · rw [if_pos e]
    obtain ⟨j, hj, rfl⟩ := (ev_pl (by omega)).mp e
    have hp := nI_pos' (n := j) (by omega)
    have h60 : j < 60 := by omega
    simp (disch := omega) only [t_X5_askedAt_0, t_X5_askedAt_1, t_X5_askedAt_4, t_X5_askedAt_5, t_X5_askedAt_8, t_X5_askedAt_11, t_X5_askedAt_12, t_X5_askedAt_15, t_X5_askedAt_18, t_X5_askedAt_19, t_X5_askedAt_20, t_X5_askedAt_23, t_X5_askedAt_24, x_X5_askedAt_5, ↓reduceIte, ev_k_i, ev_k_r, ev_k_l, ev_k_J, ev_k_n, ev_kr_1, ev_kr_0, ev_isK_y, ev_aG_y, ev_aS_y, ev_aN_y, ev_inA_0, ev_isA_0, ev_ft_I, ev_ft_0, ev_ft_1, ev_ft_o, ev_ft_a, ev_nb_0, ev_nb_1, and_true, true_and, if_true, if_false, not_true_eq_false, not_false_eq_true, nI_1, ev_fG_0, ev_fG_1, ev_fG_2, ev_fG_3, ev_fG_4, ev_fG_5, ev_fG_6, ev_fG_7, ev_fG_8, ev_fS_0, ev_fS_1, ev_fS_2, ev_fS_3, ev_fS_4, ev_fS_5, ev_fS_6, ev_fS_7, ev_fS_8, ev_isO_0, ev_isO_1, ev_isO_2, ev_isO_3, ev_isO_4, ev_isO_5, ev_isO_6, ev_isO_7, ev_isO_8, ev_z0, ev_z1, ev_z2, eq_self, ev_ofN, ev_lk_s h0, ev_lk_s ha0, ev_lk_s ha1, nI_clamp, hp, h60]
    exact k1 j hj rfl
  · rw [if_neg e]
    simp (disch := omega) only [t_X5_askedAt_0, t_X5_askedAt_1, t_X5_askedAt_4, t_X5_askedAt_5, t_X5_askedAt_8, t_X5_askedAt_11, t_X5_askedAt_12, t_X5_askedAt_15, t_X5_askedAt_18, t_X5_askedAt_19, t_X5_askedAt_20, t_X5_askedAt_23, t_X5_askedAt_24, x_X5_askedAt_5, ↓reduceIte, ev_k_i, ev_k_r, ev_k_l, ev_k_J, ev_k_n, ev_kr_1, ev_kr_0, ev_isK_y, ev_aG_y, ev_aS_y, ev_aN_y, ev_inA_0, ev_isA_0, ev_ft_I, ev_ft_0, ev_ft_1, ev_ft_o, ev_ft_a, ev_nb_0, ev_nb_1, and_true, true_and, if_true, if_false, not_true_eq_false, not_false_eq_true, nI_1, ev_fG_0, ev_fG_1, ev_fG_2, ev_fG_3, ev_fG_4, ev_fG_5, ev_fG_6, ev_fG_7, ev_fG_8, ev_fS_0, ev_fS_1, ev_fS_2, ev_fS_3, ev_fS_4, ev_fS_5, ev_fS_6, ev_fS_7, ev_fS_8, ev_isO_0, ev_isO_1, ev_isO_2, ev_isO_3, ev_isO_4, ev_isO_5, ev_isO_6, ev_isO_7, ev_isO_8, ev_z0, ev_z1, ev_z2, eq_self, ev_ofN]
    exact k0 e
theorem C_depthAt (hc : c_all x G H) (hG : okG G) {p : Int32} (k0 : ¬ (0 ≤ p ∧ p < nI G.2.2.2.1.2.2) → P (.inl (some (.int (-1)))) H n q) (k1 : ∀ j, j < G.2.2.2.1.2.2 → p = nI j → P (.inl (some (.int (G.2.2.2.1.2.1 j)))) H n q) : ev_ok (ev_TT X) 103 0 [.ref x, .int p] [] H n q P := by
  have h0 := hc.1
  unfold c_top at h0
  have ha0 := c_ask0 hc
  have ha1 := c_ask2 hc
  have h6 := hG.2.2.2
  have hak : ev_isK (ev_lk X H (x + 2)) 5 = True := by rw [ev_lk_s ha0]; exact ev_isK_y
  obtain ⟨ne, hk1, hn1, hH, hN⟩ := hc.2.2.1
  simp (disch := omega) only [t_X5_depthAt_0, t_X5_depthAt_1, t_X5_depthAt_4, t_X5_depthAt_5, t_X5_depthAt_8, t_X5_depthAt_11, t_X5_depthAt_12, t_X5_depthAt_15, t_X5_depthAt_18, t_X5_depthAt_19, t_X5_depthAt_20, t_X5_depthAt_23, t_X5_depthAt_24, x_X5_depthAt_5, ↓reduceIte, ev_k_i, ev_k_r, ev_k_l, ev_k_J, ev_k_n, ev_kr_1, ev_kr_0, ev_isK_y, ev_aG_y, ev_aS_y, ev_aN_y, ev_inA_0, ev_isA_0, ev_ft_I, ev_ft_0, ev_ft_1, ev_ft_o, ev_ft_a, ev_nb_0, ev_nb_1, and_true, true_and, if_true, if_false, not_true_eq_false, not_false_eq_true, nI_1, ev_fG_0, ev_fG_1, ev_fG_2, ev_fG_3, ev_fG_4, ev_fG_5, ev_fG_6, ev_fG_7, ev_fG_8, ev_fS_0, ev_fS_1, ev_fS_2, ev_fS_3, ev_fS_4, ev_fS_5, ev_fS_6, ev_fS_7, ev_fS_8, ev_isO_0, ev_isO_1, ev_isO_2, ev_isO_3, ev_isO_4, ev_isO_5, ev_isO_6, ev_isO_7, ev_isO_8, ev_z0, ev_z1, ev_z2, eq_self, ev_ofN, ev_lk_s h0, hak]
  rw [hH]
  refine A_isNum h6 ?_
  rw [← hH]
  unfold ev_b
  by_cases e : 0 ≤ p ∧ p < nI G.2.2.2.1.2.2
  · rw [if_pos e]
    obtain ⟨j, hj, rfl⟩ := (ev_pl (by omega)).mp e
    have hp := nI_pos' (n := j) (by omega)
    have h60 : j < 60 := by omega
    simp (disch := omega) only [t_X5_depthAt_0, t_X5_depthAt_1, t_X5_depthAt_4, t_X5_depthAt_5, t_X5_depthAt_8, t_X5_depthAt_11, t_X5_depthAt_12, t_X5_depthAt_15, t_X5_depthAt_18, t_X5_depthAt_19, t_X5_depthAt_20, t_X5_depthAt_23, t_X5_depthAt_24, x_X5_depthAt_5, ↓reduceIte, ev_k_i, ev_k_r, ev_k_l, ev_k_J, ev_k_n, ev_kr_1, ev_kr_0, ev_isK_y, ev_aG_y, ev_aS_y, ev_aN_y, ev_inA_0, ev_isA_0, ev_ft_I, ev_ft_0, ev_ft_1, ev_ft_o, ev_ft_a, ev_nb_0, ev_nb_1, and_true, true_and, if_true, if_false, not_true_eq_false, not_false_eq_true, nI_1, ev_fG_0, ev_fG_1, ev_fG_2, ev_fG_3, ev_fG_4, ev_fG_5, ev_fG_6, ev_fG_7, ev_fG_8, ev_fS_0, ev_fS_1, ev_fS_2, ev_fS_3, ev_fS_4, ev_fS_5, ev_fS_6, ev_fS_7, ev_fS_8, ev_isO_0, ev_isO_1, ev_isO_2, ev_isO_3, ev_isO_4, ev_isO_5, ev_isO_6, ev_isO_7, ev_isO_8, ev_z0, ev_z1, ev_z2, eq_self, ev_ofN, ev_lk_s h0, ev_lk_s ha0, ev_lk_s ha1, nI_clamp, hp, h60]
    exact k1 j hj rfl
  · rw [if_neg e]
    simp (disch := omega) only [t_X5_depthAt_0, t_X5_depthAt_1, t_X5_depthAt_4, t_X5_depthAt_5, t_X5_depthAt_8, t_X5_depthAt_11, t_X5_depthAt_12, t_X5_depthAt_15, t_X5_depthAt_18, t_X5_depthAt_19, t_X5_depthAt_20, t_X5_depthAt_23, t_X5_depthAt_24, x_X5_depthAt_5, ↓reduceIte, ev_k_i, ev_k_r, ev_k_l, ev_k_J, ev_k_n, ev_kr_1, ev_kr_0, ev_isK_y, ev_aG_y, ev_aS_y, ev_aN_y, ev_inA_0, ev_isA_0, ev_ft_I, ev_ft_0, ev_ft_1, ev_ft_o, ev_ft_a, ev_nb_0, ev_nb_1, and_true, true_and, if_true, if_false, not_true_eq_false, not_false_eq_true, nI_1, ev_fG_0, ev_fG_1, ev_fG_2, ev_fG_3, ev_fG_4, ev_fG_5, ev_fG_6, ev_fG_7, ev_fG_8, ev_fS_0, ev_fS_1, ev_fS_2, ev_fS_3, ev_fS_4, ev_fS_5, ev_fS_6, ev_fS_7, ev_fS_8, ev_isO_0, ev_isO_1, ev_isO_2, ev_isO_3, ev_isO_4, ev_isO_5, ev_isO_6, ev_isO_7, ev_isO_8, ev_z0, ev_z1, ev_z2, eq_self, ev_ofN]
    exact k0 e
end CU
