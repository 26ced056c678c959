/-! ===== the class: calls on askings and keepers ===== -/
section CR
variable {X : ev_E} {x : Nat} {G : ev_CS} {H : ev_M} {n q : Nat} {P : ev_O → ev_M → Nat → Nat → Prop}
theorem c_ask0 (hc : c_all x G H) : H (x + 2) = some (.inr (5, [.ref (x + 2 + 1), .ref (x + 2 + 2), .ref (x + 2 + 3), .ref (x + 2 + 4), .ref (x + 2 + 5), .int (nI G.2.2.2.1.2.2)])) := by
  obtain ⟨ne, hk1, hn1, hH, hN⟩ := hc.2.2.1
  exact (congrFun hH (x + 2)).trans ev_ask_0
theorem c_ask1 (hc : c_all x G H) : H (x + 2 + 1) = some (.inl (0, 60, fun i => .int (G.2.2.2.1.1 i))) := by
  obtain ⟨ne, hk1, hn1, hH, hN⟩ := hc.2.2.1
  exact (congrFun hH (x + 2 + 1)).trans ev_ask_1
theorem c_ask2 (hc : c_all x G H) : H (x + 2 + 2) = some (.inl (0, 60, fun i => .int (G.2.2.2.1.2.1 i))) := by
  obtain ⟨ne, hk1, hn1, hH, hN⟩ := hc.2.2.1
  exact (congrFun hH (x + 2 + 2)).trans ev_ask_2
theorem nI_60' : (60 : Int32) = nI 60 := rfl
theorem C_room_y (hc : c_all x G H) {a : Nat} (ha : G.2.2.2.1.2.2 + a ≤ 60) : ev_ok (ev_TT X) 50 0 [.ref x, .int (nI a)] [] H n q P ↔ P (.inl none) H n q := by
  have h0 := hc.1
  have h1 := c_ask0 hc
  unfold c_top at h0
  have hB : nI (G.2.2.2.1.2.2 + a) ≤ 60 := nI_le (b := 60) ha (by omega)
  simp (disch := omega) only [t_X5_demandRoomFor_0, t_X5_demandRoomFor_1, t_X5_demandRoomFor_4, t_X5_demandRoomFor_7, t_X5_demandRoomFor_8, t_X5_demandRoomFor_9, t_X5_demandRoomFor_11, t_X5_demandRoomFor_14, t_X5_demandRoomFor_25, ↓reduceIte, ev_k_i, ev_k_r, ev_k_l, ev_k_J, ev_k_n, ev_kr_1, ev_kr_0, ev_isK_y, ev_aG_y, ev_aS_y, ev_aN_y, ev_inA_0, ev_isA_0, ev_ft_I, ev_ft_0, ev_ft_1, ev_ft_o, ev_ft_a, ev_nb_0, ev_nb_1, and_true, true_and, if_true, if_false, not_true_eq_false, not_false_eq_true, nI_1, ev_fG_0, ev_fG_1, ev_fG_2, ev_fG_3, ev_fG_4, ev_fG_5, ev_fG_6, ev_fG_7, ev_fG_8, ev_fS_0, ev_fS_1, ev_fS_2, ev_fS_3, ev_fS_4, ev_fS_5, ev_fS_6, ev_fS_7, ev_fS_8, ev_isO_0, ev_isO_1, ev_isO_2, ev_isO_3, ev_isO_4, ev_isO_5, ev_isO_6, ev_isO_7, ev_isO_8, ev_z0, ev_z1, ev_z2, eq_self, ev_ofN, ev_lk_s h0, ev_lk_s h1, nI_add, hB]
theorem C_room_n (hc : c_all x G H) (hG : okG G) {a : Nat} (ha : 60 < G.2.2.2.1.2.2 + a) (ha2 : a ≤ 100) : ev_ok (ev_TT X) 50 0 [.ref x, .int (nI a)] [] H n q P ↔ P (.inr 2) H (n + 1) (q + 6) := by
  have h0 := hc.1
  have h1 := c_ask0 hc
  have h6 := hG.2.2.2
  unfold c_top at h0
  have hB : ¬ nI (G.2.2.2.1.2.2 + a) ≤ 60 := nI_ge (a := 60) ha (by omega)
  simp (disch := omega) only [t_X5_demandRoomFor_0, t_X5_demandRoomFor_1, t_X5_demandRoomFor_4, t_X5_demandRoomFor_7, t_X5_demandRoomFor_8, t_X5_demandRoomFor_9, t_X5_demandRoomFor_11, t_X5_demandRoomFor_14, t_X5_demandRoomFor_25, ↓reduceIte, ev_k_i, ev_k_r, ev_k_l, ev_k_J, ev_k_n, ev_kr_1, ev_kr_0, ev_isK_y, ev_aG_y, ev_aS_y, ev_aN_y, ev_inA_0, ev_isA_0, ev_ft_I, ev_ft_0, ev_ft_1, ev_ft_o, ev_ft_a, ev_nb_0, ev_nb_1, and_true, true_and, if_true, if_false, not_true_eq_false, not_false_eq_true, nI_1, ev_fG_0, ev_fG_1, ev_fG_2, ev_fG_3, ev_fG_4, ev_fG_5, ev_fG_6, ev_fG_7, ev_fG_8, ev_fS_0, ev_fS_1, ev_fS_2, ev_fS_3, ev_fS_4, ev_fS_5, ev_fS_6, ev_fS_7, ev_fS_8, ev_isO_0, ev_isO_1, ev_isO_2, ev_isO_3, ev_isO_4, ev_isO_5, ev_isO_6, ev_isO_7, ev_isO_8, ev_z0, ev_z1, ev_z2, eq_self, ev_ofN, ev_lk_s h0, ev_lk_s h1, nI_add, hB]
theorem C_ask (hc : c_all x G H) (hG : okG G) {k : Int32} (k0 : k < 0 ∨ nI 20 ≤ k → P (.inr 1) H (n + 1) (q + 6))
    (k1 : ∀ a, a < 20 → k = nI a → G.2.2.2.1.2.2 = 60 → P (.inr 2) H (n + 1) (q + 6))
    (k2 : ∀ a, a < 20 → k = nI a → G.2.2.2.1.2.2 < 60 → ∀ H1, c_all x (pg_ask G k) H1 → c_fr x H H1 → P (.inl (some (.int (pk_hits G.2.2.1 k (nI G.2.2.2.1.2.2) 6 0 0)))) H1 n q) : ev_ok (ev_TT X) 264 0 [.ref x, .int k] [] H n q P := by
  have hk := c_all_k (X := X) hc
  rcases pk_ix k (n := 20) (by omega) with h | h | ⟨a, ha, rfl⟩
  · simp (disch := omega) only [t_X5_ask_0, t_X5_ask_1, t_X5_ask_4, t_X5_ask_5, t_X5_ask_6, t_X5_ask_9, t_X5_ask_10, t_X5_ask_11, t_X5_ask_14, x_X5_ask_1, x_X5_ask_6, x_X5_ask_11, ↓reduceIte, ev_k_i, ev_k_r, ev_k_l, ev_k_J, ev_k_n, ev_kr_1, ev_kr_0, ev_isK_y, ev_aG_y, ev_aS_y, ev_aN_y, ev_inA_0, ev_isA_0, ev_ft_I, ev_ft_0, ev_ft_1, ev_ft_o, ev_ft_a, ev_nb_0, ev_nb_1, and_true, true_and, if_true, if_false, not_true_eq_false, not_false_eq_true, nI_1, ev_fG_0, ev_fG_1, ev_fG_2, ev_fG_3, ev_fG_4, ev_fG_5, ev_fG_6, ev_fG_7, ev_fG_8, ev_fS_0, ev_fS_1, ev_fS_2, ev_fS_3, ev_fS_4, ev_fS_5, ev_fS_6, ev_fS_7, ev_fS_8, ev_isO_0, ev_isO_1, ev_isO_2, ev_isO_3, ev_isO_4, ev_isO_5, ev_isO_6, ev_isO_7, ev_isO_8, ev_z0, ev_z1, ev_z2, eq_self, ev_ofN, hk, C_dKey_n (Or.inl h)]
    exact k0 (Or.inl h)
  · simp (disch := omega) only [t_X5_ask_0, t_X5_ask_1, t_X5_ask_4, t_X5_ask_5, t_X5_ask_6, t_X5_ask_9, t_X5_ask_10, t_X5_ask_11, t_X5_ask_14, x_X5_ask_1, x_X5_ask_6, x_X5_ask_11, ↓reduceIte, ev_k_i, ev_k_r, ev_k_l, ev_k_J, ev_k_n, ev_kr_1, ev_kr_0, ev_isK_y, ev_aG_y, ev_aS_y, ev_aN_y, ev_inA_0, ev_isA_0, ev_ft_I, ev_ft_0, ev_ft_1, ev_ft_o, ev_ft_a, ev_nb_0, ev_nb_1, and_true, true_and, if_true, if_false, not_true_eq_false, not_false_eq_true, nI_1, ev_fG_0, ev_fG_1, ev_fG_2, ev_fG_3, ev_fG_4, ev_fG_5, ev_fG_6, ev_fG_7, ev_fG_8, ev_fS_0, ev_fS_1, ev_fS_2, ev_fS_3, ev_fS_4, ev_fS_5, ev_fS_6, ev_fS_7, ev_fS_8, ev_isO_0, ev_isO_1, ev_isO_2, ev_isO_3, ev_isO_4, ev_isO_5, ev_isO_6, ev_isO_7, ev_isO_8, ev_z0, ev_z1, ev_z2, eq_self, ev_ofN, hk, C_dKey_n (Or.inr h)]
    exact k0 (Or.inr h)
  · have h6 := hG.2.2.2
    by_cases hf : G.2.2.2.1.2.2 = 60
    · have hr := fun P n q => C_room_n (X := X) (P := P) (n := n) (q := q) hc hG (a := 1) (by omega) (by omega)
      rw [show nI 1 = 1 from rfl] at hr
      simp (disch := omega) only [t_X5_ask_0, t_X5_ask_1, t_X5_ask_4, t_X5_ask_5, t_X5_ask_6, t_X5_ask_9, t_X5_ask_10, t_X5_ask_11, t_X5_ask_14, x_X5_ask_1, x_X5_ask_6, x_X5_ask_11, ↓reduceIte, ev_k_i, ev_k_r, ev_k_l, ev_k_J, ev_k_n, ev_kr_1, ev_kr_0, ev_isK_y, ev_aG_y, ev_aS_y, ev_aN_y, ev_inA_0, ev_isA_0, ev_ft_I, ev_ft_0, ev_ft_1, ev_ft_o, ev_ft_a, ev_nb_0, ev_nb_1, and_true, true_and, if_true, if_false, not_true_eq_false, not_false_eq_true, nI_1, ev_fG_0, ev_fG_1, ev_fG_2, ev_fG_3, ev_fG_4, ev_fG_5, ev_fG_6, ev_fG_7, ev_fG_8, ev_fS_0, ev_fS_1, ev_fS_2, ev_fS_3, ev_fS_4, ev_fS_5, ev_fS_6, ev_fS_7, ev_fS_8, ev_isO_0, ev_isO_1, ev_isO_2, ev_isO_3, ev_isO_4, ev_isO_5, ev_isO_6, ev_isO_7, ev_isO_8, ev_z0, ev_z1, ev_z2, eq_self, ev_ofN, hk, C_dKey_y ha, hr]
      exact k1 a ha rfl hf
    · have hr := fun P n q => C_room_y (X := X) (P := P) (n := n) (q := q) hc (a := 1) (by omega)
      rw [show nI 1 = 1 from rfl] at hr
      simp (disch := omega) only [t_X5_ask_0, t_X5_ask_1, t_X5_ask_4, t_X5_ask_5, t_X5_ask_6, t_X5_ask_9, t_X5_ask_10, t_X5_ask_11, t_X5_ask_14, x_X5_ask_1, x_X5_ask_6, x_X5_ask_11, ↓reduceIte, ev_k_i, ev_k_r, ev_k_l, ev_k_J, ev_k_n, ev_kr_1, ev_kr_0, ev_isK_y, ev_aG_y, ev_aS_y, ev_aN_y, ev_inA_0, ev_isA_0, ev_ft_I, ev_ft_0, ev_ft_1, ev_ft_o, ev_ft_a, ev_nb_0, ev_nb_1, and_true, true_and, if_true, if_false, not_true_eq_false, not_false_eq_true, nI_1, ev_fG_0, ev_fG_1, ev_fG_2, ev_fG_3, ev_fG_4, ev_fG_5, ev_fG_6, ev_fG_7, ev_fG_8, ev_fS_0, ev_fS_1, ev_fS_2, ev_fS_3, ev_fS_4, ev_fS_5, ev_fS_6, ev_fS_7, ev_fS_8, ev_isO_0, ev_isO_1, ev_isO_2, ev_isO_3, ev_isO_4, ev_isO_5, ev_isO_6, ev_isO_7, ev_isO_8, ev_z0, ev_z1, ev_z2, eq_self, ev_ofN, hk, C_dKey_y ha, hr]
      refine C_askOne hc hG (okL_key ha) (by omega) fun H1 g1 g2 => ?_
      simp (disch := omega) only [t_X5_ask_0, t_X5_ask_1, t_X5_ask_4, t_X5_ask_5, t_X5_ask_6, t_X5_ask_9, t_X5_ask_10, t_X5_ask_11, t_X5_ask_14, x_X5_ask_1, x_X5_ask_6, x_X5_ask_11, ↓reduceIte, ev_k_i, ev_k_r, ev_k_l, ev_k_J, ev_k_n, ev_kr_1, ev_kr_0, ev_isK_y, ev_aG_y, ev_aS_y, ev_aN_y, ev_inA_0, ev_isA_0, ev_ft_I, ev_ft_0, ev_ft_1, ev_ft_o, ev_ft_a, ev_nb_0, ev_nb_1, and_true, true_and, if_true, if_false, not_true_eq_false, not_false_eq_true, nI_1, ev_fG_0, ev_fG_1, ev_fG_2, ev_fG_3, ev_fG_4, ev_fG_5, ev_fG_6, ev_fG_7, ev_fG_8, ev_fS_0, ev_fS_1, ev_fS_2, ev_fS_3, ev_fS_4, ev_fS_5, ev_fS_6, ev_fS_7, ev_fS_8, ev_isO_0, ev_isO_1, ev_isO_2, ev_isO_3, ev_isO_4, ev_isO_5, ev_isO_6, ev_isO_7, ev_isO_8, ev_z0, ev_z1, ev_z2, eq_self, ev_ofN]
      exact k2 a ha rfl (by omega) H1 g1 g2
theorem C_asked (hc : c_all x G H) (k : P (.inl (some (.int (nI G.2.2.2.1.2.2)))) H n q) : ev_ok (ev_TT X) 47 0 [.ref x] [] H n q P := by
  have h0 := hc.1
  have h1 := c_ask0 hc
  unfold c_top at h0
  simp (disch := omega) only [t_X5_asked_0, t_X5_asked_1, t_X5_asked_4, t_X5_asked_7, ↓reduceIte, ev_k_i, ev_k_r, ev_k_l, ev_k_J, ev_k_n, ev_kr_1, ev_kr_0, ev_isK_y, ev_aG_y, ev_aS_y, ev_aN_y, ev_inA_0, ev_isA_0, ev_ft_I, ev_ft_0, ev_ft_1, ev_ft_o, ev_ft_a, ev_nb_0, ev_nb_1, and_true, true_and, if_true, if_false, not_true_eq_false, not_false_eq_true, nI_1, ev_fG_0, ev_fG_1, ev_fG_2, ev_fG_3, ev_fG_4, ev_fG_5, ev_fG_6, ev_fG_7, ev_fG_8, ev_fS_0, ev_fS_1, ev_fS_2, ev_fS_3, ev_fS_4, ev_fS_5, ev_fS_6, ev_fS_7, ev_fS_8, ev_isO_0, ev_isO_1, ev_isO_2, ev_isO_3, ev_isO_4, ev_isO_5, ev_isO_6, ev_isO_7, ev_isO_8, ev_z0, ev_z1, ev_z2, eq_self, ev_ofN, ev_lk_s h0, ev_lk_s h1]
  exact k
theorem C_knock (hc : c_all x G H) (k : ∀ H1, c_all x (G.1, G.2.1, G.2.2.1, G.2.2.2.1, G.2.2.2.2.1, G.2.2.2.2.2 + 1) H1 → c_fr x H H1 → P (.inl (some (.int (G.2.2.2.2.2 + 1)))) H1 n q) : ev_ok (ev_TT X) 55 0 [.ref x] [] H n q P := by
  have h0 := hc.1
  unfold c_top at h0
  simp (disch := omega) only [t_X5_knock_0, t_X5_knock_1, t_X5_knock_1_i, t_X5_knock_2, t_X5_knock_5, t_X5_knock_6, t_X5_knock_7, t_X5_knock_10, t_X5_knock_11, t_X5_knock_14, ↓reduceIte, ev_k_i, ev_k_r, ev_k_l, ev_k_J, ev_k_n, ev_kr_1, ev_kr_0, ev_isK_y, ev_aG_y, ev_aS_y, ev_aN_y, ev_inA_0, ev_isA_0, ev_ft_I, ev_ft_0, ev_ft_1, ev_ft_o, ev_ft_a, ev_nb_0, ev_nb_1, and_true, true_and, if_true, if_false, not_true_eq_false, not_false_eq_true, nI_1, ev_fG_0, ev_fG_1, ev_fG_2, ev_fG_3, ev_fG_4, ev_fG_5, ev_fG_6, ev_fG_7, ev_fG_8, ev_fS_0, ev_fS_1, ev_fS_2, ev_fS_3, ev_fS_4, ev_fS_5, ev_fS_6, ev_fS_7, ev_fS_8, ev_isO_0, ev_isO_1, ev_isO_2, ev_isO_3, ev_isO_4, ev_isO_5, ev_isO_6, ev_isO_7, ev_isO_8, ev_z0, ev_z1, ev_z2, eq_self, ev_ofN, ev_lk_s h0, h0, ev_up_s, ev_lk_s ev_up_s]
  exact k _ (c_up0 hc (fun a ha => ev_up_n (by omega)) ev_up_s) (fun a ha => ev_up_n (by omega))
theorem C_depth (hc : c_all x G H) (hG : okG G) {k : Int32} (k0 : k < 0 ∨ nI 20 ≤ k → P (.inr 1) H (n + 1) (q + 6)) (k2 : ∀ a, a < 20 → k = nI a → P (.inl (some (.int (pd_depth G.2.1.1 k)))) H n q) : ev_ok (ev_TT X) 149 0 [.ref x, .int k] [] H n q P := by
  have hk := c_all_k (X := X) hc
  rcases pk_ix k (n := 20) (by omega) with h | h | ⟨a, ha, rfl⟩
  · simp (disch := omega) only [t_X5_depth_0, t_X5_depth_1, t_X5_depth_4, t_X5_depth_5, t_X5_depth_6, t_X5_depth_9, x_X5_depth_1, x_X5_depth_6, ↓reduceIte, ev_k_i, ev_k_r, ev_k_l, ev_k_J, ev_k_n, ev_kr_1, ev_kr_0, ev_isK_y, ev_aG_y, ev_aS_y, ev_aN_y, ev_inA_0, ev_isA_0, ev_ft_I, ev_ft_0, ev_ft_1, ev_ft_o, ev_ft_a, ev_nb_0, ev_nb_1, and_true, true_and, if_true, if_false, not_true_eq_false, not_false_eq_true, nI_1, ev_fG_0, ev_fG_1, ev_fG_2, ev_fG_3, ev_fG_4, ev_fG_5, ev_fG_6, ev_fG_7, ev_fG_8, ev_fS_0, ev_fS_1, ev_fS_2, ev_fS_3, ev_fS_4, ev_fS_5, ev_fS_6, ev_fS_7, ev_fS_8, ev_isO_0, ev_isO_1, ev_isO_2, ev_isO_3, ev_isO_4, ev_isO_5, ev_isO_6, ev_isO_7, ev_isO_8, ev_z0, ev_z1, ev_z2, eq_self, ev_ofN, hk, C_dKey_n (Or.inl h)]
    exact k0 (Or.inl h)
  · simp (disch := omega) only [t_X5_depth_0, t_X5_depth_1, t_X5_depth_4, t_X5_depth_5, t_X5_depth_6, t_X5_depth_9, x_X5_depth_1, x_X5_depth_6, ↓reduceIte, ev_k_i, ev_k_r, ev_k_l, ev_k_J, ev_k_n, ev_kr_1, ev_kr_0, ev_isK_y, ev_aG_y, ev_aS_y, ev_aN_y, ev_inA_0, ev_isA_0, ev_ft_I, ev_ft_0, ev_ft_1, ev_ft_o, ev_ft_a, ev_nb_0, ev_nb_1, and_true, true_and, if_true, if_false, not_true_eq_false, not_false_eq_true, nI_1, ev_fG_0, ev_fG_1, ev_fG_2, ev_fG_3, ev_fG_4, ev_fG_5, ev_fG_6, ev_fG_7, ev_fG_8, ev_fS_0, ev_fS_1, ev_fS_2, ev_fS_3, ev_fS_4, ev_fS_5, ev_fS_6, ev_fS_7, ev_fS_8, ev_isO_0, ev_isO_1, ev_isO_2, ev_isO_3, ev_isO_4, ev_isO_5, ev_isO_6, ev_isO_7, ev_isO_8, ev_z0, ev_z1, ev_z2, eq_self, ev_ofN, hk, C_dKey_n (Or.inr h)]
    exact k0 (Or.inr h)
  · simp (disch := omega) only [t_X5_depth_0, t_X5_depth_1, t_X5_depth_4, t_X5_depth_5, t_X5_depth_6, t_X5_depth_9, x_X5_depth_1, x_X5_depth_6, ↓reduceIte, ev_k_i, ev_k_r, ev_k_l, ev_k_J, ev_k_n, ev_kr_1, ev_kr_0, ev_isK_y, ev_aG_y, ev_aS_y, ev_aN_y, ev_inA_0, ev_isA_0, ev_ft_I, ev_ft_0, ev_ft_1, ev_ft_o, ev_ft_a, ev_nb_0, ev_nb_1, and_true, true_and, if_true, if_false, not_true_eq_false, not_false_eq_true, nI_1, ev_fG_0, ev_fG_1, ev_fG_2, ev_fG_3, ev_fG_4, ev_fG_5, ev_fG_6, ev_fG_7, ev_fG_8, ev_fS_0, ev_fS_1, ev_fS_2, ev_fS_3, ev_fS_4, ev_fS_5, ev_fS_6, ev_fS_7, ev_fS_8, ev_isO_0, ev_isO_1, ev_isO_2, ev_isO_3, ev_isO_4, ev_isO_5, ev_isO_6, ev_isO_7, ev_isO_8, ev_z0, ev_z1, ev_z2, eq_self, ev_ofN, hk, C_dKey_y ha]
    refine C_depthNow hc hG ?_
    simp (disch := omega) only [t_X5_depth_0, t_X5_depth_1, t_X5_depth_4, t_X5_depth_5, t_X5_depth_6, t_X5_depth_9, x_X5_depth_1, x_X5_depth_6, ↓reduceIte, ev_k_i, ev_k_r, ev_k_l, ev_k_J, ev_k_n, ev_kr_1, ev_kr_0, ev_isK_y, ev_aG_y, ev_aS_y, ev_aN_y, ev_inA_0, ev_isA_0, ev_ft_I, ev_ft_0, ev_ft_1, ev_ft_o, ev_ft_a, ev_nb_0, ev_nb_1, and_true, true_and, if_true, if_false, not_true_eq_false, not_false_eq_true, nI_1, ev_fG_0, ev_fG_1, ev_fG_2, ev_fG_3, ev_fG_4, ev_fG_5, ev_fG_6, ev_fG_7, ev_fG_8, ev_fS_0, ev_fS_1, ev_fS_2, ev_fS_3, ev_fS_4, ev_fS_5, ev_fS_6, ev_fS_7, ev_fS_8, ev_isO_0, ev_isO_1, ev_isO_2, ev_isO_3, ev_isO_4, ev_isO_5, ev_isO_6, ev_isO_7, ev_isO_8, ev_z0, ev_z1, ev_z2, eq_self, ev_ofN]
    exact k2 a ha rfl
theorem C_withDepth (hc : c_all x G H) (hG : okG G) {d : Int32} (k : P (.inl (some (.int (pr_cnt G.2.2.2.1.2.1 (fun y => decide (y = d)) G.2.2.2.1.2.2 0 0)))) H n q) : ev_ok (ev_TT X) 114 0 [.ref x, .int d] [] H n q P := by
  have h0 := hc.1
  unfold c_top at h0
  have ha0 := c_ask0 hc
  have hak : ev_isK (ev_lk X H (x + 2)) 5 = True := by rw [ev_lk_s ha0]; exact ev_isK_y
  obtain ⟨ne, hk1, hn1, hH, hN⟩ := hc.2.2.1
  simp (disch := omega) only [t_X5_withDepth_0, t_X5_withDepth_1, t_X5_withDepth_4, t_X5_withDepth_5, t_X5_withDepth_8, x_X5_withDepth_5, ↓reduceIte, ev_k_i, ev_k_r, ev_k_l, ev_k_J, ev_k_n, ev_kr_1, ev_kr_0, ev_isK_y, ev_aG_y, ev_aS_y, ev_aN_y, ev_inA_0, ev_isA_0, ev_ft_I, ev_ft_0, ev_ft_1, ev_ft_o, ev_ft_a, ev_nb_0, ev_nb_1, and_true, true_and, if_true, if_false, not_true_eq_false, not_false_eq_true, nI_1, ev_fG_0, ev_fG_1, ev_fG_2, ev_fG_3, ev_fG_4, ev_fG_5, ev_fG_6, ev_fG_7, ev_fG_8, ev_fS_0, ev_fS_1, ev_fS_2, ev_fS_3, ev_fS_4, ev_fS_5, ev_fS_6, ev_fS_7, ev_fS_8, ev_isO_0, ev_isO_1, ev_isO_2, ev_isO_3, ev_isO_4, ev_isO_5, ev_isO_6, ev_isO_7, ev_isO_8, ev_z0, ev_z1, ev_z2, eq_self, ev_ofN, ev_lk_s h0, hak]
  rw [hH]
  refine A_cntD hG.2.2.2 ?_
  rw [← hH]
  simp (disch := omega) only [t_X5_withDepth_0, t_X5_withDepth_1, t_X5_withDepth_4, t_X5_withDepth_5, t_X5_withDepth_8, x_X5_withDepth_5, ↓reduceIte, ev_k_i, ev_k_r, ev_k_l, ev_k_J, ev_k_n, ev_kr_1, ev_kr_0, ev_isK_y, ev_aG_y, ev_aS_y, ev_aN_y, ev_inA_0, ev_isA_0, ev_ft_I, ev_ft_0, ev_ft_1, ev_ft_o, ev_ft_a, ev_nb_0, ev_nb_1, and_true, true_and, if_true, if_false, not_true_eq_false, not_false_eq_true, nI_1, ev_fG_0, ev_fG_1, ev_fG_2, ev_fG_3, ev_fG_4, ev_fG_5, ev_fG_6, ev_fG_7, ev_fG_8, ev_fS_0, ev_fS_1, ev_fS_2, ev_fS_3, ev_fS_4, ev_fS_5, ev_fS_6, ev_fS_7, ev_fS_8, ev_isO_0, ev_isO_1, ev_isO_2, ev_isO_3, ev_isO_4, ev_isO_5, ev_isO_6, ev_isO_7, ev_isO_8, ev_z0, ev_z1, ev_z2, eq_self, ev_ofN]
  exact k
end CR
