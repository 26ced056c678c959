/-! ===== the class: an asking ===== -/
noncomputable def pd_depth (L : ev_PL) (k : Int32) : Int32 := match pf_find L k with
  | none => 0
  | some j => nI (L.length - j)
/-- a keeper that meets a key -/
noncomputable def pk_meet (s : ev_KS) (k v : Int32) : ev_KS := ((pr_fetchIn s.1 1 s.2.1 s.2.2.1 s.2.2.2.1 k v).2.1, s.2.1, (pr_fetchIn s.1 1 s.2.1 s.2.2.1 s.2.2.2.1 k v).2.2.1, (pr_fetchIn s.1 1 s.2.1 s.2.2.1 s.2.2.2.1 k v).2.2.2,
  (if (pr_fetchIn s.1 1 s.2.1 s.2.2.1 s.2.2.2.1 k v).1 = 0 then s.2.2.2.2.1 + 1 else s.2.2.2.2.1), (if (pr_fetchIn s.1 1 s.2.1 s.2.2.1 s.2.2.2.1 k v).1 = 0 then s.2.2.2.2.2 else s.2.2.2.2.2 + 1))
noncomputable def pk_hits (K : Nat → ev_KS) (k v : Int32) : Nat → Nat → Int32 → Int32
  | 0, _, s => s
  | d + 1, j, s => pk_hits K k v d (j + 1) (if (pr_fetchIn (K j).1 1 (K j).2.1 (K j).2.2.1 (K j).2.2.2.1 k v).1 = 0 then s else s + 1)
noncomputable def pg_K (G : ev_CS) (i : Nat) (k v : Int32) : ev_CS := (G.1, G.2.1, (fun j => if j < i then pk_meet (G.2.2.1 j) k v else G.2.2.1 j), G.2.2.2)
section CK
variable {X : ev_E} {x : Nat} {G : ev_CS} {H : ev_M} {n q : Nat} {P : ev_O → ev_M → Nat → Nat → Prop}
theorem pg_K_s {i : Nat} {k v : Int32} : ((pg_K G i k v).1, (pg_K G i k v).2.1, (fun j' => if j' = i then pk_meet (G.2.2.1 i) k v else (pg_K G i k v).2.2.1 j'), (pg_K G i k v).2.2.2) = pg_K G (i + 1) k v := by
  have : (fun j' => if j' = i then pk_meet (G.2.2.1 i) k v else (pg_K G i k v).2.2.1 j') = (pg_K G (i + 1) k v).2.2.1 := by
    funext j'
    unfold pg_K
    dsimp only
    by_cases e : j' = i
    · subst e
      rw [if_pos rfl, if_pos (by omega)]
    · rw [if_neg e]
      by_cases e2 : j' < i
      · rw [if_pos e2, if_pos (by omega)]
      · rw [if_neg e2, if_neg (by omega)]
  rw [this]
  rfl
theorem C_depthNow (hc : c_all x G H) (hG : okG G) {k : Int32} (c : P (.inl (some (.int (pd_depth G.2.1.1 k)))) H n q) : ev_ok (ev_TT X) 104 0 [.ref x, .int k, ev_J] [] H n q P := by
  have h0 := hc.1
  have h3 := hc.2.2.2.1
  have hr := ev_rL_k (X := X) h3
  have hx := (ev_rL_b (X := X) h3).2.1
  have hl := okL_len hG.2.1
  unfold c_top at h0
  unfold pd_depth at c
  simp (disch := omega) only [t_X5_depthNow_0, t_X5_depthNow_1, t_X5_depthNow_4, t_X5_depthNow_5, t_X5_depthNow_8, t_X5_depthNow_9, t_X5_depthNow_10, t_X5_depthNow_11, t_X5_depthNow_14, t_X5_depthNow_15, t_X5_depthNow_18, t_X5_depthNow_19, t_X5_depthNow_22, t_X5_depthNow_25, t_X5_depthNow_26, t_X5_depthNow_27, x_X5_depthNow_5, ↓reduceIte, ev_k_i, ev_k_r, ev_k_l, ev_k_J, ev_k_n, ev_kr_1, ev_kr_0, ev_isK_y, ev_aG_y, ev_aS_y, ev_aN_y, ev_inA_0, ev_isA_0, ev_ft_I, ev_ft_0, ev_ft_1, ev_ft_o, ev_ft_a, ev_nb_0, ev_nb_1, and_true, true_and, if_true, if_false, not_true_eq_false, not_false_eq_true, nI_1, ev_fG_0, ev_fG_1, ev_fG_2, ev_fG_3, ev_fG_4, ev_fG_5, ev_fG_6, ev_fG_7, ev_fG_8, ev_fS_0, ev_fS_1, ev_fS_2, ev_fS_3, ev_fS_4, ev_fS_5, ev_fS_6, ev_fS_7, ev_fS_8, ev_isO_0, ev_isO_1, ev_isO_2, ev_isO_3, ev_isO_4, ev_isO_5, ev_isO_6, ev_isO_7, ev_isO_8, ev_z0, ev_z1, ev_z2, eq_self, ev_ofN, ev_lk_s h0, hr]
  refine R_find h3 hl ?_
  unfold pf_place
  rcases e : pf_find G.2.1.1 k with _ | j
  · rw [e] at c
    simp (disch := omega) only [t_X5_depthNow_0, t_X5_depthNow_1, t_X5_depthNow_4, t_X5_depthNow_5, t_X5_depthNow_8, t_X5_depthNow_9, t_X5_depthNow_10, t_X5_depthNow_11, t_X5_depthNow_14, t_X5_depthNow_15, t_X5_depthNow_18, t_X5_depthNow_19, t_X5_depthNow_22, t_X5_depthNow_25, t_X5_depthNow_26, t_X5_depthNow_27, x_X5_depthNow_5, ↓reduceIte, ev_k_i, ev_k_r, ev_k_l, ev_k_J, ev_k_n, ev_kr_1, ev_kr_0, ev_isK_y, ev_aG_y, ev_aS_y, ev_aN_y, ev_inA_0, ev_isA_0, ev_ft_I, ev_ft_0, ev_ft_1, ev_ft_o, ev_ft_a, ev_nb_0, ev_nb_1, and_true, true_and, if_true, if_false, not_true_eq_false, not_false_eq_true, nI_1, ev_fG_0, ev_fG_1, ev_fG_2, ev_fG_3, ev_fG_4, ev_fG_5, ev_fG_6, ev_fG_7, ev_fG_8, ev_fS_0, ev_fS_1, ev_fS_2, ev_fS_3, ev_fS_4, ev_fS_5, ev_fS_6, ev_fS_7, ev_fS_8, ev_isO_0, ev_isO_1, ev_isO_2, ev_isO_3, ev_isO_4, ev_isO_5, ev_isO_6, ev_isO_7, ev_isO_8, ev_z0, ev_z1, ev_z2, eq_self, ev_ofN, ev_lk_s h0]
    exact c
  · rw [e] at c
    have hj := (pf_find_s e).1
    have hsub := pk_sub (a := G.2.1.1.length) (b := j) (by omega)
    simp (disch := omega) only [t_X5_depthNow_0, t_X5_depthNow_1, t_X5_depthNow_4, t_X5_depthNow_5, t_X5_depthNow_8, t_X5_depthNow_9, t_X5_depthNow_10, t_X5_depthNow_11, t_X5_depthNow_14, t_X5_depthNow_15, t_X5_depthNow_18, t_X5_depthNow_19, t_X5_depthNow_22, t_X5_depthNow_25, t_X5_depthNow_26, t_X5_depthNow_27, x_X5_depthNow_5, ↓reduceIte, ev_k_i, ev_k_r, ev_k_l, ev_k_J, ev_k_n, ev_kr_1, ev_kr_0, ev_isK_y, ev_aG_y, ev_aS_y, ev_aN_y, ev_inA_0, ev_isA_0, ev_ft_I, ev_ft_0, ev_ft_1, ev_ft_o, ev_ft_a, ev_nb_0, ev_nb_1, and_true, true_and, if_true, if_false, not_true_eq_false, not_false_eq_true, nI_1, ev_fG_0, ev_fG_1, ev_fG_2, ev_fG_3, ev_fG_4, ev_fG_5, ev_fG_6, ev_fG_7, ev_fG_8, ev_fS_0, ev_fS_1, ev_fS_2, ev_fS_3, ev_fS_4, ev_fS_5, ev_fS_6, ev_fS_7, ev_fS_8, ev_isO_0, ev_isO_1, ev_isO_2, ev_isO_3, ev_isO_4, ev_isO_5, ev_isO_6, ev_isO_7, ev_isO_8, ev_z0, ev_z1, ev_z2, eq_self, ev_ofN, ev_nm1, ev_lk_s h0, hx.1, hx.2, hsub]
    exact c
theorem C_askLoop {k v : Int32} (hkey : k ∈ (List.range 20).map nI) : ∀ (d j : Nat) (s : Int32) (w : Value) (H : ev_M), j + d = 6 → c_all x (pg_K G j k v) H → okG G →
    (∀ w' H1, c_all x (pg_K G 6 k v) H1 → c_fr x H H1 → ev_ok (ev_TT X) 254 70 [.ref x, .int k, .int v, .int (pk_hits G.2.2.1 k v d j s), .ref (x + 11), .int 6, .int 6, w'] [] H1 n q P) → ev_ok (ev_TT X) 254 37 [.ref x, .int k, .int v, .int s, .ref (x + 11), .int 6, .int (nI j), w] [] H n q P := by
  intro d
  induction d with
  | zero =>
    intro j s w H hj hc hG c
    have hj6 : j = 6 := by omega
    subst hj6
    simp (disch := omega) only [t_X5_askOne_0, t_X5_askOne_1, t_X5_askOne_4, t_X5_askOne_7, t_X5_askOne_8, t_X5_askOne_9, t_X5_askOne_12, t_X5_askOne_13, t_X5_askOne_14, t_X5_askOne_15, t_X5_askOne_18, t_X5_askOne_21, t_X5_askOne_22, t_X5_askOne_23, t_X5_askOne_24, t_X5_askOne_27, t_X5_askOne_29, t_X5_askOne_31, t_X5_askOne_32, t_X5_askOne_34, t_X5_askOne_35, t_X5_askOne_37, t_X5_askOne_39, t_X5_askOne_41, t_X5_askOne_44, t_X5_askOne_46, t_X5_askOne_48, t_X5_askOne_49, t_X5_askOne_51, t_X5_askOne_53, t_X5_askOne_54, t_X5_askOne_55, t_X5_askOne_58, t_X5_askOne_61, t_X5_askOne_64, t_X5_askOne_67, t_X5_askOne_71, t_X5_askOne_74, t_X5_askOne_75, t_X5_askOne_76, t_X5_askOne_79, t_X5_askOne_79_i, t_X5_askOne_80, t_X5_askOne_81, x_X5_askOne_15, x_X5_askOne_18, x_X5_askOne_55, x_X5_askOne_76, ↓reduceIte, ev_k_i, ev_k_r, ev_k_l, ev_k_J, ev_k_n, ev_kr_1, ev_kr_0, ev_isK_y, ev_aG_y, ev_aS_y, ev_aN_y, ev_inA_0, ev_isA_0, ev_ft_I, ev_ft_0, ev_ft_1, ev_ft_o, ev_ft_a, ev_nb_0, ev_nb_1, and_true, true_and, if_true, if_false, not_true_eq_false, not_false_eq_true, nI_1, ev_fG_0, ev_fG_1, ev_fG_2, ev_fG_3, ev_fG_4, ev_fG_5, ev_fG_6, ev_fG_7, ev_fG_8, ev_fS_0, ev_fS_1, ev_fS_2, ev_fS_3, ev_fS_4, ev_fS_5, ev_fS_6, ev_fS_7, ev_fS_8, ev_isO_0, ev_isO_1, ev_isO_2, ev_isO_3, ev_isO_4, ev_isO_5, ev_isO_6, ev_isO_7, ev_isO_8, ev_z0, ev_z1, ev_z2, eq_self, ev_ofN, show nI 6 = 6 from rfl, Int32.le_refl]
    exact c w H hc (fun a _ => rfl)
  | succ d ih =>
    intro j s w H hj hc hG c
    have hj6 : j < 6 := by omega
    have hB : ¬ (6 : Int32) ≤ nI j := Int32.not_le.mpr (nI_lt (b := 6) hj6 (by omega))
    have hp := nI_pos' (n := j) (by omega)
    obtain ⟨f, h4, h4b⟩ := hc.2.2.2.2.1
    have hf := h4b j hj6
    obtain ⟨h7, h8⟩ := hc.2.2.2.2.2.2.2 j hj6
    have eK : (pg_K G j k v).2.2.1 j = G.2.2.1 j := by
      unfold pg_K
      dsimp only
      rw [if_neg (by omega)]
    rw [eK] at h7 h8
    have hL := hG.2.2.1 j hj6
    have h7k : ev_isK (ev_lk X H (x + 33 + 4 * j)) 6 = True := by rw [ev_lk_s h7]; exact ev_isK_y
    rw [t_X5_askOne_37]
    simp (disch := omega) only [t_X5_askOne_0, t_X5_askOne_1, t_X5_askOne_4, t_X5_askOne_7, t_X5_askOne_8, t_X5_askOne_9, t_X5_askOne_12, t_X5_askOne_13, t_X5_askOne_14, t_X5_askOne_15, t_X5_askOne_18, t_X5_askOne_21, t_X5_askOne_22, t_X5_askOne_23, t_X5_askOne_24, t_X5_askOne_27, t_X5_askOne_29, t_X5_askOne_31, t_X5_askOne_32, t_X5_askOne_34, t_X5_askOne_35, t_X5_askOne_39, t_X5_askOne_41, t_X5_askOne_44, t_X5_askOne_46, t_X5_askOne_48, t_X5_askOne_49, t_X5_askOne_51, t_X5_askOne_53, t_X5_askOne_54, t_X5_askOne_55, t_X5_askOne_58, t_X5_askOne_61, t_X5_askOne_64, t_X5_askOne_67, t_X5_askOne_71, t_X5_askOne_74, t_X5_askOne_75, t_X5_askOne_76, t_X5_askOne_79, t_X5_askOne_79_i, t_X5_askOne_80, t_X5_askOne_81, x_X5_askOne_15, x_X5_askOne_18, x_X5_askOne_55, x_X5_askOne_76, ↓reduceIte, ev_k_i, ev_k_r, ev_k_l, ev_k_J, ev_k_n, ev_kr_1, ev_kr_0, ev_isK_y, ev_aG_y, ev_aS_y, ev_aN_y, ev_inA_0, ev_isA_0, ev_ft_I, ev_ft_0, ev_ft_1, ev_ft_o, ev_ft_a, ev_nb_0, ev_nb_1, and_true, true_and, if_true, if_false, not_true_eq_false, not_false_eq_true, nI_1, ev_fG_0, ev_fG_1, ev_fG_2, ev_fG_3, ev_fG_4, ev_fG_5, ev_fG_6, ev_fG_7, ev_fG_8, ev_fS_0, ev_fS_1, ev_fS_2, ev_fS_3, ev_fS_4, ev_fS_5, ev_fS_6, ev_fS_7, ev_fS_8, ev_isO_0, ev_isO_1, ev_isO_2, ev_isO_3, ev_isO_4, ev_isO_5, ev_isO_6, ev_isO_7, ev_isO_8, ev_z0, ev_z1, ev_z2, eq_self, ev_ofN, hB, ev_lk_s h4, ev_inA_4, nI_clamp, hp, hj6, hf, h7k]
    refine C_meet h7 h8 (by omega) (by omega) (by omega) ev_isB_1 (okL_len hL) (fun z => (okL_new hL hkey z).2) fun H1 hH1 => ?_
    have ho : ∀ a, (a < x + 33 + 4 * j ∨ x + 37 + 4 * j ≤ a) → H1 a = H a := fun a ha =>
      (ev_rL_o hH1 (by omega) (by omega) (by omega)).trans (ev_up_n (by omega))
    have hc1 := c_upK hc hj6 (s := pk_meet (G.2.2.1 j) k v) ho ⟨(ev_rL_o hH1 (by omega) (by omega) (by omega)).trans ev_up_s, c_row_of hH1⟩
    rw [pg_K_s] at hc1
    have hfr : c_fr x H H1 := fun a ha => ho a (by omega)
    rw [pk_hits] at c
    rcases pr_fetchIn_01 (L := (G.2.2.1 j).1) (b := 1) (m := (G.2.2.1 j).2.1) (lm := (G.2.2.1 j).2.2.1) (ll := (G.2.2.1 j).2.2.2.1) (x := k) (v := v) with e | e
    · rw [e, if_pos rfl] at c
      rw [e]
      simp (disch := omega) only [t_X5_askOne_0, t_X5_askOne_1, t_X5_askOne_4, t_X5_askOne_7, t_X5_askOne_8, t_X5_askOne_9, t_X5_askOne_12, t_X5_askOne_13, t_X5_askOne_14, t_X5_askOne_15, t_X5_askOne_18, t_X5_askOne_21, t_X5_askOne_22, t_X5_askOne_23, t_X5_askOne_24, t_X5_askOne_27, t_X5_askOne_29, t_X5_askOne_31, t_X5_askOne_32, t_X5_askOne_34, t_X5_askOne_35, t_X5_askOne_39, t_X5_askOne_41, t_X5_askOne_44, t_X5_askOne_46, t_X5_askOne_48, t_X5_askOne_49, t_X5_askOne_51, t_X5_askOne_53, t_X5_askOne_54, t_X5_askOne_55, t_X5_askOne_58, t_X5_askOne_61, t_X5_askOne_64, t_X5_askOne_67, t_X5_askOne_71, t_X5_askOne_74, t_X5_askOne_75, t_X5_askOne_76, t_X5_askOne_79, t_X5_askOne_79_i, t_X5_askOne_80, t_X5_askOne_81, x_X5_askOne_15, x_X5_askOne_18, x_X5_askOne_55, x_X5_askOne_76, ↓reduceIte, ev_k_i, ev_k_r, ev_k_l, ev_k_J, ev_k_n, ev_kr_1, ev_kr_0, ev_isK_y, ev_aG_y, ev_aS_y, ev_aN_y, ev_inA_0, ev_isA_0, ev_ft_I, ev_ft_0, ev_ft_1, ev_ft_o, ev_ft_a, ev_nb_0, ev_nb_1, and_true, true_and, if_true, if_false, not_true_eq_false, not_false_eq_true, nI_1, ev_fG_0, ev_fG_1, ev_fG_2, ev_fG_3, ev_fG_4, ev_fG_5, ev_fG_6, ev_fG_7, ev_fG_8, ev_fS_0, ev_fS_1, ev_fS_2, ev_fS_3, ev_fS_4, ev_fS_5, ev_fS_6, ev_fS_7, ev_fS_8, ev_isO_0, ev_isO_1, ev_isO_2, ev_isO_3, ev_isO_4, ev_isO_5, ev_isO_6, ev_isO_7, ev_isO_8, ev_z0, ev_z1, ev_z2, eq_self, ev_ofN]
      exact ih (j + 1) _ _ H1 (by omega) hc1 hG (fun w' H2 g1 g2 => c w' H2 g1 (fun a ha => (g2 a ha).trans (hfr a ha)))
    · rw [e, if_neg (by decide)] at c
      rw [e]
      simp (disch := omega) only [t_X5_askOne_0, t_X5_askOne_1, t_X5_askOne_4, t_X5_askOne_7, t_X5_askOne_8, t_X5_askOne_9, t_X5_askOne_12, t_X5_askOne_13, t_X5_askOne_14, t_X5_askOne_15, t_X5_askOne_18, t_X5_askOne_21, t_X5_askOne_22, t_X5_askOne_23, t_X5_askOne_24, t_X5_askOne_27, t_X5_askOne_29, t_X5_askOne_31, t_X5_askOne_32, t_X5_askOne_34, t_X5_askOne_35, t_X5_askOne_39, t_X5_askOne_41, t_X5_askOne_44, t_X5_askOne_46, t_X5_askOne_48, t_X5_askOne_49, t_X5_askOne_51, t_X5_askOne_53, t_X5_askOne_54, t_X5_askOne_55, t_X5_askOne_58, t_X5_askOne_61, t_X5_askOne_64, t_X5_askOne_67, t_X5_askOne_71, t_X5_askOne_74, t_X5_askOne_75, t_X5_askOne_76, t_X5_askOne_79, t_X5_askOne_79_i, t_X5_askOne_80, t_X5_askOne_81, x_X5_askOne_15, x_X5_askOne_18, x_X5_askOne_55, x_X5_askOne_76, ↓reduceIte, ev_k_i, ev_k_r, ev_k_l, ev_k_J, ev_k_n, ev_kr_1, ev_kr_0, ev_isK_y, ev_aG_y, ev_aS_y, ev_aN_y, ev_inA_0, ev_isA_0, ev_ft_I, ev_ft_0, ev_ft_1, ev_ft_o, ev_ft_a, ev_nb_0, ev_nb_1, and_true, true_and, if_true, if_false, not_true_eq_false, not_false_eq_true, nI_1, ev_fG_0, ev_fG_1, ev_fG_2, ev_fG_3, ev_fG_4, ev_fG_5, ev_fG_6, ev_fG_7, ev_fG_8, ev_fS_0, ev_fS_1, ev_fS_2, ev_fS_3, ev_fS_4, ev_fS_5, ev_fS_6, ev_fS_7, ev_fS_8, ev_isO_0, ev_isO_1, ev_isO_2, ev_isO_3, ev_isO_4, ev_isO_5, ev_isO_6, ev_isO_7, ev_isO_8, ev_z0, ev_z1, ev_z2, eq_self, ev_ofN]
      exact ih (j + 1) _ _ H1 (by omega) hc1 hG (fun w' H2 g1 g2 => c w' H2 g1 (fun a ha => (g2 a ha).trans (hfr a ha)))
end CK
