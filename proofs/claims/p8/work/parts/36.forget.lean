/-! ===== the class: forget ===== -/
def pk_anew (s : ev_KS) : ev_KS := ([], s.2.1, 0, -1, 0, 0)
def pg_F (G : ev_CS) (i : Nat) : ev_CS := (G.1, G.2.1, (fun j => if j < i then pk_anew (G.2.2.1 j) else G.2.2.1 j), G.2.2.2)
def pg_F0 (G : ev_CS) : ev_CS := (G.1, ([], 0, -1), G.2.2.1, (G.2.2.2.1.1, G.2.2.2.1.2.1, 0), G.2.2.2.2)
theorem pg_F_0 {G : ev_CS} : pg_F G 0 = G := by
  have : (fun j => if j < 0 then pk_anew (G.2.2.1 j) else G.2.2.1 j) = G.2.2.1 := by
    funext j
    rw [if_neg (by omega)]
  unfold pg_F
  rw [this]
theorem pg_F_s {G : ev_CS} {i : Nat} : ((pg_F G i).1, (pg_F G i).2.1, (fun j' => if j' = i then pk_anew (G.2.2.1 i) else (pg_F G i).2.2.1 j'), (pg_F G i).2.2.2) = pg_F G (i + 1) := by
  have : (fun j' => if j' = i then pk_anew (G.2.2.1 i) else (pg_F G i).2.2.1 j') = (pg_F G (i + 1)).2.2.1 := by
    funext j'
    unfold pg_F
    dsimp only
    by_cases e : j' = i
    · subst e
      rw [if_pos rfl, if_pos (by omega)]
    · rw [if_neg e]
      by_cases e2 : j' < i
      · rw [if_pos e2, if_pos (by omega)]
      · rw [if_neg e2, if_neg (by omega)]
  rw [this]
  rfl
theorem okG_F {G : ev_CS} (h : okG G) : okG (pg_F (pg_F0 G) 6) := by
  refine ⟨h.1, okL_nil, fun j hj => ?_, Nat.zero_le 60⟩
  show okL ((if j < 6 then pk_anew (G.2.2.1 j) else G.2.2.1 j)).1
  rw [if_pos hj]
  exact okL_nil
section CF
variable {X : ev_E} {x : Nat} {G : ev_CS} {H : ev_M} {n q : Nat} {P : ev_O → ev_M → Nat → Nat → Prop}
theorem C_fLoop {b : Int32} : ∀ (d j : Nat) (w : Value) (H : ev_M), j + d = 6 → c_all x (pg_F G j) H → (∀ j, j < 6 → (G.2.2.1 j).1.length ≤ 20) →
    (∀ H1, c_all x (pg_F G 6) H1 → c_fr x H H1 → P (.inl (some (.int b))) H1 n q) → ev_ok (ev_TT X) 201 37 [.ref x, .int b, .ref (x + 11), .int 6, .int (nI j), w] [] H n q P := by
  intro d
  induction d with
  | zero =>
    intro j w H hj hc hG c
    have hj6 : j = 6 := by omega
    subst hj6
    simp (disch := omega) only [t_X5_forget_0, t_X5_forget_1, t_X5_forget_4, t_X5_forget_7, t_X5_forget_8, t_X5_forget_9, t_X5_forget_12, t_X5_forget_13, t_X5_forget_16, t_X5_forget_17, t_X5_forget_20, t_X5_forget_21, t_X5_forget_22, t_X5_forget_25, t_X5_forget_25_i, t_X5_forget_26, t_X5_forget_27, t_X5_forget_30, t_X5_forget_31, t_X5_forget_32, t_X5_forget_33, t_X5_forget_34, t_X5_forget_35, t_X5_forget_37, t_X5_forget_39, t_X5_forget_40, t_X5_forget_43, t_X5_forget_44, t_X5_forget_46, t_X5_forget_47, t_X5_forget_49, t_X5_forget_51, t_X5_forget_54, t_X5_forget_57, t_X5_forget_60, t_X5_forget_61, x_X5_forget_22, x_X5_forget_51, ↓reduceIte, ev_k_i, ev_k_r, ev_k_l, ev_k_J, ev_k_n, ev_kr_1, ev_kr_0, ev_isK_y, ev_aG_y, ev_aS_y, ev_aN_y, ev_inA_0, ev_isA_0, ev_ft_I, ev_ft_0, ev_ft_1, ev_ft_o, ev_ft_a, ev_nb_0, ev_nb_1, and_true, true_and, if_true, if_false, not_true_eq_false, not_false_eq_true, nI_1, ev_fG_0, ev_fG_1, ev_fG_2, ev_fG_3, ev_fG_4, ev_fG_5, ev_fG_6, ev_fG_7, ev_fG_8, ev_fS_0, ev_fS_1, ev_fS_2, ev_fS_3, ev_fS_4, ev_fS_5, ev_fS_6, ev_fS_7, ev_fS_8, ev_isO_0, ev_isO_1, ev_isO_2, ev_isO_3, ev_isO_4, ev_isO_5, ev_isO_6, ev_isO_7, ev_isO_8, ev_z0, ev_z1, ev_z2, eq_self, ev_ofN, show nI 6 = 6 from rfl, Int32.le_refl]
    exact c H hc (fun a _ => rfl)
  | succ d ih =>
    intro j w H hj hc hG c
    have hj6 : j < 6 := by omega
    have hB : ¬ (6 : Int32) ≤ nI j := Int32.not_le.mpr (nI_lt (b := 6) hj6 (by omega))
    have hp := nI_pos' (n := j) (by omega)
    obtain ⟨f, h4, h4b⟩ := hc.2.2.2.2.1
    have hf := h4b j hj6
    obtain ⟨h7, h8⟩ := hc.2.2.2.2.2.2.2 j hj6
    have eK : (pg_F G j).2.2.1 j = G.2.2.1 j := by
      unfold pg_F
      dsimp only
      rw [if_neg (by omega)]
    rw [eK] at h7 h8
    have h7k : ev_isK (ev_lk X H (x + 33 + 4 * j)) 6 = True := by rw [ev_lk_s h7]; exact ev_isK_y
    rw [t_X5_forget_37]
    simp (disch := omega) only [t_X5_forget_0, t_X5_forget_1, t_X5_forget_4, t_X5_forget_7, t_X5_forget_8, t_X5_forget_9, t_X5_forget_12, t_X5_forget_13, t_X5_forget_16, t_X5_forget_17, t_X5_forget_20, t_X5_forget_21, t_X5_forget_22, t_X5_forget_25, t_X5_forget_25_i, t_X5_forget_26, t_X5_forget_27, t_X5_forget_30, t_X5_forget_31, t_X5_forget_32, t_X5_forget_33, t_X5_forget_34, t_X5_forget_35, t_X5_forget_39, t_X5_forget_40, t_X5_forget_43, t_X5_forget_44, t_X5_forget_46, t_X5_forget_47, t_X5_forget_49, t_X5_forget_51, t_X5_forget_54, t_X5_forget_57, t_X5_forget_60, t_X5_forget_61, x_X5_forget_22, x_X5_forget_51, ↓reduceIte, ev_k_i, ev_k_r, ev_k_l, ev_k_J, ev_k_n, ev_kr_1, ev_kr_0, ev_isK_y, ev_aG_y, ev_aS_y, ev_aN_y, ev_inA_0, ev_isA_0, ev_ft_I, ev_ft_0, ev_ft_1, ev_ft_o, ev_ft_a, ev_nb_0, ev_nb_1, and_true, true_and, if_true, if_false, not_true_eq_false, not_false_eq_true, nI_1, ev_fG_0, ev_fG_1, ev_fG_2, ev_fG_3, ev_fG_4, ev_fG_5, ev_fG_6, ev_fG_7, ev_fG_8, ev_fS_0, ev_fS_1, ev_fS_2, ev_fS_3, ev_fS_4, ev_fS_5, ev_fS_6, ev_fS_7, ev_fS_8, ev_isO_0, ev_isO_1, ev_isO_2, ev_isO_3, ev_isO_4, ev_isO_5, ev_isO_6, ev_isO_7, ev_isO_8, ev_z0, ev_z1, ev_z2, eq_self, ev_ofN, hB, ev_lk_s h4, ev_inA_4, nI_clamp, hp, hj6, hf, h7k]
    refine C_anew h7 h8 (by omega) (by omega) (by omega) (hG j hj6) fun H1 hH1 => ?_
    have ho : ∀ a, (a < x + 33 + 4 * j ∨ x + 37 + 4 * j ≤ a) → H1 a = H a := fun a ha =>
      (ev_rL_o hH1 (by omega) (by omega) (by omega)).trans (ev_up_n (by omega))
    have hc1 := c_upK hc hj6 (s := pk_anew (G.2.2.1 j)) ho ⟨(ev_rL_o hH1 (by omega) (by omega) (by omega)).trans ev_up_s, c_row_of hH1⟩
    rw [pg_F_s] at hc1
    have hfr : c_fr x H H1 := fun a ha => ho a (by omega)
    simp (disch := omega) only [t_X5_forget_0, t_X5_forget_1, t_X5_forget_4, t_X5_forget_7, t_X5_forget_8, t_X5_forget_9, t_X5_forget_12, t_X5_forget_13, t_X5_forget_16, t_X5_forget_17, t_X5_forget_20, t_X5_forget_21, t_X5_forget_22, t_X5_forget_25, t_X5_forget_25_i, t_X5_forget_26, t_X5_forget_27, t_X5_forget_30, t_X5_forget_31, t_X5_forget_32, t_X5_forget_33, t_X5_forget_34, t_X5_forget_35, t_X5_forget_39, t_X5_forget_40, t_X5_forget_43, t_X5_forget_44, t_X5_forget_46, t_X5_forget_47, t_X5_forget_49, t_X5_forget_51, t_X5_forget_54, t_X5_forget_57, t_X5_forget_60, t_X5_forget_61, x_X5_forget_22, x_X5_forget_51, ↓reduceIte, ev_k_i, ev_k_r, ev_k_l, ev_k_J, ev_k_n, ev_kr_1, ev_kr_0, ev_isK_y, ev_aG_y, ev_aS_y, ev_aN_y, ev_inA_0, ev_isA_0, ev_ft_I, ev_ft_0, ev_ft_1, ev_ft_o, ev_ft_a, ev_nb_0, ev_nb_1, and_true, true_and, if_true, if_false, not_true_eq_false, not_false_eq_true, nI_1, ev_fG_0, ev_fG_1, ev_fG_2, ev_fG_3, ev_fG_4, ev_fG_5, ev_fG_6, ev_fG_7, ev_fG_8, ev_fS_0, ev_fS_1, ev_fS_2, ev_fS_3, ev_fS_4, ev_fS_5, ev_fS_6, ev_fS_7, ev_fS_8, ev_isO_0, ev_isO_1, ev_isO_2, ev_isO_3, ev_isO_4, ev_isO_5, ev_isO_6, ev_isO_7, ev_isO_8, ev_z0, ev_z1, ev_z2, eq_self, ev_ofN]
    exact ih (j + 1) _ H1 (by omega) hc1 hG (fun H2 g1 g2 => c H2 g1 (fun a ha => (g2 a ha).trans (hfr a ha)))
theorem C_forget (hc : c_all x G H) (hG : okG G) (c : ∀ H1, c_all x (pg_F (pg_F0 G) 6) H1 → c_fr x H H1 → P (.inl (some (.int (nI G.2.2.2.1.2.2)))) H1 n q) : ev_ok (ev_TT X) 201 0 [.ref x, ev_J, ev_J, ev_J, ev_J, ev_J] [] H n q P := by
  have h0 := hc.1
  unfold c_top at h0
  have ha0 := c_ask0 hc
  obtain ⟨ne, hk1, hn1, hH, hN⟩ := hc.2.2.1
  have ho : ∀ cc a, (a < x + 2 ∨ x + 8 ≤ a) → ev_up H (x + 2) cc a = H a := fun cc a ha => ev_up_n (by omega)
  have e := ev_ask_u0 (h := H) (a := x + 2) (ka := G.2.2.2.1.1) (de := G.2.2.2.1.2.1) (ne := ne) (hk := hk1) (hn := hn1) (c := G.2.2.2.1.2.2) (c' := 0)
  rw [← hH, nI_0] at e
  have hc1 := c_upA hc (s := (G.2.2.2.1.1, G.2.2.2.1.2.1, 0)) (ho _) ⟨ne, hk1, hn1, by rw [e]; exact ev_ask_ask.symm, okN_0⟩
  rw [e] at hc1
  have ho' : ∀ a, (a < x + 2 ∨ x + 8 ≤ a) → ev_ask H (x + 2) G.2.2.2.1.1 G.2.2.2.1.2.1 ne hk1 hn1 0 a = H a := fun a ha => ev_ask_o (by omega)
  have h01 : H x = _ := h0
  have hx2 : ¬ x = x + 2 := by omega
  simp (disch := omega) only [t_X5_forget_0, t_X5_forget_1, t_X5_forget_4, t_X5_forget_7, t_X5_forget_8, t_X5_forget_9, t_X5_forget_12, t_X5_forget_13, t_X5_forget_17, t_X5_forget_20, t_X5_forget_21, t_X5_forget_22, t_X5_forget_25, t_X5_forget_25_i, t_X5_forget_26, t_X5_forget_27, t_X5_forget_30, t_X5_forget_31, t_X5_forget_32, t_X5_forget_33, t_X5_forget_34, t_X5_forget_35, t_X5_forget_39, t_X5_forget_40, t_X5_forget_43, t_X5_forget_44, t_X5_forget_46, t_X5_forget_47, t_X5_forget_49, t_X5_forget_51, t_X5_forget_54, t_X5_forget_57, t_X5_forget_60, t_X5_forget_61, x_X5_forget_22, x_X5_forget_51, ↓reduceIte, ev_k_i, ev_k_r, ev_k_l, ev_k_J, ev_k_n, ev_kr_1, ev_kr_0, ev_isK_y, ev_aG_y, ev_aS_y, ev_aN_y, ev_inA_0, ev_isA_0, ev_ft_I, ev_ft_0, ev_ft_1, ev_ft_o, ev_ft_a, ev_nb_0, ev_nb_1, and_true, true_and, if_true, if_false, not_true_eq_false, not_false_eq_true, nI_1, ev_fG_0, ev_fG_1, ev_fG_2, ev_fG_3, ev_fG_4, ev_fG_5, ev_fG_6, ev_fG_7, ev_fG_8, ev_fS_0, ev_fS_1, ev_fS_2, ev_fS_3, ev_fS_4, ev_fS_5, ev_fS_6, ev_fS_7, ev_fS_8, ev_isO_0, ev_isO_1, ev_isO_2, ev_isO_3, ev_isO_4, ev_isO_5, ev_isO_6, ev_isO_7, ev_isO_8, ev_z0, ev_z1, ev_z2, eq_self, ev_ofN, ev_lk_s h0, ev_lk_s ha0, ha0]
  rw [e]
  generalize hH1 : ev_ask H (x + 2) G.2.2.2.1.1 G.2.2.2.1.2.1 ne hk1 hn1 0 = H1 at hc1 ho' ⊢
  have h31 := hc1.2.2.2.1
  have hr := ev_rL_k (X := X) h31
  have h02 := hc1.1
  unfold c_top at h02
  simp (disch := omega) only [t_X5_forget_0, t_X5_forget_1, t_X5_forget_4, t_X5_forget_7, t_X5_forget_8, t_X5_forget_9, t_X5_forget_12, t_X5_forget_13, t_X5_forget_16, t_X5_forget_17, t_X5_forget_20, t_X5_forget_21, t_X5_forget_22, t_X5_forget_25, t_X5_forget_25_i, t_X5_forget_26, t_X5_forget_27, t_X5_forget_30, t_X5_forget_31, t_X5_forget_32, t_X5_forget_33, t_X5_forget_34, t_X5_forget_35, t_X5_forget_39, t_X5_forget_40, t_X5_forget_43, t_X5_forget_44, t_X5_forget_46, t_X5_forget_47, t_X5_forget_49, t_X5_forget_51, t_X5_forget_54, t_X5_forget_57, t_X5_forget_60, t_X5_forget_61, x_X5_forget_22, x_X5_forget_51, ↓reduceIte, ev_k_i, ev_k_r, ev_k_l, ev_k_J, ev_k_n, ev_kr_1, ev_kr_0, ev_isK_y, ev_aG_y, ev_aS_y, ev_aN_y, ev_inA_0, ev_isA_0, ev_ft_I, ev_ft_0, ev_ft_1, ev_ft_o, ev_ft_a, ev_nb_0, ev_nb_1, and_true, true_and, if_true, if_false, not_true_eq_false, not_false_eq_true, nI_1, ev_fG_0, ev_fG_1, ev_fG_2, ev_fG_3, ev_fG_4, ev_fG_5, ev_fG_6, ev_fG_7, ev_fG_8, ev_fS_0, ev_fS_1, ev_fS_2, ev_fS_3, ev_fS_4, ev_fS_5, ev_fS_6, ev_fS_7, ev_fS_8, ev_isO_0, ev_isO_1, ev_isO_2, ev_isO_3, ev_isO_4, ev_isO_5, ev_isO_6, ev_isO_7, ev_isO_8, ev_z0, ev_z1, ev_z2, eq_self, ev_ofN, ev_lk_s h02, hr]
  refine R_renew h31 ev_isB_1 fun H2 hH2 => ?_
  have ho2 : ∀ a, (a < x + 8 ∨ x + 11 ≤ a) → H2 a = H1 a := fun a ha => ev_rL_o hH2 (by omega) (by omega) (by omega)
  have hc2 := c_upS hc1 ho2 (c_row_of hH2)
  have h03 := hc2.1
  obtain ⟨f, h4, h4b⟩ := hc2.2.2.2.2.1
  unfold c_top at h03
  have hL := C_fLoop (X := X) (x := x) (G := pg_F0 G) (n := n) (q := q) (P := P) (b := nI G.2.2.2.1.2.2) 6 0 ev_J H2 (by omega) (by rw [pg_F_0]; exact hc2) (fun j hj => okL_len (hG.2.2.1 j hj)) (fun H3 g1 g2 => c H3 g1 (fun a ha => (g2 a ha).trans ((ho2 a (by omega)).trans (ho' a (by omega)))))
  rw [nI_0] at hL
  simp (disch := omega) only [t_X5_forget_0, t_X5_forget_1, t_X5_forget_4, t_X5_forget_7, t_X5_forget_8, t_X5_forget_9, t_X5_forget_12, t_X5_forget_13, t_X5_forget_16, t_X5_forget_17, t_X5_forget_20, t_X5_forget_21, t_X5_forget_22, t_X5_forget_25, t_X5_forget_25_i, t_X5_forget_26, t_X5_forget_27, t_X5_forget_30, t_X5_forget_31, t_X5_forget_32, t_X5_forget_33, t_X5_forget_34, t_X5_forget_35, t_X5_forget_39, t_X5_forget_40, t_X5_forget_43, t_X5_forget_44, t_X5_forget_46, t_X5_forget_47, t_X5_forget_49, t_X5_forget_51, t_X5_forget_54, t_X5_forget_57, t_X5_forget_60, t_X5_forget_61, x_X5_forget_22, x_X5_forget_51, ↓reduceIte, ev_k_i, ev_k_r, ev_k_l, ev_k_J, ev_k_n, ev_kr_1, ev_kr_0, ev_isK_y, ev_aG_y, ev_aS_y, ev_aN_y, ev_inA_0, ev_isA_0, ev_ft_I, ev_ft_0, ev_ft_1, ev_ft_o, ev_ft_a, ev_nb_0, ev_nb_1, and_true, true_and, if_true, if_false, not_true_eq_false, not_false_eq_true, nI_1, ev_fG_0, ev_fG_1, ev_fG_2, ev_fG_3, ev_fG_4, ev_fG_5, ev_fG_6, ev_fG_7, ev_fG_8, ev_fS_0, ev_fS_1, ev_fS_2, ev_fS_3, ev_fS_4, ev_fS_5, ev_fS_6, ev_fS_7, ev_fS_8, ev_isO_0, ev_isO_1, ev_isO_2, ev_isO_3, ev_isO_4, ev_isO_5, ev_isO_6, ev_isO_7, ev_isO_8, ev_z0, ev_z1, ev_z2, eq_self, ev_ofN, ev_lk_s h03, ev_lk_s h4, ev_isA_4, show nI 6 = 6 from rfl]
  exact hL
end CF
