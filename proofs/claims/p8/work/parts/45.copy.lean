/-! ===== the class: copy ===== -/
section S45
variable {X : ev_E} {h H : ev_M} {r o c cr : Nat} {kf vf ko vo : Nat → Int32} {b m lm ll bo mo lmo llo : Int32} {L LO : ev_PL} {n q : Nat} {P : ev_O → ev_M → Nat → Nat → Prop}
theorem r_become (hc : c ≤ 20) (hap : r + 2 < o ∨ o + 2 < r) (h0 : h o = some (.inr (7, [.ref (o + 1), .ref (o + 2), .int (nI c), .int bo, .int mo, .int lmo, .int llo]))) (h1 : h (o + 1) = some (.inl (0, 20, fun i => .int (ko i)))) (h2 : h (o + 2) = some (.inl (0, 20, fun i => .int (vo i)))) (k : ∀ kf1 vf1, (∀ j, j < c → kf1 j = ko j ∧ vf1 j = vo j) → P (.inl none) (ev_row h r kf1 vf1 c 0 (-1) 0 (-1)) n q) : ev_ok (ev_TT X) 141 0 [.ref r, .ref o, ev_J, ev_J] [] (ev_row h r kf vf cr b m lm ll) n q P := by
  have hA0 : ∀ kf vf c' b m lm ll, ev_lk X (ev_row h r kf vf c' b m lm ll) o = some (.inr (7, [.ref (o + 1), .ref (o + 2), .int (nI c), .int bo, .int mo, .int lmo, .int llo])) := fun _ _ _ _ _ _ _ => ev_lk_s ((ev_row_o (by omega) (by omega) (by omega)).trans h0)
  have hA1 : ∀ kf vf c' b m lm ll, ev_lk X (ev_row h r kf vf c' b m lm ll) (o + 1) = some (.inl (0, 20, fun i => .int (ko i))) := fun _ _ _ _ _ _ _ => ev_lk_s ((ev_row_o (by omega) (by omega) (by omega)).trans h1)
  have hA2 : ∀ kf vf c' b m lm ll, ev_lk X (ev_row h r kf vf c' b m lm ll) (o + 2) = some (.inl (0, 20, fun i => .int (vo i))) := fun _ _ _ _ _ _ _ => ev_lk_s ((ev_row_o (by omega) (by omega) (by omega)).trans h2)
  have key : ∀ d i kf vf, i + d = c → (∀ j, j < i → kf j = ko j ∧ vf j = vo j) → ev_ok (ev_TT X) 141 14 [.ref r, .ref o, .int (nI c), .int (nI i)] [] (ev_row h r kf vf 0 0 (-1) 0 (-1)) n q P := by
    intro d
    induction d with
    | zero =>
      intro i kf vf hi hj
      have hi2 : c ≤ i := by omega
      simp (disch := omega) only [t_X2_become_0, t_X2_become_1, t_X2_become_4, t_X2_become_5, t_X2_become_6, t_X2_become_7, t_X2_become_8, t_X2_become_11, t_X2_become_11_i, t_X2_become_12, t_X2_become_13, t_X2_become_14, t_X2_become_15, t_X2_become_16, t_X2_become_19, t_X2_become_20, t_X2_become_23, t_X2_become_24, t_X2_become_25, t_X2_become_28, t_X2_become_29, t_X2_become_30, t_X2_become_31, t_X2_become_32, t_X2_become_35, t_X2_become_36, t_X2_become_37, t_X2_become_40, t_X2_become_41, t_X2_become_42, t_X2_become_43, t_X2_become_46, t_X2_become_49, t_X2_become_50, t_X2_become_51, t_X2_become_54, x_X2_become_8, ↓reduceIte, ev_k_i, ev_k_r, ev_k_l, ev_k_J, ev_k_n, ev_kr_1, ev_kr_0, ev_isK_y, ev_aG_y, ev_aS_y, ev_aN_y, ev_inA_0, ev_isA_0, ev_ft_I, ev_ft_0, ev_ft_1, ev_ft_o, ev_ft_a, ev_nb_0, ev_nb_1, and_true, true_and, if_true, if_false, not_true_eq_false, not_false_eq_true, nI_1, ev_fG_0, ev_fG_1, ev_fG_2, ev_fG_3, ev_fG_4, ev_fG_5, ev_fG_6, ev_fG_7, ev_fG_8, ev_fS_0, ev_fS_1, ev_fS_2, ev_fS_3, ev_fS_4, ev_fS_5, ev_fS_6, ev_fS_7, ev_fS_8, ev_isO_0, ev_isO_1, ev_isO_2, ev_isO_3, ev_isO_4, ev_isO_5, ev_isO_6, ev_isO_7, ev_isO_8, ev_z0, ev_z1, ev_z2, eq_self, ev_ofN, ev_row_0, ev_row_1, ev_row_2, ev_row_l0, ev_row_l1, ev_row_l2, ev_row_u0, ev_row_u1, ev_row_u2, nI_leI, hi2, hA0, hA1, hA2]
      exact k _ _ fun j hjc => hj j (by omega)
    | succ d ih =>
      intro i kf vf hi hj
      have hi2 : ¬ c ≤ i := by omega
      have hp := nI_pos' (n := i) (by omega)
      have h20 : i < 20 := by omega
      have hI := ih (i + 1) (ev_fu kf i (ko i)) (ev_fu vf i (vo i)) (by omega) (fun j hjc => ?_)
      · rw [t_X2_become_14]
        simp (disch := omega) only [t_X2_become_0, t_X2_become_1, t_X2_become_4, t_X2_become_5, t_X2_become_6, t_X2_become_7, t_X2_become_8, t_X2_become_11, t_X2_become_11_i, t_X2_become_12, t_X2_become_13, t_X2_become_15, t_X2_become_16, t_X2_become_19, t_X2_become_20, t_X2_become_23, t_X2_become_24, t_X2_become_25, t_X2_become_28, t_X2_become_29, t_X2_become_30, t_X2_become_31, t_X2_become_32, t_X2_become_35, t_X2_become_36, t_X2_become_37, t_X2_become_40, t_X2_become_41, t_X2_become_42, t_X2_become_43, t_X2_become_46, t_X2_become_49, t_X2_become_50, t_X2_become_51, t_X2_become_54, x_X2_become_8, ↓reduceIte, ev_k_i, ev_k_r, ev_k_l, ev_k_J, ev_k_n, ev_kr_1, ev_kr_0, ev_isK_y, ev_aG_y, ev_aS_y, ev_aN_y, ev_inA_0, ev_isA_0, ev_ft_I, ev_ft_0, ev_ft_1, ev_ft_o, ev_ft_a, ev_nb_0, ev_nb_1, and_true, true_and, if_true, if_false, not_true_eq_false, not_false_eq_true, nI_1, ev_fG_0, ev_fG_1, ev_fG_2, ev_fG_3, ev_fG_4, ev_fG_5, ev_fG_6, ev_fG_7, ev_fG_8, ev_fS_0, ev_fS_1, ev_fS_2, ev_fS_3, ev_fS_4, ev_fS_5, ev_fS_6, ev_fS_7, ev_fS_8, ev_isO_0, ev_isO_1, ev_isO_2, ev_isO_3, ev_isO_4, ev_isO_5, ev_isO_6, ev_isO_7, ev_isO_8, ev_z0, ev_z1, ev_z2, eq_self, ev_ofN, ev_row_0, ev_row_1, ev_row_2, ev_row_l0, ev_row_l1, ev_row_l2, ev_row_u0, ev_row_u1, ev_row_u2, nI_leI, hi2, nI_clamp, hp, h20, hA0, hA1, hA2]
        exact hI
      · unfold ev_fu
        by_cases e : j = i
        · rw [if_pos e, if_pos e, e]
          exact ⟨rfl, rfl⟩
        · rw [if_neg e, if_neg e]
          exact hj j (by omega)
  have h9 := key c 0 kf vf (by omega) (fun j hj => absurd hj (Nat.not_lt_zero j))
  rw [nI_0] at h9
  have hrn := fun kf vf c' b m lm ll P n q => @r_renew X h r kf vf c' b m lm ll n q P 0 (-1) ev_isB_0
  simp (disch := omega) only [t_X2_become_0, t_X2_become_1, t_X2_become_4, t_X2_become_5, t_X2_become_6, t_X2_become_7, t_X2_become_8, t_X2_become_11, t_X2_become_11_i, t_X2_become_12, t_X2_become_13, t_X2_become_15, t_X2_become_16, t_X2_become_19, t_X2_become_20, t_X2_become_23, t_X2_become_24, t_X2_become_25, t_X2_become_28, t_X2_become_29, t_X2_become_30, t_X2_become_31, t_X2_become_32, t_X2_become_35, t_X2_become_36, t_X2_become_37, t_X2_become_40, t_X2_become_41, t_X2_become_42, t_X2_become_43, t_X2_become_46, t_X2_become_49, t_X2_become_50, t_X2_become_51, t_X2_become_54, x_X2_become_8, ↓reduceIte, ev_k_i, ev_k_r, ev_k_l, ev_k_J, ev_k_n, ev_kr_1, ev_kr_0, ev_isK_y, ev_aG_y, ev_aS_y, ev_aN_y, ev_inA_0, ev_isA_0, ev_ft_I, ev_ft_0, ev_ft_1, ev_ft_o, ev_ft_a, ev_nb_0, ev_nb_1, and_true, true_and, if_true, if_false, not_true_eq_false, not_false_eq_true, nI_1, ev_fG_0, ev_fG_1, ev_fG_2, ev_fG_3, ev_fG_4, ev_fG_5, ev_fG_6, ev_fG_7, ev_fG_8, ev_fS_0, ev_fS_1, ev_fS_2, ev_fS_3, ev_fS_4, ev_fS_5, ev_fS_6, ev_fS_7, ev_fS_8, ev_isO_0, ev_isO_1, ev_isO_2, ev_isO_3, ev_isO_4, ev_isO_5, ev_isO_6, ev_isO_7, ev_isO_8, ev_z0, ev_z1, ev_z2, eq_self, ev_ofN, ev_row_0, ev_row_1, ev_row_2, ev_row_l0, ev_row_l1, ev_row_l2, ev_row_u0, ev_row_u1, ev_row_u2, hrn, hA0, hA1, hA2]
  exact h9
theorem r_become_self (hc : c ≤ 20) (hs : ∀ j, j < c → kf j = ko j ∧ vf j = vo j) (k : ∀ kf1 vf1, (∀ j, j < c → kf1 j = ko j ∧ vf1 j = vo j) → P (.inl none) (ev_row h r kf1 vf1 c 0 (-1) 0 (-1)) n q) : ev_ok (ev_TT X) 141 0 [.ref r, .ref r, ev_J, ev_J] [] (ev_row h r kf vf c b m lm ll) n q P := by
  have key : ∀ d i kf vf, i + d = c → (∀ j, j < c → kf j = ko j ∧ vf j = vo j) → ev_ok (ev_TT X) 141 14 [.ref r, .ref r, .int (nI c), .int (nI i)] [] (ev_row h r kf vf 0 0 (-1) 0 (-1)) n q P := by
    intro d
    induction d with
    | zero =>
      intro i kf vf hi hj
      have hi2 : c ≤ i := by omega
      simp (disch := omega) only [t_X2_become_0, t_X2_become_1, t_X2_become_4, t_X2_become_5, t_X2_become_6, t_X2_become_7, t_X2_become_8, t_X2_become_11, t_X2_become_11_i, t_X2_become_12, t_X2_become_13, t_X2_become_14, t_X2_become_15, t_X2_become_16, t_X2_become_19, t_X2_become_20, t_X2_become_23, t_X2_become_24, t_X2_become_25, t_X2_become_28, t_X2_become_29, t_X2_become_30, t_X2_become_31, t_X2_become_32, t_X2_become_35, t_X2_become_36, t_X2_become_37, t_X2_become_40, t_X2_become_41, t_X2_become_42, t_X2_become_43, t_X2_become_46, t_X2_become_49, t_X2_become_50, t_X2_become_51, t_X2_become_54, x_X2_become_8, ↓reduceIte, ev_k_i, ev_k_r, ev_k_l, ev_k_J, ev_k_n, ev_kr_1, ev_kr_0, ev_isK_y, ev_aG_y, ev_aS_y, ev_aN_y, ev_inA_0, ev_isA_0, ev_ft_I, ev_ft_0, ev_ft_1, ev_ft_o, ev_ft_a, ev_nb_0, ev_nb_1, and_true, true_and, if_true, if_false, not_true_eq_false, not_false_eq_true, nI_1, ev_fG_0, ev_fG_1, ev_fG_2, ev_fG_3, ev_fG_4, ev_fG_5, ev_fG_6, ev_fG_7, ev_fG_8, ev_fS_0, ev_fS_1, ev_fS_2, ev_fS_3, ev_fS_4, ev_fS_5, ev_fS_6, ev_fS_7, ev_fS_8, ev_isO_0, ev_isO_1, ev_isO_2, ev_isO_3, ev_isO_4, ev_isO_5, ev_isO_6, ev_isO_7, ev_isO_8, ev_z0, ev_z1, ev_z2, eq_self, ev_ofN, ev_row_0, ev_row_1, ev_row_2, ev_row_l0, ev_row_l1, ev_row_l2, ev_row_u0, ev_row_u1, ev_row_u2, nI_leI, hi2]
      exact k _ _ fun j hjc => hj j (by omega)
    | succ d ih =>
      intro i kf vf hi hj
      have hi2 : ¬ c ≤ i := by omega
      have hp := nI_pos' (n := i) (by omega)
      have h20 : i < 20 := by omega
      have hI := ih (i + 1) (ev_fu kf i (kf i)) (ev_fu vf i (vf i)) (by omega) (fun j hjc => ?_)
      · rw [t_X2_become_14]
        simp (disch := omega) only [t_X2_become_0, t_X2_become_1, t_X2_become_4, t_X2_become_5, t_X2_become_6, t_X2_become_7, t_X2_become_8, t_X2_become_11, t_X2_become_11_i, t_X2_become_12, t_X2_become_13, t_X2_become_15, t_X2_become_16, t_X2_become_19, t_X2_become_20, t_X2_become_23, t_X2_become_24, t_X2_become_25, t_X2_become_28, t_X2_become_29, t_X2_become_30, t_X2_become_31, t_X2_become_32, t_X2_become_35, t_X2_become_36, t_X2_become_37, t_X2_become_40, t_X2_become_41, t_X2_become_42, t_X2_become_43, t_X2_become_46, t_X2_become_49, t_X2_become_50, t_X2_become_51, t_X2_become_54, x_X2_become_8, ↓reduceIte, ev_k_i, ev_k_r, ev_k_l, ev_k_J, ev_k_n, ev_kr_1, ev_kr_0, ev_isK_y, ev_aG_y, ev_aS_y, ev_aN_y, ev_inA_0, ev_isA_0, ev_ft_I, ev_ft_0, ev_ft_1, ev_ft_o, ev_ft_a, ev_nb_0, ev_nb_1, and_true, true_and, if_true, if_false, not_true_eq_false, not_false_eq_true, nI_1, ev_fG_0, ev_fG_1, ev_fG_2, ev_fG_3, ev_fG_4, ev_fG_5, ev_fG_6, ev_fG_7, ev_fG_8, ev_fS_0, ev_fS_1, ev_fS_2, ev_fS_3, ev_fS_4, ev_fS_5, ev_fS_6, ev_fS_7, ev_fS_8, ev_isO_0, ev_isO_1, ev_isO_2, ev_isO_3, ev_isO_4, ev_isO_5, ev_isO_6, ev_isO_7, ev_isO_8, ev_z0, ev_z1, ev_z2, eq_self, ev_ofN, ev_row_0, ev_row_1, ev_row_2, ev_row_l0, ev_row_l1, ev_row_l2, ev_row_u0, ev_row_u1, ev_row_u2, nI_leI, hi2, nI_clamp, hp, h20]
        exact hI
      · unfold ev_fu
        by_cases e : j = i
        · rw [if_pos e, if_pos e, e]
          exact hj i (by omega)
        · rw [if_neg e, if_neg e]
          exact hj j (by omega)
  have h9 := key c 0 kf vf (by omega) hs
  rw [nI_0] at h9
  have hrn := fun kf vf c' b m lm ll P n q => @r_renew X h r kf vf c' b m lm ll n q P 0 (-1) ev_isB_0
  simp (disch := omega) only [t_X2_become_0, t_X2_become_1, t_X2_become_4, t_X2_become_5, t_X2_become_6, t_X2_become_7, t_X2_become_8, t_X2_become_11, t_X2_become_11_i, t_X2_become_12, t_X2_become_13, t_X2_become_15, t_X2_become_16, t_X2_become_19, t_X2_become_20, t_X2_become_23, t_X2_become_24, t_X2_become_25, t_X2_become_28, t_X2_become_29, t_X2_become_30, t_X2_become_31, t_X2_become_32, t_X2_become_35, t_X2_become_36, t_X2_become_37, t_X2_become_40, t_X2_become_41, t_X2_become_42, t_X2_become_43, t_X2_become_46, t_X2_become_49, t_X2_become_50, t_X2_become_51, t_X2_become_54, x_X2_become_8, ↓reduceIte, ev_k_i, ev_k_r, ev_k_l, ev_k_J, ev_k_n, ev_kr_1, ev_kr_0, ev_isK_y, ev_aG_y, ev_aS_y, ev_aN_y, ev_inA_0, ev_isA_0, ev_ft_I, ev_ft_0, ev_ft_1, ev_ft_o, ev_ft_a, ev_nb_0, ev_nb_1, and_true, true_and, if_true, if_false, not_true_eq_false, not_false_eq_true, nI_1, ev_fG_0, ev_fG_1, ev_fG_2, ev_fG_3, ev_fG_4, ev_fG_5, ev_fG_6, ev_fG_7, ev_fG_8, ev_fS_0, ev_fS_1, ev_fS_2, ev_fS_3, ev_fS_4, ev_fS_5, ev_fS_6, ev_fS_7, ev_fS_8, ev_isO_0, ev_isO_1, ev_isO_2, ev_isO_3, ev_isO_4, ev_isO_5, ev_isO_6, ev_isO_7, ev_isO_8, ev_z0, ev_z1, ev_z2, eq_self, ev_ofN, ev_row_0, ev_row_1, ev_row_2, ev_row_l0, ev_row_l1, ev_row_l2, ev_row_u0, ev_row_u1, ev_row_u2, hrn]
  exact h9
theorem R_become (hH : ev_rL h r L b m lm ll H) (hO : ev_rL H o LO bo mo lmo llo H) (hap : r + 2 < o ∨ o + 2 < r) (hl : LO.length ≤ 20) (k : ∀ H1, ev_rL h r LO 0 (-1) 0 (-1) H1 → P (.inl none) H1 n q) : ev_ok (ev_TT X) 141 0 [.ref r, .ref o, ev_J, ev_J] [] H n q P := by
  obtain ⟨kf, vf, h1, rfl⟩ := hH
  obtain ⟨ko, vo, h2, e⟩ := hO
  have e0 := (ev_row_o (h := h) (r := r) (kf := kf) (vf := vf) (c := L.length) (b := b) (m := m) (lm := lm) (ll := ll) (a := o) (by omega) (by omega) (by omega)).symm.trans ((congrFun e o).trans ev_row_0)
  have e1 := (ev_row_o (h := h) (r := r) (kf := kf) (vf := vf) (c := L.length) (b := b) (m := m) (lm := lm) (ll := ll) (a := o + 1) (by omega) (by omega) (by omega)).symm.trans ((congrFun e (o + 1)).trans ev_row_1)
  have e2 := (ev_row_o (h := h) (r := r) (kf := kf) (vf := vf) (c := L.length) (b := b) (m := m) (lm := lm) (ll := ll) (a := o + 2) (by omega) (by omega) (by omega)).symm.trans ((congrFun e (o + 2)).trans ev_row_2)
  refine r_become hl hap e0 e1 e2 fun kf1 vf1 hj => k _ ⟨kf1, vf1, fun i x hx => ?_, rfl⟩
  have hi := (List.getElem?_eq_some_iff.mp hx).1
  rw [(hj i hi).1, (hj i hi).2]
  exact h2 i x hx
theorem R_become_self (hH : ev_rL h r L b m lm ll H) (hl : L.length ≤ 20) (k : ∀ H1, ev_rL h r L 0 (-1) 0 (-1) H1 → P (.inl none) H1 n q) : ev_ok (ev_TT X) 141 0 [.ref r, .ref r, ev_J, ev_J] [] H n q P := by
  obtain ⟨kf, vf, h1, rfl⟩ := hH
  refine r_become_self (ko := kf) (vo := vf) hl (fun j _ => ⟨rfl, rfl⟩) fun kf1 vf1 hj => k _ ⟨kf1, vf1, fun i x hx => ?_, rfl⟩
  have hi := (List.getElem?_eq_some_iff.mp hx).1
  rw [(hj i hi).1, (hj i hi).2]
  exact h1 i x hx
end S45
section C45
variable {X : ev_E} {x : Nat} {G : ev_CS} {H : ev_M} {n q : Nat} {P : ev_O → ev_M → Nat → Nat → Prop}
theorem C_copy (hc : c_all x G H) (hG : okG G) {t u : Int32} (k0 : t < 0 ∨ nI 4 ≤ t → P (.inr 0) H (n + 1) (q + 6))
    (k1 : ∀ i, i < 4 → t = nI i → (u < 0 ∨ nI 4 ≤ u) → P (.inr 0) H (n + 1) (q + 6))
    (k2 : ∀ i j, i < 4 → t = nI i → j < 4 → u = nI j → ∀ H1, c_all x (pg_T G j (ps_row (G.1 j) (G.1 i).1 0 (-1) 0 (-1))) H1 → c_fr x H H1 → P (.inl (some (.int (nI (G.1 i).1.length)))) H1 n q) : ev_ok (ev_TT X) 199 0 [.ref x, .int t, .int u, ev_J, ev_J] [] H n q P := by
  have hk := c_all_k (X := X) hc
  rcases pk_ix t (n := 4) (by omega) with h | h | ⟨i, hi, rfl⟩
  · simp (disch := omega) only [t_X5_copy_0, t_X5_copy_1, t_X5_copy_2, t_X5_copy_5, t_X5_copy_6, t_X5_copy_7, t_X5_copy_8, t_X5_copy_11, t_X5_copy_13, t_X5_copy_15, t_X5_copy_18, t_X5_copy_21, t_X5_copy_23, t_X5_copy_26, t_X5_copy_27, t_X5_copy_30, t_X5_copy_33, t_X5_copy_35, t_X5_copy_38, t_X5_copy_41, x_X5_copy_2, x_X5_copy_8, x_X5_copy_18, x_X5_copy_30, ↓reduceIte, ev_k_i, ev_k_r, ev_k_l, ev_k_J, ev_k_n, ev_kr_1, ev_kr_0, ev_isK_y, ev_aG_y, ev_aS_y, ev_aN_y, ev_inA_0, ev_isA_0, ev_ft_I, ev_ft_0, ev_ft_1, ev_ft_o, ev_ft_a, ev_nb_0, ev_nb_1, and_true, true_and, if_true, if_false, not_true_eq_false, not_false_eq_true, nI_1, ev_fG_0, ev_fG_1, ev_fG_2, ev_fG_3, ev_fG_4, ev_fG_5, ev_fG_6, ev_fG_7, ev_fG_8, ev_fS_0, ev_fS_1, ev_fS_2, ev_fS_3, ev_fS_4, ev_fS_5, ev_fS_6, ev_fS_7, ev_fS_8, ev_isO_0, ev_isO_1, ev_isO_2, ev_isO_3, ev_isO_4, ev_isO_5, ev_isO_6, ev_isO_7, ev_isO_8, ev_z0, ev_z1, ev_z2, eq_self, ev_ofN, hk, C_tableOf_n (Or.inl h)]
    exact k0 (Or.inl h)
  · simp (disch := omega) only [t_X5_copy_0, t_X5_copy_1, t_X5_copy_2, t_X5_copy_5, t_X5_copy_6, t_X5_copy_7, t_X5_copy_8, t_X5_copy_11, t_X5_copy_13, t_X5_copy_15, t_X5_copy_18, t_X5_copy_21, t_X5_copy_23, t_X5_copy_26, t_X5_copy_27, t_X5_copy_30, t_X5_copy_33, t_X5_copy_35, t_X5_copy_38, t_X5_copy_41, x_X5_copy_2, x_X5_copy_8, x_X5_copy_18, x_X5_copy_30, ↓reduceIte, ev_k_i, ev_k_r, ev_k_l, ev_k_J, ev_k_n, ev_kr_1, ev_kr_0, ev_isK_y, ev_aG_y, ev_aS_y, ev_aN_y, ev_inA_0, ev_isA_0, ev_ft_I, ev_ft_0, ev_ft_1, ev_ft_o, ev_ft_a, ev_nb_0, ev_nb_1, and_true, true_and, if_true, if_false, not_true_eq_false, not_false_eq_true, nI_1, ev_fG_0, ev_fG_1, ev_fG_2, ev_fG_3, ev_fG_4, ev_fG_5, ev_fG_6, ev_fG_7, ev_fG_8, ev_fS_0, ev_fS_1, ev_fS_2, ev_fS_3, ev_fS_4, ev_fS_5, ev_fS_6, ev_fS_7, ev_fS_8, ev_isO_0, ev_isO_1, ev_isO_2, ev_isO_3, ev_isO_4, ev_isO_5, ev_isO_6, ev_isO_7, ev_isO_8, ev_z0, ev_z1, ev_z2, eq_self, ev_ofN, hk, C_tableOf_n (Or.inr h)]
    exact k0 (Or.inr h)
  · rcases pk_ix u (n := 4) (by omega) with h | h | ⟨j, hj, rfl⟩
    · simp (disch := omega) only [t_X5_copy_0, t_X5_copy_1, t_X5_copy_2, t_X5_copy_5, t_X5_copy_6, t_X5_copy_7, t_X5_copy_8, t_X5_copy_11, t_X5_copy_13, t_X5_copy_15, t_X5_copy_18, t_X5_copy_21, t_X5_copy_23, t_X5_copy_26, t_X5_copy_27, t_X5_copy_30, t_X5_copy_33, t_X5_copy_35, t_X5_copy_38, t_X5_copy_41, x_X5_copy_2, x_X5_copy_8, x_X5_copy_18, x_X5_copy_30, ↓reduceIte, ev_k_i, ev_k_r, ev_k_l, ev_k_J, ev_k_n, ev_kr_1, ev_kr_0, ev_isK_y, ev_aG_y, ev_aS_y, ev_aN_y, ev_inA_0, ev_isA_0, ev_ft_I, ev_ft_0, ev_ft_1, ev_ft_o, ev_ft_a, ev_nb_0, ev_nb_1, and_true, true_and, if_true, if_false, not_true_eq_false, not_false_eq_true, nI_1, ev_fG_0, ev_fG_1, ev_fG_2, ev_fG_3, ev_fG_4, ev_fG_5, ev_fG_6, ev_fG_7, ev_fG_8, ev_fS_0, ev_fS_1, ev_fS_2, ev_fS_3, ev_fS_4, ev_fS_5, ev_fS_6, ev_fS_7, ev_fS_8, ev_isO_0, ev_isO_1, ev_isO_2, ev_isO_3, ev_isO_4, ev_isO_5, ev_isO_6, ev_isO_7, ev_isO_8, ev_z0, ev_z1, ev_z2, eq_self, ev_ofN, hk, C_tableOf_y hc hi, C_tableOf_n (Or.inl h)]
      exact k1 i hi rfl (Or.inl h)
    · simp (disch := omega) only [t_X5_copy_0, t_X5_copy_1, t_X5_copy_2, t_X5_copy_5, t_X5_copy_6, t_X5_copy_7, t_X5_copy_8, t_X5_copy_11, t_X5_copy_13, t_X5_copy_15, t_X5_copy_18, t_X5_copy_21, t_X5_copy_23, t_X5_copy_26, t_X5_copy_27, t_X5_copy_30, t_X5_copy_33, t_X5_copy_35, t_X5_copy_38, t_X5_copy_41, x_X5_copy_2, x_X5_copy_8, x_X5_copy_18, x_X5_copy_30, ↓reduceIte, ev_k_i, ev_k_r, ev_k_l, ev_k_J, ev_k_n, ev_kr_1, ev_kr_0, ev_isK_y, ev_aG_y, ev_aS_y, ev_aN_y, ev_inA_0, ev_isA_0, ev_ft_I, ev_ft_0, ev_ft_1, ev_ft_o, ev_ft_a, ev_nb_0, ev_nb_1, and_true, true_and, if_true, if_false, not_true_eq_false, not_false_eq_true, nI_1, ev_fG_0, ev_fG_1, ev_fG_2, ev_fG_3, ev_fG_4, ev_fG_5, ev_fG_6, ev_fG_7, ev_fG_8, ev_fS_0, ev_fS_1, ev_fS_2, ev_fS_3, ev_fS_4, ev_fS_5, ev_fS_6, ev_fS_7, ev_fS_8, ev_isO_0, ev_isO_1, ev_isO_2, ev_isO_3, ev_isO_4, ev_isO_5, ev_isO_6, ev_isO_7, ev_isO_8, ev_z0, ev_z1, ev_z2, eq_self, ev_ofN, hk, C_tableOf_y hc hi, C_tableOf_n (Or.inr h)]
      exact k1 i hi rfl (Or.inr h)
    · obtain ⟨h1, h2, h3⟩ := hc.2.2.2.2.2.2.1 j hj
      obtain ⟨g1, g2, g3⟩ := hc.2.2.2.2.2.2.1 i hi
      have hT := hG.1 i hi
      unfold ev_tbc at h1 g1
      have h3k : ev_isK (ev_lk X H (x + 14 + 5 * j + 3)) 9 = True := by rw [ev_lk_s h3]; exact ev_isK_y
      have hii := fun P n q => C_tableOf_y (X := X) (P := P) (n := n) (q := q) hc hi
      simp (disch := omega) only [t_X5_copy_0, t_X5_copy_1, t_X5_copy_2, t_X5_copy_5, t_X5_copy_6, t_X5_copy_7, t_X5_copy_8, t_X5_copy_11, t_X5_copy_13, t_X5_copy_15, t_X5_copy_18, t_X5_copy_21, t_X5_copy_23, t_X5_copy_26, t_X5_copy_27, t_X5_copy_30, t_X5_copy_33, t_X5_copy_35, t_X5_copy_38, t_X5_copy_41, x_X5_copy_2, x_X5_copy_8, x_X5_copy_18, x_X5_copy_30, ↓reduceIte, ev_k_i, ev_k_r, ev_k_l, ev_k_J, ev_k_n, ev_kr_1, ev_kr_0, ev_isK_y, ev_aG_y, ev_aS_y, ev_aN_y, ev_inA_0, ev_isA_0, ev_ft_I, ev_ft_0, ev_ft_1, ev_ft_o, ev_ft_a, ev_nb_0, ev_nb_1, and_true, true_and, if_true, if_false, not_true_eq_false, not_false_eq_true, nI_1, ev_fG_0, ev_fG_1, ev_fG_2, ev_fG_3, ev_fG_4, ev_fG_5, ev_fG_6, ev_fG_7, ev_fG_8, ev_fS_0, ev_fS_1, ev_fS_2, ev_fS_3, ev_fS_4, ev_fS_5, ev_fS_6, ev_fS_7, ev_fS_8, ev_isO_0, ev_isO_1, ev_isO_2, ev_isO_3, ev_isO_4, ev_isO_5, ev_isO_6, ev_isO_7, ev_isO_8, ev_z0, ev_z1, ev_z2, eq_self, ev_ofN, hk, hii, C_tableOf_y hc hj, ev_lk_s h1, h3k]
      refine W_outdate h3 ?_
      have h1' := fun c => (ev_up_n (h := H) (a := x + 14 + 5 * j + 3) (b := x + 13 + 5 * j) (c := c) (by omega)).trans h1
      have g1' := fun c => (ev_up_n (h := H) (a := x + 14 + 5 * j + 3) (b := x + 13 + 5 * i) (c := c) (by omega)).trans g1
      have h2' := ev_rL_up (a := x + 14 + 5 * j + 3) (c := (ev_wkc (x + 14 + 5 * j) (G.1 j).2.2.1.1 true (G.1 j).2.2.1.2.2 (G.1 j).2.2.2.1 (G.1 j).2.2.2.2)) h2 (by omega) (by omega) (by omega)
      have g2' := ev_rL_up (a := x + 14 + 5 * j + 3) (c := (ev_wkc (x + 14 + 5 * j) (G.1 j).2.2.1.1 true (G.1 j).2.2.1.2.2 (G.1 j).2.2.2.1 (G.1 j).2.2.2.2)) g2 (by omega) (by omega) (by omega)
      have h2k := ev_rL_k (X := X) h2'
      simp (disch := omega) only [t_X5_copy_0, t_X5_copy_1, t_X5_copy_2, t_X5_copy_5, t_X5_copy_6, t_X5_copy_7, t_X5_copy_8, t_X5_copy_11, t_X5_copy_13, t_X5_copy_15, t_X5_copy_18, t_X5_copy_21, t_X5_copy_23, t_X5_copy_26, t_X5_copy_27, t_X5_copy_30, t_X5_copy_35, t_X5_copy_38, t_X5_copy_41, x_X5_copy_2, x_X5_copy_8, x_X5_copy_18, x_X5_copy_30, ↓reduceIte, ev_k_i, ev_k_r, ev_k_l, ev_k_J, ev_k_n, ev_kr_1, ev_kr_0, ev_isK_y, ev_aG_y, ev_aS_y, ev_aN_y, ev_inA_0, ev_isA_0, ev_ft_I, ev_ft_0, ev_ft_1, ev_ft_o, ev_ft_a, ev_nb_0, ev_nb_1, and_true, true_and, if_true, if_false, not_true_eq_false, not_false_eq_true, nI_1, ev_fG_0, ev_fG_1, ev_fG_2, ev_fG_3, ev_fG_4, ev_fG_5, ev_fG_6, ev_fG_7, ev_fG_8, ev_fS_0, ev_fS_1, ev_fS_2, ev_fS_3, ev_fS_4, ev_fS_5, ev_fS_6, ev_fS_7, ev_fS_8, ev_isO_0, ev_isO_1, ev_isO_2, ev_isO_3, ev_isO_4, ev_isO_5, ev_isO_6, ev_isO_7, ev_isO_8, ev_z0, ev_z1, ev_z2, eq_self, ev_ofN, ev_lk_s (h1' _), ev_lk_s (g1' _), h2k]
      have hfin : ∀ H1, ev_rL (ev_up H (x + 14 + 5 * j + 3) (ev_wkc (x + 14 + 5 * j) (G.1 j).2.2.1.1 true (G.1 j).2.2.1.2.2 (G.1 j).2.2.2.1 (G.1 j).2.2.2.2)) (x + 14 + 5 * j) (G.1 i).1 0 (-1) 0 (-1) H1 → ev_ok (ev_TT X) 199 33 [.ref x, .int (nI i), .int (nI j), .ref (x + 13 + 5 * i), .ref (x + 13 + 5 * j)] [] H1 n q P := by
        intro H1 hH1
        have hE := c_tab_row hc hj hH1
        have e1 : H1 (x + 13 + 5 * j) = some (.inr (8, [.ref (x + 14 + 5 * j), .ref (x + 14 + 5 * j + 3)])) := (ev_rL_o hH1 (by omega) (by omega) (by omega)).trans (h1' _)
        have e2 := (ev_rL_b (X := X) hH1).2.1
        simp (disch := omega) only [t_X5_copy_0, t_X5_copy_1, t_X5_copy_2, t_X5_copy_5, t_X5_copy_6, t_X5_copy_7, t_X5_copy_8, t_X5_copy_11, t_X5_copy_13, t_X5_copy_15, t_X5_copy_18, t_X5_copy_21, t_X5_copy_23, t_X5_copy_26, t_X5_copy_27, t_X5_copy_30, t_X5_copy_33, t_X5_copy_35, t_X5_copy_38, t_X5_copy_41, x_X5_copy_2, x_X5_copy_8, x_X5_copy_18, x_X5_copy_30, ↓reduceIte, ev_k_i, ev_k_r, ev_k_l, ev_k_J, ev_k_n, ev_kr_1, ev_kr_0, ev_isK_y, ev_aG_y, ev_aS_y, ev_aN_y, ev_inA_0, ev_isA_0, ev_ft_I, ev_ft_0, ev_ft_1, ev_ft_o, ev_ft_a, ev_nb_0, ev_nb_1, and_true, true_and, if_true, if_false, not_true_eq_false, not_false_eq_true, nI_1, ev_fG_0, ev_fG_1, ev_fG_2, ev_fG_3, ev_fG_4, ev_fG_5, ev_fG_6, ev_fG_7, ev_fG_8, ev_fS_0, ev_fS_1, ev_fS_2, ev_fS_3, ev_fS_4, ev_fS_5, ev_fS_6, ev_fS_7, ev_fS_8, ev_isO_0, ev_isO_1, ev_isO_2, ev_isO_3, ev_isO_4, ev_isO_5, ev_isO_6, ev_isO_7, ev_isO_8, ev_z0, ev_z1, ev_z2, eq_self, ev_ofN, ev_lk_s e1, e2.1, e2.2]
        exact k2 i j hi rfl hj rfl H1 hE.1 hE.2
      by_cases hij : i = j
      · subst hij
        refine R_become_self h2' (okL_len hT.1) fun H1 hH1 => ?_
        have hF := hfin H1 hH1
        simp (disch := omega) only [t_X5_copy_0, t_X5_copy_1, t_X5_copy_2, t_X5_copy_5, t_X5_copy_6, t_X5_copy_7, t_X5_copy_8, t_X5_copy_11, t_X5_copy_13, t_X5_copy_15, t_X5_copy_18, t_X5_copy_21, t_X5_copy_23, t_X5_copy_26, t_X5_copy_27, t_X5_copy_30, t_X5_copy_35, t_X5_copy_38, t_X5_copy_41, x_X5_copy_2, x_X5_copy_8, x_X5_copy_18, x_X5_copy_30, ↓reduceIte, ev_k_i, ev_k_r, ev_k_l, ev_k_J, ev_k_n, ev_kr_1, ev_kr_0, ev_isK_y, ev_aG_y, ev_aS_y, ev_aN_y, ev_inA_0, ev_isA_0, ev_ft_I, ev_ft_0, ev_ft_1, ev_ft_o, ev_ft_a, ev_nb_0, ev_nb_1, and_true, true_and, if_true, if_false, not_true_eq_false, not_false_eq_true, nI_1, ev_fG_0, ev_fG_1, ev_fG_2, ev_fG_3, ev_fG_4, ev_fG_5, ev_fG_6, ev_fG_7, ev_fG_8, ev_fS_0, ev_fS_1, ev_fS_2, ev_fS_3, ev_fS_4, ev_fS_5, ev_fS_6, ev_fS_7, ev_fS_8, ev_isO_0, ev_isO_1, ev_isO_2, ev_isO_3, ev_isO_4, ev_isO_5, ev_isO_6, ev_isO_7, ev_isO_8, ev_z0, ev_z1, ev_z2, eq_self, ev_ofN]
        exact hF
      · refine R_become h2' (ev_rL_self g2') (by omega) (okL_len hT.1) fun H1 hH1 => ?_
        have hF := hfin H1 hH1
        simp (disch := omega) only [t_X5_copy_0, t_X5_copy_1, t_X5_copy_2, t_X5_copy_5, t_X5_copy_6, t_X5_copy_7, t_X5_copy_8, t_X5_copy_11, t_X5_copy_13, t_X5_copy_15, t_X5_copy_18, t_X5_copy_21, t_X5_copy_23, t_X5_copy_26, t_X5_copy_27, t_X5_copy_30, t_X5_copy_35, t_X5_copy_38, t_X5_copy_41, x_X5_copy_2, x_X5_copy_8, x_X5_copy_18, x_X5_copy_30, ↓reduceIte, ev_k_i, ev_k_r, ev_k_l, ev_k_J, ev_k_n, ev_kr_1, ev_kr_0, ev_isK_y, ev_aG_y, ev_aS_y, ev_aN_y, ev_inA_0, ev_isA_0, ev_ft_I, ev_ft_0, ev_ft_1, ev_ft_o, ev_ft_a, ev_nb_0, ev_nb_1, and_true, true_and, if_true, if_false, not_true_eq_false, not_false_eq_true, nI_1, ev_fG_0, ev_fG_1, ev_fG_2, ev_fG_3, ev_fG_4, ev_fG_5, ev_fG_6, ev_fG_7, ev_fG_8, ev_fS_0, ev_fS_1, ev_fS_2, ev_fS_3, ev_fS_4, ev_fS_5, ev_fS_6, ev_fS_7, ev_fS_8, ev_isO_0, ev_isO_1, ev_isO_2, ev_isO_3, ev_isO_4, ev_isO_5, ev_isO_6, ev_isO_7, ev_isO_8, ev_z0, ev_z1, ev_z2, eq_self, ev_ofN]
        exact hF
end C45
