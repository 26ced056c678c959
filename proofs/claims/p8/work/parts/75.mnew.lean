/-! ===== the reference is made ===== -/
section I75
variable {X : ev_E} {zf : Nat → Nat} {H : ev_M} {t y n q : Nat} {P : ev_O → ev_M → Nat → Nat → Prop}
theorem MT_init (ht : H t = some (.inr (12, [.null, .int 0, .int 0, .int 0, .int 0, .int 0, .int 0, .int 0, .int 0]))) (c : ∀ H1, H1 t = some (m_tbc (t + 1) t_0) → H1 (t + 1) = some (ev_alc 0 (X.2.2.2.2.2 1) 0) → (∀ a, ¬ a = t → ¬ a = t + 1 → H1 a = H a) → P (.inl none) H1 (t + 2) (q + 3)) : ev_ok (ev_TT X) 207 0 [.ref t] [] H (t + 1) q P := by
  have e1 : ¬ t = t + 1 := by omega
  have e2 : ¬ t + 1 = t := by omega
  simp (disch := omega) only [t_X7_init_0, t_X7_init_1, t_X7_init_4, t_X7_init_5, t_X7_init_8, t_X7_init_8_i, t_X7_init_9, t_X7_init_12, t_X7_init_15, t_X7_init_16, t_X7_init_17, t_X7_init_20, t_X7_init_21, t_X7_init_22, t_X7_init_25, t_X7_init_26, t_X7_init_27, t_X7_init_30, ↓reduceIte, ev_k_i, ev_k_r, ev_k_l, ev_k_J, ev_k_n, ev_kr_1, ev_kr_0, ev_isK_y, ev_aG_y, ev_aS_y, ev_aN_y, ev_inA_0, ev_isA_0, ev_ft_I, ev_ft_0, ev_ft_1, ev_ft_o, ev_ft_a, ev_nb_0, ev_nb_1, and_true, true_and, if_true, if_false, not_true_eq_false, not_false_eq_true, nI_1, ev_fG_0, ev_fG_1, ev_fG_2, ev_fG_3, ev_fG_4, ev_fG_5, ev_fG_6, ev_fG_7, ev_fG_8, ev_fS_0, ev_fS_1, ev_fS_2, ev_fS_3, ev_fS_4, ev_fS_5, ev_fS_6, ev_fS_7, ev_fS_8, ev_isO_0, ev_isO_1, ev_isO_2, ev_isO_3, ev_isO_4, ev_isO_5, ev_isO_6, ev_isO_7, ev_isO_8, ev_z0, ev_z1, ev_z2, eq_self, ev_ofN, show ¬ (1 : Int32) = 0 from by decide, show ¬ (2 : Int32) = 0 from by decide, show ¬ (2 : Int32) = 1 from by decide, show ¬ (0 : Int32) = 1 from by decide, show ¬ (0 : Int32) = 2 from by decide, show ¬ (1 : Int32) = 2 from by decide, show ¬ (0 : Int32) = -1 from by decide, show (0 : Int32) ≤ 1 from by decide, show (1 : Int32).toNatClampNeg = 1 from rfl, show (0 : Nat) < 2 from by omega, show (1 : Nat) < 2 from by omega, not_true_eq_false, ne_eq, not_false_eq_true, ev_lku_s, ev_lku_n, ev_up_s, ev_up_n, ev_up_up, ht, e1, e2]
  refine L_init ev_up_s ?_
  rw [ev_up_up]
  simp (disch := omega) only [t_X7_init_0, t_X7_init_1, t_X7_init_4, t_X7_init_5, t_X7_init_8, t_X7_init_8_i, t_X7_init_9, t_X7_init_12, t_X7_init_15, t_X7_init_16, t_X7_init_17, t_X7_init_20, t_X7_init_21, t_X7_init_22, t_X7_init_25, t_X7_init_26, t_X7_init_27, t_X7_init_30, ↓reduceIte, ev_k_i, ev_k_r, ev_k_l, ev_k_J, ev_k_n, ev_kr_1, ev_kr_0, ev_isK_y, ev_aG_y, ev_aS_y, ev_aN_y, ev_inA_0, ev_isA_0, ev_ft_I, ev_ft_0, ev_ft_1, ev_ft_o, ev_ft_a, ev_nb_0, ev_nb_1, and_true, true_and, if_true, if_false, not_true_eq_false, not_false_eq_true, nI_1, ev_fG_0, ev_fG_1, ev_fG_2, ev_fG_3, ev_fG_4, ev_fG_5, ev_fG_6, ev_fG_7, ev_fG_8, ev_fS_0, ev_fS_1, ev_fS_2, ev_fS_3, ev_fS_4, ev_fS_5, ev_fS_6, ev_fS_7, ev_fS_8, ev_isO_0, ev_isO_1, ev_isO_2, ev_isO_3, ev_isO_4, ev_isO_5, ev_isO_6, ev_isO_7, ev_isO_8, ev_z0, ev_z1, ev_z2, eq_self, ev_ofN, show ¬ (1 : Int32) = 0 from by decide, show ¬ (2 : Int32) = 0 from by decide, show ¬ (2 : Int32) = 1 from by decide, show ¬ (0 : Int32) = 1 from by decide, show ¬ (0 : Int32) = 2 from by decide, show ¬ (1 : Int32) = 2 from by decide, show ¬ (0 : Int32) = -1 from by decide, show (0 : Int32) ≤ 1 from by decide, show (1 : Int32).toNatClampNeg = 1 from rfl, show (0 : Nat) < 2 from by omega, show (1 : Nat) < 2 from by omega, not_true_eq_false, ne_eq, not_false_eq_true, ev_lku_s, ev_lku_n, ev_up_s, ev_up_n, ev_up_up, ht, e1, e2]
  refine c _ ?_ ?_ (fun a h1 h2 => ?_)
  · simp (disch := omega) only [ev_up_s, ev_up_n]
    rfl
  · simp (disch := omega) only [ev_up_s, ev_up_n]
    rfl
  · simp (disch := assumption) only [ev_up_s, ev_up_n]
theorem M_new (hEM : ev_EM X) (hB : ev_bs X y) (hw : ev_low X H) (hy : H y = some (.inr (13, [.int 0, .int 0, .int 0, .null, .null]))) (c : ∀ H1 q1, m_aw X zf y (0, 0, 0) (fun _ => t_0) [] H1 (y + 12) (fun _ => 0) → (∀ a, (a < y ∨ y + 11 ≤ a) → H1 a = H a) → q ≤ q1 → q1 ≤ q + 300 → P (.inl none) H1 (y + 11) q1) : ev_ok (ev_TT X) 235 0 [.ref y] [] H (y + 1) q P := by
  have hB1 := hB.1
  have hB3 := hB.2.2
  have ey : ¬ y = y + 1 := by omega
  have ey2 : ¬ y + 1 = y := by omega
  simp (disch := omega) only [t_X8_init_0, t_X8_init_1, t_X8_init_4, t_X8_init_5, t_X8_init_6, t_X8_init_9, t_X8_init_9_i, t_X8_init_10, t_X8_init_11, t_X8_init_14, t_X8_init_14_i, t_X8_init_15, t_X8_init_18, t_X8_init_19, t_X8_init_19_i, t_X8_init_20, t_X8_init_21, t_X8_init_24, t_X8_init_24_i, t_X8_init_25, t_X8_init_28, t_X8_init_29, t_X8_init_29_i, t_X8_init_30, t_X8_init_31, t_X8_init_34, t_X8_init_34_i, t_X8_init_35, t_X8_init_38, t_X8_init_39, t_X8_init_39_i, t_X8_init_40, t_X8_init_41, t_X8_init_44, t_X8_init_44_i, t_X8_init_45, t_X8_init_48, t_X8_init_49, t_X8_init_52, t_X8_init_53, t_X8_init_56, t_X8_init_56_i, t_X8_init_57, t_X8_init_60, t_X8_init_63, ↓reduceIte, ev_k_i, ev_k_r, ev_k_l, ev_k_J, ev_k_n, ev_kr_1, ev_kr_0, ev_isK_y, ev_aG_y, ev_aS_y, ev_aN_y, ev_inA_0, ev_isA_0, ev_ft_I, ev_ft_0, ev_ft_1, ev_ft_o, ev_ft_a, ev_nb_0, ev_nb_1, and_true, true_and, if_true, if_false, not_true_eq_false, not_false_eq_true, nI_1, ev_fG_0, ev_fG_1, ev_fG_2, ev_fG_3, ev_fG_4, ev_fG_5, ev_fG_6, ev_fG_7, ev_fG_8, ev_fS_0, ev_fS_1, ev_fS_2, ev_fS_3, ev_fS_4, ev_fS_5, ev_fS_6, ev_fS_7, ev_fS_8, ev_isO_0, ev_isO_1, ev_isO_2, ev_isO_3, ev_isO_4, ev_isO_5, ev_isO_6, ev_isO_7, ev_isO_8, ev_z0, ev_z1, ev_z2, eq_self, ev_ofN, show ¬ (1 : Int32) = 0 from by decide, show ¬ (2 : Int32) = 0 from by decide, show ¬ (2 : Int32) = 1 from by decide, show ¬ (0 : Int32) = 1 from by decide, show ¬ (0 : Int32) = 2 from by decide, show ¬ (1 : Int32) = 2 from by decide, show ¬ (0 : Int32) = -1 from by decide, show (0 : Int32) ≤ 1 from by decide, show (1 : Int32).toNatClampNeg = 1 from rfl, show (0 : Nat) < 2 from by omega, show (1 : Nat) < 2 from by omega, not_true_eq_false, ne_eq, not_false_eq_true, ev_lku_s, ev_lku_n, ev_up_s, ev_up_n, ev_up_up, show (0 : Int32) ≤ 4 from by decide, show (0 : Int32) ≤ 6 from by decide, show (0 : Int32) ≤ 20 from by decide, show (0 : Int32) ≤ 60 from by decide, show (4 : Int32).toNatClampNeg = 4 from rfl, show (6 : Int32).toNatClampNeg = 6 from rfl, show (20 : Int32).toNatClampNeg = 20 from rfl, show (60 : Int32).toNatClampNeg = 60 from rfl, show 4 ≤ 100000 from by omega, show 6 ≤ 100000 from by omega, show 20 ≤ 100000 from by omega, show 60 ≤ 100000 from by omega, hy, ey, ey2]
  refine MT_init (t := y + 2) ev_up_s fun H0 a0 b0 c0 => ?_
  have r0 : H0 (y + 1) = some (.inl (5, 4, fun _ => .null)) := by
    rw [c0 (y + 1) (by omega) (by omega), ev_up_n (by omega)]
    exact ev_up_s
  have y0 : H0 y = some (.inr (13, [.int 0, .int 0, .int 0, .null, .null])) := by
    rw [c0 y (by omega) (by omega), ev_up_n (by omega), ev_up_n (by omega)]
    exact hy
  have f0 : ∀ a, ¬ a = y + 1 → ¬ a = y + 2 → ¬ a = y + 3 → H0 a = H a := fun a z1 z2 z3 => (c0 a z2 z3).trans ((ev_up_n z2).trans (ev_up_n z1))
  have i0 : (ev_inA (H0 (y + 1)) 0 FieldType.isReference ∧ (∃ n f, H0 (y + 1) = some (.inl (5, n, f))) ∧ ∃ fs, H0 (y + 2) = some (.inr (12, fs))) := by
    refine ⟨?_, ⟨4, _, r0⟩, ⟨_, a0⟩⟩
    rw [r0, ev_inA_5]
    decide
  have s0 : ev_aS (H0 (y + 1)) 0 (.ref (y + 2)) = .inl (5, 4, updV (fun _ => .null) 0 (.ref (y + 2))) := by rw [r0, ev_aS_y]; rfl
  simp (disch := omega) only [t_X8_init_0, t_X8_init_1, t_X8_init_4, t_X8_init_5, t_X8_init_6, t_X8_init_9, t_X8_init_9_i, t_X8_init_10, t_X8_init_11, t_X8_init_14, t_X8_init_14_i, t_X8_init_15, t_X8_init_18, t_X8_init_20, t_X8_init_21, t_X8_init_24, t_X8_init_24_i, t_X8_init_25, t_X8_init_28, t_X8_init_29, t_X8_init_29_i, t_X8_init_30, t_X8_init_31, t_X8_init_34, t_X8_init_34_i, t_X8_init_35, t_X8_init_38, t_X8_init_39, t_X8_init_39_i, t_X8_init_40, t_X8_init_41, t_X8_init_44, t_X8_init_44_i, t_X8_init_45, t_X8_init_48, t_X8_init_49, t_X8_init_52, t_X8_init_53, t_X8_init_56, t_X8_init_56_i, t_X8_init_57, t_X8_init_60, t_X8_init_63, ↓reduceIte, ev_k_i, ev_k_r, ev_k_l, ev_k_J, ev_k_n, ev_kr_1, ev_kr_0, ev_isK_y, ev_aG_y, ev_aS_y, ev_aN_y, ev_inA_0, ev_isA_0, ev_ft_I, ev_ft_0, ev_ft_1, ev_ft_o, ev_ft_a, ev_nb_0, ev_nb_1, and_true, true_and, if_true, if_false, not_true_eq_false, not_false_eq_true, nI_1, ev_fG_0, ev_fG_1, ev_fG_2, ev_fG_3, ev_fG_4, ev_fG_5, ev_fG_6, ev_fG_7, ev_fG_8, ev_fS_0, ev_fS_1, ev_fS_2, ev_fS_3, ev_fS_4, ev_fS_5, ev_fS_6, ev_fS_7, ev_fS_8, ev_isO_0, ev_isO_1, ev_isO_2, ev_isO_3, ev_isO_4, ev_isO_5, ev_isO_6, ev_isO_7, ev_isO_8, ev_z0, ev_z1, ev_z2, eq_self, ev_ofN, show ¬ (1 : Int32) = 0 from by decide, show ¬ (2 : Int32) = 0 from by decide, show ¬ (2 : Int32) = 1 from by decide, show ¬ (0 : Int32) = 1 from by decide, show ¬ (0 : Int32) = 2 from by decide, show ¬ (1 : Int32) = 2 from by decide, show ¬ (0 : Int32) = -1 from by decide, show (0 : Int32) ≤ 1 from by decide, show (1 : Int32).toNatClampNeg = 1 from rfl, show (0 : Nat) < 2 from by omega, show (1 : Nat) < 2 from by omega, not_true_eq_false, ne_eq, not_false_eq_true, true_and]
  refine ⟨i0, ?_⟩
  rw [s0]
  simp (disch := omega) only [t_X8_init_0, t_X8_init_1, t_X8_init_4, t_X8_init_5, t_X8_init_6, t_X8_init_9, t_X8_init_9_i, t_X8_init_10, t_X8_init_11, t_X8_init_14, t_X8_init_14_i, t_X8_init_15, t_X8_init_18, t_X8_init_19, t_X8_init_19_i, t_X8_init_20, t_X8_init_21, t_X8_init_24, t_X8_init_24_i, t_X8_init_25, t_X8_init_28, t_X8_init_29, t_X8_init_29_i, t_X8_init_30, t_X8_init_31, t_X8_init_34, t_X8_init_34_i, t_X8_init_35, t_X8_init_38, t_X8_init_39, t_X8_init_39_i, t_X8_init_40, t_X8_init_41, t_X8_init_44, t_X8_init_44_i, t_X8_init_45, t_X8_init_48, t_X8_init_49, t_X8_init_52, t_X8_init_53, t_X8_init_56, t_X8_init_56_i, t_X8_init_57, t_X8_init_60, t_X8_init_63, ↓reduceIte, ev_k_i, ev_k_r, ev_k_l, ev_k_J, ev_k_n, ev_kr_1, ev_kr_0, ev_isK_y, ev_aG_y, ev_aS_y, ev_aN_y, ev_inA_0, ev_isA_0, ev_ft_I, ev_ft_0, ev_ft_1, ev_ft_o, ev_ft_a, ev_nb_0, ev_nb_1, and_true, true_and, if_true, if_false, not_true_eq_false, not_false_eq_true, nI_1, ev_fG_0, ev_fG_1, ev_fG_2, ev_fG_3, ev_fG_4, ev_fG_5, ev_fG_6, ev_fG_7, ev_fG_8, ev_fS_0, ev_fS_1, ev_fS_2, ev_fS_3, ev_fS_4, ev_fS_5, ev_fS_6, ev_fS_7, ev_fS_8, ev_isO_0, ev_isO_1, ev_isO_2, ev_isO_3, ev_isO_4, ev_isO_5, ev_isO_6, ev_isO_7, ev_isO_8, ev_z0, ev_z1, ev_z2, eq_self, ev_ofN, show ¬ (1 : Int32) = 0 from by decide, show ¬ (2 : Int32) = 0 from by decide, show ¬ (2 : Int32) = 1 from by decide, show ¬ (0 : Int32) = 1 from by decide, show ¬ (0 : Int32) = 2 from by decide, show ¬ (1 : Int32) = 2 from by decide, show ¬ (0 : Int32) = -1 from by decide, show (0 : Int32) ≤ 1 from by decide, show (1 : Int32).toNatClampNeg = 1 from rfl, show (0 : Nat) < 2 from by omega, show (1 : Nat) < 2 from by omega, not_true_eq_false, ne_eq, not_false_eq_true, ev_lku_s, ev_lku_n, ev_up_s, ev_up_n, ev_up_up, show (0 : Int32) ≤ 4 from by decide, show (0 : Int32) ≤ 6 from by decide, show (0 : Int32) ≤ 20 from by decide, show (0 : Int32) ≤ 60 from by decide, show (4 : Int32).toNatClampNeg = 4 from rfl, show (6 : Int32).toNatClampNeg = 6 from rfl, show (20 : Int32).toNatClampNeg = 20 from rfl, show (60 : Int32).toNatClampNeg = 60 from rfl, show 4 ≤ 100000 from by omega, show 6 ≤ 100000 from by omega, show 20 ≤ 100000 from by omega, show 60 ≤ 100000 from by omega]
  refine MT_init (t := y + 4) ev_up_s fun H1 a1 b1 c1 => ?_
  have r1 : H1 (y + 1) = some (.inl (5, 4, updV (fun _ => .null) 0 (.ref (y + 2)))) := by
    rw [c1 (y + 1) (by omega) (by omega), ev_up_n (by omega)]
    exact ev_up_s
  have y1 : H1 y = some (.inr (13, [.int 0, .int 0, .int 0, .null, .null])) := by
    rw [c1 y (by omega) (by omega), ev_up_n (by omega), ev_up_n (by omega)]
    exact y0
  have f1 : ∀ a, ¬ a = y + 1 → ¬ a = y + 4 → ¬ a = y + 5 → H1 a = H0 a := fun a z1 z2 z3 => (c1 a z2 z3).trans ((ev_up_n z2).trans (ev_up_n z1))
  have i1 : (ev_inA (H1 (y + 1)) 1 FieldType.isReference ∧ (∃ n f, H1 (y + 1) = some (.inl (5, n, f))) ∧ ∃ fs, H1 (y + 4) = some (.inr (12, fs))) := by
    refine ⟨?_, ⟨4, _, r1⟩, ⟨_, a1⟩⟩
    rw [r1, ev_inA_5]
    decide
  have s1 : ev_aS (H1 (y + 1)) 1 (.ref (y + 4)) = .inl (5, 4, updV (updV (fun _ => .null) 0 (.ref (y + 2))) 1 (.ref (y + 4))) := by rw [r1, ev_aS_y]; rfl
  simp (disch := omega) only [t_X8_init_0, t_X8_init_1, t_X8_init_4, t_X8_init_5, t_X8_init_6, t_X8_init_9, t_X8_init_9_i, t_X8_init_10, t_X8_init_11, t_X8_init_14, t_X8_init_14_i, t_X8_init_15, t_X8_init_18, t_X8_init_19, t_X8_init_19_i, t_X8_init_20, t_X8_init_21, t_X8_init_24, t_X8_init_24_i, t_X8_init_25, t_X8_init_28, t_X8_init_30, t_X8_init_31, t_X8_init_34, t_X8_init_34_i, t_X8_init_35, t_X8_init_38, t_X8_init_39, t_X8_init_39_i, t_X8_init_40, t_X8_init_41, t_X8_init_44, t_X8_init_44_i, t_X8_init_45, t_X8_init_48, t_X8_init_49, t_X8_init_52, t_X8_init_53, t_X8_init_56, t_X8_init_56_i, t_X8_init_57, t_X8_init_60, t_X8_init_63, ↓reduceIte, ev_k_i, ev_k_r, ev_k_l, ev_k_J, ev_k_n, ev_kr_1, ev_kr_0, ev_isK_y, ev_aG_y, ev_aS_y, ev_aN_y, ev_inA_0, ev_isA_0, ev_ft_I, ev_ft_0, ev_ft_1, ev_ft_o, ev_ft_a, ev_nb_0, ev_nb_1, and_true, true_and, if_true, if_false, not_true_eq_false, not_false_eq_true, nI_1, ev_fG_0, ev_fG_1, ev_fG_2, ev_fG_3, ev_fG_4, ev_fG_5, ev_fG_6, ev_fG_7, ev_fG_8, ev_fS_0, ev_fS_1, ev_fS_2, ev_fS_3, ev_fS_4, ev_fS_5, ev_fS_6, ev_fS_7, ev_fS_8, ev_isO_0, ev_isO_1, ev_isO_2, ev_isO_3, ev_isO_4, ev_isO_5, ev_isO_6, ev_isO_7, ev_isO_8, ev_z0, ev_z1, ev_z2, eq_self, ev_ofN, show ¬ (1 : Int32) = 0 from by decide, show ¬ (2 : Int32) = 0 from by decide, show ¬ (2 : Int32) = 1 from by decide, show ¬ (0 : Int32) = 1 from by decide, show ¬ (0 : Int32) = 2 from by decide, show ¬ (1 : Int32) = 2 from by decide, show ¬ (0 : Int32) = -1 from by decide, show (0 : Int32) ≤ 1 from by decide, show (1 : Int32).toNatClampNeg = 1 from rfl, show (0 : Nat) < 2 from by omega, show (1 : Nat) < 2 from by omega, not_true_eq_false, ne_eq, not_false_eq_true, true_and]
  refine ⟨i1, ?_⟩
  rw [s1]
  simp (disch := omega) only [t_X8_init_0, t_X8_init_1, t_X8_init_4, t_X8_init_5, t_X8_init_6, t_X8_init_9, t_X8_init_9_i, t_X8_init_10, t_X8_init_11, t_X8_init_14, t_X8_init_14_i, t_X8_init_15, t_X8_init_18, t_X8_init_19, t_X8_init_19_i, t_X8_init_20, t_X8_init_21, t_X8_init_24, t_X8_init_24_i, t_X8_init_25, t_X8_init_28, t_X8_init_29, t_X8_init_29_i, t_X8_init_30, t_X8_init_31, t_X8_init_34, t_X8_init_34_i, t_X8_init_35, t_X8_init_38, t_X8_init_39, t_X8_init_39_i, t_X8_init_40, t_X8_init_41, t_X8_init_44, t_X8_init_44_i, t_X8_init_45, t_X8_init_48, t_X8_init_49, t_X8_init_52, t_X8_init_53, t_X8_init_56, t_X8_init_56_i, t_X8_init_57, t_X8_init_60, t_X8_init_63, ↓reduceIte, ev_k_i, ev_k_r, ev_k_l, ev_k_J, ev_k_n, ev_kr_1, ev_kr_0, ev_isK_y, ev_aG_y, ev_aS_y, ev_aN_y, ev_inA_0, ev_isA_0, ev_ft_I, ev_ft_0, ev_ft_1, ev_ft_o, ev_ft_a, ev_nb_0, ev_nb_1, and_true, true_and, if_true, if_false, not_true_eq_false, not_false_eq_true, nI_1, ev_fG_0, ev_fG_1, ev_fG_2, ev_fG_3, ev_fG_4, ev_fG_5, ev_fG_6, ev_fG_7, ev_fG_8, ev_fS_0, ev_fS_1, ev_fS_2, ev_fS_3, ev_fS_4, ev_fS_5, ev_fS_6, ev_fS_7, ev_fS_8, ev_isO_0, ev_isO_1, ev_isO_2, ev_isO_3, ev_isO_4, ev_isO_5, ev_isO_6, ev_isO_7, ev_isO_8, ev_z0, ev_z1, ev_z2, eq_self, ev_ofN, show ¬ (1 : Int32) = 0 from by decide, show ¬ (2 : Int32) = 0 from by decide, show ¬ (2 : Int32) = 1 from by decide, show ¬ (0 : Int32) = 1 from by decide, show ¬ (0 : Int32) = 2 from by decide, show ¬ (1 : Int32) = 2 from by decide, show ¬ (0 : Int32) = -1 from by decide, show (0 : Int32) ≤ 1 from by decide, show (1 : Int32).toNatClampNeg = 1 from rfl, show (0 : Nat) < 2 from by omega, show (1 : Nat) < 2 from by omega, not_true_eq_false, ne_eq, not_false_eq_true, ev_lku_s, ev_lku_n, ev_up_s, ev_up_n, ev_up_up, show (0 : Int32) ≤ 4 from by decide, show (0 : Int32) ≤ 6 from by decide, show (0 : Int32) ≤ 20 from by decide, show (0 : Int32) ≤ 60 from by decide, show (4 : Int32).toNatClampNeg = 4 from rfl, show (6 : Int32).toNatClampNeg = 6 from rfl, show (20 : Int32).toNatClampNeg = 20 from rfl, show (60 : Int32).toNatClampNeg = 60 from rfl, show 4 ≤ 100000 from by omega, show 6 ≤ 100000 from by omega, show 20 ≤ 100000 from by omega, show 60 ≤ 100000 from by omega]
  refine MT_init (t := y + 6) ev_up_s fun H2 a2 b2 c2 => ?_
  have r2 : H2 (y + 1) = some (.inl (5, 4, updV (updV (fun _ => .null) 0 (.ref (y + 2))) 1 (.ref (y + 4)))) := by
    rw [c2 (y + 1) (by omega) (by omega), ev_up_n (by omega)]
    exact ev_up_s
  have y2 : H2 y = some (.inr (13, [.int 0, .int 0, .int 0, .null, .null])) := by
    rw [c2 y (by omega) (by omega), ev_up_n (by omega), ev_up_n (by omega)]
    exact y1
  have f2 : ∀ a, ¬ a = y + 1 → ¬ a = y + 6 → ¬ a = y + 7 → H2 a = H1 a := fun a z1 z2 z3 => (c2 a z2 z3).trans ((ev_up_n z2).trans (ev_up_n z1))
  have i2 : (ev_inA (H2 (y + 1)) 2 FieldType.isReference ∧ (∃ n f, H2 (y + 1) = some (.inl (5, n, f))) ∧ ∃ fs, H2 (y + 6) = some (.inr (12, fs))) := by
    refine ⟨?_, ⟨4, _, r2⟩, ⟨_, a2⟩⟩
    rw [r2, ev_inA_5]
    decide
  have s2 : ev_aS (H2 (y + 1)) 2 (.ref (y + 6)) = .inl (5, 4, updV (updV (updV (fun _ => .null) 0 (.ref (y + 2))) 1 (.ref (y + 4))) 2 (.ref (y + 6))) := by rw [r2, ev_aS_y]; rfl
  simp (disch := omega) only [t_X8_init_0, t_X8_init_1, t_X8_init_4, t_X8_init_5, t_X8_init_6, t_X8_init_9, t_X8_init_9_i, t_X8_init_10, t_X8_init_11, t_X8_init_14, t_X8_init_14_i, t_X8_init_15, t_X8_init_18, t_X8_init_19, t_X8_init_19_i, t_X8_init_20, t_X8_init_21, t_X8_init_24, t_X8_init_24_i, t_X8_init_25, t_X8_init_28, t_X8_init_29, t_X8_init_29_i, t_X8_init_30, t_X8_init_31, t_X8_init_34, t_X8_init_34_i, t_X8_init_35, t_X8_init_38, t_X8_init_40, t_X8_init_41, t_X8_init_44, t_X8_init_44_i, t_X8_init_45, t_X8_init_48, t_X8_init_49, t_X8_init_52, t_X8_init_53, t_X8_init_56, t_X8_init_56_i, t_X8_init_57, t_X8_init_60, t_X8_init_63, ↓reduceIte, ev_k_i, ev_k_r, ev_k_l, ev_k_J, ev_k_n, ev_kr_1, ev_kr_0, ev_isK_y, ev_aG_y, ev_aS_y, ev_aN_y, ev_inA_0, ev_isA_0, ev_ft_I, ev_ft_0, ev_ft_1, ev_ft_o, ev_ft_a, ev_nb_0, ev_nb_1, and_true, true_and, if_true, if_false, not_true_eq_false, not_false_eq_true, nI_1, ev_fG_0, ev_fG_1, ev_fG_2, ev_fG_3, ev_fG_4, ev_fG_5, ev_fG_6, ev_fG_7, ev_fG_8, ev_fS_0, ev_fS_1, ev_fS_2, ev_fS_3, ev_fS_4, ev_fS_5, ev_fS_6, ev_fS_7, ev_fS_8, ev_isO_0, ev_isO_1, ev_isO_2, ev_isO_3, ev_isO_4, ev_isO_5, ev_isO_6, ev_isO_7, ev_isO_8, ev_z0, ev_z1, ev_z2, eq_self, ev_ofN, show ¬ (1 : Int32) = 0 from by decide, show ¬ (2 : Int32) = 0 from by decide, show ¬ (2 : Int32) = 1 from by decide, show ¬ (0 : Int32) = 1 from by decide, show ¬ (0 : Int32) = 2 from by decide, show ¬ (1 : Int32) = 2 from by decide, show ¬ (0 : Int32) = -1 from by decide, show (0 : Int32) ≤ 1 from by decide, show (1 : Int32).toNatClampNeg = 1 from rfl, show (0 : Nat) < 2 from by omega, show (1 : Nat) < 2 from by omega, not_true_eq_false, ne_eq, not_false_eq_true, true_and]
  refine ⟨i2, ?_⟩
  rw [s2]
  simp (disch := omega) only [t_X8_init_0, t_X8_init_1, t_X8_init_4, t_X8_init_5, t_X8_init_6, t_X8_init_9, t_X8_init_9_i, t_X8_init_10, t_X8_init_11, t_X8_init_14, t_X8_init_14_i, t_X8_init_15, t_X8_init_18, t_X8_init_19, t_X8_init_19_i, t_X8_init_20, t_X8_init_21, t_X8_init_24, t_X8_init_24_i, t_X8_init_25, t_X8_init_28, t_X8_init_29, t_X8_init_29_i, t_X8_init_30, t_X8_init_31, t_X8_init_34, t_X8_init_34_i, t_X8_init_35, t_X8_init_38, t_X8_init_39, t_X8_init_39_i, t_X8_init_40, t_X8_init_41, t_X8_init_44, t_X8_init_44_i, t_X8_init_45, t_X8_init_48, t_X8_init_49, t_X8_init_52, t_X8_init_53, t_X8_init_56, t_X8_init_56_i, t_X8_init_57, t_X8_init_60, t_X8_init_63, ↓reduceIte, ev_k_i, ev_k_r, ev_k_l, ev_k_J, ev_k_n, ev_kr_1, ev_kr_0, ev_isK_y, ev_aG_y, ev_aS_y, ev_aN_y, ev_inA_0, ev_isA_0, ev_ft_I, ev_ft_0, ev_ft_1, ev_ft_o, ev_ft_a, ev_nb_0, ev_nb_1, and_true, true_and, if_true, if_false, not_true_eq_false, not_false_eq_true, nI_1, ev_fG_0, ev_fG_1, ev_fG_2, ev_fG_3, ev_fG_4, ev_fG_5, ev_fG_6, ev_fG_7, ev_fG_8, ev_fS_0, ev_fS_1, ev_fS_2, ev_fS_3, ev_fS_4, ev_fS_5, ev_fS_6, ev_fS_7, ev_fS_8, ev_isO_0, ev_isO_1, ev_isO_2, ev_isO_3, ev_isO_4, ev_isO_5, ev_isO_6, ev_isO_7, ev_isO_8, ev_z0, ev_z1, ev_z2, eq_self, ev_ofN, show ¬ (1 : Int32) = 0 from by decide, show ¬ (2 : Int32) = 0 from by decide, show ¬ (2 : Int32) = 1 from by decide, show ¬ (0 : Int32) = 1 from by decide, show ¬ (0 : Int32) = 2 from by decide, show ¬ (1 : Int32) = 2 from by decide, show ¬ (0 : Int32) = -1 from by decide, show (0 : Int32) ≤ 1 from by decide, show (1 : Int32).toNatClampNeg = 1 from rfl, show (0 : Nat) < 2 from by omega, show (1 : Nat) < 2 from by omega, not_true_eq_false, ne_eq, not_false_eq_true, ev_lku_s, ev_lku_n, ev_up_s, ev_up_n, ev_up_up, show (0 : Int32) ≤ 4 from by decide, show (0 : Int32) ≤ 6 from by decide, show (0 : Int32) ≤ 20 from by decide, show (0 : Int32) ≤ 60 from by decide, show (4 : Int32).toNatClampNeg = 4 from rfl, show (6 : Int32).toNatClampNeg = 6 from rfl, show (20 : Int32).toNatClampNeg = 20 from rfl, show (60 : Int32).toNatClampNeg = 60 from rfl, show 4 ≤ 100000 from by omega, show 6 ≤ 100000 from by omega, show 20 ≤ 100000 from by omega, show 60 ≤ 100000 from by omega]
  refine MT_init (t := y + 8) ev_up_s fun H3 a3 b3 c3 => ?_
  have r3 : H3 (y + 1) = some (.inl (5, 4, updV (updV (updV (fun _ => .null) 0 (.ref (y + 2))) 1 (.ref (y + 4))) 2 (.ref (y + 6)))) := by
    rw [c3 (y + 1) (by omega) (by omega), ev_up_n (by omega)]
    exact ev_up_s
  have y3 : H3 y = some (.inr (13, [.int 0, .int 0, .int 0, .null, .null])) := by
    rw [c3 y (by omega) (by omega), ev_up_n (by omega), ev_up_n (by omega)]
    exact y2
  have f3 : ∀ a, ¬ a = y + 1 → ¬ a = y + 8 → ¬ a = y + 9 → H3 a = H2 a := fun a z1 z2 z3 => (c3 a z2 z3).trans ((ev_up_n z2).trans (ev_up_n z1))
  have i3 : (ev_inA (H3 (y + 1)) 3 FieldType.isReference ∧ (∃ n f, H3 (y + 1) = some (.inl (5, n, f))) ∧ ∃ fs, H3 (y + 8) = some (.inr (12, fs))) := by
    refine ⟨?_, ⟨4, _, r3⟩, ⟨_, a3⟩⟩
    rw [r3, ev_inA_5]
    decide
  have s3 : ev_aS (H3 (y + 1)) 3 (.ref (y + 8)) = .inl (5, 4, updV (updV (updV (updV (fun _ => .null) 0 (.ref (y + 2))) 1 (.ref (y + 4))) 2 (.ref (y + 6))) 3 (.ref (y + 8))) := by rw [r3, ev_aS_y]; rfl
  simp (disch := omega) only [t_X8_init_0, t_X8_init_1, t_X8_init_4, t_X8_init_5, t_X8_init_6, t_X8_init_9, t_X8_init_9_i, t_X8_init_10, t_X8_init_11, t_X8_init_14, t_X8_init_14_i, t_X8_init_15, t_X8_init_18, t_X8_init_19, t_X8_init_19_i, t_X8_init_20, t_X8_init_21, t_X8_init_24, t_X8_init_24_i, t_X8_init_25, t_X8_init_28, t_X8_init_29, t_X8_init_29_i, t_X8_init_30, t_X8_init_31, t_X8_init_34, t_X8_init_34_i, t_X8_init_35, t_X8_init_38, t_X8_init_39, t_X8_init_39_i, t_X8_init_40, t_X8_init_41, t_X8_init_44, t_X8_init_44_i, t_X8_init_45, t_X8_init_48, t_X8_init_52, t_X8_init_53, t_X8_init_56, t_X8_init_56_i, t_X8_init_57, t_X8_init_60, t_X8_init_63, ↓reduceIte, ev_k_i, ev_k_r, ev_k_l, ev_k_J, ev_k_n, ev_kr_1, ev_kr_0, ev_isK_y, ev_aG_y, ev_aS_y, ev_aN_y, ev_inA_0, ev_isA_0, ev_ft_I, ev_ft_0, ev_ft_1, ev_ft_o, ev_ft_a, ev_nb_0, ev_nb_1, and_true, true_and, if_true, if_false, not_true_eq_false, not_false_eq_true, nI_1, ev_fG_0, ev_fG_1, ev_fG_2, ev_fG_3, ev_fG_4, ev_fG_5, ev_fG_6, ev_fG_7, ev_fG_8, ev_fS_0, ev_fS_1, ev_fS_2, ev_fS_3, ev_fS_4, ev_fS_5, ev_fS_6, ev_fS_7, ev_fS_8, ev_isO_0, ev_isO_1, ev_isO_2, ev_isO_3, ev_isO_4, ev_isO_5, ev_isO_6, ev_isO_7, ev_isO_8, ev_z0, ev_z1, ev_z2, eq_self, ev_ofN, show ¬ (1 : Int32) = 0 from by decide, show ¬ (2 : Int32) = 0 from by decide, show ¬ (2 : Int32) = 1 from by decide, show ¬ (0 : Int32) = 1 from by decide, show ¬ (0 : Int32) = 2 from by decide, show ¬ (1 : Int32) = 2 from by decide, show ¬ (0 : Int32) = -1 from by decide, show (0 : Int32) ≤ 1 from by decide, show (1 : Int32).toNatClampNeg = 1 from rfl, show (0 : Nat) < 2 from by omega, show (1 : Nat) < 2 from by omega, not_true_eq_false, ne_eq, not_false_eq_true, true_and]
  refine ⟨i3, ?_⟩
  rw [s3]
  have y3' : ev_up H3 (y + 1) (.inl (5, 4, updV (updV (updV (updV (fun _ => .null) 0 (.ref (y + 2))) 1 (.ref (y + 4))) 2 (.ref (y + 6))) 3 (.ref (y + 8)))) y = some (.inr (13, [.int 0, .int 0, .int 0, .null, .null])) := (ev_up_n (by omega)).trans y3
  simp (disch := omega) only [t_X8_init_0, t_X8_init_1, t_X8_init_4, t_X8_init_5, t_X8_init_6, t_X8_init_9, t_X8_init_9_i, t_X8_init_10, t_X8_init_11, t_X8_init_14, t_X8_init_14_i, t_X8_init_15, t_X8_init_18, t_X8_init_19, t_X8_init_19_i, t_X8_init_20, t_X8_init_21, t_X8_init_24, t_X8_init_24_i, t_X8_init_25, t_X8_init_28, t_X8_init_29, t_X8_init_29_i, t_X8_init_30, t_X8_init_31, t_X8_init_34, t_X8_init_34_i, t_X8_init_35, t_X8_init_38, t_X8_init_39, t_X8_init_39_i, t_X8_init_40, t_X8_init_41, t_X8_init_44, t_X8_init_44_i, t_X8_init_45, t_X8_init_48, t_X8_init_49, t_X8_init_52, t_X8_init_53, t_X8_init_56, t_X8_init_56_i, t_X8_init_57, t_X8_init_60, t_X8_init_63, ↓reduceIte, ev_k_i, ev_k_r, ev_k_l, ev_k_J, ev_k_n, ev_kr_1, ev_kr_0, ev_isK_y, ev_aG_y, ev_aS_y, ev_aN_y, ev_inA_0, ev_isA_0, ev_ft_I, ev_ft_0, ev_ft_1, ev_ft_o, ev_ft_a, ev_nb_0, ev_nb_1, and_true, true_and, if_true, if_false, not_true_eq_false, not_false_eq_true, nI_1, ev_fG_0, ev_fG_1, ev_fG_2, ev_fG_3, ev_fG_4, ev_fG_5, ev_fG_6, ev_fG_7, ev_fG_8, ev_fS_0, ev_fS_1, ev_fS_2, ev_fS_3, ev_fS_4, ev_fS_5, ev_fS_6, ev_fS_7, ev_fS_8, ev_isO_0, ev_isO_1, ev_isO_2, ev_isO_3, ev_isO_4, ev_isO_5, ev_isO_6, ev_isO_7, ev_isO_8, ev_z0, ev_z1, ev_z2, eq_self, ev_ofN, show ¬ (1 : Int32) = 0 from by decide, show ¬ (2 : Int32) = 0 from by decide, show ¬ (2 : Int32) = 1 from by decide, show ¬ (0 : Int32) = 1 from by decide, show ¬ (0 : Int32) = 2 from by decide, show ¬ (1 : Int32) = 2 from by decide, show ¬ (0 : Int32) = -1 from by decide, show (0 : Int32) ≤ 1 from by decide, show (1 : Int32).toNatClampNeg = 1 from rfl, show (0 : Nat) < 2 from by omega, show (1 : Nat) < 2 from by omega, not_true_eq_false, ne_eq, not_false_eq_true, y3', y3, ev_lku_s, ev_lku_n, ev_up_s, ev_up_n, ev_up_up]
  refine L_init ev_up_s ?_
  rw [ev_up_up]
  simp (disch := omega) only [t_X8_init_0, t_X8_init_1, t_X8_init_4, t_X8_init_5, t_X8_init_6, t_X8_init_9, t_X8_init_9_i, t_X8_init_10, t_X8_init_11, t_X8_init_14, t_X8_init_14_i, t_X8_init_15, t_X8_init_18, t_X8_init_19, t_X8_init_19_i, t_X8_init_20, t_X8_init_21, t_X8_init_24, t_X8_init_24_i, t_X8_init_25, t_X8_init_28, t_X8_init_29, t_X8_init_29_i, t_X8_init_30, t_X8_init_31, t_X8_init_34, t_X8_init_34_i, t_X8_init_35, t_X8_init_38, t_X8_init_39, t_X8_init_39_i, t_X8_init_40, t_X8_init_41, t_X8_init_44, t_X8_init_44_i, t_X8_init_45, t_X8_init_48, t_X8_init_49, t_X8_init_52, t_X8_init_53, t_X8_init_56, t_X8_init_56_i, t_X8_init_57, t_X8_init_60, t_X8_init_63, ↓reduceIte, ev_k_i, ev_k_r, ev_k_l, ev_k_J, ev_k_n, ev_kr_1, ev_kr_0, ev_isK_y, ev_aG_y, ev_aS_y, ev_aN_y, ev_inA_0, ev_isA_0, ev_ft_I, ev_ft_0, ev_ft_1, ev_ft_o, ev_ft_a, ev_nb_0, ev_nb_1, and_true, true_and, if_true, if_false, not_true_eq_false, not_false_eq_true, nI_1, ev_fG_0, ev_fG_1, ev_fG_2, ev_fG_3, ev_fG_4, ev_fG_5, ev_fG_6, ev_fG_7, ev_fG_8, ev_fS_0, ev_fS_1, ev_fS_2, ev_fS_3, ev_fS_4, ev_fS_5, ev_fS_6, ev_fS_7, ev_fS_8, ev_isO_0, ev_isO_1, ev_isO_2, ev_isO_3, ev_isO_4, ev_isO_5, ev_isO_6, ev_isO_7, ev_isO_8, ev_z0, ev_z1, ev_z2, eq_self, ev_ofN, show ¬ (1 : Int32) = 0 from by decide, show ¬ (2 : Int32) = 0 from by decide, show ¬ (2 : Int32) = 1 from by decide, show ¬ (0 : Int32) = 1 from by decide, show ¬ (0 : Int32) = 2 from by decide, show ¬ (1 : Int32) = 2 from by decide, show ¬ (0 : Int32) = -1 from by decide, show (0 : Int32) ≤ 1 from by decide, show (1 : Int32).toNatClampNeg = 1 from rfl, show (0 : Nat) < 2 from by omega, show (1 : Nat) < 2 from by omega, not_true_eq_false, ne_eq, not_false_eq_true, ev_lku_s, ev_lku_n, ev_up_s, ev_up_n, ev_up_up, y3]
  have nn : H (X.2.2.2.2.2 1) = none := hw _ hB3
  refine c _ _ ?_ (fun a ha => ?_) (by omega) (by omega)
  · have hl : ∀ H' l, (H' (X.2.2.2.2.2 1) = none) → H' l = some (ev_alc 0 (X.2.2.2.2.2 1) 0) → ev_AT X H' l (X.2.2.2.2.2 1) [] := fun H' l e1 e2 => ⟨0, e2, fun v hv => absurd hv (List.not_mem_nil), Or.inl ⟨e1, rfl, hEM, rfl⟩⟩
    refine ⟨?_, ⟨updV (updV (updV (updV (fun _ => .null) 0 (.ref (y + 2))) 1 (.ref (y + 4))) 2 (.ref (y + 6))) 3 (.ref (y + 8)), ?_, fun i hi => ?_⟩, fun i hi => ?_, X.2.2.2.2.2 1, ?_, Or.inl ⟨by omega, rfl, ?_⟩⟩
    · simp (disch := omega) only [ev_up_s, ev_up_n]
      rfl
    · simp (disch := omega) only [ev_up_s, ev_up_n]
    · rcases (show i = 0 ∨ i = 1 ∨ i = 2 ∨ i = 3 by omega) with rfl | rfl | rfl | rfl <;> rfl
    · rcases (show i = 0 ∨ i = 1 ∨ i = 2 ∨ i = 3 by omega) with rfl | rfl | rfl | rfl <;> refine ⟨?_, [], ⟨X.2.2.2.2.2 1, hl _ _ ?_ ?_, List.nodup_nil, fun z hz => absurd hz (List.not_mem_nil), Or.inl ⟨by omega, rfl, ?_⟩⟩, rfl⟩
      · simp (disch := omega) only [ev_up_s, ev_up_n]
        rw [f3 _ (by omega) (by omega) (by omega)]
        rw [f2 _ (by omega) (by omega) (by omega)]
        rw [f1 _ (by omega) (by omega) (by omega)]
        exact a0
      · simp (disch := omega) only [ev_up_s, ev_up_n]
        rw [f3 _ (by omega) (by omega) (by omega), f2 _ (by omega) (by omega) (by omega), f1 _ (by omega) (by omega) (by omega), f0 _ (by omega) (by omega) (by omega)]
        exact nn
      · simp (disch := omega) only [ev_up_s, ev_up_n]
        rw [f3 _ (by omega) (by omega) (by omega)]
        rw [f2 _ (by omega) (by omega) (by omega)]
        rw [f1 _ (by omega) (by omega) (by omega)]
        exact b0
      · simp (disch := omega) only [ev_up_s, ev_up_n]
        rw [f3 _ (by omega) (by omega) (by omega), f2 _ (by omega) (by omega) (by omega), f1 _ (by omega) (by omega) (by omega), f0 _ (by omega) (by omega) (by omega)]
        exact nn
      · simp (disch := omega) only [ev_up_s, ev_up_n]
        rw [f3 _ (by omega) (by omega) (by omega)]
        rw [f2 _ (by omega) (by omega) (by omega)]
        exact a1
      · simp (disch := omega) only [ev_up_s, ev_up_n]
        rw [f3 _ (by omega) (by omega) (by omega), f2 _ (by omega) (by omega) (by omega), f1 _ (by omega) (by omega) (by omega), f0 _ (by omega) (by omega) (by omega)]
        exact nn
      · simp (disch := omega) only [ev_up_s, ev_up_n]
        rw [f3 _ (by omega) (by omega) (by omega)]
        rw [f2 _ (by omega) (by omega) (by omega)]
        exact b1
      · simp (disch := omega) only [ev_up_s, ev_up_n]
        rw [f3 _ (by omega) (by omega) (by omega), f2 _ (by omega) (by omega) (by omega), f1 _ (by omega) (by omega) (by omega), f0 _ (by omega) (by omega) (by omega)]
        exact nn
      · simp (disch := omega) only [ev_up_s, ev_up_n]
        rw [f3 _ (by omega) (by omega) (by omega)]
        exact a2
      · simp (disch := omega) only [ev_up_s, ev_up_n]
        rw [f3 _ (by omega) (by omega) (by omega), f2 _ (by omega) (by omega) (by omega), f1 _ (by omega) (by omega) (by omega), f0 _ (by omega) (by omega) (by omega)]
        exact nn
      · simp (disch := omega) only [ev_up_s, ev_up_n]
        rw [f3 _ (by omega) (by omega) (by omega)]
        exact b2
      · simp (disch := omega) only [ev_up_s, ev_up_n]
        rw [f3 _ (by omega) (by omega) (by omega), f2 _ (by omega) (by omega) (by omega), f1 _ (by omega) (by omega) (by omega), f0 _ (by omega) (by omega) (by omega)]
        exact nn
      · simp (disch := omega) only [ev_up_s, ev_up_n]
        exact a3
      · simp (disch := omega) only [ev_up_s, ev_up_n]
        rw [f3 _ (by omega) (by omega) (by omega), f2 _ (by omega) (by omega) (by omega), f1 _ (by omega) (by omega) (by omega), f0 _ (by omega) (by omega) (by omega)]
        exact nn
      · simp (disch := omega) only [ev_up_s, ev_up_n]
        exact b3
      · simp (disch := omega) only [ev_up_s, ev_up_n]
        rw [f3 _ (by omega) (by omega) (by omega), f2 _ (by omega) (by omega) (by omega), f1 _ (by omega) (by omega) (by omega), f0 _ (by omega) (by omega) (by omega)]
        exact nn
    · refine hl _ _ ?_ ?_
      · simp (disch := omega) only [ev_up_s, ev_up_n]
        rw [f3 _ (by omega) (by omega) (by omega), f2 _ (by omega) (by omega) (by omega), f1 _ (by omega) (by omega) (by omega), f0 _ (by omega) (by omega) (by omega)]
        exact nn
      · simp (disch := omega) only [ev_up_s, ev_up_n]
        unfold ev_alc
        rw [nI_0]
    · simp (disch := omega) only [ev_up_s, ev_up_n]
      rw [f3 _ (by omega) (by omega) (by omega), f2 _ (by omega) (by omega) (by omega), f1 _ (by omega) (by omega) (by omega), f0 _ (by omega) (by omega) (by omega)]
      exact nn
  · simp (disch := omega) only [ev_up_s, ev_up_n]
    rw [f3 _ (by omega) (by omega) (by omega), f2 _ (by omega) (by omega) (by omega), f1 _ (by omega) (by omega) (by omega), f0 _ (by omega) (by omega) (by omega)]
end I75
