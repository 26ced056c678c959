/-! ===== the reference: an asking ===== -/
theorem m_zok_of {X : ev_E} {zf : Nat → Nat} {As : List Nat} (hA : m_ax X zf As) : m_zok X zf As := by
  intro k hk
  have h20 := hA.2.1 k hk
  obtain ⟨⟨N, cf, i1, i2, i3, i4, i5⟩, -⟩ := hA
  obtain ⟨j1, j2, j3⟩ := i5 k (by omega)
  exact ⟨j3, _, j2⟩
def mhits (d : Nat) : Int32 := if d = 0 then 0 else if d ≤ 6 then nI (7 - d) else 0
section M67
variable {X : ev_E} {zf : Nat → Nat} {y : Nat} {r : Int32 × Int32 × Int32} {T : Nat → ev_TS} {As : List Nat} {H : ev_M} {ow : Nat → Nat} {n q : Nat} {P : ev_O → ev_M → Nat → Nat → Prop}
theorem M_hitsOf {d : Nat} (hd : d ≤ 1000) (c : P (.inl (some (.int (mhits d)))) H n q) : ev_ok (ev_TT X) 64 0 [.ref y, .int (nI d)] [] H n q P := by
  have h6 : (6 : Int32) = nI 6 := rfl
  have h7 : (7 : Int32) = nI 7 := rfl
  unfold mhits at c
  by_cases e : d = 0
  · subst e
    rw [if_pos rfl] at c
    simp (disch := omega) only [t_X8_hitsOf_0, t_X8_hitsOf_1, t_X8_hitsOf_4, t_X8_hitsOf_5, t_X8_hitsOf_7, t_X8_hitsOf_10, t_X8_hitsOf_11, t_X8_hitsOf_14, t_X8_hitsOf_16, t_X8_hitsOf_17, t_X8_hitsOf_18, ↓reduceIte, ev_k_i, ev_k_r, ev_k_l, ev_k_J, ev_k_n, ev_kr_1, ev_kr_0, ev_isK_y, ev_aG_y, ev_aS_y, ev_aN_y, ev_inA_0, ev_isA_0, ev_ft_I, ev_ft_0, ev_ft_1, ev_ft_o, ev_ft_a, ev_nb_0, ev_nb_1, and_true, true_and, if_true, if_false, not_true_eq_false, not_false_eq_true, nI_1, ev_fG_0, ev_fG_1, ev_fG_2, ev_fG_3, ev_fG_4, ev_fG_5, ev_fG_6, ev_fG_7, ev_fG_8, ev_fS_0, ev_fS_1, ev_fS_2, ev_fS_3, ev_fS_4, ev_fS_5, ev_fS_6, ev_fS_7, ev_fS_8, ev_isO_0, ev_isO_1, ev_isO_2, ev_isO_3, ev_isO_4, ev_isO_5, ev_isO_6, ev_isO_7, ev_isO_8, ev_z0, ev_z1, ev_z2, eq_self, ev_ofN, show ¬ (1 : Int32) = 0 from by decide, show ¬ (2 : Int32) = 0 from by decide, show ¬ (2 : Int32) = 1 from by decide, show ¬ (0 : Int32) = 1 from by decide, show ¬ (0 : Int32) = 2 from by decide, show ¬ (1 : Int32) = 2 from by decide, show ¬ (0 : Int32) = -1 from by decide, show (0 : Int32) ≤ 1 from by decide, show (1 : Int32).toNatClampNeg = 1 from rfl, show (0 : Nat) < 2 from by omega, show (1 : Nat) < 2 from by omega, not_true_eq_false, ne_eq, not_false_eq_true, nI_0]
    exact c
  · rw [if_neg e] at c
    have e1 : ¬ nI d = 0 := nI_ne0 (by omega) (by omega)
    by_cases e2 : d ≤ 6
    · rw [if_pos e2] at c
      have e3 : nI 7 - nI d = nI (7 - d) := pk_sub (by omega)
      simp (disch := omega) only [t_X8_hitsOf_0, t_X8_hitsOf_1, t_X8_hitsOf_4, t_X8_hitsOf_5, t_X8_hitsOf_7, t_X8_hitsOf_10, t_X8_hitsOf_11, t_X8_hitsOf_14, t_X8_hitsOf_16, t_X8_hitsOf_17, t_X8_hitsOf_18, ↓reduceIte, ev_k_i, ev_k_r, ev_k_l, ev_k_J, ev_k_n, ev_kr_1, ev_kr_0, ev_isK_y, ev_aG_y, ev_aS_y, ev_aN_y, ev_inA_0, ev_isA_0, ev_ft_I, ev_ft_0, ev_ft_1, ev_ft_o, ev_ft_a, ev_nb_0, ev_nb_1, and_true, true_and, if_true, if_false, not_true_eq_false, not_false_eq_true, nI_1, ev_fG_0, ev_fG_1, ev_fG_2, ev_fG_3, ev_fG_4, ev_fG_5, ev_fG_6, ev_fG_7, ev_fG_8, ev_fS_0, ev_fS_1, ev_fS_2, ev_fS_3, ev_fS_4, ev_fS_5, ev_fS_6, ev_fS_7, ev_fS_8, ev_isO_0, ev_isO_1, ev_isO_2, ev_isO_3, ev_isO_4, ev_isO_5, ev_isO_6, ev_isO_7, ev_isO_8, ev_z0, ev_z1, ev_z2, eq_self, ev_ofN, show ¬ (1 : Int32) = 0 from by decide, show ¬ (2 : Int32) = 0 from by decide, show ¬ (2 : Int32) = 1 from by decide, show ¬ (0 : Int32) = 1 from by decide, show ¬ (0 : Int32) = 2 from by decide, show ¬ (1 : Int32) = 2 from by decide, show ¬ (0 : Int32) = -1 from by decide, show (0 : Int32) ≤ 1 from by decide, show (1 : Int32).toNatClampNeg = 1 from rfl, show (0 : Nat) < 2 from by omega, show (1 : Nat) < 2 from by omega, not_true_eq_false, ne_eq, not_false_eq_true, e1, h6, h7, nI_leI, e2, e3]
      exact c
    · rw [if_neg e2] at c
      simp (disch := omega) only [t_X8_hitsOf_0, t_X8_hitsOf_1, t_X8_hitsOf_4, t_X8_hitsOf_5, t_X8_hitsOf_7, t_X8_hitsOf_10, t_X8_hitsOf_11, t_X8_hitsOf_14, t_X8_hitsOf_16, t_X8_hitsOf_17, t_X8_hitsOf_18, ↓reduceIte, ev_k_i, ev_k_r, ev_k_l, ev_k_J, ev_k_n, ev_kr_1, ev_kr_0, ev_isK_y, ev_aG_y, ev_aS_y, ev_aN_y, ev_inA_0, ev_isA_0, ev_ft_I, ev_ft_0, ev_ft_1, ev_ft_o, ev_ft_a, ev_nb_0, ev_nb_1, and_true, true_and, if_true, if_false, not_true_eq_false, not_false_eq_true, nI_1, ev_fG_0, ev_fG_1, ev_fG_2, ev_fG_3, ev_fG_4, ev_fG_5, ev_fG_6, ev_fG_7, ev_fG_8, ev_fS_0, ev_fS_1, ev_fS_2, ev_fS_3, ev_fS_4, ev_fS_5, ev_fS_6, ev_fS_7, ev_fS_8, ev_isO_0, ev_isO_1, ev_isO_2, ev_isO_3, ev_isO_4, ev_isO_5, ev_isO_6, ev_isO_7, ev_isO_8, ev_z0, ev_z1, ev_z2, eq_self, ev_ofN, show ¬ (1 : Int32) = 0 from by decide, show ¬ (2 : Int32) = 0 from by decide, show ¬ (2 : Int32) = 1 from by decide, show ¬ (0 : Int32) = 1 from by decide, show ¬ (0 : Int32) = 2 from by decide, show ¬ (1 : Int32) = 2 from by decide, show ¬ (0 : Int32) = -1 from by decide, show (0 : Int32) ≤ 1 from by decide, show (1 : Int32).toNatClampNeg = 1 from rfl, show (0 : Nat) < 2 from by omega, show (1 : Nat) < 2 from by omega, not_true_eq_false, ne_eq, not_false_eq_true, e1, h6, h7, nI_leI, e2]
      exact c
theorem m_ax_app {As : List Nat} (hA : m_ax X zf As) {a : Nat} (ha : a < 20) (hl : As.length < 60) : m_ax X zf (As ++ [a]) := by
  refine ⟨hA.1, fun k hk => ?_, by rw [List.length_append, List.length_singleton]; omega⟩
  rcases List.mem_append.mp hk with h | h
  · exact hA.2.1 k h
  · rw [List.mem_singleton.mp h]; exact ha
theorem M_asks (hm : m_aw X zf y r T As H n ow) (hx : m_cx X zf y T As H n) (hA : m_ax X zf As) {a : Nat} (ha20 : a < 20) (hl : As.length < 60)
    (c : ∀ H1 n1 q1 ow1, m_aw X zf y r T (As ++ [a]) H1 n1 ow1 → (∀ z, z < y ∨ z = y + 11 → H1 z = H z) → (∀ z, n1 ≤ z → H1 z = none) → n ≤ n1 → n1 ≤ n + 1 → q ≤ q1 → q1 ≤ q + 90 → ev_low X H1 → P (.inl (some (.int (mhits (md As a As.length))))) H1 n1 q1) : ev_ok (ev_TT X) 279 0 [.ref y, .int (nI a), ev_J] [] H n q P := by
  have hx0 := hx
  obtain ⟨hZ, hw, hB, hn, hz, hT, hW⟩ := hx0
  have hB1 := hB.1
  have hB3 := hB.2.2
  have ha := m_ac_of hm hw hA
  have hf := ac_f ha
  have hkl := ac_kl ha
  have hk13 := ac_k ha
  simp (disch := omega) only [t_X8_asks_0, t_X8_asks_1, t_X8_asks_2, t_X8_asks_3, t_X8_asks_6, t_X8_asks_9, t_X8_asks_12, t_X8_asks_13, t_X8_asks_14, t_X8_asks_17, t_X8_asks_18, t_X8_asks_21, t_X8_asks_24, t_X8_asks_24_i, t_X8_asks_25, t_X8_asks_26, t_X8_asks_27, t_X8_asks_30, x_X8_asks_6, x_X8_asks_9, x_X8_asks_18, x_X8_asks_21, x_X8_asks_27, ↓reduceIte, ev_k_i, ev_k_r, ev_k_l, ev_k_J, ev_k_n, ev_kr_1, ev_kr_0, ev_isK_y, ev_aG_y, ev_aS_y, ev_aN_y, ev_inA_0, ev_isA_0, ev_ft_I, ev_ft_0, ev_ft_1, ev_ft_o, ev_ft_a, ev_nb_0, ev_nb_1, and_true, true_and, if_true, if_false, not_true_eq_false, not_false_eq_true, nI_1, ev_fG_0, ev_fG_1, ev_fG_2, ev_fG_3, ev_fG_4, ev_fG_5, ev_fG_6, ev_fG_7, ev_fG_8, ev_fS_0, ev_fS_1, ev_fS_2, ev_fS_3, ev_fS_4, ev_fS_5, ev_fS_6, ev_fS_7, ev_fS_8, ev_isO_0, ev_isO_1, ev_isO_2, ev_isO_3, ev_isO_4, ev_isO_5, ev_isO_6, ev_isO_7, ev_isO_8, ev_z0, ev_z1, ev_z2, eq_self, ev_ofN, show ¬ (1 : Int32) = 0 from by decide, show ¬ (2 : Int32) = 0 from by decide, show ¬ (2 : Int32) = 1 from by decide, show ¬ (0 : Int32) = 1 from by decide, show ¬ (0 : Int32) = 2 from by decide, show ¬ (1 : Int32) = 2 from by decide, show ¬ (0 : Int32) = -1 from by decide, show (0 : Int32) ≤ 1 from by decide, show (1 : Int32).toNatClampNeg = 1 from rfl, show (0 : Nat) < 2 from by omega, show (1 : Nat) < 2 from by omega, not_true_eq_false, ne_eq, not_false_eq_true, hf.1, hf.2, hkl, hk13]
  refine ac_size ha ?_
  simp (disch := omega) only [t_X8_asks_0, t_X8_asks_1, t_X8_asks_2, t_X8_asks_3, t_X8_asks_6, t_X8_asks_9, t_X8_asks_12, t_X8_asks_13, t_X8_asks_14, t_X8_asks_17, t_X8_asks_18, t_X8_asks_21, t_X8_asks_24, t_X8_asks_24_i, t_X8_asks_25, t_X8_asks_26, t_X8_asks_27, t_X8_asks_30, x_X8_asks_6, x_X8_asks_9, x_X8_asks_18, x_X8_asks_21, x_X8_asks_27, ↓reduceIte, ev_k_i, ev_k_r, ev_k_l, ev_k_J, ev_k_n, ev_kr_1, ev_kr_0, ev_isK_y, ev_aG_y, ev_aS_y, ev_aN_y, ev_inA_0, ev_isA_0, ev_ft_I, ev_ft_0, ev_ft_1, ev_ft_o, ev_ft_a, ev_nb_0, ev_nb_1, and_true, true_and, if_true, if_false, not_true_eq_false, not_false_eq_true, nI_1, ev_fG_0, ev_fG_1, ev_fG_2, ev_fG_3, ev_fG_4, ev_fG_5, ev_fG_6, ev_fG_7, ev_fG_8, ev_fS_0, ev_fS_1, ev_fS_2, ev_fS_3, ev_fS_4, ev_fS_5, ev_fS_6, ev_fS_7, ev_fS_8, ev_isO_0, ev_isO_1, ev_isO_2, ev_isO_3, ev_isO_4, ev_isO_5, ev_isO_6, ev_isO_7, ev_isO_8, ev_z0, ev_z1, ev_z2, eq_self, ev_ofN, show ¬ (1 : Int32) = 0 from by decide, show ¬ (2 : Int32) = 0 from by decide, show ¬ (2 : Int32) = 1 from by decide, show ¬ (0 : Int32) = 1 from by decide, show ¬ (0 : Int32) = 2 from by decide, show ¬ (1 : Int32) = 2 from by decide, show ¬ (0 : Int32) = -1 from by decide, show (0 : Int32) ≤ 1 from by decide, show (1 : Int32).toNatClampNeg = 1 from rfl, show (0 : Nat) < 2 from by omega, show (1 : Nat) < 2 from by omega, not_true_eq_false, ne_eq, not_false_eq_true, hk13]
  refine M_depthOf ha (by omega) (Nat.le_refl _) ?_
  have hml := md_le (As := As) (a := a) (p := As.length)
  simp (disch := omega) only [t_X8_asks_0, t_X8_asks_1, t_X8_asks_2, t_X8_asks_3, t_X8_asks_6, t_X8_asks_9, t_X8_asks_12, t_X8_asks_13, t_X8_asks_14, t_X8_asks_17, t_X8_asks_18, t_X8_asks_21, t_X8_asks_24, t_X8_asks_24_i, t_X8_asks_25, t_X8_asks_26, t_X8_asks_27, t_X8_asks_30, x_X8_asks_6, x_X8_asks_9, x_X8_asks_18, x_X8_asks_21, x_X8_asks_27, ↓reduceIte, ev_k_i, ev_k_r, ev_k_l, ev_k_J, ev_k_n, ev_kr_1, ev_kr_0, ev_isK_y, ev_aG_y, ev_aS_y, ev_aN_y, ev_inA_0, ev_isA_0, ev_ft_I, ev_ft_0, ev_ft_1, ev_ft_o, ev_ft_a, ev_nb_0, ev_nb_1, and_true, true_and, if_true, if_false, not_true_eq_false, not_false_eq_true, nI_1, ev_fG_0, ev_fG_1, ev_fG_2, ev_fG_3, ev_fG_4, ev_fG_5, ev_fG_6, ev_fG_7, ev_fG_8, ev_fS_0, ev_fS_1, ev_fS_2, ev_fS_3, ev_fS_4, ev_fS_5, ev_fS_6, ev_fS_7, ev_fS_8, ev_isO_0, ev_isO_1, ev_isO_2, ev_isO_3, ev_isO_4, ev_isO_5, ev_isO_6, ev_isO_7, ev_isO_8, ev_z0, ev_z1, ev_z2, eq_self, ev_ofN, show ¬ (1 : Int32) = 0 from by decide, show ¬ (2 : Int32) = 0 from by decide, show ¬ (2 : Int32) = 1 from by decide, show ¬ (0 : Int32) = 1 from by decide, show ¬ (0 : Int32) = 2 from by decide, show ¬ (1 : Int32) = 2 from by decide, show ¬ (0 : Int32) = -1 from by decide, show (0 : Int32) ≤ 1 from by decide, show (1 : Int32).toNatClampNeg = 1 from rfl, show (0 : Nat) < 2 from by omega, show (1 : Nat) < 2 from by omega, not_true_eq_false, ne_eq, not_false_eq_true, hf.1, hf.2]
  refine I_val hA.1 hw (by omega) ?_
  simp (disch := omega) only [t_X8_asks_0, t_X8_asks_1, t_X8_asks_2, t_X8_asks_3, t_X8_asks_6, t_X8_asks_9, t_X8_asks_12, t_X8_asks_13, t_X8_asks_14, t_X8_asks_17, t_X8_asks_18, t_X8_asks_21, t_X8_asks_24, t_X8_asks_24_i, t_X8_asks_25, t_X8_asks_26, t_X8_asks_27, t_X8_asks_30, x_X8_asks_6, x_X8_asks_9, x_X8_asks_18, x_X8_asks_21, x_X8_asks_27, ↓reduceIte, ev_k_i, ev_k_r, ev_k_l, ev_k_J, ev_k_n, ev_kr_1, ev_kr_0, ev_isK_y, ev_aG_y, ev_aS_y, ev_aN_y, ev_inA_0, ev_isA_0, ev_ft_I, ev_ft_0, ev_ft_1, ev_ft_o, ev_ft_a, ev_nb_0, ev_nb_1, and_true, true_and, if_true, if_false, not_true_eq_false, not_false_eq_true, nI_1, ev_fG_0, ev_fG_1, ev_fG_2, ev_fG_3, ev_fG_4, ev_fG_5, ev_fG_6, ev_fG_7, ev_fG_8, ev_fS_0, ev_fS_1, ev_fS_2, ev_fS_3, ev_fS_4, ev_fS_5, ev_fS_6, ev_fS_7, ev_fS_8, ev_isO_0, ev_isO_1, ev_isO_2, ev_isO_3, ev_isO_4, ev_isO_5, ev_isO_6, ev_isO_7, ev_isO_8, ev_z0, ev_z1, ev_z2, eq_self, ev_ofN, show ¬ (1 : Int32) = 0 from by decide, show ¬ (2 : Int32) = 0 from by decide, show ¬ (2 : Int32) = 1 from by decide, show ¬ (0 : Int32) = 1 from by decide, show ¬ (0 : Int32) = 2 from by decide, show ¬ (1 : Int32) = 2 from by decide, show ¬ (0 : Int32) = -1 from by decide, show (0 : Int32) ≤ 1 from by decide, show (1 : Int32).toNatClampNeg = 1 from rfl, show (0 : Nat) < 2 from by omega, show (1 : Nat) < 2 from by omega, not_true_eq_false, ne_eq, not_false_eq_true, hkl]
  have hm0 := hm
  obtain ⟨g1, ⟨f, g2, g2b⟩, g3, e, g4, g5⟩ := hm0
  have hzc : ∃ v, X.2.2.2.2.1 (zf a) = some (.inr (2, v)) ∧ zf a < X.1.heap.size := by
    obtain ⟨N, cf, i1, i2, i3, i4, i5⟩ := hA.1
    obtain ⟨j1, j2, j3⟩ := i5 a (by omega)
    exact ⟨_, j2, j3⟩
  obtain ⟨zv, hz1, hz2⟩ := hzc
  have hel : ev_el X H (.ref (zf a)) := Or.inr ⟨_, rfl, Or.inr ⟨2, _, rfl, rfl, zv, ev_lk_o (hw _ hz2) hz1⟩⟩
  refine L_add g4 (by rw [List.length_map]; omega) hel (by omega) (hz n (Nat.le_refl n)) (hB.2.1 n (by omega)) (by omega) fun H1 e1 n1 q1 f1 f2 f3 => ?_
  have hn1 : n ≤ n1 ∧ n1 ≤ n + 1 ∧ q ≤ q1 ∧ q1 ≤ q + 90 := by
    rcases f3 with ⟨a1, b1, c1, -⟩ | ⟨a1, b1, c1, d1⟩
    · exact ⟨by omega, by omega, by omega, by omega⟩
    · exact ⟨by omega, by omega, c1, d1⟩
  have hee : ∀ z, ¬ (y + 12 ≤ z ∧ z < n ∧ ow z = 4) → (¬ z = e ∨ H e = none) := fun z hzz => by
    rcases g5 with ⟨-, -, g5⟩ | g5
    · exact Or.inr g5
    · exact Or.inl fun zz => hzz (zz ▸ g5)
  have hlow1 : ev_low X H1 := fun z hzz => (f2 z (by omega) (hee z (fun w => by omega)) (Or.inl (by omega))).trans (hw z hzz)
  have hm1 : m_aw X zf y r T (As ++ [a]) H1 n1 (m_ow ow n 4) := by
    refine ⟨(f2 y (by omega) (hee y (fun w => by omega)) (Or.inl (by omega))).trans g1, ⟨f, (f2 _ (by omega) (hee _ (fun w => by omega)) (Or.inl (by omega))).trans g2, g2b⟩, fun j hj => ?_, e1, ?_, ?_⟩
    · obtain ⟨a1, qs', a2, a3⟩ := g3 j hj
      refine ⟨(f2 _ (by omega) (hee _ (fun w => by omega)) (Or.inl (by omega))).trans a1, qs', m_lst_cg a2 hn1.1 (fun z hzz => ?_) (fun z b1 b2 b3 => (m_ow_l b2).trans b3), a3⟩
      rcases hzz with rfl | ⟨b1, b2, b3⟩ | ⟨b1, b2⟩
      · exact f2 _ (by omega) (hee _ (fun w => by omega)) (Or.inl (by omega))
      · exact f2 z (by omega) (hee z (fun w => by omega)) (Or.inl (by omega))
      · exact f2 z (by omega) (hee z (fun w => by omega)) (Or.inl (by omega))
    · rw [List.map_append]
      exact f1
    · rcases f3 with ⟨a1, b1, c1, cc, d1⟩ | ⟨a1, b1, c1, d1⟩
      · rcases g5 with ⟨-, -, g5⟩ | g5
        · rw [g5] at d1; cases d1
        · right
          rw [a1]
          exact ⟨g5.1, by omega, (m_ow_l g5.2.1).trans g5.2.2⟩
      · right
        exact ⟨by omega, by omega, m_ow_g (by omega)⟩
  have hk1 := m_k13 hm1
  have hfr : ∀ z, z < y ∨ z = y + 11 → H1 z = H z := fun z hzz => f2 z (by omega) (hee z (fun w => by omega)) (Or.inl (by omega))
  have hfs : ∀ z, n1 ≤ z → H1 z = none := fun z hzz => (f2 z (by omega) (hee z (fun w => by omega)) (by rcases f3 with ⟨a1, b1, -⟩ | ⟨a1, b1, -⟩; exact Or.inr b1; exact Or.inl (by omega))).trans (hz z (by omega))
  simp (disch := omega) only [t_X8_asks_0, t_X8_asks_1, t_X8_asks_2, t_X8_asks_3, t_X8_asks_6, t_X8_asks_9, t_X8_asks_12, t_X8_asks_13, t_X8_asks_14, t_X8_asks_17, t_X8_asks_18, t_X8_asks_21, t_X8_asks_24, t_X8_asks_24_i, t_X8_asks_25, t_X8_asks_26, t_X8_asks_27, t_X8_asks_30, x_X8_asks_6, x_X8_asks_9, x_X8_asks_18, x_X8_asks_21, x_X8_asks_27, ↓reduceIte, ev_k_i, ev_k_r, ev_k_l, ev_k_J, ev_k_n, ev_kr_1, ev_kr_0, ev_isK_y, ev_aG_y, ev_aS_y, ev_aN_y, ev_inA_0, ev_isA_0, ev_ft_I, ev_ft_0, ev_ft_1, ev_ft_o, ev_ft_a, ev_nb_0, ev_nb_1, and_true, true_and, if_true, if_false, not_true_eq_false, not_false_eq_true, nI_1, ev_fG_0, ev_fG_1, ev_fG_2, ev_fG_3, ev_fG_4, ev_fG_5, ev_fG_6, ev_fG_7, ev_fG_8, ev_fS_0, ev_fS_1, ev_fS_2, ev_fS_3, ev_fS_4, ev_fS_5, ev_fS_6, ev_fS_7, ev_fS_8, ev_isO_0, ev_isO_1, ev_isO_2, ev_isO_3, ev_isO_4, ev_isO_5, ev_isO_6, ev_isO_7, ev_isO_8, ev_z0, ev_z1, ev_z2, eq_self, ev_ofN, show ¬ (1 : Int32) = 0 from by decide, show ¬ (2 : Int32) = 0 from by decide, show ¬ (2 : Int32) = 1 from by decide, show ¬ (0 : Int32) = 1 from by decide, show ¬ (0 : Int32) = 2 from by decide, show ¬ (1 : Int32) = 2 from by decide, show ¬ (0 : Int32) = -1 from by decide, show (0 : Int32) ≤ 1 from by decide, show (1 : Int32).toNatClampNeg = 1 from rfl, show (0 : Nat) < 2 from by omega, show (1 : Nat) < 2 from by omega, not_true_eq_false, ne_eq, not_false_eq_true, hk1]
  refine M_hitsOf (by omega) ?_
  simp (disch := omega) only [t_X8_asks_0, t_X8_asks_1, t_X8_asks_2, t_X8_asks_3, t_X8_asks_6, t_X8_asks_9, t_X8_asks_12, t_X8_asks_13, t_X8_asks_14, t_X8_asks_17, t_X8_asks_18, t_X8_asks_21, t_X8_asks_24, t_X8_asks_24_i, t_X8_asks_25, t_X8_asks_26, t_X8_asks_27, t_X8_asks_30, x_X8_asks_6, x_X8_asks_9, x_X8_asks_18, x_X8_asks_21, x_X8_asks_27, ↓reduceIte, ev_k_i, ev_k_r, ev_k_l, ev_k_J, ev_k_n, ev_kr_1, ev_kr_0, ev_isK_y, ev_aG_y, ev_aS_y, ev_aN_y, ev_inA_0, ev_isA_0, ev_ft_I, ev_ft_0, ev_ft_1, ev_ft_o, ev_ft_a, ev_nb_0, ev_nb_1, and_true, true_and, if_true, if_false, not_true_eq_false, not_false_eq_true, nI_1, ev_fG_0, ev_fG_1, ev_fG_2, ev_fG_3, ev_fG_4, ev_fG_5, ev_fG_6, ev_fG_7, ev_fG_8, ev_fS_0, ev_fS_1, ev_fS_2, ev_fS_3, ev_fS_4, ev_fS_5, ev_fS_6, ev_fS_7, ev_fS_8, ev_isO_0, ev_isO_1, ev_isO_2, ev_isO_3, ev_isO_4, ev_isO_5, ev_isO_6, ev_isO_7, ev_isO_8, ev_z0, ev_z1, ev_z2, eq_self, ev_ofN, show ¬ (1 : Int32) = 0 from by decide, show ¬ (2 : Int32) = 0 from by decide, show ¬ (2 : Int32) = 1 from by decide, show ¬ (0 : Int32) = 1 from by decide, show ¬ (0 : Int32) = 2 from by decide, show ¬ (1 : Int32) = 2 from by decide, show ¬ (0 : Int32) = -1 from by decide, show (0 : Int32) ≤ 1 from by decide, show (1 : Int32).toNatClampNeg = 1 from rfl, show (0 : Nat) < 2 from by omega, show (1 : Nat) < 2 from by omega, not_true_eq_false, ne_eq, not_false_eq_true, hk1]
  exact c H1 n1 q1 _ hm1 hfr hfs hn1.1 hn1.2.1 hn1.2.2.1 hn1.2.2.2 hlow1
end M67
