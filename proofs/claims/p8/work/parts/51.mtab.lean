/-! ===== the reference: steps on a table ===== -/
def ps_L (s : ev_TS) (L : ev_PL) : ev_TS := (L, s.2)
def m_two (k v : Int32) : Nat → Value := fun i => if i = 0 then .int k else if i = 1 then .int v else .int 0
section M51
variable {X : ev_E} {y i : Nat} {r r1 : Int32 × Int32 × Int32} {H H0 H1 : ev_M} {n0 q0 cN cQ : Nat} {ow ow0 : Nat → Nat} {s s1 : ev_TS} {qs : m_Q} {n q : Nat} {P : ev_O → ev_M → Nat → Nat → Prop}
theorem mc_lk (hC : m_cur X y i H0 n0 q0 ow0 cN cQ r s H n q ow qs) : ev_lk X H (y + 2 + 2 * i) = some (m_tbc (y + 3 + 2 * i) s) := ev_lk_s hC.2.1
theorem mc_tk (hC : m_cur X y i H0 n0 q0 ow0 cN cQ r s H n q ow qs) : ev_isK (ev_lk X H (y + 2 + 2 * i)) 12 = True := by
  rw [mc_lk hC]
  exact ev_isK_y
theorem mc_len (hC : m_cur X y i H0 n0 q0 ow0 cN cQ r s H n q ow qs) : s.1.length = qs.length := m_ln hC.2.2.2.1
theorem mc_kl (hC : m_cur X y i H0 n0 q0 ow0 cN cQ r s H n q ow qs) : ev_isK (ev_lk X H (y + 3 + 2 * i)) 4 = True := ML_k hC.2.2.1
theorem mc_pair (hC : m_cur X y i H0 n0 q0 ow0 cN cQ r s H n q ow qs) {j : Nat} (hj : j < qs.length) : ∃ g : Nat → Value, H qs[j].1 = some (.inl (0, 2, g)) ∧ g 0 = .int (pf_at s.1 j).1 ∧ g 1 = .int (pf_at s.1 j).2 := by
  obtain ⟨e, -, -, h3, -⟩ := hC.2.2.1
  rw [m_at hC.2.2.2.1 hj]
  exact (h3 _ (List.getElem_mem hj)).2.2.2
theorem mc_in (hC : m_cur X y i H0 n0 q0 ow0 cN cQ r s H n q ow qs) {j : Nat} (hj : j < qs.length) : y + 12 ≤ qs[j].1 ∧ qs[j].1 < n ∧ ow qs[j].1 = i := by
  obtain ⟨e, -, -, h3, -⟩ := hC.2.2.1
  have := h3 _ (List.getElem_mem hj)
  exact ⟨this.1, this.2.1, this.2.2.1⟩
theorem mc_frame (hC : m_cur X y i H0 n0 q0 ow0 cN cQ r s H n q ow qs) {ow1 : Nat → Nat} {n1 q1 : Nat} {c2 d2 : Nat} {qs1 : m_Q} (hf : ∀ a, a < n → ¬ a = y → ¬ a = y + 2 + 2 * i → ¬ a = y + 3 + 2 * i → ¬ (y + 12 ≤ a ∧ ow a = i) → H1 a = H a) (ho : ∀ a, a < n → ow1 a = ow a) (h1 : H1 y = some (m_top y r)) (h2 : H1 (y + 2 + 2 * i) = some (m_tbc (y + 3 + 2 * i) s1)) (hM : m_lst X H1 (y + 3 + 2 * i) (y + 12) n1 ow1 i qs1) (hq : qs1.map Prod.snd = s1.1) (hz : ∀ a, n1 ≤ a → H1 a = none) (hn : n ≤ n1) (hcn : n1 + cN ≤ n + c2) (hqq : q ≤ q1) (hcq : q1 + cQ ≤ q + d2) : m_cur X y i H0 n0 q0 ow0 c2 d2 r s1 H1 n1 q1 ow1 qs1 := by
  obtain ⟨c1, c2', c3, c4, c5, c6, c7, c8, c9, c10, c11⟩ := hC
  refine ⟨h1, h2, hM, hq, fun a a1 a2 a3 a4 a5 => ?_, fun a ha => (ho a (by omega)).trans (c6 a ha), hz, by omega, by omega, by omega, by omega⟩
  exact (hf a (by omega) a2 a3 a4 (fun z => a5 ⟨z.1, (c6 a a1).symm.trans z.2⟩)).trans (c5 a a1 a2 a3 a4 a5)
theorem mc_setv (hB : ev_bs X y) (hi : i < 4) (hn : y + 12 ≤ n0) (hC : m_cur X y i H0 n0 q0 ow0 cN cQ r s H n q ow qs) {j : Nat} (hj : j < qs.length) {g : Nat → Value} (hg : H qs[j].1 = some (.inl (0, 2, g))) (v : Int32) : m_cur X y i H0 n0 q0 ow0 cN cQ r (ps_L s (s.1.set j ((pf_at s.1 j).1, v))) (ev_up H qs[j].1 (.inl (0, 2, updV g 1 (.int v)))) n q ow (qs.set j (qs[j].1, qs[j].2.1, v)) := by
  have hin := mc_in hC hj
  have hC0 := hC
  obtain ⟨c1, c2, c3, c4, c5, c6, c7, c8, c9, c10, c11⟩ := hC0
  refine mc_frame (c2 := cN) (d2 := cQ) hC (fun a a1 a2 a3 a4 a5 => ev_up_n (fun z => a5 (z ▸ ⟨hin.1, hin.2.2⟩))) (fun _ _ => rfl) ((ev_up_n (by omega)).trans c1) ((ev_up_n (by omega)).trans c2) (ML_set c3 hj hg v) ?_ (fun a ha => (ev_up_n (by omega)).trans (c7 a ha)) (Nat.le_refl _) (Nat.le_refl _) (Nat.le_refl _) (Nat.le_refl _)
  unfold ps_L
  rw [List.map_set, c4, m_at c4 hj]
theorem mc_remove (hC : m_cur X y i H0 n0 q0 ow0 cN cQ r s H n q ow qs) (hi : i < 4) (hn : y + 12 ≤ n0) (hL : qs.length < 90) {j : Nat} (hj : j < qs.length)
    (k : ∀ H1, m_cur X y i H0 n0 q0 ow0 cN cQ r (ps_L s (s.1.eraseIdx j)) H1 n q ow (qs.eraseIdx j) → H1 qs[j].1 = H qs[j].1 → P (.inl (some (.ref qs[j].1))) H1 n q) : ev_ok (ev_TT X) 131 0 [.ref (y + 3 + 2 * i), .int (nI j), ev_J, ev_J] [] H n q P := by
  have hC0 := hC
  obtain ⟨c1, c2, c3, c4, c5, c6, c7, c8, c9, c10, c11⟩ := hC0
  refine ML_remove c3 hL hj fun H1 g1 g2 g3 g4 => k H1 (mc_frame (c2 := cN) (d2 := cQ) hC (fun a a1 a2 a3 a4 a5 => g2 a a1 a4 a5) (fun _ _ => rfl) ((g2 y (by omega) (by omega) (by omega)).trans c1) ((g2 _ (by omega) (by omega) (by omega)).trans c2) g1 ?_ (fun a ha => (g4 a ha (by omega)).trans (c7 a ha)) (Nat.le_refl _) (Nat.le_refl _) (Nat.le_refl _) (Nat.le_refl _)) g3
  rw [ls_mapE, c4]; rfl
theorem mc_add (hB : ev_bs X y) (hC : m_cur X y i H0 n0 q0 ow0 cN cQ r s H n q ow qs) (hi : i < 4) (hn : y + 12 ≤ n0) (hL : qs.length ≤ 60) {z : Nat × Int32 × Int32} (hz : y + 12 ≤ z.1 ∧ z.1 < n ∧ ow z.1 = i ∧ m_pc z.2 (H z.1)) (hq : z.1 ∉ qs.map Prod.fst)
    (k : ∀ H1 n1 q1 ow1, m_cur X y i H0 n0 q0 ow0 (cN + 1) (cQ + 90) r (ps_L s (s.1 ++ [z.2])) H1 n1 q1 ow1 (qs ++ [z]) → P (.inl (some (.int 1))) H1 n1 q1) : ev_ok (ev_TT X) 262 0 [.ref (y + 3 + 2 * i), .ref z.1] [] H n q P := by
  have hC0 := hC
  obtain ⟨c1, c2, c3, c4, c5, c6, c7, c8, c9, c10, c11⟩ := hC0
  have hB1 : ev_bs X (y + 12) := ⟨by have := hB.1; omega, hB.2⟩
  refine ML_add c3 hL hz hq c7 hB1 (by omega) (by omega) fun H1 n1 q1 g1 g2 g3 g4 g5 g6 g7 => k H1 n1 q1 _ (mc_frame (c2 := cN + 1) (d2 := cQ + 90) hC (fun a a1 a2 a3 a4 a5 => g2 a a1 a4 a5) (fun a ha => m_ow_l ha) ((g2 y (by omega) (by omega) (by omega)).trans c1) ((g2 _ (by omega) (by omega) (by omega)).trans c2) g1 ?_ g3 g4 (by omega) g6 (by omega))
  rw [List.map_append, c4]; rfl
/-- a new pair, made at n -/
theorem mc_new (hB : ev_bs X y) (hi : i < 4) (hn : y + 12 ≤ n0) (hC : m_cur X y i H0 n0 q0 ow0 cN cQ r s H n q ow qs) (g : Nat → Value) (d : Nat) : m_cur X y i H0 n0 q0 ow0 (cN + 1) (cQ + d) r s (ev_up H n (.inl (0, 2, g))) (n + 1) (q + d) (m_ow ow n i) qs := by
  have hC0 := hC
  obtain ⟨c1, c2, c3, c4, c5, c6, c7, c8, c9, c10, c11⟩ := hC0
  have hB1 := hB.1
  have hB2 := hB.2.2
  refine mc_frame (c2 := cN + 1) (d2 := cQ + d) hC (fun a a1 a2 a3 a4 a5 => ev_up_n (by omega)) (fun a ha => m_ow_l ha) ((ev_up_n (by omega)).trans c1) ((ev_up_n (by omega)).trans c2) (m_lst_cg c3 (by omega) (fun a ha => ev_up_n ?_) (fun a a1 a2 a3 => (m_ow_l a2).trans a3)) c4 (fun a ha => (ev_up_n (by omega)).trans (c7 a (by omega))) (by omega) (by omega) (by omega) (by omega)
  rcases ha with rfl | ⟨a1, a2, a3⟩ | ⟨a1, a2⟩ <;> omega
theorem mc_addnew (hB : ev_bs X y) (hC : m_cur X y i H0 n0 q0 ow0 cN cQ r s H n q ow qs) (hi : i < 4) (hn : y + 12 ≤ n0) (hL : qs.length ≤ 60) {g : Nat → Value} {a b : Int32} (h0 : g 0 = .int a) (h1 : g 1 = .int b)
    (k : ∀ H1 n1 q1 ow1 qs1, m_cur X y i H0 n0 q0 ow0 (cN + 2) (cQ + 92) r (ps_L s (s.1 ++ [(a, b)])) H1 n1 q1 ow1 qs1 → P (.inl (some (.int 1))) H1 n1 q1) : ev_ok (ev_TT X) 262 0 [.ref (y + 3 + 2 * i), .ref n] [] (ev_up H n (.inl (0, 2, g))) (n + 1) (q + 2) P := by
  have hC1 := mc_new hB hi hn hC g 2
  have hnq : (n, a, b).1 ∉ qs.map Prod.fst := fun hm => by
    obtain ⟨z, hz, e⟩ := List.mem_map.mp hm
    obtain ⟨ee, -, -, h3, -⟩ := hC.2.2.1
    have := (h3 z hz).2.1
    dsimp only at e
    omega
  have hge := hC.2.2.2.2.2.2.2.1
  exact mc_add hB hC1 hi hn hL (z := (n, a, b)) ⟨by dsimp only; omega, by dsimp only; omega, m_ow_g (Nat.le_refl n), g, ev_up_s, h0, h1⟩ hnq fun H1 n1 q1 ow1 g1 => k H1 n1 q1 ow1 _ g1
theorem M_place (hC : m_cur X y i H0 n0 q0 ow0 cN cQ r s H n q ow qs) (hl : s.1.length ≤ 20) {k : Int32} (c : P (.inl (some (.int (pf_place s.1 k)))) H n q) : ev_ok (ev_TT X) 208 0 [.ref (y + 2 + 2 * i), .int k, ev_J] [] H n q P := by
  have hlk := mc_lk hC
  unfold m_tbc at hlk
  have hlen := mc_len hC
  have hkl := mc_kl hC
  have key : ∀ d j, j + d = qs.length → (∀ j', j' < j → ¬ (pf_at s.1 j').1 = k) → ev_ok (ev_TT X) 208 2 [.ref (y + 2 + 2 * i), .int k, .int (nI j)] [] H n q P := by
    intro d
    induction d with
    | zero =>
      intro j hj hne
      have hi2 : qs.length ≤ j := by omega
      have e : pf_place s.1 k = -1 := by
        unfold pf_place
        rw [pf_none (fun j' hj' => hne j' (by omega))]
      rw [e] at c
      simp (disch := omega) only [t_X7_place_0, t_X7_place_1, t_X7_place_2, t_X7_place_3, t_X7_place_4, t_X7_place_7, t_X7_place_10, t_X7_place_13, t_X7_place_14, t_X7_place_17, t_X7_place_18, t_X7_place_21, t_X7_place_24, t_X7_place_25, t_X7_place_26, t_X7_place_27, t_X7_place_30, t_X7_place_31, t_X7_place_32, t_X7_place_35, t_X7_place_38, t_X7_place_39, x_X7_place_7, x_X7_place_18, ↓reduceIte, ev_k_i, ev_k_r, ev_k_l, ev_k_J, ev_k_n, ev_kr_1, ev_kr_0, ev_isK_y, ev_aG_y, ev_aS_y, ev_aN_y, ev_inA_0, ev_isA_0, ev_ft_I, ev_ft_0, ev_ft_1, ev_ft_o, ev_ft_a, ev_nb_0, ev_nb_1, and_true, true_and, if_true, if_false, not_true_eq_false, not_false_eq_true, nI_1, ev_fG_0, ev_fG_1, ev_fG_2, ev_fG_3, ev_fG_4, ev_fG_5, ev_fG_6, ev_fG_7, ev_fG_8, ev_fS_0, ev_fS_1, ev_fS_2, ev_fS_3, ev_fS_4, ev_fS_5, ev_fS_6, ev_fS_7, ev_fS_8, ev_isO_0, ev_isO_1, ev_isO_2, ev_isO_3, ev_isO_4, ev_isO_5, ev_isO_6, ev_isO_7, ev_isO_8, ev_z0, ev_z1, ev_z2, eq_self, ev_ofN, ev_lku_s, ev_lku_n, ev_up_s, ev_up_n, hlk, hkl]
      refine ML_size hC.2.2.1 ?_
      simp (disch := omega) only [t_X7_place_0, t_X7_place_1, t_X7_place_3, t_X7_place_4, t_X7_place_7, t_X7_place_10, t_X7_place_13, t_X7_place_14, t_X7_place_17, t_X7_place_18, t_X7_place_21, t_X7_place_24, t_X7_place_25, t_X7_place_26, t_X7_place_27, t_X7_place_30, t_X7_place_31, t_X7_place_32, t_X7_place_35, t_X7_place_38, t_X7_place_39, x_X7_place_7, x_X7_place_18, ↓reduceIte, ev_k_i, ev_k_r, ev_k_l, ev_k_J, ev_k_n, ev_kr_1, ev_kr_0, ev_isK_y, ev_aG_y, ev_aS_y, ev_aN_y, ev_inA_0, ev_isA_0, ev_ft_I, ev_ft_0, ev_ft_1, ev_ft_o, ev_ft_a, ev_nb_0, ev_nb_1, and_true, true_and, if_true, if_false, not_true_eq_false, not_false_eq_true, nI_1, ev_fG_0, ev_fG_1, ev_fG_2, ev_fG_3, ev_fG_4, ev_fG_5, ev_fG_6, ev_fG_7, ev_fG_8, ev_fS_0, ev_fS_1, ev_fS_2, ev_fS_3, ev_fS_4, ev_fS_5, ev_fS_6, ev_fS_7, ev_fS_8, ev_isO_0, ev_isO_1, ev_isO_2, ev_isO_3, ev_isO_4, ev_isO_5, ev_isO_6, ev_isO_7, ev_isO_8, ev_z0, ev_z1, ev_z2, eq_self, ev_ofN, ev_lku_s, ev_lku_n, ev_up_s, ev_up_n, nI_leI, hi2]
      exact c
    | succ d ih =>
      intro j hj hne
      have hi2 : ¬ qs.length ≤ j := by omega
      have hjq : j < qs.length := by omega
      have h90 : qs.length < 90 := by omega
      obtain ⟨g, g0, g1, g2⟩ := mc_pair hC hjq
      have hak : ev_isAk (H qs[j].1) 0 = True := by rw [g0]; exact ev_isAk_y
      rw [t_X7_place_2]
      simp (disch := omega) only [t_X7_place_0, t_X7_place_1, t_X7_place_3, t_X7_place_4, t_X7_place_7, t_X7_place_10, t_X7_place_13, t_X7_place_14, t_X7_place_17, t_X7_place_18, t_X7_place_21, t_X7_place_24, t_X7_place_25, t_X7_place_26, t_X7_place_27, t_X7_place_30, t_X7_place_31, t_X7_place_32, t_X7_place_35, t_X7_place_38, t_X7_place_39, x_X7_place_7, x_X7_place_18, ↓reduceIte, ev_k_i, ev_k_r, ev_k_l, ev_k_J, ev_k_n, ev_kr_1, ev_kr_0, ev_isK_y, ev_aG_y, ev_aS_y, ev_aN_y, ev_inA_0, ev_isA_0, ev_ft_I, ev_ft_0, ev_ft_1, ev_ft_o, ev_ft_a, ev_nb_0, ev_nb_1, and_true, true_and, if_true, if_false, not_true_eq_false, not_false_eq_true, nI_1, ev_fG_0, ev_fG_1, ev_fG_2, ev_fG_3, ev_fG_4, ev_fG_5, ev_fG_6, ev_fG_7, ev_fG_8, ev_fS_0, ev_fS_1, ev_fS_2, ev_fS_3, ev_fS_4, ev_fS_5, ev_fS_6, ev_fS_7, ev_fS_8, ev_isO_0, ev_isO_1, ev_isO_2, ev_isO_3, ev_isO_4, ev_isO_5, ev_isO_6, ev_isO_7, ev_isO_8, ev_z0, ev_z1, ev_z2, eq_self, ev_ofN, ev_lku_s, ev_lku_n, ev_up_s, ev_up_n, hlk, hkl]
      refine ML_size hC.2.2.1 ?_
      simp (disch := omega) only [t_X7_place_0, t_X7_place_1, t_X7_place_3, t_X7_place_4, t_X7_place_7, t_X7_place_10, t_X7_place_13, t_X7_place_14, t_X7_place_17, t_X7_place_18, t_X7_place_21, t_X7_place_24, t_X7_place_25, t_X7_place_26, t_X7_place_27, t_X7_place_30, t_X7_place_31, t_X7_place_32, t_X7_place_35, t_X7_place_38, t_X7_place_39, x_X7_place_7, x_X7_place_18, ↓reduceIte, ev_k_i, ev_k_r, ev_k_l, ev_k_J, ev_k_n, ev_kr_1, ev_kr_0, ev_isK_y, ev_aG_y, ev_aS_y, ev_aN_y, ev_inA_0, ev_isA_0, ev_ft_I, ev_ft_0, ev_ft_1, ev_ft_o, ev_ft_a, ev_nb_0, ev_nb_1, and_true, true_and, if_true, if_false, not_true_eq_false, not_false_eq_true, nI_1, ev_fG_0, ev_fG_1, ev_fG_2, ev_fG_3, ev_fG_4, ev_fG_5, ev_fG_6, ev_fG_7, ev_fG_8, ev_fS_0, ev_fS_1, ev_fS_2, ev_fS_3, ev_fS_4, ev_fS_5, ev_fS_6, ev_fS_7, ev_fS_8, ev_isO_0, ev_isO_1, ev_isO_2, ev_isO_3, ev_isO_4, ev_isO_5, ev_isO_6, ev_isO_7, ev_isO_8, ev_z0, ev_z1, ev_z2, eq_self, ev_ofN, ev_lku_s, ev_lku_n, ev_up_s, ev_up_n, hlk, hkl, nI_leI, hi2]
      refine ML_get hC.2.2.1 h90 hjq ?_
      by_cases e : (pf_at s.1 j).1 = k
      · have e2 : pf_place s.1 k = nI j := by
          unfold pf_place
          rw [pf_some (by omega) e hne]
        rw [e2] at c
        simp (disch := omega) only [t_X7_place_0, t_X7_place_1, t_X7_place_3, t_X7_place_4, t_X7_place_7, t_X7_place_10, t_X7_place_13, t_X7_place_14, t_X7_place_17, t_X7_place_18, t_X7_place_21, t_X7_place_24, t_X7_place_25, t_X7_place_26, t_X7_place_27, t_X7_place_30, t_X7_place_31, t_X7_place_32, t_X7_place_35, t_X7_place_38, t_X7_place_39, x_X7_place_7, x_X7_place_18, ↓reduceIte, ev_k_i, ev_k_r, ev_k_l, ev_k_J, ev_k_n, ev_kr_1, ev_kr_0, ev_isK_y, ev_aG_y, ev_aS_y, ev_aN_y, ev_inA_0, ev_isA_0, ev_ft_I, ev_ft_0, ev_ft_1, ev_ft_o, ev_ft_a, ev_nb_0, ev_nb_1, and_true, true_and, if_true, if_false, not_true_eq_false, not_false_eq_true, nI_1, ev_fG_0, ev_fG_1, ev_fG_2, ev_fG_3, ev_fG_4, ev_fG_5, ev_fG_6, ev_fG_7, ev_fG_8, ev_fS_0, ev_fS_1, ev_fS_2, ev_fS_3, ev_fS_4, ev_fS_5, ev_fS_6, ev_fS_7, ev_fS_8, ev_isO_0, ev_isO_1, ev_isO_2, ev_isO_3, ev_isO_4, ev_isO_5, ev_isO_6, ev_isO_7, ev_isO_8, ev_z0, ev_z1, ev_z2, eq_self, ev_ofN, ev_lku_s, ev_lku_n, ev_up_s, ev_up_n, hlk, hak, ev_lk_s g0, g1, e, ev_z0, show (0 : Nat) < 2 from by omega, ne_eq]
        exact c
      · have hI := ih (j + 1) (by omega) (fun j' hj' => by
          by_cases e3 : j' = j
          · rw [e3]; exact e
          · exact hne j' (by omega))
        simp (disch := omega) only [t_X7_place_0, t_X7_place_1, t_X7_place_3, t_X7_place_4, t_X7_place_7, t_X7_place_10, t_X7_place_13, t_X7_place_14, t_X7_place_17, t_X7_place_18, t_X7_place_21, t_X7_place_24, t_X7_place_25, t_X7_place_26, t_X7_place_27, t_X7_place_30, t_X7_place_31, t_X7_place_32, t_X7_place_35, t_X7_place_38, t_X7_place_39, x_X7_place_7, x_X7_place_18, ↓reduceIte, ev_k_i, ev_k_r, ev_k_l, ev_k_J, ev_k_n, ev_kr_1, ev_kr_0, ev_isK_y, ev_aG_y, ev_aS_y, ev_aN_y, ev_inA_0, ev_isA_0, ev_ft_I, ev_ft_0, ev_ft_1, ev_ft_o, ev_ft_a, ev_nb_0, ev_nb_1, and_true, true_and, if_true, if_false, not_true_eq_false, not_false_eq_true, nI_1, ev_fG_0, ev_fG_1, ev_fG_2, ev_fG_3, ev_fG_4, ev_fG_5, ev_fG_6, ev_fG_7, ev_fG_8, ev_fS_0, ev_fS_1, ev_fS_2, ev_fS_3, ev_fS_4, ev_fS_5, ev_fS_6, ev_fS_7, ev_fS_8, ev_isO_0, ev_isO_1, ev_isO_2, ev_isO_3, ev_isO_4, ev_isO_5, ev_isO_6, ev_isO_7, ev_isO_8, ev_z0, ev_z1, ev_z2, eq_self, ev_ofN, ev_lku_s, ev_lku_n, ev_up_s, ev_up_n, hlk, hak, ev_lk_s g0, g1, e, ev_z0, show (0 : Nat) < 2 from by omega]
        exact hI
  have h9 := key qs.length 0 (by omega) (fun j' hj' => by omega)
  rw [nI_0] at h9
  simp (disch := omega) only [t_X7_place_0, t_X7_place_1, t_X7_place_3, t_X7_place_4, t_X7_place_7, t_X7_place_10, t_X7_place_13, t_X7_place_14, t_X7_place_17, t_X7_place_18, t_X7_place_21, t_X7_place_24, t_X7_place_25, t_X7_place_26, t_X7_place_27, t_X7_place_30, t_X7_place_31, t_X7_place_32, t_X7_place_35, t_X7_place_38, t_X7_place_39, x_X7_place_7, x_X7_place_18, ↓reduceIte, ev_k_i, ev_k_r, ev_k_l, ev_k_J, ev_k_n, ev_kr_1, ev_kr_0, ev_isK_y, ev_aG_y, ev_aS_y, ev_aN_y, ev_inA_0, ev_isA_0, ev_ft_I, ev_ft_0, ev_ft_1, ev_ft_o, ev_ft_a, ev_nb_0, ev_nb_1, and_true, true_and, if_true, if_false, not_true_eq_false, not_false_eq_true, nI_1, ev_fG_0, ev_fG_1, ev_fG_2, ev_fG_3, ev_fG_4, ev_fG_5, ev_fG_6, ev_fG_7, ev_fG_8, ev_fS_0, ev_fS_1, ev_fS_2, ev_fS_3, ev_fS_4, ev_fS_5, ev_fS_6, ev_fS_7, ev_fS_8, ev_isO_0, ev_isO_1, ev_isO_2, ev_isO_3, ev_isO_4, ev_isO_5, ev_isO_6, ev_isO_7, ev_isO_8, ev_z0, ev_z1, ev_z2, eq_self, ev_ofN]
  exact h9
theorem M_asked (hB : ev_bs X y) (hC : m_cur X y i H0 n0 q0 ow0 cN cQ r s H n q ow qs) (hi : i < 4) (hn : y + 12 ≤ n0) (hl : s.1.length ≤ 20) (hb : ev_isB s.2.1.1) {j : Nat} (hj : j < s.1.length)
    (k : ∀ H1 n1 q1 ow1 qs1, m_cur X y i H0 n0 q0 ow0 (cN + 1) (cQ + 90) r (ps_L s (pr_ask s.1 s.2.1.1 j)) H1 n1 q1 ow1 qs1 → P (.inl none) H1 n1 q1) : ev_ok (ev_TT X) 278 0 [.ref (y + 2 + 2 * i), .int (nI j)] [] H n q P := by
  have hlk := mc_lk hC
  unfold m_tbc at hlk
  have hlen := mc_len hC
  have hkl := mc_kl hC
  have hjq : j < qs.length := by omega
  rcases hb with e | e
  · have e2 : pr_ask s.1 s.2.1.1 j = s.1 := by unfold pr_ask; rw [if_pos e]
    rw [e] at hlk
    simp (disch := omega) only [t_X7_asked_0, t_X7_asked_1, t_X7_asked_4, t_X7_asked_7, t_X7_asked_8, t_X7_asked_11, t_X7_asked_12, t_X7_asked_15, t_X7_asked_16, t_X7_asked_19, t_X7_asked_22, t_X7_asked_25, t_X7_asked_25_i, t_X7_asked_26, x_X7_asked_16, x_X7_asked_22, ↓reduceIte, ev_k_i, ev_k_r, ev_k_l, ev_k_J, ev_k_n, ev_kr_1, ev_kr_0, ev_isK_y, ev_aG_y, ev_aS_y, ev_aN_y, ev_inA_0, ev_isA_0, ev_ft_I, ev_ft_0, ev_ft_1, ev_ft_o, ev_ft_a, ev_nb_0, ev_nb_1, and_true, true_and, if_true, if_false, not_true_eq_false, not_false_eq_true, nI_1, ev_fG_0, ev_fG_1, ev_fG_2, ev_fG_3, ev_fG_4, ev_fG_5, ev_fG_6, ev_fG_7, ev_fG_8, ev_fS_0, ev_fS_1, ev_fS_2, ev_fS_3, ev_fS_4, ev_fS_5, ev_fS_6, ev_fS_7, ev_fS_8, ev_isO_0, ev_isO_1, ev_isO_2, ev_isO_3, ev_isO_4, ev_isO_5, ev_isO_6, ev_isO_7, ev_isO_8, ev_z0, ev_z1, ev_z2, eq_self, ev_ofN, ev_lku_s, ev_lku_n, ev_up_s, ev_up_n, hlk]
    refine k H n q ow qs ?_
    rw [e2]
    obtain ⟨c1, c2, c3, c4, c5, c6, c7, c8, c9, c10, c11⟩ := hC
    exact ⟨c1, c2, c3, c4, c5, c6, c7, c8, by omega, c10, by omega⟩
  · have e2 : pr_ask s.1 s.2.1.1 j = s.1.eraseIdx j ++ [pf_at s.1 j] := by unfold pr_ask; rw [e]; exact if_neg (by decide)
    rw [e] at hlk
    rw [e2] at k
    have hin := mc_in hC hjq
    obtain ⟨g, g0, g1, g2⟩ := mc_pair hC hjq
    have hat := m_at hC.2.2.2.1 hjq
    have hnd : (qs.map Prod.fst).Nodup := by
      obtain ⟨ee, -, h2, -, -⟩ := hC.2.2.1
      exact h2
    have hel := hC.2.2.2.2.2.2.2.1
    have hE : (qs.eraseIdx j).length ≤ 60 := by
      have := List.length_eraseIdx_le qs j
      omega
    simp (disch := omega) only [t_X7_asked_0, t_X7_asked_1, t_X7_asked_4, t_X7_asked_7, t_X7_asked_8, t_X7_asked_11, t_X7_asked_12, t_X7_asked_15, t_X7_asked_16, t_X7_asked_19, t_X7_asked_22, t_X7_asked_25, t_X7_asked_25_i, t_X7_asked_26, x_X7_asked_16, x_X7_asked_22, ↓reduceIte, ev_k_i, ev_k_r, ev_k_l, ev_k_J, ev_k_n, ev_kr_1, ev_kr_0, ev_isK_y, ev_aG_y, ev_aS_y, ev_aN_y, ev_inA_0, ev_isA_0, ev_ft_I, ev_ft_0, ev_ft_1, ev_ft_o, ev_ft_a, ev_nb_0, ev_nb_1, and_true, true_and, if_true, if_false, not_true_eq_false, not_false_eq_true, nI_1, ev_fG_0, ev_fG_1, ev_fG_2, ev_fG_3, ev_fG_4, ev_fG_5, ev_fG_6, ev_fG_7, ev_fG_8, ev_fS_0, ev_fS_1, ev_fS_2, ev_fS_3, ev_fS_4, ev_fS_5, ev_fS_6, ev_fS_7, ev_fS_8, ev_isO_0, ev_isO_1, ev_isO_2, ev_isO_3, ev_isO_4, ev_isO_5, ev_isO_6, ev_isO_7, ev_isO_8, ev_z0, ev_z1, ev_z2, eq_self, ev_ofN, ev_lku_s, ev_lku_n, ev_up_s, ev_up_n, hlk, hkl, show ¬ (1 : Int32) = 0 from by decide]
    refine mc_remove hC hi hn (by omega) hjq fun H1 hC1 hg => ?_
    have hkl1 := mc_kl hC1
    have hak : ev_isAk (H1 qs[j].1) 0 = True := by rw [hg, g0]; exact ev_isAk_y
    simp (disch := omega) only [t_X7_asked_0, t_X7_asked_1, t_X7_asked_4, t_X7_asked_7, t_X7_asked_8, t_X7_asked_11, t_X7_asked_12, t_X7_asked_15, t_X7_asked_16, t_X7_asked_19, t_X7_asked_22, t_X7_asked_25, t_X7_asked_25_i, t_X7_asked_26, x_X7_asked_16, x_X7_asked_22, ↓reduceIte, ev_k_i, ev_k_r, ev_k_l, ev_k_J, ev_k_n, ev_kr_1, ev_kr_0, ev_isK_y, ev_aG_y, ev_aS_y, ev_aN_y, ev_inA_0, ev_isA_0, ev_ft_I, ev_ft_0, ev_ft_1, ev_ft_o, ev_ft_a, ev_nb_0, ev_nb_1, and_true, true_and, if_true, if_false, not_true_eq_false, not_false_eq_true, nI_1, ev_fG_0, ev_fG_1, ev_fG_2, ev_fG_3, ev_fG_4, ev_fG_5, ev_fG_6, ev_fG_7, ev_fG_8, ev_fS_0, ev_fS_1, ev_fS_2, ev_fS_3, ev_fS_4, ev_fS_5, ev_fS_6, ev_fS_7, ev_fS_8, ev_isO_0, ev_isO_1, ev_isO_2, ev_isO_3, ev_isO_4, ev_isO_5, ev_isO_6, ev_isO_7, ev_isO_8, ev_z0, ev_z1, ev_z2, eq_self, ev_ofN, hkl1, hak]
    refine mc_add hB hC1 hi hn hE (z := qs[j]) ⟨hin.1, hin.2.1, hin.2.2, ?_⟩ ?_ fun H2 n1 q1 ow1 hC2 => ?_
    · rw [hg, ← hat]
      exact ⟨g, g0, g1, g2⟩
    · rw [ls_mapE]
      refine ls_eraseN j hnd ?_
      rw [List.getElem?_map, List.getElem?_eq_getElem hjq]; rfl
    · rw [← hat] at hC2
      simp (disch := omega) only [t_X7_asked_0, t_X7_asked_1, t_X7_asked_4, t_X7_asked_7, t_X7_asked_8, t_X7_asked_11, t_X7_asked_12, t_X7_asked_15, t_X7_asked_16, t_X7_asked_19, t_X7_asked_22, t_X7_asked_25, t_X7_asked_25_i, t_X7_asked_26, x_X7_asked_16, x_X7_asked_22, ↓reduceIte, ev_k_i, ev_k_r, ev_k_l, ev_k_J, ev_k_n, ev_kr_1, ev_kr_0, ev_isK_y, ev_aG_y, ev_aS_y, ev_aN_y, ev_inA_0, ev_isA_0, ev_ft_I, ev_ft_0, ev_ft_1, ev_ft_o, ev_ft_a, ev_nb_0, ev_nb_1, and_true, true_and, if_true, if_false, not_true_eq_false, not_false_eq_true, nI_1, ev_fG_0, ev_fG_1, ev_fG_2, ev_fG_3, ev_fG_4, ev_fG_5, ev_fG_6, ev_fG_7, ev_fG_8, ev_fS_0, ev_fS_1, ev_fS_2, ev_fS_3, ev_fS_4, ev_fS_5, ev_fS_6, ev_fS_7, ev_fS_8, ev_isO_0, ev_isO_1, ev_isO_2, ev_isO_3, ev_isO_4, ev_isO_5, ev_isO_6, ev_isO_7, ev_isO_8, ev_z0, ev_z1, ev_z2, eq_self, ev_ofN]
      exact k H2 n1 q1 ow1 _ hC2
theorem M_isOn (hlk : ev_lk X H (y + 2 + 2 * i) = some (m_tbc (y + 3 + 2 * i) s)) (hkd : ¬ s.2.2.2.1 = -1) (c : P (.inl (some (.int (ev_bb (s.2.2.1.1 && !s.2.2.1.2.1))))) H n q) : ev_ok (ev_TT X) 62 0 [.ref (y + 2 + 2 * i)] [] H n q P := by
  unfold m_tbc m_wk at hlk
  rcases h1 : s.2.2.1.1 with _ | _
  · rw [h1] at hlk c
    rw [if_neg Bool.false_ne_true] at hlk
    simp (disch := omega) only [t_X7_isOn_0, t_X7_isOn_1, t_X7_isOn_4, t_X7_isOn_5, t_X7_isOn_8, t_X7_isOn_9, t_X7_isOn_12, t_X7_isOn_15, t_X7_isOn_16, t_X7_isOn_19, t_X7_isOn_20, ↓reduceIte, ev_k_i, ev_k_r, ev_k_l, ev_k_J, ev_k_n, ev_kr_1, ev_kr_0, ev_isK_y, ev_aG_y, ev_aS_y, ev_aN_y, ev_inA_0, ev_isA_0, ev_ft_I, ev_ft_0, ev_ft_1, ev_ft_o, ev_ft_a, ev_nb_0, ev_nb_1, and_true, true_and, if_true, if_false, not_true_eq_false, not_false_eq_true, nI_1, ev_fG_0, ev_fG_1, ev_fG_2, ev_fG_3, ev_fG_4, ev_fG_5, ev_fG_6, ev_fG_7, ev_fG_8, ev_fS_0, ev_fS_1, ev_fS_2, ev_fS_3, ev_fS_4, ev_fS_5, ev_fS_6, ev_fS_7, ev_fS_8, ev_isO_0, ev_isO_1, ev_isO_2, ev_isO_3, ev_isO_4, ev_isO_5, ev_isO_6, ev_isO_7, ev_isO_8, ev_z0, ev_z1, ev_z2, eq_self, ev_ofN, hlk, Bool.false_and, ev_bb_f]
    exact c
  · rw [h1] at hlk c
    rw [if_pos rfl] at hlk
    rcases h2 : s.2.2.1.2.1 with _ | _ <;> (
      rw [h2] at hlk c
      simp (disch := omega) only [t_X7_isOn_0, t_X7_isOn_1, t_X7_isOn_4, t_X7_isOn_5, t_X7_isOn_8, t_X7_isOn_9, t_X7_isOn_12, t_X7_isOn_15, t_X7_isOn_16, t_X7_isOn_19, t_X7_isOn_20, ↓reduceIte, ev_k_i, ev_k_r, ev_k_l, ev_k_J, ev_k_n, ev_kr_1, ev_kr_0, ev_isK_y, ev_aG_y, ev_aS_y, ev_aN_y, ev_inA_0, ev_isA_0, ev_ft_I, ev_ft_0, ev_ft_1, ev_ft_o, ev_ft_a, ev_nb_0, ev_nb_1, and_true, true_and, if_true, if_false, not_true_eq_false, not_false_eq_true, nI_1, ev_fG_0, ev_fG_1, ev_fG_2, ev_fG_3, ev_fG_4, ev_fG_5, ev_fG_6, ev_fG_7, ev_fG_8, ev_fS_0, ev_fS_1, ev_fS_2, ev_fS_3, ev_fS_4, ev_fS_5, ev_fS_6, ev_fS_7, ev_fS_8, ev_isO_0, ev_isO_1, ev_isO_2, ev_isO_3, ev_isO_4, ev_isO_5, ev_isO_6, ev_isO_7, ev_isO_8, ev_z0, ev_z1, ev_z2, eq_self, ev_ofN, hlk, hkd, ev_bb_f, ev_bb_t, Bool.true_and, Bool.not_true, Bool.not_false, show ¬ (1 : Int32) = 0 from by decide, not_true_eq_false]
      exact c)
theorem M_hasMoreT (hC : m_cur X y i H0 n0 q0 ow0 cN cQ r s H n q ow qs) (hl : s.1.length ≤ 20) (hk : s.2.2.2.2 < 2 ^ 31) (hkd : ¬ s.2.2.2.1 = -1) (c : P (.inl (some (.int (ev_bb ((s.2.2.1.1 && !s.2.2.1.2.1) && decide (s.2.2.2.2 < s.1.length)))))) H n q) : ev_ok (ev_TT X) 115 0 [.ref (y + 2 + 2 * i)] [] H n q P := by
  have hlk := mc_lk hC
  have htk := mc_tk hC
  have hlen := mc_len hC
  have hkl := mc_kl hC
  simp (disch := omega) only [t_X7_hasMore_0, t_X7_hasMore_1, t_X7_hasMore_4, t_X7_hasMore_7, t_X7_hasMore_8, t_X7_hasMore_11, t_X7_hasMore_12, t_X7_hasMore_15, t_X7_hasMore_18, t_X7_hasMore_21, t_X7_hasMore_22, t_X7_hasMore_25, t_X7_hasMore_26, x_X7_hasMore_1, x_X7_hasMore_15, ↓reduceIte, ev_k_i, ev_k_r, ev_k_l, ev_k_J, ev_k_n, ev_kr_1, ev_kr_0, ev_isK_y, ev_aG_y, ev_aS_y, ev_aN_y, ev_inA_0, ev_isA_0, ev_ft_I, ev_ft_0, ev_ft_1, ev_ft_o, ev_ft_a, ev_nb_0, ev_nb_1, and_true, true_and, if_true, if_false, not_true_eq_false, not_false_eq_true, nI_1, ev_fG_0, ev_fG_1, ev_fG_2, ev_fG_3, ev_fG_4, ev_fG_5, ev_fG_6, ev_fG_7, ev_fG_8, ev_fS_0, ev_fS_1, ev_fS_2, ev_fS_3, ev_fS_4, ev_fS_5, ev_fS_6, ev_fS_7, ev_fS_8, ev_isO_0, ev_isO_1, ev_isO_2, ev_isO_3, ev_isO_4, ev_isO_5, ev_isO_6, ev_isO_7, ev_isO_8, ev_z0, ev_z1, ev_z2, eq_self, ev_ofN, htk]
  refine M_isOn hlk hkd ?_
  unfold m_tbc at hlk
  rcases hu : (s.2.2.1.1 && !s.2.2.1.2.1) with _ | _
  · rw [hu] at c
    simp (disch := omega) only [t_X7_hasMore_0, t_X7_hasMore_1, t_X7_hasMore_4, t_X7_hasMore_7, t_X7_hasMore_8, t_X7_hasMore_11, t_X7_hasMore_12, t_X7_hasMore_15, t_X7_hasMore_18, t_X7_hasMore_21, t_X7_hasMore_22, t_X7_hasMore_25, t_X7_hasMore_26, x_X7_hasMore_1, x_X7_hasMore_15, ↓reduceIte, ev_k_i, ev_k_r, ev_k_l, ev_k_J, ev_k_n, ev_kr_1, ev_kr_0, ev_isK_y, ev_aG_y, ev_aS_y, ev_aN_y, ev_inA_0, ev_isA_0, ev_ft_I, ev_ft_0, ev_ft_1, ev_ft_o, ev_ft_a, ev_nb_0, ev_nb_1, and_true, true_and, if_true, if_false, not_true_eq_false, not_false_eq_true, nI_1, ev_fG_0, ev_fG_1, ev_fG_2, ev_fG_3, ev_fG_4, ev_fG_5, ev_fG_6, ev_fG_7, ev_fG_8, ev_fS_0, ev_fS_1, ev_fS_2, ev_fS_3, ev_fS_4, ev_fS_5, ev_fS_6, ev_fS_7, ev_fS_8, ev_isO_0, ev_isO_1, ev_isO_2, ev_isO_3, ev_isO_4, ev_isO_5, ev_isO_6, ev_isO_7, ev_isO_8, ev_z0, ev_z1, ev_z2, eq_self, ev_ofN, htk, ev_bb_f, Bool.false_and]
    exact c
  · rw [hu] at c
    simp (disch := omega) only [t_X7_hasMore_0, t_X7_hasMore_1, t_X7_hasMore_4, t_X7_hasMore_7, t_X7_hasMore_8, t_X7_hasMore_11, t_X7_hasMore_12, t_X7_hasMore_15, t_X7_hasMore_18, t_X7_hasMore_21, t_X7_hasMore_22, t_X7_hasMore_25, t_X7_hasMore_26, x_X7_hasMore_1, x_X7_hasMore_15, ↓reduceIte, ev_k_i, ev_k_r, ev_k_l, ev_k_J, ev_k_n, ev_kr_1, ev_kr_0, ev_isK_y, ev_aG_y, ev_aS_y, ev_aN_y, ev_inA_0, ev_isA_0, ev_ft_I, ev_ft_0, ev_ft_1, ev_ft_o, ev_ft_a, ev_nb_0, ev_nb_1, and_true, true_and, if_true, if_false, not_true_eq_false, not_false_eq_true, nI_1, ev_fG_0, ev_fG_1, ev_fG_2, ev_fG_3, ev_fG_4, ev_fG_5, ev_fG_6, ev_fG_7, ev_fG_8, ev_fS_0, ev_fS_1, ev_fS_2, ev_fS_3, ev_fS_4, ev_fS_5, ev_fS_6, ev_fS_7, ev_fS_8, ev_isO_0, ev_isO_1, ev_isO_2, ev_isO_3, ev_isO_4, ev_isO_5, ev_isO_6, ev_isO_7, ev_isO_8, ev_z0, ev_z1, ev_z2, eq_self, ev_ofN, htk, hlk, hkl, ev_bb_t, show ¬ (1 : Int32) = 0 from by decide, not_true_eq_false]
    refine ML_size hC.2.2.1 ?_
    by_cases e : s.2.2.2.2 < s.1.length
    · rw [decide_eq_true e] at c
      have e2 : ¬ qs.length ≤ s.2.2.2.2 := by omega
      simp (disch := omega) only [t_X7_hasMore_0, t_X7_hasMore_1, t_X7_hasMore_4, t_X7_hasMore_7, t_X7_hasMore_8, t_X7_hasMore_11, t_X7_hasMore_12, t_X7_hasMore_15, t_X7_hasMore_18, t_X7_hasMore_21, t_X7_hasMore_22, t_X7_hasMore_25, t_X7_hasMore_26, x_X7_hasMore_1, x_X7_hasMore_15, ↓reduceIte, ev_k_i, ev_k_r, ev_k_l, ev_k_J, ev_k_n, ev_kr_1, ev_kr_0, ev_isK_y, ev_aG_y, ev_aS_y, ev_aN_y, ev_inA_0, ev_isA_0, ev_ft_I, ev_ft_0, ev_ft_1, ev_ft_o, ev_ft_a, ev_nb_0, ev_nb_1, and_true, true_and, if_true, if_false, not_true_eq_false, not_false_eq_true, nI_1, ev_fG_0, ev_fG_1, ev_fG_2, ev_fG_3, ev_fG_4, ev_fG_5, ev_fG_6, ev_fG_7, ev_fG_8, ev_fS_0, ev_fS_1, ev_fS_2, ev_fS_3, ev_fS_4, ev_fS_5, ev_fS_6, ev_fS_7, ev_fS_8, ev_isO_0, ev_isO_1, ev_isO_2, ev_isO_3, ev_isO_4, ev_isO_5, ev_isO_6, ev_isO_7, ev_isO_8, ev_z0, ev_z1, ev_z2, eq_self, ev_ofN, nI_leI, e2]
      exact c
    · rw [decide_eq_false e] at c
      have e2 : qs.length ≤ s.2.2.2.2 := by omega
      simp (disch := omega) only [t_X7_hasMore_0, t_X7_hasMore_1, t_X7_hasMore_4, t_X7_hasMore_7, t_X7_hasMore_8, t_X7_hasMore_11, t_X7_hasMore_12, t_X7_hasMore_15, t_X7_hasMore_18, t_X7_hasMore_21, t_X7_hasMore_22, t_X7_hasMore_25, t_X7_hasMore_26, x_X7_hasMore_1, x_X7_hasMore_15, ↓reduceIte, ev_k_i, ev_k_r, ev_k_l, ev_k_J, ev_k_n, ev_kr_1, ev_kr_0, ev_isK_y, ev_aG_y, ev_aS_y, ev_aN_y, ev_inA_0, ev_isA_0, ev_ft_I, ev_ft_0, ev_ft_1, ev_ft_o, ev_ft_a, ev_nb_0, ev_nb_1, and_true, true_and, if_true, if_false, not_true_eq_false, not_false_eq_true, nI_1, ev_fG_0, ev_fG_1, ev_fG_2, ev_fG_3, ev_fG_4, ev_fG_5, ev_fG_6, ev_fG_7, ev_fG_8, ev_fS_0, ev_fS_1, ev_fS_2, ev_fS_3, ev_fS_4, ev_fS_5, ev_fS_6, ev_fS_7, ev_fS_8, ev_isO_0, ev_isO_1, ev_isO_2, ev_isO_3, ev_isO_4, ev_isO_5, ev_isO_6, ev_isO_7, ev_isO_8, ev_z0, ev_z1, ev_z2, eq_self, ev_ofN, nI_leI, e2]
      exact c
end M51
