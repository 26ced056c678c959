/-! ===== the class: isSound, its answer ===== -/
theorem nI_mul9 {a b : Nat} : nI a * nI b = nI (a * b) := by
  induction b with
  | zero => rw [nI_0, Int32.mul_zero, Nat.mul_zero, nI_0]
  | succ b ih => rw [nI_succ, Int32.mul_add, ih, Int32.mul_one, nI_add, Nat.mul_succ]
theorem pr_cnt_mm {As : List Nat} {de : Nat → Int32} {c : Nat} (hc : c ≤ 60) : ∀ d i s, i + d ≤ As.length → As.length ≤ 60 → (∀ k, k < As.length → de k = nI (dp As k (As.getD k 0))) → pr_cnt de (fun y => decide (y = 0 ∨ nI c < y)) d i (nI s) = nI (s + mm As c d i) := by
  intro d
  induction d with
  | zero => intro i s _ _ _; rfl
  | succ d ih =>
    intro i s hi hA hde
    show pr_cnt de (fun y => decide (y = 0 ∨ nI c < y)) d (i + 1) (if decide (de i = 0 ∨ nI c < de i) = true then nI s + 1 else nI s) = nI (s + ((if mh As c i = true then 0 else 1) + mm As c d (i + 1)))
    have hdl := dp_le (As := As) (p := i) (a := As.getD i 0)
    have hiff : (decide (de i = 0 ∨ nI c < de i) = true) ↔ ¬ mh As c i = true := by
      rw [decide_eq_true_iff, hde i (by omega), mh_dp, show (0 : Int32) = nI 0 from rfl, nI_eq (by omega) (by omega), nI_ltI (by omega) (by omega)]
      omega
    by_cases h : mh As c i = true
    · rw [if_neg (fun z => hiff.mp z h), if_pos h, ih (i + 1) s (by omega) hA hde, Nat.zero_add]
    · rw [if_pos (hiff.mpr h), if_neg h, ← nI_succ, ih (i + 1) (s + 1) (by omega) hA hde, show s + 1 + mm As c d (i + 1) = s + (1 + mm As c d (i + 1)) from by omega]
theorem kI_last {As : List Nat} {p c : Nat} {L LO : ev_PL} (hp : p ≤ 60) (h : kI As p c L) (ho : kI As p 100 LO) : L.length ≤ LO.length ∧ (LO.length < c → L.length = LO.length) ∧ (c ≤ LO.length → L.length = c) ∧ ∀ i, i < L.length → (pf_at L i).1 = (pf_at LO (LO.length - L.length + i)).1 := by
  have h1 := h.1
  have hle : L.length ≤ LO.length := by
    rcases Nat.eq_zero_or_pos L.length with e | e
    · omega
    · obtain ⟨a, ha, e1, e2⟩ := h.2.1 0 e
      have h3 := ho.2.2 a ha (by omega) (by have := dp_le (As := As) (p := p) (a := a); omega)
      omega
  have hmax : L.length < LO.length → c ≤ L.length := fun hlt => by
    obtain ⟨a, ha, e1, e2⟩ := ho.2.1 (LO.length - L.length - 1) (by omega)
    refine Nat.le_of_not_lt fun hc => ?_
    have := h.2.2 a ha (by omega) (by omega)
    omega
  refine ⟨hle, fun hc => ?_, fun hc => ?_, fun i hi => ?_⟩
  · rcases Nat.lt_or_eq_of_le hle with e | e
    · have := hmax e; omega
    · exact e
  · rcases Nat.lt_or_eq_of_le hle with e | e
    · have := hmax e; omega
    · omega
  · obtain ⟨a, ha, e1, e2⟩ := h.2.1 i hi
    obtain ⟨b, hb, f1, f2⟩ := ho.2.1 (LO.length - L.length + i) (by omega)
    have hab : a = b := Classical.byContradiction fun z => dp_ne (As := As) (p := p) z (by omega) (by omega) (by omega)
    rw [pf_at_of e1, pf_at_of f1, hab]
section S78
variable {X : ev_E} {h H : ev_M} {r o : Nat} {b m lm ll bo mo lmo llo : Int32} {L LO : ev_PL} {n q : Nat} {P : ev_O → ev_M → Nat → Nat → Prop}
theorem R_lastOf1 (hH : ev_rL h r L b m lm ll H) (hO : ev_rL H o LO bo mo lmo llo H) (hl : L.length ≤ 20) (hlo : LO.length ≤ 20) (hE : nI L.length = (if nI LO.length < m then nI LO.length else m)) (hle : L.length ≤ LO.length) (hK : ∀ i, i < L.length → (pf_at L i).1 = (pf_at LO (LO.length - L.length + i)).1) (c : P (.inl (some (.int 1))) H n q) : ev_ok (ev_TT X) 94 0 [.ref r, .ref o, ev_J, ev_J] [] H n q P := by
  obtain ⟨kf, vf, h1, e⟩ := hH
  obtain ⟨ko, vo, h2, eo⟩ := hO
  have r0 : ev_lk X H r = _ := ev_lk_s ((congrFun e r).trans ev_row_0)
  have r1 : ev_lk X H (r + 1) = _ := ev_lk_s ((congrFun e (r + 1)).trans ev_row_1)
  have o0 : ev_lk X H o = _ := ev_lk_s ((congrFun eo o).trans ev_row_0)
  have o1 : ev_lk X H (o + 1) = _ := ev_lk_s ((congrFun eo (o + 1)).trans ev_row_1)
  have hmin := fun x y P n q => @r_min X n q P x y H
  have hs : nI LO.length - nI L.length = nI (LO.length - L.length) := pk_sub hle
  have key : ∀ d i, i + d = L.length → ev_ok (ev_TT X) 94 32 [.ref r, .ref o, .int (nI (LO.length - L.length)), .int (nI i)] [] H n q P := by
    intro d
    induction d with
    | zero =>
      intro i hi
      have hi2 : L.length ≤ i := by omega
      simp (disch := omega) only [t_X2_isLastOf_0, t_X2_isLastOf_1, t_X2_isLastOf_4, t_X2_isLastOf_5, t_X2_isLastOf_8, t_X2_isLastOf_9, t_X2_isLastOf_12, t_X2_isLastOf_15, t_X2_isLastOf_18, t_X2_isLastOf_19, t_X2_isLastOf_20, t_X2_isLastOf_21, t_X2_isLastOf_24, t_X2_isLastOf_25, t_X2_isLastOf_28, t_X2_isLastOf_29, t_X2_isLastOf_30, t_X2_isLastOf_31, t_X2_isLastOf_32, t_X2_isLastOf_33, t_X2_isLastOf_34, t_X2_isLastOf_37, t_X2_isLastOf_40, t_X2_isLastOf_41, t_X2_isLastOf_44, t_X2_isLastOf_45, t_X2_isLastOf_46, t_X2_isLastOf_47, t_X2_isLastOf_50, t_X2_isLastOf_51, t_X2_isLastOf_52, t_X2_isLastOf_53, t_X2_isLastOf_54, t_X2_isLastOf_57, t_X2_isLastOf_58, t_X2_isLastOf_59, t_X2_isLastOf_62, t_X2_isLastOf_65, t_X2_isLastOf_66, x_X2_isLastOf_12, ↓reduceIte, ev_k_i, ev_k_r, ev_k_l, ev_k_J, ev_k_n, ev_kr_1, ev_kr_0, ev_isK_y, ev_aG_y, ev_aS_y, ev_aN_y, ev_inA_0, ev_isA_0, ev_ft_I, ev_ft_0, ev_ft_1, ev_ft_o, ev_ft_a, ev_nb_0, ev_nb_1, and_true, true_and, if_true, if_false, not_true_eq_false, not_false_eq_true, nI_1, ev_fG_0, ev_fG_1, ev_fG_2, ev_fG_3, ev_fG_4, ev_fG_5, ev_fG_6, ev_fG_7, ev_fG_8, ev_fS_0, ev_fS_1, ev_fS_2, ev_fS_3, ev_fS_4, ev_fS_5, ev_fS_6, ev_fS_7, ev_fS_8, ev_isO_0, ev_isO_1, ev_isO_2, ev_isO_3, ev_isO_4, ev_isO_5, ev_isO_6, ev_isO_7, ev_isO_8, ev_z0, ev_z1, ev_z2, eq_self, ev_ofN, r0, r1, o0, o1, nI_leI, hi2]
      exact c
    | succ d ih =>
      intro i hi
      have hi2 : ¬ L.length ≤ i := by omega
      have hp := nI_pos' (n := i) (by omega)
      have hp2 := nI_pos' (n := LO.length - L.length + i) (by omega)
      have h20 : i < 20 := by omega
      have h21 : LO.length - L.length + i < 20 := by omega
      have hI := ih (i + 1) (by omega)
      have hno : kf i = ko (LO.length - L.length + i) := by
        rw [(ev_RL_at h1 (show i < L.length by omega)).1, (ev_RL_at h2 (show LO.length - L.length + i < LO.length by omega)).1]
        exact hK i (by omega)
      rw [t_X2_isLastOf_32]
      simp (disch := omega) only [t_X2_isLastOf_0, t_X2_isLastOf_1, t_X2_isLastOf_4, t_X2_isLastOf_5, t_X2_isLastOf_8, t_X2_isLastOf_9, t_X2_isLastOf_12, t_X2_isLastOf_15, t_X2_isLastOf_18, t_X2_isLastOf_19, t_X2_isLastOf_20, t_X2_isLastOf_21, t_X2_isLastOf_24, t_X2_isLastOf_25, t_X2_isLastOf_28, t_X2_isLastOf_29, t_X2_isLastOf_30, t_X2_isLastOf_31, t_X2_isLastOf_33, t_X2_isLastOf_34, t_X2_isLastOf_37, t_X2_isLastOf_40, t_X2_isLastOf_41, t_X2_isLastOf_44, t_X2_isLastOf_45, t_X2_isLastOf_46, t_X2_isLastOf_47, t_X2_isLastOf_50, t_X2_isLastOf_51, t_X2_isLastOf_52, t_X2_isLastOf_53, t_X2_isLastOf_54, t_X2_isLastOf_57, t_X2_isLastOf_58, t_X2_isLastOf_59, t_X2_isLastOf_62, t_X2_isLastOf_65, t_X2_isLastOf_66, x_X2_isLastOf_12, ↓reduceIte, ev_k_i, ev_k_r, ev_k_l, ev_k_J, ev_k_n, ev_kr_1, ev_kr_0, ev_isK_y, ev_aG_y, ev_aS_y, ev_aN_y, ev_inA_0, ev_isA_0, ev_ft_I, ev_ft_0, ev_ft_1, ev_ft_o, ev_ft_a, ev_nb_0, ev_nb_1, and_true, true_and, if_true, if_false, not_true_eq_false, not_false_eq_true, nI_1, ev_fG_0, ev_fG_1, ev_fG_2, ev_fG_3, ev_fG_4, ev_fG_5, ev_fG_6, ev_fG_7, ev_fG_8, ev_fS_0, ev_fS_1, ev_fS_2, ev_fS_3, ev_fS_4, ev_fS_5, ev_fS_6, ev_fS_7, ev_fS_8, ev_isO_0, ev_isO_1, ev_isO_2, ev_isO_3, ev_isO_4, ev_isO_5, ev_isO_6, ev_isO_7, ev_isO_8, ev_z0, ev_z1, ev_z2, eq_self, ev_ofN, r0, r1, o0, o1, nI_leI, hi2, hp, hp2, h20, h21, nI_add, nI_clamp, hno]
      first | exact hI | (split <;> (first | exact hI | exact c | (rename_i z; exfalso; first | exact z hno | exact hno z | exact Int32.not_le.mpr z hno | exact Int32.not_lt.mpr hno z | exact absurd hno (Int32.not_lt.mpr z))))
  have h9 := key L.length 0 (by omega)
  rw [nI_0] at h9
  simp (disch := omega) only [t_X2_isLastOf_0, t_X2_isLastOf_1, t_X2_isLastOf_4, t_X2_isLastOf_5, t_X2_isLastOf_8, t_X2_isLastOf_9, t_X2_isLastOf_12, t_X2_isLastOf_15, t_X2_isLastOf_18, t_X2_isLastOf_19, t_X2_isLastOf_20, t_X2_isLastOf_21, t_X2_isLastOf_24, t_X2_isLastOf_25, t_X2_isLastOf_28, t_X2_isLastOf_29, t_X2_isLastOf_30, t_X2_isLastOf_31, t_X2_isLastOf_33, t_X2_isLastOf_34, t_X2_isLastOf_37, t_X2_isLastOf_40, t_X2_isLastOf_41, t_X2_isLastOf_44, t_X2_isLastOf_45, t_X2_isLastOf_46, t_X2_isLastOf_47, t_X2_isLastOf_50, t_X2_isLastOf_51, t_X2_isLastOf_52, t_X2_isLastOf_53, t_X2_isLastOf_54, t_X2_isLastOf_57, t_X2_isLastOf_58, t_X2_isLastOf_59, t_X2_isLastOf_62, t_X2_isLastOf_65, t_X2_isLastOf_66, x_X2_isLastOf_12, ↓reduceIte, ev_k_i, ev_k_r, ev_k_l, ev_k_J, ev_k_n, ev_kr_1, ev_kr_0, ev_isK_y, ev_aG_y, ev_aS_y, ev_aN_y, ev_inA_0, ev_isA_0, ev_ft_I, ev_ft_0, ev_ft_1, ev_ft_o, ev_ft_a, ev_nb_0, ev_nb_1, and_true, true_and, if_true, if_false, not_true_eq_false, not_false_eq_true, nI_1, ev_fG_0, ev_fG_1, ev_fG_2, ev_fG_3, ev_fG_4, ev_fG_5, ev_fG_6, ev_fG_7, ev_fG_8, ev_fS_0, ev_fS_1, ev_fS_2, ev_fS_3, ev_fS_4, ev_fS_5, ev_fS_6, ev_fS_7, ev_fS_8, ev_isO_0, ev_isO_1, ev_isO_2, ev_isO_3, ev_isO_4, ev_isO_5, ev_isO_6, ev_isO_7, ev_isO_8, ev_z0, ev_z1, ev_z2, eq_self, ev_ofN, r0, r1, o0, o1, hmin, hs, ← hE]
  exact h9
end S78
section C78
variable {X : ev_E} {x : Nat} {G : ev_CS} {As : List Nat} {H : ev_M} {n q : Nat} {P : ev_O → ev_M → Nat → Nat → Prop}
theorem C_aKeep1 (hl : jR G As) (hN60 : As.length ≤ 60) (hc : c_all x G H) (hG : okG G) (c : P (.inl (some (.int 1))) H n q) : ev_ok (ev_TT X) 147 0 [.ref x, ev_J, ev_J, ev_J, ev_J] [] H n q P := by
  have h0 := hc.1
  unfold c_top at h0
  have hst := hc.2.2.2.1
  have hls := okL_len hG.2.1
  have hG' : ∀ j, j < 6 → (G.2.2.1 j).1.length ≤ 20 := fun j hj => okL_len (hG.2.2.1 j hj)
  have ha0 := c_ask0 hc
  have hak : ev_isK (ev_lk X H (x + 2)) 5 = True := by rw [ev_lk_s ha0]; exact ev_isK_y
  obtain ⟨ne, hk1, hn1, hHa, hN⟩ := hc.2.2.1
  obtain ⟨f, h4, h4b⟩ := hc.2.2.2.2.1
  have key : ∀ d j w, j + d = 6 → ev_ok (ev_TT X) 147 10 [.ref x, .ref (x + 11), .int (nI 6), .int (nI j), w] [] H n q P := by
    intro d
    induction d with
    | zero =>
      intro j w hj
      have hi2 : 6 ≤ j := by omega
      simp (disch := omega) only [t_X5_areKeepersLastOfStack_0, t_X5_areKeepersLastOfStack_1, t_X5_areKeepersLastOfStack_4, t_X5_areKeepersLastOfStack_5, t_X5_areKeepersLastOfStack_6, t_X5_areKeepersLastOfStack_7, t_X5_areKeepersLastOfStack_8, t_X5_areKeepersLastOfStack_9, t_X5_areKeepersLastOfStack_10, t_X5_areKeepersLastOfStack_11, t_X5_areKeepersLastOfStack_12, t_X5_areKeepersLastOfStack_15, t_X5_areKeepersLastOfStack_16, t_X5_areKeepersLastOfStack_17, t_X5_areKeepersLastOfStack_18, t_X5_areKeepersLastOfStack_20, t_X5_areKeepersLastOfStack_22, t_X5_areKeepersLastOfStack_25, t_X5_areKeepersLastOfStack_26, t_X5_areKeepersLastOfStack_29, t_X5_areKeepersLastOfStack_32, t_X5_areKeepersLastOfStack_35, t_X5_areKeepersLastOfStack_36, t_X5_areKeepersLastOfStack_37, t_X5_areKeepersLastOfStack_40, t_X5_areKeepersLastOfStack_43, t_X5_areKeepersLastOfStack_44, x_X5_areKeepersLastOfStack_29, ↓reduceIte, ev_k_i, ev_k_r, ev_k_l, ev_k_J, ev_k_n, ev_kr_1, ev_kr_0, ev_isK_y, ev_aG_y, ev_aS_y, ev_aN_y, ev_inA_0, ev_isA_0, ev_ft_I, ev_ft_0, ev_ft_1, ev_ft_o, ev_ft_a, ev_nb_0, ev_nb_1, and_true, true_and, if_true, if_false, not_true_eq_false, not_false_eq_true, nI_1, ev_fG_0, ev_fG_1, ev_fG_2, ev_fG_3, ev_fG_4, ev_fG_5, ev_fG_6, ev_fG_7, ev_fG_8, ev_fS_0, ev_fS_1, ev_fS_2, ev_fS_3, ev_fS_4, ev_fS_5, ev_fS_6, ev_fS_7, ev_fS_8, ev_isO_0, ev_isO_1, ev_isO_2, ev_isO_3, ev_isO_4, ev_isO_5, ev_isO_6, ev_isO_7, ev_isO_8, ev_z0, ev_z1, ev_z2, eq_self, ev_ofN, nI_leI, hi2]
      exact c
    | succ d ih =>
      intro j w hj
      have hj6 : j < 6 := by omega
      have hi2 : ¬ 6 ≤ j := by omega
      have hp := nI_pos' (n := j) (by omega)
      have hf := h4b j hj6
      obtain ⟨h7, h8⟩ := hc.2.2.2.2.2.2.2 j hj6
      unfold ev_kec at h7
      have h8k := ev_rL_k (X := X) h8
      have hI := ih (j + 1) (.ref (x + 33 + 4 * j)) (by omega)
      rw [t_X5_areKeepersLastOfStack_10]
      simp (disch := omega) only [t_X5_areKeepersLastOfStack_0, t_X5_areKeepersLastOfStack_1, t_X5_areKeepersLastOfStack_4, t_X5_areKeepersLastOfStack_5, t_X5_areKeepersLastOfStack_6, t_X5_areKeepersLastOfStack_7, t_X5_areKeepersLastOfStack_8, t_X5_areKeepersLastOfStack_9, t_X5_areKeepersLastOfStack_11, t_X5_areKeepersLastOfStack_12, t_X5_areKeepersLastOfStack_15, t_X5_areKeepersLastOfStack_16, t_X5_areKeepersLastOfStack_17, t_X5_areKeepersLastOfStack_18, t_X5_areKeepersLastOfStack_20, t_X5_areKeepersLastOfStack_22, t_X5_areKeepersLastOfStack_25, t_X5_areKeepersLastOfStack_26, t_X5_areKeepersLastOfStack_29, t_X5_areKeepersLastOfStack_32, t_X5_areKeepersLastOfStack_35, t_X5_areKeepersLastOfStack_36, t_X5_areKeepersLastOfStack_37, t_X5_areKeepersLastOfStack_40, t_X5_areKeepersLastOfStack_43, t_X5_areKeepersLastOfStack_44, x_X5_areKeepersLastOfStack_29, ↓reduceIte, ev_k_i, ev_k_r, ev_k_l, ev_k_J, ev_k_n, ev_kr_1, ev_kr_0, ev_isK_y, ev_aG_y, ev_aS_y, ev_aN_y, ev_inA_0, ev_isA_0, ev_ft_I, ev_ft_0, ev_ft_1, ev_ft_o, ev_ft_a, ev_nb_0, ev_nb_1, and_true, true_and, if_true, if_false, not_true_eq_false, not_false_eq_true, nI_1, ev_fG_0, ev_fG_1, ev_fG_2, ev_fG_3, ev_fG_4, ev_fG_5, ev_fG_6, ev_fG_7, ev_fG_8, ev_fS_0, ev_fS_1, ev_fS_2, ev_fS_3, ev_fS_4, ev_fS_5, ev_fS_6, ev_fS_7, ev_fS_8, ev_isO_0, ev_isO_1, ev_isO_2, ev_isO_3, ev_isO_4, ev_isO_5, ev_isO_6, ev_isO_7, ev_isO_8, ev_z0, ev_z1, ev_z2, eq_self, ev_ofN, ev_lk_s h0, nI_leI, hi2, nI_clamp, hp, hj6, ev_lk_s h4, hf, ev_inA_4, ev_lk_s h7, h8k]
      obtain ⟨l1, l2, l3, l4⟩ := kI_last hN60 (hl.2.2.2 j hj6).1 hl.2.2.1.1
      refine R_lastOf1 h8 hst (hG' j hj6) hls ?_ l1 l4 ?_
      · rw [(hl.2.2.2 j hj6).2.1]
        by_cases z : G.2.1.1.length < j + 1
        · rw [if_pos ((nI_ltI (by omega) (by omega)).mpr z), l2 z]
        · rw [if_neg (fun w => z ((nI_ltI (by omega) (by omega)).mp w)), l3 (by omega)]
      · simp (disch := omega) only [t_X5_areKeepersLastOfStack_0, t_X5_areKeepersLastOfStack_1, t_X5_areKeepersLastOfStack_4, t_X5_areKeepersLastOfStack_5, t_X5_areKeepersLastOfStack_6, t_X5_areKeepersLastOfStack_7, t_X5_areKeepersLastOfStack_8, t_X5_areKeepersLastOfStack_9, t_X5_areKeepersLastOfStack_11, t_X5_areKeepersLastOfStack_12, t_X5_areKeepersLastOfStack_15, t_X5_areKeepersLastOfStack_16, t_X5_areKeepersLastOfStack_17, t_X5_areKeepersLastOfStack_18, t_X5_areKeepersLastOfStack_20, t_X5_areKeepersLastOfStack_22, t_X5_areKeepersLastOfStack_25, t_X5_areKeepersLastOfStack_26, t_X5_areKeepersLastOfStack_29, t_X5_areKeepersLastOfStack_32, t_X5_areKeepersLastOfStack_35, t_X5_areKeepersLastOfStack_36, t_X5_areKeepersLastOfStack_37, t_X5_areKeepersLastOfStack_40, t_X5_areKeepersLastOfStack_43, t_X5_areKeepersLastOfStack_44, x_X5_areKeepersLastOfStack_29, ↓reduceIte, ev_k_i, ev_k_r, ev_k_l, ev_k_J, ev_k_n, ev_kr_1, ev_kr_0, ev_isK_y, ev_aG_y, ev_aS_y, ev_aN_y, ev_inA_0, ev_isA_0, ev_ft_I, ev_ft_0, ev_ft_1, ev_ft_o, ev_ft_a, ev_nb_0, ev_nb_1, and_true, true_and, if_true, if_false, not_true_eq_false, not_false_eq_true, nI_1, ev_fG_0, ev_fG_1, ev_fG_2, ev_fG_3, ev_fG_4, ev_fG_5, ev_fG_6, ev_fG_7, ev_fG_8, ev_fS_0, ev_fS_1, ev_fS_2, ev_fS_3, ev_fS_4, ev_fS_5, ev_fS_6, ev_fS_7, ev_fS_8, ev_isO_0, ev_isO_1, ev_isO_2, ev_isO_3, ev_isO_4, ev_isO_5, ev_isO_6, ev_isO_7, ev_isO_8, ev_z0, ev_z1, ev_z2, eq_self, ev_ofN, show ¬ (1 : Int32) = 0 from by decide]
        exact hI
  have h9 := key 6 0 ev_J (by omega)
  rw [nI_0] at h9
  simp (disch := omega) only [t_X5_areKeepersLastOfStack_0, t_X5_areKeepersLastOfStack_1, t_X5_areKeepersLastOfStack_4, t_X5_areKeepersLastOfStack_5, t_X5_areKeepersLastOfStack_6, t_X5_areKeepersLastOfStack_7, t_X5_areKeepersLastOfStack_8, t_X5_areKeepersLastOfStack_9, t_X5_areKeepersLastOfStack_11, t_X5_areKeepersLastOfStack_12, t_X5_areKeepersLastOfStack_15, t_X5_areKeepersLastOfStack_16, t_X5_areKeepersLastOfStack_17, t_X5_areKeepersLastOfStack_18, t_X5_areKeepersLastOfStack_20, t_X5_areKeepersLastOfStack_22, t_X5_areKeepersLastOfStack_25, t_X5_areKeepersLastOfStack_26, t_X5_areKeepersLastOfStack_29, t_X5_areKeepersLastOfStack_32, t_X5_areKeepersLastOfStack_35, t_X5_areKeepersLastOfStack_36, t_X5_areKeepersLastOfStack_37, t_X5_areKeepersLastOfStack_40, t_X5_areKeepersLastOfStack_43, t_X5_areKeepersLastOfStack_44, x_X5_areKeepersLastOfStack_29, ↓reduceIte, ev_k_i, ev_k_r, ev_k_l, ev_k_J, ev_k_n, ev_kr_1, ev_kr_0, ev_isK_y, ev_aG_y, ev_aS_y, ev_aN_y, ev_inA_0, ev_isA_0, ev_ft_I, ev_ft_0, ev_ft_1, ev_ft_o, ev_ft_a, ev_nb_0, ev_nb_1, and_true, true_and, if_true, if_false, not_true_eq_false, not_false_eq_true, nI_1, ev_fG_0, ev_fG_1, ev_fG_2, ev_fG_3, ev_fG_4, ev_fG_5, ev_fG_6, ev_fG_7, ev_fG_8, ev_fS_0, ev_fS_1, ev_fS_2, ev_fS_3, ev_fS_4, ev_fS_5, ev_fS_6, ev_fS_7, ev_fS_8, ev_isO_0, ev_isO_1, ev_isO_2, ev_isO_3, ev_isO_4, ev_isO_5, ev_isO_6, ev_isO_7, ev_isO_8, ev_z0, ev_z1, ev_z2, eq_self, ev_ofN, ev_lk_s h0, ev_lk_s h4, ev_isA_4, ev_ofN]
  exact h9
theorem C_aMiss1 (hl : jR G As) (hN60 : As.length ≤ 60) (hc : c_all x G H) (hG : okG G) (c : P (.inl (some (.int 1))) H n q) : ev_ok (ev_TT X) 100 0 [.ref x, ev_J, ev_J, ev_J, ev_J] [] H n q P := by
  have h0 := hc.1
  unfold c_top at h0
  have hst := hc.2.2.2.1
  have hls := okL_len hG.2.1
  have hG' : ∀ j, j < 6 → (G.2.2.1 j).1.length ≤ 20 := fun j hj => okL_len (hG.2.2.1 j hj)
  have ha0 := c_ask0 hc
  have hak : ev_isK (ev_lk X H (x + 2)) 5 = True := by rw [ev_lk_s ha0]; exact ev_isK_y
  obtain ⟨ne, hk1, hn1, hHa, hN⟩ := hc.2.2.1
  obtain ⟨f, h4, h4b⟩ := hc.2.2.2.2.1
  have key : ∀ d j w, j + d = 6 → ev_ok (ev_TT X) 100 10 [.ref x, .ref (x + 11), .int (nI 6), .int (nI j), w] [] H n q P := by
    intro d
    induction d with
    | zero =>
      intro j w hj
      have hi2 : 6 ≤ j := by omega
      simp (disch := omega) only [t_X5_areMissesByDepth_0, t_X5_areMissesByDepth_1, t_X5_areMissesByDepth_4, t_X5_areMissesByDepth_5, t_X5_areMissesByDepth_6, t_X5_areMissesByDepth_7, t_X5_areMissesByDepth_8, t_X5_areMissesByDepth_9, t_X5_areMissesByDepth_10, t_X5_areMissesByDepth_11, t_X5_areMissesByDepth_12, t_X5_areMissesByDepth_15, t_X5_areMissesByDepth_16, t_X5_areMissesByDepth_17, t_X5_areMissesByDepth_18, t_X5_areMissesByDepth_20, t_X5_areMissesByDepth_22, t_X5_areMissesByDepth_25, t_X5_areMissesByDepth_26, t_X5_areMissesByDepth_29, t_X5_areMissesByDepth_31, t_X5_areMissesByDepth_34, t_X5_areMissesByDepth_37, t_X5_areMissesByDepth_40, t_X5_areMissesByDepth_43, t_X5_areMissesByDepth_44, t_X5_areMissesByDepth_45, t_X5_areMissesByDepth_48, t_X5_areMissesByDepth_51, t_X5_areMissesByDepth_52, x_X5_areMissesByDepth_37, ↓reduceIte, ev_k_i, ev_k_r, ev_k_l, ev_k_J, ev_k_n, ev_kr_1, ev_kr_0, ev_isK_y, ev_aG_y, ev_aS_y, ev_aN_y, ev_inA_0, ev_isA_0, ev_ft_I, ev_ft_0, ev_ft_1, ev_ft_o, ev_ft_a, ev_nb_0, ev_nb_1, and_true, true_and, if_true, if_false, not_true_eq_false, not_false_eq_true, nI_1, ev_fG_0, ev_fG_1, ev_fG_2, ev_fG_3, ev_fG_4, ev_fG_5, ev_fG_6, ev_fG_7, ev_fG_8, ev_fS_0, ev_fS_1, ev_fS_2, ev_fS_3, ev_fS_4, ev_fS_5, ev_fS_6, ev_fS_7, ev_fS_8, ev_isO_0, ev_isO_1, ev_isO_2, ev_isO_3, ev_isO_4, ev_isO_5, ev_isO_6, ev_isO_7, ev_isO_8, ev_z0, ev_z1, ev_z2, eq_self, ev_ofN, nI_leI, hi2]
      exact c
    | succ d ih =>
      intro j w hj
      have hj6 : j < 6 := by omega
      have hi2 : ¬ 6 ≤ j := by omega
      have hp := nI_pos' (n := j) (by omega)
      have hf := h4b j hj6
      obtain ⟨h7, h8⟩ := hc.2.2.2.2.2.2.2 j hj6
      unfold ev_kec at h7
      have h8k := ev_rL_k (X := X) h8
      have h8b := (ev_rL_b (X := X) h8).2.2.1
      have hI := ih (j + 1) (.ref (x + 33 + 4 * j)) (by omega)
      rw [t_X5_areMissesByDepth_10]
      simp (disch := omega) only [t_X5_areMissesByDepth_0, t_X5_areMissesByDepth_1, t_X5_areMissesByDepth_4, t_X5_areMissesByDepth_5, t_X5_areMissesByDepth_6, t_X5_areMissesByDepth_7, t_X5_areMissesByDepth_8, t_X5_areMissesByDepth_9, t_X5_areMissesByDepth_11, t_X5_areMissesByDepth_12, t_X5_areMissesByDepth_15, t_X5_areMissesByDepth_16, t_X5_areMissesByDepth_17, t_X5_areMissesByDepth_18, t_X5_areMissesByDepth_20, t_X5_areMissesByDepth_22, t_X5_areMissesByDepth_25, t_X5_areMissesByDepth_26, t_X5_areMissesByDepth_29, t_X5_areMissesByDepth_31, t_X5_areMissesByDepth_34, t_X5_areMissesByDepth_37, t_X5_areMissesByDepth_40, t_X5_areMissesByDepth_43, t_X5_areMissesByDepth_44, t_X5_areMissesByDepth_45, t_X5_areMissesByDepth_48, t_X5_areMissesByDepth_51, t_X5_areMissesByDepth_52, x_X5_areMissesByDepth_37, ↓reduceIte, ev_k_i, ev_k_r, ev_k_l, ev_k_J, ev_k_n, ev_kr_1, ev_kr_0, ev_isK_y, ev_aG_y, ev_aS_y, ev_aN_y, ev_inA_0, ev_isA_0, ev_ft_I, ev_ft_0, ev_ft_1, ev_ft_o, ev_ft_a, ev_nb_0, ev_nb_1, and_true, true_and, if_true, if_false, not_true_eq_false, not_false_eq_true, nI_1, ev_fG_0, ev_fG_1, ev_fG_2, ev_fG_3, ev_fG_4, ev_fG_5, ev_fG_6, ev_fG_7, ev_fG_8, ev_fS_0, ev_fS_1, ev_fS_2, ev_fS_3, ev_fS_4, ev_fS_5, ev_fS_6, ev_fS_7, ev_fS_8, ev_isO_0, ev_isO_1, ev_isO_2, ev_isO_3, ev_isO_4, ev_isO_5, ev_isO_6, ev_isO_7, ev_isO_8, ev_z0, ev_z1, ev_z2, eq_self, ev_ofN, ev_lk_s h0, nI_leI, hi2, nI_clamp, hp, hj6, ev_lk_s h4, hf, ev_inA_4, ev_lk_s h7, h8k, hak, h8b.1, h8b.2]
      rw [hHa]
      refine A_cntO hG.2.2.2 ?_
      rw [← hHa]
      have hno : (G.2.2.1 j).2.2.2.2.1 = pr_cnt G.2.2.2.1.2.1 (fun y => decide (y = 0 ∨ (G.2.2.1 j).2.1 < y)) G.2.2.2.1.2.2 0 0 := by
        have h9 := pr_cnt_mm (As := As) (de := G.2.2.2.1.2.1) (c := j + 1) (by omega) As.length 0 0 (by omega) hN60 (fun k hk => (hl.2.1 k hk).2)
        rw [nI_0, Nat.zero_add] at h9
        rw [(hl.2.2.2 j hj6).2.1, ← hl.1, h9]
        exact (hl.2.2.2 j hj6).2.2.2.1
      simp (disch := omega) only [t_X5_areMissesByDepth_0, t_X5_areMissesByDepth_1, t_X5_areMissesByDepth_4, t_X5_areMissesByDepth_5, t_X5_areMissesByDepth_6, t_X5_areMissesByDepth_7, t_X5_areMissesByDepth_8, t_X5_areMissesByDepth_9, t_X5_areMissesByDepth_11, t_X5_areMissesByDepth_12, t_X5_areMissesByDepth_15, t_X5_areMissesByDepth_16, t_X5_areMissesByDepth_17, t_X5_areMissesByDepth_18, t_X5_areMissesByDepth_20, t_X5_areMissesByDepth_22, t_X5_areMissesByDepth_25, t_X5_areMissesByDepth_26, t_X5_areMissesByDepth_29, t_X5_areMissesByDepth_31, t_X5_areMissesByDepth_34, t_X5_areMissesByDepth_37, t_X5_areMissesByDepth_40, t_X5_areMissesByDepth_43, t_X5_areMissesByDepth_44, t_X5_areMissesByDepth_45, t_X5_areMissesByDepth_48, t_X5_areMissesByDepth_51, t_X5_areMissesByDepth_52, x_X5_areMissesByDepth_37, ↓reduceIte, ev_k_i, ev_k_r, ev_k_l, ev_k_J, ev_k_n, ev_kr_1, ev_kr_0, ev_isK_y, ev_aG_y, ev_aS_y, ev_aN_y, ev_inA_0, ev_isA_0, ev_ft_I, ev_ft_0, ev_ft_1, ev_ft_o, ev_ft_a, ev_nb_0, ev_nb_1, and_true, true_and, if_true, if_false, not_true_eq_false, not_false_eq_true, nI_1, ev_fG_0, ev_fG_1, ev_fG_2, ev_fG_3, ev_fG_4, ev_fG_5, ev_fG_6, ev_fG_7, ev_fG_8, ev_fS_0, ev_fS_1, ev_fS_2, ev_fS_3, ev_fS_4, ev_fS_5, ev_fS_6, ev_fS_7, ev_fS_8, ev_isO_0, ev_isO_1, ev_isO_2, ev_isO_3, ev_isO_4, ev_isO_5, ev_isO_6, ev_isO_7, ev_isO_8, ev_z0, ev_z1, ev_z2, eq_self, ev_ofN, ← hno]
      first | exact hI | (split <;> (first | exact hI | exact c | (rename_i z; exfalso; first | exact z hno | exact hno z | exact Int32.not_le.mpr z hno | exact Int32.not_lt.mpr hno z | exact absurd hno (Int32.not_lt.mpr z))))
  have h9 := key 6 0 ev_J (by omega)
  rw [nI_0] at h9
  simp (disch := omega) only [t_X5_areMissesByDepth_0, t_X5_areMissesByDepth_1, t_X5_areMissesByDepth_4, t_X5_areMissesByDepth_5, t_X5_areMissesByDepth_6, t_X5_areMissesByDepth_7, t_X5_areMissesByDepth_8, t_X5_areMissesByDepth_9, t_X5_areMissesByDepth_11, t_X5_areMissesByDepth_12, t_X5_areMissesByDepth_15, t_X5_areMissesByDepth_16, t_X5_areMissesByDepth_17, t_X5_areMissesByDepth_18, t_X5_areMissesByDepth_20, t_X5_areMissesByDepth_22, t_X5_areMissesByDepth_25, t_X5_areMissesByDepth_26, t_X5_areMissesByDepth_29, t_X5_areMissesByDepth_31, t_X5_areMissesByDepth_34, t_X5_areMissesByDepth_37, t_X5_areMissesByDepth_40, t_X5_areMissesByDepth_43, t_X5_areMissesByDepth_44, t_X5_areMissesByDepth_45, t_X5_areMissesByDepth_48, t_X5_areMissesByDepth_51, t_X5_areMissesByDepth_52, x_X5_areMissesByDepth_37, ↓reduceIte, ev_k_i, ev_k_r, ev_k_l, ev_k_J, ev_k_n, ev_kr_1, ev_kr_0, ev_isK_y, ev_aG_y, ev_aS_y, ev_aN_y, ev_inA_0, ev_isA_0, ev_ft_I, ev_ft_0, ev_ft_1, ev_ft_o, ev_ft_a, ev_nb_0, ev_nb_1, and_true, true_and, if_true, if_false, not_true_eq_false, not_false_eq_true, nI_1, ev_fG_0, ev_fG_1, ev_fG_2, ev_fG_3, ev_fG_4, ev_fG_5, ev_fG_6, ev_fG_7, ev_fG_8, ev_fS_0, ev_fS_1, ev_fS_2, ev_fS_3, ev_fS_4, ev_fS_5, ev_fS_6, ev_fS_7, ev_fS_8, ev_isO_0, ev_isO_1, ev_isO_2, ev_isO_3, ev_isO_4, ev_isO_5, ev_isO_6, ev_isO_7, ev_isO_8, ev_z0, ev_z1, ev_z2, eq_self, ev_ofN, ev_lk_s h0, ev_lk_s h4, ev_isA_4, ev_ofN]
  exact h9
theorem C_aBest1 (hc : c_all x G H) {be : Nat → Int32} (h5 : H (x + 12) = some (.inl (0, 6, fun i => .int (be i)))) (hno : ∀ j, j < 6 → be j ≤ (G.2.2.1 j).2.2.2.2.1) (c : P (.inl (some (.int 1))) H n q) : ev_ok (ev_TT X) 46 0 [.ref x, ev_J] [] H n q P := by
  have h0 := hc.1
  unfold c_top at h0
  obtain ⟨f, h4, h4b⟩ := hc.2.2.2.2.1
  have h6' : (6 : Int32) = nI 6 := rfl
  have key : ∀ d j, j + d = 6 → ev_ok (ev_TT X) 46 2 [.ref x, .int (nI j)] [] H n q P := by
    intro d
    induction d with
    | zero =>
      intro j hj
      have hi2 : 6 ≤ j := by omega
      simp (disch := omega) only [t_X5_areBestsWithinMisses_0, t_X5_areBestsWithinMisses_1, t_X5_areBestsWithinMisses_2, t_X5_areBestsWithinMisses_3, t_X5_areBestsWithinMisses_5, t_X5_areBestsWithinMisses_8, t_X5_areBestsWithinMisses_9, t_X5_areBestsWithinMisses_12, t_X5_areBestsWithinMisses_13, t_X5_areBestsWithinMisses_14, t_X5_areBestsWithinMisses_15, t_X5_areBestsWithinMisses_18, t_X5_areBestsWithinMisses_19, t_X5_areBestsWithinMisses_20, t_X5_areBestsWithinMisses_23, t_X5_areBestsWithinMisses_26, t_X5_areBestsWithinMisses_27, t_X5_areBestsWithinMisses_28, t_X5_areBestsWithinMisses_31, t_X5_areBestsWithinMisses_34, t_X5_areBestsWithinMisses_35, ↓reduceIte, ev_k_i, ev_k_r, ev_k_l, ev_k_J, ev_k_n, ev_kr_1, ev_kr_0, ev_isK_y, ev_aG_y, ev_aS_y, ev_aN_y, ev_inA_0, ev_isA_0, ev_ft_I, ev_ft_0, ev_ft_1, ev_ft_o, ev_ft_a, ev_nb_0, ev_nb_1, and_true, true_and, if_true, if_false, not_true_eq_false, not_false_eq_true, nI_1, ev_fG_0, ev_fG_1, ev_fG_2, ev_fG_3, ev_fG_4, ev_fG_5, ev_fG_6, ev_fG_7, ev_fG_8, ev_fS_0, ev_fS_1, ev_fS_2, ev_fS_3, ev_fS_4, ev_fS_5, ev_fS_6, ev_fS_7, ev_fS_8, ev_isO_0, ev_isO_1, ev_isO_2, ev_isO_3, ev_isO_4, ev_isO_5, ev_isO_6, ev_isO_7, ev_isO_8, ev_z0, ev_z1, ev_z2, eq_self, ev_ofN, nI_leI, hi2, h6']
      exact c
    | succ d ih =>
      intro j hj
      have hj6 : j < 6 := by omega
      have hi2 : ¬ 6 ≤ j := by omega
      have hp := nI_pos' (n := j) (by omega)
      have hf := h4b j hj6
      obtain ⟨h7, h8⟩ := hc.2.2.2.2.2.2.2 j hj6
      unfold ev_kec at h7
      have hI := ih (j + 1) (by omega)
      have hno := hno j hj6
      rw [t_X5_areBestsWithinMisses_2]
      simp (disch := omega) only [t_X5_areBestsWithinMisses_0, t_X5_areBestsWithinMisses_1, t_X5_areBestsWithinMisses_3, t_X5_areBestsWithinMisses_5, t_X5_areBestsWithinMisses_8, t_X5_areBestsWithinMisses_9, t_X5_areBestsWithinMisses_12, t_X5_areBestsWithinMisses_13, t_X5_areBestsWithinMisses_14, t_X5_areBestsWithinMisses_15, t_X5_areBestsWithinMisses_18, t_X5_areBestsWithinMisses_19, t_X5_areBestsWithinMisses_20, t_X5_areBestsWithinMisses_23, t_X5_areBestsWithinMisses_26, t_X5_areBestsWithinMisses_27, t_X5_areBestsWithinMisses_28, t_X5_areBestsWithinMisses_31, t_X5_areBestsWithinMisses_34, t_X5_areBestsWithinMisses_35, ↓reduceIte, ev_k_i, ev_k_r, ev_k_l, ev_k_J, ev_k_n, ev_kr_1, ev_kr_0, ev_isK_y, ev_aG_y, ev_aS_y, ev_aN_y, ev_inA_0, ev_isA_0, ev_ft_I, ev_ft_0, ev_ft_1, ev_ft_o, ev_ft_a, ev_nb_0, ev_nb_1, and_true, true_and, if_true, if_false, not_true_eq_false, not_false_eq_true, nI_1, ev_fG_0, ev_fG_1, ev_fG_2, ev_fG_3, ev_fG_4, ev_fG_5, ev_fG_6, ev_fG_7, ev_fG_8, ev_fS_0, ev_fS_1, ev_fS_2, ev_fS_3, ev_fS_4, ev_fS_5, ev_fS_6, ev_fS_7, ev_fS_8, ev_isO_0, ev_isO_1, ev_isO_2, ev_isO_3, ev_isO_4, ev_isO_5, ev_isO_6, ev_isO_7, ev_isO_8, ev_z0, ev_z1, ev_z2, eq_self, ev_ofN, h6', nI_leI, hi2, ev_lk_s h0, ev_lk_s h4, ev_lk_s h5, hf, hp, hj6, nI_clamp, ev_inA_4, ev_lk_s h7, hno]
      first | exact hI | (split <;> (first | exact hI | exact c | (rename_i z; exfalso; first | exact z hno | exact hno z | exact Int32.not_le.mpr z hno | exact Int32.not_lt.mpr hno z | exact absurd hno (Int32.not_lt.mpr z))))
  have h9 := key 6 0 (by omega)
  rw [nI_0] at h9
  simp (disch := omega) only [t_X5_areBestsWithinMisses_0, t_X5_areBestsWithinMisses_1, t_X5_areBestsWithinMisses_3, t_X5_areBestsWithinMisses_5, t_X5_areBestsWithinMisses_8, t_X5_areBestsWithinMisses_9, t_X5_areBestsWithinMisses_12, t_X5_areBestsWithinMisses_13, t_X5_areBestsWithinMisses_14, t_X5_areBestsWithinMisses_15, t_X5_areBestsWithinMisses_18, t_X5_areBestsWithinMisses_19, t_X5_areBestsWithinMisses_20, t_X5_areBestsWithinMisses_23, t_X5_areBestsWithinMisses_26, t_X5_areBestsWithinMisses_27, t_X5_areBestsWithinMisses_28, t_X5_areBestsWithinMisses_31, t_X5_areBestsWithinMisses_34, t_X5_areBestsWithinMisses_35, ↓reduceIte, ev_k_i, ev_k_r, ev_k_l, ev_k_J, ev_k_n, ev_kr_1, ev_kr_0, ev_isK_y, ev_aG_y, ev_aS_y, ev_aN_y, ev_inA_0, ev_isA_0, ev_ft_I, ev_ft_0, ev_ft_1, ev_ft_o, ev_ft_a, ev_nb_0, ev_nb_1, and_true, true_and, if_true, if_false, not_true_eq_false, not_false_eq_true, nI_1, ev_fG_0, ev_fG_1, ev_fG_2, ev_fG_3, ev_fG_4, ev_fG_5, ev_fG_6, ev_fG_7, ev_fG_8, ev_fS_0, ev_fS_1, ev_fS_2, ev_fS_3, ev_fS_4, ev_fS_5, ev_fS_6, ev_fS_7, ev_fS_8, ev_isO_0, ev_isO_1, ev_isO_2, ev_isO_3, ev_isO_4, ev_isO_5, ev_isO_6, ev_isO_7, ev_isO_8, ev_z0, ev_z1, ev_z2, eq_self, ev_ofN]
  exact h9
theorem C_aGrow1 (hc : c_all x G H) {be : Nat → Int32} (h5 : H (x + 12) = some (.inl (0, 6, fun i => .int (be i)))) (hno : ∀ j, j < 5 → (G.2.2.1 (j + 1)).2.2.2.2.1 ≤ (G.2.2.1 j).2.2.2.2.1 ∧ be (j + 1) ≤ be j) (c : P (.inl (some (.int 1))) H n q) : ev_ok (ev_TT X) 53 0 [.ref x, ev_J] [] H n q P := by
  have h0 := hc.1
  unfold c_top at h0
  obtain ⟨f, h4, h4b⟩ := hc.2.2.2.2.1
  have h6' : (6 : Int32) = nI 6 := rfl
  have key : ∀ d j, j + d = 5 → ev_ok (ev_TT X) 53 2 [.ref x, .int (nI (j + 1))] [] H n q P := by
    intro d
    induction d with
    | zero =>
      intro j hj
      have hi2 : 6 ≤ j + 1 := by omega
      simp (disch := omega) only [t_X5_isNoneGrowingWithSize_0, t_X5_isNoneGrowingWithSize_1, t_X5_isNoneGrowingWithSize_2, t_X5_isNoneGrowingWithSize_3, t_X5_isNoneGrowingWithSize_5, t_X5_isNoneGrowingWithSize_8, t_X5_isNoneGrowingWithSize_9, t_X5_isNoneGrowingWithSize_12, t_X5_isNoneGrowingWithSize_13, t_X5_isNoneGrowingWithSize_14, t_X5_isNoneGrowingWithSize_17, t_X5_isNoneGrowingWithSize_18, t_X5_isNoneGrowingWithSize_21, t_X5_isNoneGrowingWithSize_22, t_X5_isNoneGrowingWithSize_23, t_X5_isNoneGrowingWithSize_24, t_X5_isNoneGrowingWithSize_25, t_X5_isNoneGrowingWithSize_28, t_X5_isNoneGrowingWithSize_31, t_X5_isNoneGrowingWithSize_32, t_X5_isNoneGrowingWithSize_35, t_X5_isNoneGrowingWithSize_36, t_X5_isNoneGrowingWithSize_37, t_X5_isNoneGrowingWithSize_38, t_X5_isNoneGrowingWithSize_41, t_X5_isNoneGrowingWithSize_42, t_X5_isNoneGrowingWithSize_43, t_X5_isNoneGrowingWithSize_44, t_X5_isNoneGrowingWithSize_45, t_X5_isNoneGrowingWithSize_48, t_X5_isNoneGrowingWithSize_49, t_X5_isNoneGrowingWithSize_50, t_X5_isNoneGrowingWithSize_53, t_X5_isNoneGrowingWithSize_56, t_X5_isNoneGrowingWithSize_57, ↓reduceIte, ev_k_i, ev_k_r, ev_k_l, ev_k_J, ev_k_n, ev_kr_1, ev_kr_0, ev_isK_y, ev_aG_y, ev_aS_y, ev_aN_y, ev_inA_0, ev_isA_0, ev_ft_I, ev_ft_0, ev_ft_1, ev_ft_o, ev_ft_a, ev_nb_0, ev_nb_1, and_true, true_and, if_true, if_false, not_true_eq_false, not_false_eq_true, nI_1, ev_fG_0, ev_fG_1, ev_fG_2, ev_fG_3, ev_fG_4, ev_fG_5, ev_fG_6, ev_fG_7, ev_fG_8, ev_fS_0, ev_fS_1, ev_fS_2, ev_fS_3, ev_fS_4, ev_fS_5, ev_fS_6, ev_fS_7, ev_fS_8, ev_isO_0, ev_isO_1, ev_isO_2, ev_isO_3, ev_isO_4, ev_isO_5, ev_isO_6, ev_isO_7, ev_isO_8, ev_z0, ev_z1, ev_z2, eq_self, ev_ofN, nI_leI, hi2, h6']
      exact c
    | succ d ih =>
      intro j hj
      have hj6 : j < 6 := by omega
      have hj7 : j + 1 < 6 := by omega
      have hi2 : ¬ 6 ≤ j + 1 := by omega
      have hp := nI_pos' (n := j) (by omega)
      have hp1 := nI_pos' (n := j + 1) (by omega)
      have hf := h4b j hj6
      have hf1 := h4b (j + 1) hj7
      obtain ⟨h7, h8⟩ := hc.2.2.2.2.2.2.2 j hj6
      obtain ⟨h71, h81⟩ := hc.2.2.2.2.2.2.2 (j + 1) hj7
      unfold ev_kec at h7 h71
      have hI := ih (j + 1) (by omega)
      obtain ⟨hn1, hn2⟩ := hno j (by omega)
      have hn3 := Int32.not_lt.mpr hn1
      have hn4 := Int32.not_lt.mpr hn2
      rw [t_X5_isNoneGrowingWithSize_2]
      simp (disch := omega) only [t_X5_isNoneGrowingWithSize_0, t_X5_isNoneGrowingWithSize_1, t_X5_isNoneGrowingWithSize_3, t_X5_isNoneGrowingWithSize_5, t_X5_isNoneGrowingWithSize_8, t_X5_isNoneGrowingWithSize_9, t_X5_isNoneGrowingWithSize_12, t_X5_isNoneGrowingWithSize_13, t_X5_isNoneGrowingWithSize_14, t_X5_isNoneGrowingWithSize_17, t_X5_isNoneGrowingWithSize_18, t_X5_isNoneGrowingWithSize_21, t_X5_isNoneGrowingWithSize_22, t_X5_isNoneGrowingWithSize_23, t_X5_isNoneGrowingWithSize_24, t_X5_isNoneGrowingWithSize_25, t_X5_isNoneGrowingWithSize_28, t_X5_isNoneGrowingWithSize_31, t_X5_isNoneGrowingWithSize_32, t_X5_isNoneGrowingWithSize_35, t_X5_isNoneGrowingWithSize_36, t_X5_isNoneGrowingWithSize_37, t_X5_isNoneGrowingWithSize_38, t_X5_isNoneGrowingWithSize_41, t_X5_isNoneGrowingWithSize_42, t_X5_isNoneGrowingWithSize_43, t_X5_isNoneGrowingWithSize_44, t_X5_isNoneGrowingWithSize_45, t_X5_isNoneGrowingWithSize_48, t_X5_isNoneGrowingWithSize_49, t_X5_isNoneGrowingWithSize_50, t_X5_isNoneGrowingWithSize_53, t_X5_isNoneGrowingWithSize_56, t_X5_isNoneGrowingWithSize_57, ↓reduceIte, ev_k_i, ev_k_r, ev_k_l, ev_k_J, ev_k_n, ev_kr_1, ev_kr_0, ev_isK_y, ev_aG_y, ev_aS_y, ev_aN_y, ev_inA_0, ev_isA_0, ev_ft_I, ev_ft_0, ev_ft_1, ev_ft_o, ev_ft_a, ev_nb_0, ev_nb_1, and_true, true_and, if_true, if_false, not_true_eq_false, not_false_eq_true, nI_1, ev_fG_0, ev_fG_1, ev_fG_2, ev_fG_3, ev_fG_4, ev_fG_5, ev_fG_6, ev_fG_7, ev_fG_8, ev_fS_0, ev_fS_1, ev_fS_2, ev_fS_3, ev_fS_4, ev_fS_5, ev_fS_6, ev_fS_7, ev_fS_8, ev_isO_0, ev_isO_1, ev_isO_2, ev_isO_3, ev_isO_4, ev_isO_5, ev_isO_6, ev_isO_7, ev_isO_8, ev_z0, ev_z1, ev_z2, eq_self, ev_ofN, h6', nI_pred, nI_leI, hi2, ev_lk_s h0, ev_lk_s h4, ev_lk_s h5, hf, hf1, hp, hp1, hj6, hj7, nI_clamp, ev_inA_4, ev_lk_s h7, ev_lk_s h71, hn1, hn2, hn3, hn4]
      first | exact hI | (split <;> first | exact hI | (split <;> first | exact hI | (rename_i z; exfalso; first | exact z hn1 | exact z hn2 | exact hn3 z | exact hn4 z)) | (rename_i z; exfalso; first | exact z hn1 | exact z hn2 | exact hn3 z | exact hn4 z))
  have h9 := key 5 0 (by omega)
  rw [show nI (0 + 1) = 1 from rfl] at h9
  simp (disch := omega) only [t_X5_isNoneGrowingWithSize_0, t_X5_isNoneGrowingWithSize_1, t_X5_isNoneGrowingWithSize_3, t_X5_isNoneGrowingWithSize_5, t_X5_isNoneGrowingWithSize_8, t_X5_isNoneGrowingWithSize_9, t_X5_isNoneGrowingWithSize_12, t_X5_isNoneGrowingWithSize_13, t_X5_isNoneGrowingWithSize_14, t_X5_isNoneGrowingWithSize_17, t_X5_isNoneGrowingWithSize_18, t_X5_isNoneGrowingWithSize_21, t_X5_isNoneGrowingWithSize_22, t_X5_isNoneGrowingWithSize_23, t_X5_isNoneGrowingWithSize_24, t_X5_isNoneGrowingWithSize_25, t_X5_isNoneGrowingWithSize_28, t_X5_isNoneGrowingWithSize_31, t_X5_isNoneGrowingWithSize_32, t_X5_isNoneGrowingWithSize_35, t_X5_isNoneGrowingWithSize_36, t_X5_isNoneGrowingWithSize_37, t_X5_isNoneGrowingWithSize_38, t_X5_isNoneGrowingWithSize_41, t_X5_isNoneGrowingWithSize_42, t_X5_isNoneGrowingWithSize_43, t_X5_isNoneGrowingWithSize_44, t_X5_isNoneGrowingWithSize_45, t_X5_isNoneGrowingWithSize_48, t_X5_isNoneGrowingWithSize_49, t_X5_isNoneGrowingWithSize_50, t_X5_isNoneGrowingWithSize_53, t_X5_isNoneGrowingWithSize_56, t_X5_isNoneGrowingWithSize_57, ↓reduceIte, ev_k_i, ev_k_r, ev_k_l, ev_k_J, ev_k_n, ev_kr_1, ev_kr_0, ev_isK_y, ev_aG_y, ev_aS_y, ev_aN_y, ev_inA_0, ev_isA_0, ev_ft_I, ev_ft_0, ev_ft_1, ev_ft_o, ev_ft_a, ev_nb_0, ev_nb_1, and_true, true_and, if_true, if_false, not_true_eq_false, not_false_eq_true, nI_1, ev_fG_0, ev_fG_1, ev_fG_2, ev_fG_3, ev_fG_4, ev_fG_5, ev_fG_6, ev_fG_7, ev_fG_8, ev_fS_0, ev_fS_1, ev_fS_2, ev_fS_3, ev_fS_4, ev_fS_5, ev_fS_6, ev_fS_7, ev_fS_8, ev_isO_0, ev_isO_1, ev_isO_2, ev_isO_3, ev_isO_4, ev_isO_5, ev_isO_6, ev_isO_7, ev_isO_8, ev_z0, ev_z1, ev_z2, eq_self, ev_ofN]
  exact h9
theorem C_aThm1 (hc : c_all x G H) {be : Nat → Int32} (h5 : H (x + 12) = some (.inl (0, 6, fun i => .int (be i)))) (hno : ∀ j k, j < 6 → k ≤ j → (G.2.2.1 j).2.2.2.2.1 * (nI (j + 1) - nI (k + 1) + 1) ≤ be k * nI (j + 1)) (c : P (.inl (some (.int 1))) H n q) : ev_ok (ev_TT X) 54 0 [.ref x, ev_J, ev_J] [] H n q P := by
  have h0 := hc.1
  unfold c_top at h0
  obtain ⟨f, h4, h4b⟩ := hc.2.2.2.2.1
  have h6' : (6 : Int32) = nI 6 := rfl
  have key : ∀ d j w, j + d = 6 → ev_ok (ev_TT X) 54 2 [.ref x, .int (nI (j + 1)), w] [] H n q P := by
    intro d
    induction d with
    | zero =>
      intro j w hj
      have hi2 : 6 < j + 1 := by omega
      simp (disch := omega) only [t_X5_isTheoremKept_0, t_X5_isTheoremKept_1, t_X5_isTheoremKept_2, t_X5_isTheoremKept_3, t_X5_isTheoremKept_5, t_X5_isTheoremKept_8, t_X5_isTheoremKept_9, t_X5_isTheoremKept_10, t_X5_isTheoremKept_11, t_X5_isTheoremKept_12, t_X5_isTheoremKept_15, t_X5_isTheoremKept_16, t_X5_isTheoremKept_19, t_X5_isTheoremKept_20, t_X5_isTheoremKept_21, t_X5_isTheoremKept_22, t_X5_isTheoremKept_23, t_X5_isTheoremKept_26, t_X5_isTheoremKept_27, t_X5_isTheoremKept_28, t_X5_isTheoremKept_29, t_X5_isTheoremKept_30, t_X5_isTheoremKept_31, t_X5_isTheoremKept_32, t_X5_isTheoremKept_33, t_X5_isTheoremKept_36, t_X5_isTheoremKept_37, t_X5_isTheoremKept_38, t_X5_isTheoremKept_39, t_X5_isTheoremKept_40, t_X5_isTheoremKept_41, t_X5_isTheoremKept_42, t_X5_isTheoremKept_45, t_X5_isTheoremKept_46, t_X5_isTheoremKept_47, t_X5_isTheoremKept_50, t_X5_isTheoremKept_53, t_X5_isTheoremKept_56, t_X5_isTheoremKept_59, t_X5_isTheoremKept_60, ↓reduceIte, ev_k_i, ev_k_r, ev_k_l, ev_k_J, ev_k_n, ev_kr_1, ev_kr_0, ev_isK_y, ev_aG_y, ev_aS_y, ev_aN_y, ev_inA_0, ev_isA_0, ev_ft_I, ev_ft_0, ev_ft_1, ev_ft_o, ev_ft_a, ev_nb_0, ev_nb_1, and_true, true_and, if_true, if_false, not_true_eq_false, not_false_eq_true, nI_1, ev_fG_0, ev_fG_1, ev_fG_2, ev_fG_3, ev_fG_4, ev_fG_5, ev_fG_6, ev_fG_7, ev_fG_8, ev_fS_0, ev_fS_1, ev_fS_2, ev_fS_3, ev_fS_4, ev_fS_5, ev_fS_6, ev_fS_7, ev_fS_8, ev_isO_0, ev_isO_1, ev_isO_2, ev_isO_3, ev_isO_4, ev_isO_5, ev_isO_6, ev_isO_7, ev_isO_8, ev_z0, ev_z1, ev_z2, eq_self, ev_ofN, nI_ltI, hi2, h6']
      exact c
    | succ d ih =>
      intro j w hj
      have hj6 : j < 6 := by omega
      have hi2 : ¬ 6 < j + 1 := by omega
      have hp := nI_pos' (n := j) (by omega)
      have hf := h4b j hj6
      obtain ⟨h7, h8⟩ := hc.2.2.2.2.2.2.2 j hj6
      unfold ev_kec at h7
      have inner : ∀ e k, k + e = j + 1 → ev_ok (ev_TT X) 54 10 [.ref x, .int (nI (j + 1)), .int (nI (k + 1))] [] H n q P := by
        intro e
        induction e with
        | zero =>
          intro k hk
          have hi3 : j + 1 < k + 1 := by omega
          have hI := ih (j + 1) (.int (nI (k + 1))) (by omega)
          simp (disch := omega) only [t_X5_isTheoremKept_0, t_X5_isTheoremKept_1, t_X5_isTheoremKept_3, t_X5_isTheoremKept_5, t_X5_isTheoremKept_8, t_X5_isTheoremKept_9, t_X5_isTheoremKept_10, t_X5_isTheoremKept_11, t_X5_isTheoremKept_12, t_X5_isTheoremKept_15, t_X5_isTheoremKept_16, t_X5_isTheoremKept_19, t_X5_isTheoremKept_20, t_X5_isTheoremKept_21, t_X5_isTheoremKept_22, t_X5_isTheoremKept_23, t_X5_isTheoremKept_26, t_X5_isTheoremKept_27, t_X5_isTheoremKept_28, t_X5_isTheoremKept_29, t_X5_isTheoremKept_30, t_X5_isTheoremKept_31, t_X5_isTheoremKept_32, t_X5_isTheoremKept_33, t_X5_isTheoremKept_36, t_X5_isTheoremKept_37, t_X5_isTheoremKept_38, t_X5_isTheoremKept_39, t_X5_isTheoremKept_40, t_X5_isTheoremKept_41, t_X5_isTheoremKept_42, t_X5_isTheoremKept_45, t_X5_isTheoremKept_46, t_X5_isTheoremKept_47, t_X5_isTheoremKept_50, t_X5_isTheoremKept_53, t_X5_isTheoremKept_56, t_X5_isTheoremKept_59, t_X5_isTheoremKept_60, ↓reduceIte, ev_k_i, ev_k_r, ev_k_l, ev_k_J, ev_k_n, ev_kr_1, ev_kr_0, ev_isK_y, ev_aG_y, ev_aS_y, ev_aN_y, ev_inA_0, ev_isA_0, ev_ft_I, ev_ft_0, ev_ft_1, ev_ft_o, ev_ft_a, ev_nb_0, ev_nb_1, and_true, true_and, if_true, if_false, not_true_eq_false, not_false_eq_true, nI_1, ev_fG_0, ev_fG_1, ev_fG_2, ev_fG_3, ev_fG_4, ev_fG_5, ev_fG_6, ev_fG_7, ev_fG_8, ev_fS_0, ev_fS_1, ev_fS_2, ev_fS_3, ev_fS_4, ev_fS_5, ev_fS_6, ev_fS_7, ev_fS_8, ev_isO_0, ev_isO_1, ev_isO_2, ev_isO_3, ev_isO_4, ev_isO_5, ev_isO_6, ev_isO_7, ev_isO_8, ev_z0, ev_z1, ev_z2, eq_self, ev_ofN, nI_ltI, hi3]
          exact hI
        | succ e ih2 =>
          intro k hk
          have hi3 : ¬ j + 1 < k + 1 := by omega
          have hj7 : k < 6 := by omega
          have hp1 := nI_pos' (n := k) (by omega)
          have hI := ih2 (k + 1) (by omega)
          have hno := hno j k hj6 (by omega)
          rw [t_X5_isTheoremKept_10]
          simp (disch := omega) only [t_X5_isTheoremKept_0, t_X5_isTheoremKept_1, t_X5_isTheoremKept_3, t_X5_isTheoremKept_5, t_X5_isTheoremKept_8, t_X5_isTheoremKept_9, t_X5_isTheoremKept_11, t_X5_isTheoremKept_12, t_X5_isTheoremKept_15, t_X5_isTheoremKept_16, t_X5_isTheoremKept_19, t_X5_isTheoremKept_20, t_X5_isTheoremKept_21, t_X5_isTheoremKept_22, t_X5_isTheoremKept_23, t_X5_isTheoremKept_26, t_X5_isTheoremKept_27, t_X5_isTheoremKept_28, t_X5_isTheoremKept_29, t_X5_isTheoremKept_30, t_X5_isTheoremKept_31, t_X5_isTheoremKept_32, t_X5_isTheoremKept_33, t_X5_isTheoremKept_36, t_X5_isTheoremKept_37, t_X5_isTheoremKept_38, t_X5_isTheoremKept_39, t_X5_isTheoremKept_40, t_X5_isTheoremKept_41, t_X5_isTheoremKept_42, t_X5_isTheoremKept_45, t_X5_isTheoremKept_46, t_X5_isTheoremKept_47, t_X5_isTheoremKept_50, t_X5_isTheoremKept_53, t_X5_isTheoremKept_56, t_X5_isTheoremKept_59, t_X5_isTheoremKept_60, ↓reduceIte, ev_k_i, ev_k_r, ev_k_l, ev_k_J, ev_k_n, ev_kr_1, ev_kr_0, ev_isK_y, ev_aG_y, ev_aS_y, ev_aN_y, ev_inA_0, ev_isA_0, ev_ft_I, ev_ft_0, ev_ft_1, ev_ft_o, ev_ft_a, ev_nb_0, ev_nb_1, and_true, true_and, if_true, if_false, not_true_eq_false, not_false_eq_true, nI_1, ev_fG_0, ev_fG_1, ev_fG_2, ev_fG_3, ev_fG_4, ev_fG_5, ev_fG_6, ev_fG_7, ev_fG_8, ev_fS_0, ev_fS_1, ev_fS_2, ev_fS_3, ev_fS_4, ev_fS_5, ev_fS_6, ev_fS_7, ev_fS_8, ev_isO_0, ev_isO_1, ev_isO_2, ev_isO_3, ev_isO_4, ev_isO_5, ev_isO_6, ev_isO_7, ev_isO_8, ev_z0, ev_z1, ev_z2, eq_self, ev_ofN, h6', nI_pred, nI_ltI, ev_lk_s h0, ev_lk_s h4, ev_lk_s h5, hf, hp, hp1, hj6, hj7, nI_clamp, ev_inA_4, ev_lk_s h7, hi3, hno]
          first | exact hI | (split <;> (first | exact hI | exact c | (rename_i z; exfalso; first | exact z hno | exact hno z | exact Int32.not_le.mpr z hno | exact Int32.not_lt.mpr hno z | exact absurd hno (Int32.not_lt.mpr z))))
      have h9 := inner (j + 1) 0 (by omega)
      rw [show nI (0 + 1) = 1 from rfl] at h9
      rw [t_X5_isTheoremKept_2]
      simp (disch := omega) only [t_X5_isTheoremKept_0, t_X5_isTheoremKept_1, t_X5_isTheoremKept_3, t_X5_isTheoremKept_5, t_X5_isTheoremKept_8, t_X5_isTheoremKept_9, t_X5_isTheoremKept_11, t_X5_isTheoremKept_12, t_X5_isTheoremKept_15, t_X5_isTheoremKept_16, t_X5_isTheoremKept_19, t_X5_isTheoremKept_20, t_X5_isTheoremKept_21, t_X5_isTheoremKept_22, t_X5_isTheoremKept_23, t_X5_isTheoremKept_26, t_X5_isTheoremKept_27, t_X5_isTheoremKept_28, t_X5_isTheoremKept_29, t_X5_isTheoremKept_30, t_X5_isTheoremKept_31, t_X5_isTheoremKept_32, t_X5_isTheoremKept_33, t_X5_isTheoremKept_36, t_X5_isTheoremKept_37, t_X5_isTheoremKept_38, t_X5_isTheoremKept_39, t_X5_isTheoremKept_40, t_X5_isTheoremKept_41, t_X5_isTheoremKept_42, t_X5_isTheoremKept_45, t_X5_isTheoremKept_46, t_X5_isTheoremKept_47, t_X5_isTheoremKept_50, t_X5_isTheoremKept_53, t_X5_isTheoremKept_56, t_X5_isTheoremKept_59, t_X5_isTheoremKept_60, ↓reduceIte, ev_k_i, ev_k_r, ev_k_l, ev_k_J, ev_k_n, ev_kr_1, ev_kr_0, ev_isK_y, ev_aG_y, ev_aS_y, ev_aN_y, ev_inA_0, ev_isA_0, ev_ft_I, ev_ft_0, ev_ft_1, ev_ft_o, ev_ft_a, ev_nb_0, ev_nb_1, and_true, true_and, if_true, if_false, not_true_eq_false, not_false_eq_true, nI_1, ev_fG_0, ev_fG_1, ev_fG_2, ev_fG_3, ev_fG_4, ev_fG_5, ev_fG_6, ev_fG_7, ev_fG_8, ev_fS_0, ev_fS_1, ev_fS_2, ev_fS_3, ev_fS_4, ev_fS_5, ev_fS_6, ev_fS_7, ev_fS_8, ev_isO_0, ev_isO_1, ev_isO_2, ev_isO_3, ev_isO_4, ev_isO_5, ev_isO_6, ev_isO_7, ev_isO_8, ev_z0, ev_z1, ev_z2, eq_self, ev_ofN, h6', nI_ltI, hi2]
      exact h9
  have h9 := key 6 0 ev_J (by omega)
  rw [show nI (0 + 1) = 1 from rfl] at h9
  simp (disch := omega) only [t_X5_isTheoremKept_0, t_X5_isTheoremKept_1, t_X5_isTheoremKept_3, t_X5_isTheoremKept_5, t_X5_isTheoremKept_8, t_X5_isTheoremKept_9, t_X5_isTheoremKept_11, t_X5_isTheoremKept_12, t_X5_isTheoremKept_15, t_X5_isTheoremKept_16, t_X5_isTheoremKept_19, t_X5_isTheoremKept_20, t_X5_isTheoremKept_21, t_X5_isTheoremKept_22, t_X5_isTheoremKept_23, t_X5_isTheoremKept_26, t_X5_isTheoremKept_27, t_X5_isTheoremKept_28, t_X5_isTheoremKept_29, t_X5_isTheoremKept_30, t_X5_isTheoremKept_31, t_X5_isTheoremKept_32, t_X5_isTheoremKept_33, t_X5_isTheoremKept_36, t_X5_isTheoremKept_37, t_X5_isTheoremKept_38, t_X5_isTheoremKept_39, t_X5_isTheoremKept_40, t_X5_isTheoremKept_41, t_X5_isTheoremKept_42, t_X5_isTheoremKept_45, t_X5_isTheoremKept_46, t_X5_isTheoremKept_47, t_X5_isTheoremKept_50, t_X5_isTheoremKept_53, t_X5_isTheoremKept_56, t_X5_isTheoremKept_59, t_X5_isTheoremKept_60, ↓reduceIte, ev_k_i, ev_k_r, ev_k_l, ev_k_J, ev_k_n, ev_kr_1, ev_kr_0, ev_isK_y, ev_aG_y, ev_aS_y, ev_aN_y, ev_inA_0, ev_isA_0, ev_ft_I, ev_ft_0, ev_ft_1, ev_ft_o, ev_ft_a, ev_nb_0, ev_nb_1, and_true, true_and, if_true, if_false, not_true_eq_false, not_false_eq_true, nI_1, ev_fG_0, ev_fG_1, ev_fG_2, ev_fG_3, ev_fG_4, ev_fG_5, ev_fG_6, ev_fG_7, ev_fG_8, ev_fS_0, ev_fS_1, ev_fS_2, ev_fS_3, ev_fS_4, ev_fS_5, ev_fS_6, ev_fS_7, ev_fS_8, ev_isO_0, ev_isO_1, ev_isO_2, ev_isO_3, ev_isO_4, ev_isO_5, ev_isO_6, ev_isO_7, ev_isO_8, ev_z0, ev_z1, ev_z2, eq_self, ev_ofN]
  exact h9
theorem C_aMost1 (hM : ∀ i, i < 4 → ¬ pr_above (G.1 i).2.1.2.1 (G.1 i).1.length) (hM2 : ∀ j, j < 6 → ¬ pr_above (G.2.2.1 j).2.1 (G.2.2.1 j).1.length) (hc : c_all x G H) (c : P (.inl (some (.int 1))) H n q) : ev_ok (ev_TT X) 107 0 [.ref x, ev_J, ev_J, ev_J, ev_J] [] H n q P := by
  have h0 := hc.1
  unfold c_top at h0
  obtain ⟨f, h4, h4b⟩ := hc.2.2.2.2.1
  obtain ⟨g, g4, g4b⟩ := hc.2.1
  have key : ∀ d j w l0, j + d = 6 → ev_ok (ev_TT X) 107 49 [l0, .ref (x + 11), .int (nI 6), .int (nI j), w] [] H n q P := by
    intro d
    induction d with
    | zero =>
      intro j w l0 hj
      have hi2 : 6 ≤ j := by omega
      simp (disch := omega) only [t_X5_isNoTableAboveMost_0, t_X5_isNoTableAboveMost_1, t_X5_isNoTableAboveMost_4, t_X5_isNoTableAboveMost_5, t_X5_isNoTableAboveMost_6, t_X5_isNoTableAboveMost_7, t_X5_isNoTableAboveMost_8, t_X5_isNoTableAboveMost_9, t_X5_isNoTableAboveMost_10, t_X5_isNoTableAboveMost_11, t_X5_isNoTableAboveMost_12, t_X5_isNoTableAboveMost_15, t_X5_isNoTableAboveMost_16, t_X5_isNoTableAboveMost_17, t_X5_isNoTableAboveMost_18, t_X5_isNoTableAboveMost_20, t_X5_isNoTableAboveMost_22, t_X5_isNoTableAboveMost_25, t_X5_isNoTableAboveMost_28, t_X5_isNoTableAboveMost_31, t_X5_isNoTableAboveMost_32, t_X5_isNoTableAboveMost_33, t_X5_isNoTableAboveMost_36, t_X5_isNoTableAboveMost_39, t_X5_isNoTableAboveMost_40, t_X5_isNoTableAboveMost_43, t_X5_isNoTableAboveMost_44, t_X5_isNoTableAboveMost_45, t_X5_isNoTableAboveMost_46, t_X5_isNoTableAboveMost_47, t_X5_isNoTableAboveMost_48, t_X5_isNoTableAboveMost_49, t_X5_isNoTableAboveMost_50, t_X5_isNoTableAboveMost_51, t_X5_isNoTableAboveMost_54, t_X5_isNoTableAboveMost_55, t_X5_isNoTableAboveMost_56, t_X5_isNoTableAboveMost_57, t_X5_isNoTableAboveMost_59, t_X5_isNoTableAboveMost_61, t_X5_isNoTableAboveMost_64, t_X5_isNoTableAboveMost_67, t_X5_isNoTableAboveMost_70, t_X5_isNoTableAboveMost_71, t_X5_isNoTableAboveMost_72, t_X5_isNoTableAboveMost_75, t_X5_isNoTableAboveMost_78, t_X5_isNoTableAboveMost_79, x_X5_isNoTableAboveMost_25, x_X5_isNoTableAboveMost_64, ↓reduceIte, ev_k_i, ev_k_r, ev_k_l, ev_k_J, ev_k_n, ev_kr_1, ev_kr_0, ev_isK_y, ev_aG_y, ev_aS_y, ev_aN_y, ev_inA_0, ev_isA_0, ev_ft_I, ev_ft_0, ev_ft_1, ev_ft_o, ev_ft_a, ev_nb_0, ev_nb_1, and_true, true_and, if_true, if_false, not_true_eq_false, not_false_eq_true, nI_1, ev_fG_0, ev_fG_1, ev_fG_2, ev_fG_3, ev_fG_4, ev_fG_5, ev_fG_6, ev_fG_7, ev_fG_8, ev_fS_0, ev_fS_1, ev_fS_2, ev_fS_3, ev_fS_4, ev_fS_5, ev_fS_6, ev_fS_7, ev_fS_8, ev_isO_0, ev_isO_1, ev_isO_2, ev_isO_3, ev_isO_4, ev_isO_5, ev_isO_6, ev_isO_7, ev_isO_8, ev_z0, ev_z1, ev_z2, eq_self, ev_ofN, nI_leI, hi2]
      exact c
    | succ d ih =>
      intro j w l0 hj
      have hj6 : j < 6 := by omega
      have hi2 : ¬ 6 ≤ j := by omega
      have hp := nI_pos' (n := j) (by omega)
      have hf := h4b j hj6
      obtain ⟨h7, h8⟩ := hc.2.2.2.2.2.2.2 j hj6
      unfold ev_kec at h7
      have h8k := ev_rL_k (X := X) h8
      have hI := fun l0 : Value => ih (j + 1) (.ref (x + 33 + 4 * j)) l0 (by omega)
      rw [t_X5_isNoTableAboveMost_49]
      simp (disch := omega) only [t_X5_isNoTableAboveMost_0, t_X5_isNoTableAboveMost_1, t_X5_isNoTableAboveMost_4, t_X5_isNoTableAboveMost_5, t_X5_isNoTableAboveMost_6, t_X5_isNoTableAboveMost_7, t_X5_isNoTableAboveMost_8, t_X5_isNoTableAboveMost_9, t_X5_isNoTableAboveMost_10, t_X5_isNoTableAboveMost_11, t_X5_isNoTableAboveMost_12, t_X5_isNoTableAboveMost_15, t_X5_isNoTableAboveMost_16, t_X5_isNoTableAboveMost_17, t_X5_isNoTableAboveMost_18, t_X5_isNoTableAboveMost_20, t_X5_isNoTableAboveMost_22, t_X5_isNoTableAboveMost_25, t_X5_isNoTableAboveMost_28, t_X5_isNoTableAboveMost_31, t_X5_isNoTableAboveMost_32, t_X5_isNoTableAboveMost_33, t_X5_isNoTableAboveMost_36, t_X5_isNoTableAboveMost_39, t_X5_isNoTableAboveMost_40, t_X5_isNoTableAboveMost_43, t_X5_isNoTableAboveMost_44, t_X5_isNoTableAboveMost_45, t_X5_isNoTableAboveMost_46, t_X5_isNoTableAboveMost_47, t_X5_isNoTableAboveMost_48, t_X5_isNoTableAboveMost_50, t_X5_isNoTableAboveMost_51, t_X5_isNoTableAboveMost_54, t_X5_isNoTableAboveMost_55, t_X5_isNoTableAboveMost_56, t_X5_isNoTableAboveMost_57, t_X5_isNoTableAboveMost_59, t_X5_isNoTableAboveMost_61, t_X5_isNoTableAboveMost_64, t_X5_isNoTableAboveMost_67, t_X5_isNoTableAboveMost_70, t_X5_isNoTableAboveMost_71, t_X5_isNoTableAboveMost_72, t_X5_isNoTableAboveMost_75, t_X5_isNoTableAboveMost_78, t_X5_isNoTableAboveMost_79, x_X5_isNoTableAboveMost_25, x_X5_isNoTableAboveMost_64, ↓reduceIte, ev_k_i, ev_k_r, ev_k_l, ev_k_J, ev_k_n, ev_kr_1, ev_kr_0, ev_isK_y, ev_aG_y, ev_aS_y, ev_aN_y, ev_inA_0, ev_isA_0, ev_ft_I, ev_ft_0, ev_ft_1, ev_ft_o, ev_ft_a, ev_nb_0, ev_nb_1, and_true, true_and, if_true, if_false, not_true_eq_false, not_false_eq_true, nI_1, ev_fG_0, ev_fG_1, ev_fG_2, ev_fG_3, ev_fG_4, ev_fG_5, ev_fG_6, ev_fG_7, ev_fG_8, ev_fS_0, ev_fS_1, ev_fS_2, ev_fS_3, ev_fS_4, ev_fS_5, ev_fS_6, ev_fS_7, ev_fS_8, ev_isO_0, ev_isO_1, ev_isO_2, ev_isO_3, ev_isO_4, ev_isO_5, ev_isO_6, ev_isO_7, ev_isO_8, ev_z0, ev_z1, ev_z2, eq_self, ev_ofN, nI_leI, hi2, nI_clamp, hp, hj6, ev_lk_s h4, hf, ev_inA_4, ev_lk_s h7, h8k]
      refine R_abm h8 ?_
      rw [show @ev_b (pr_above (G.2.2.1 j).2.1 (G.2.2.1 j).1.length) (Classical.propDecidable _) = 0 from if_neg (hM2 j hj6)]
      simp (disch := omega) only [t_X5_isNoTableAboveMost_0, t_X5_isNoTableAboveMost_1, t_X5_isNoTableAboveMost_4, t_X5_isNoTableAboveMost_5, t_X5_isNoTableAboveMost_6, t_X5_isNoTableAboveMost_7, t_X5_isNoTableAboveMost_8, t_X5_isNoTableAboveMost_9, t_X5_isNoTableAboveMost_10, t_X5_isNoTableAboveMost_11, t_X5_isNoTableAboveMost_12, t_X5_isNoTableAboveMost_15, t_X5_isNoTableAboveMost_16, t_X5_isNoTableAboveMost_17, t_X5_isNoTableAboveMost_18, t_X5_isNoTableAboveMost_20, t_X5_isNoTableAboveMost_22, t_X5_isNoTableAboveMost_25, t_X5_isNoTableAboveMost_28, t_X5_isNoTableAboveMost_31, t_X5_isNoTableAboveMost_32, t_X5_isNoTableAboveMost_33, t_X5_isNoTableAboveMost_36, t_X5_isNoTableAboveMost_39, t_X5_isNoTableAboveMost_40, t_X5_isNoTableAboveMost_43, t_X5_isNoTableAboveMost_44, t_X5_isNoTableAboveMost_45, t_X5_isNoTableAboveMost_46, t_X5_isNoTableAboveMost_47, t_X5_isNoTableAboveMost_48, t_X5_isNoTableAboveMost_50, t_X5_isNoTableAboveMost_51, t_X5_isNoTableAboveMost_54, t_X5_isNoTableAboveMost_55, t_X5_isNoTableAboveMost_56, t_X5_isNoTableAboveMost_57, t_X5_isNoTableAboveMost_59, t_X5_isNoTableAboveMost_61, t_X5_isNoTableAboveMost_64, t_X5_isNoTableAboveMost_67, t_X5_isNoTableAboveMost_70, t_X5_isNoTableAboveMost_71, t_X5_isNoTableAboveMost_72, t_X5_isNoTableAboveMost_75, t_X5_isNoTableAboveMost_78, t_X5_isNoTableAboveMost_79, x_X5_isNoTableAboveMost_25, x_X5_isNoTableAboveMost_64, ↓reduceIte, ev_k_i, ev_k_r, ev_k_l, ev_k_J, ev_k_n, ev_kr_1, ev_kr_0, ev_isK_y, ev_aG_y, ev_aS_y, ev_aN_y, ev_inA_0, ev_isA_0, ev_ft_I, ev_ft_0, ev_ft_1, ev_ft_o, ev_ft_a, ev_nb_0, ev_nb_1, and_true, true_and, if_true, if_false, not_true_eq_false, not_false_eq_true, nI_1, ev_fG_0, ev_fG_1, ev_fG_2, ev_fG_3, ev_fG_4, ev_fG_5, ev_fG_6, ev_fG_7, ev_fG_8, ev_fS_0, ev_fS_1, ev_fS_2, ev_fS_3, ev_fS_4, ev_fS_5, ev_fS_6, ev_fS_7, ev_fS_8, ev_isO_0, ev_isO_1, ev_isO_2, ev_isO_3, ev_isO_4, ev_isO_5, ev_isO_6, ev_isO_7, ev_isO_8, ev_z0, ev_z1, ev_z2, eq_self, ev_ofN, show ¬ (1 : Int32) = 0 from by decide]
      exact hI _
  have key2 : ∀ d i w, i + d = 4 → ev_ok (ev_TT X) 107 10 [.ref x, .ref (x + 1), .int (nI 4), .int (nI i), w] [] H n q P := by
    intro d
    induction d with
    | zero =>
      intro j w hj
      have hi2 : 4 ≤ j := by omega
      have h9 := fun (w l0 : Value) => key 6 0 w l0 (by omega)
      rw [nI_0] at h9
      simp (disch := omega) only [t_X5_isNoTableAboveMost_0, t_X5_isNoTableAboveMost_1, t_X5_isNoTableAboveMost_4, t_X5_isNoTableAboveMost_5, t_X5_isNoTableAboveMost_6, t_X5_isNoTableAboveMost_7, t_X5_isNoTableAboveMost_8, t_X5_isNoTableAboveMost_9, t_X5_isNoTableAboveMost_10, t_X5_isNoTableAboveMost_11, t_X5_isNoTableAboveMost_12, t_X5_isNoTableAboveMost_15, t_X5_isNoTableAboveMost_16, t_X5_isNoTableAboveMost_17, t_X5_isNoTableAboveMost_18, t_X5_isNoTableAboveMost_20, t_X5_isNoTableAboveMost_22, t_X5_isNoTableAboveMost_25, t_X5_isNoTableAboveMost_28, t_X5_isNoTableAboveMost_31, t_X5_isNoTableAboveMost_32, t_X5_isNoTableAboveMost_33, t_X5_isNoTableAboveMost_36, t_X5_isNoTableAboveMost_39, t_X5_isNoTableAboveMost_40, t_X5_isNoTableAboveMost_43, t_X5_isNoTableAboveMost_44, t_X5_isNoTableAboveMost_45, t_X5_isNoTableAboveMost_46, t_X5_isNoTableAboveMost_47, t_X5_isNoTableAboveMost_48, t_X5_isNoTableAboveMost_50, t_X5_isNoTableAboveMost_51, t_X5_isNoTableAboveMost_54, t_X5_isNoTableAboveMost_55, t_X5_isNoTableAboveMost_56, t_X5_isNoTableAboveMost_57, t_X5_isNoTableAboveMost_59, t_X5_isNoTableAboveMost_61, t_X5_isNoTableAboveMost_64, t_X5_isNoTableAboveMost_67, t_X5_isNoTableAboveMost_70, t_X5_isNoTableAboveMost_71, t_X5_isNoTableAboveMost_72, t_X5_isNoTableAboveMost_75, t_X5_isNoTableAboveMost_78, t_X5_isNoTableAboveMost_79, x_X5_isNoTableAboveMost_25, x_X5_isNoTableAboveMost_64, ↓reduceIte, ev_k_i, ev_k_r, ev_k_l, ev_k_J, ev_k_n, ev_kr_1, ev_kr_0, ev_isK_y, ev_aG_y, ev_aS_y, ev_aN_y, ev_inA_0, ev_isA_0, ev_ft_I, ev_ft_0, ev_ft_1, ev_ft_o, ev_ft_a, ev_nb_0, ev_nb_1, and_true, true_and, if_true, if_false, not_true_eq_false, not_false_eq_true, nI_1, ev_fG_0, ev_fG_1, ev_fG_2, ev_fG_3, ev_fG_4, ev_fG_5, ev_fG_6, ev_fG_7, ev_fG_8, ev_fS_0, ev_fS_1, ev_fS_2, ev_fS_3, ev_fS_4, ev_fS_5, ev_fS_6, ev_fS_7, ev_fS_8, ev_isO_0, ev_isO_1, ev_isO_2, ev_isO_3, ev_isO_4, ev_isO_5, ev_isO_6, ev_isO_7, ev_isO_8, ev_z0, ev_z1, ev_z2, eq_self, ev_ofN, nI_leI, hi2, ev_lk_s h0, ev_lk_s h4, ev_isA_4, ev_ofN]
      exact h9 _ _
    | succ d ih =>
      intro j w hj
      have hj6 : j < 4 := by omega
      have hi2 : ¬ 4 ≤ j := by omega
      have hp := nI_pos' (n := j) (by omega)
      have hf := g4b j hj6
      obtain ⟨h7, h8, h9⟩ := hc.2.2.2.2.2.2.1 j hj6
      unfold ev_tbc at h7
      have h8k := ev_rL_k (X := X) h8
      have hI := ih (j + 1) (.ref (x + 13 + 5 * j)) (by omega)
      rw [t_X5_isNoTableAboveMost_10]
      simp (disch := omega) only [t_X5_isNoTableAboveMost_0, t_X5_isNoTableAboveMost_1, t_X5_isNoTableAboveMost_4, t_X5_isNoTableAboveMost_5, t_X5_isNoTableAboveMost_6, t_X5_isNoTableAboveMost_7, t_X5_isNoTableAboveMost_8, t_X5_isNoTableAboveMost_9, t_X5_isNoTableAboveMost_11, t_X5_isNoTableAboveMost_12, t_X5_isNoTableAboveMost_15, t_X5_isNoTableAboveMost_16, t_X5_isNoTableAboveMost_17, t_X5_isNoTableAboveMost_18, t_X5_isNoTableAboveMost_20, t_X5_isNoTableAboveMost_22, t_X5_isNoTableAboveMost_25, t_X5_isNoTableAboveMost_28, t_X5_isNoTableAboveMost_31, t_X5_isNoTableAboveMost_32, t_X5_isNoTableAboveMost_33, t_X5_isNoTableAboveMost_36, t_X5_isNoTableAboveMost_39, t_X5_isNoTableAboveMost_40, t_X5_isNoTableAboveMost_43, t_X5_isNoTableAboveMost_44, t_X5_isNoTableAboveMost_45, t_X5_isNoTableAboveMost_46, t_X5_isNoTableAboveMost_47, t_X5_isNoTableAboveMost_48, t_X5_isNoTableAboveMost_50, t_X5_isNoTableAboveMost_51, t_X5_isNoTableAboveMost_54, t_X5_isNoTableAboveMost_55, t_X5_isNoTableAboveMost_56, t_X5_isNoTableAboveMost_57, t_X5_isNoTableAboveMost_59, t_X5_isNoTableAboveMost_61, t_X5_isNoTableAboveMost_64, t_X5_isNoTableAboveMost_67, t_X5_isNoTableAboveMost_70, t_X5_isNoTableAboveMost_71, t_X5_isNoTableAboveMost_72, t_X5_isNoTableAboveMost_75, t_X5_isNoTableAboveMost_78, t_X5_isNoTableAboveMost_79, x_X5_isNoTableAboveMost_25, x_X5_isNoTableAboveMost_64, ↓reduceIte, ev_k_i, ev_k_r, ev_k_l, ev_k_J, ev_k_n, ev_kr_1, ev_kr_0, ev_isK_y, ev_aG_y, ev_aS_y, ev_aN_y, ev_inA_0, ev_isA_0, ev_ft_I, ev_ft_0, ev_ft_1, ev_ft_o, ev_ft_a, ev_nb_0, ev_nb_1, and_true, true_and, if_true, if_false, not_true_eq_false, not_false_eq_true, nI_1, ev_fG_0, ev_fG_1, ev_fG_2, ev_fG_3, ev_fG_4, ev_fG_5, ev_fG_6, ev_fG_7, ev_fG_8, ev_fS_0, ev_fS_1, ev_fS_2, ev_fS_3, ev_fS_4, ev_fS_5, ev_fS_6, ev_fS_7, ev_fS_8, ev_isO_0, ev_isO_1, ev_isO_2, ev_isO_3, ev_isO_4, ev_isO_5, ev_isO_6, ev_isO_7, ev_isO_8, ev_z0, ev_z1, ev_z2, eq_self, ev_ofN, nI_leI, hi2, nI_clamp, hp, hj6, ev_lk_s g4, hf, ev_inA_3, ev_lk_s h7, h8k]
      refine R_abm h8 ?_
      rw [show @ev_b (pr_above (G.1 j).2.1.2.1 (G.1 j).1.length) (Classical.propDecidable _) = 0 from if_neg (hM j hj6)]
      simp (disch := omega) only [t_X5_isNoTableAboveMost_0, t_X5_isNoTableAboveMost_1, t_X5_isNoTableAboveMost_4, t_X5_isNoTableAboveMost_5, t_X5_isNoTableAboveMost_6, t_X5_isNoTableAboveMost_7, t_X5_isNoTableAboveMost_8, t_X5_isNoTableAboveMost_9, t_X5_isNoTableAboveMost_11, t_X5_isNoTableAboveMost_12, t_X5_isNoTableAboveMost_15, t_X5_isNoTableAboveMost_16, t_X5_isNoTableAboveMost_17, t_X5_isNoTableAboveMost_18, t_X5_isNoTableAboveMost_20, t_X5_isNoTableAboveMost_22, t_X5_isNoTableAboveMost_25, t_X5_isNoTableAboveMost_28, t_X5_isNoTableAboveMost_31, t_X5_isNoTableAboveMost_32, t_X5_isNoTableAboveMost_33, t_X5_isNoTableAboveMost_36, t_X5_isNoTableAboveMost_39, t_X5_isNoTableAboveMost_40, t_X5_isNoTableAboveMost_43, t_X5_isNoTableAboveMost_44, t_X5_isNoTableAboveMost_45, t_X5_isNoTableAboveMost_46, t_X5_isNoTableAboveMost_47, t_X5_isNoTableAboveMost_48, t_X5_isNoTableAboveMost_50, t_X5_isNoTableAboveMost_51, t_X5_isNoTableAboveMost_54, t_X5_isNoTableAboveMost_55, t_X5_isNoTableAboveMost_56, t_X5_isNoTableAboveMost_57, t_X5_isNoTableAboveMost_59, t_X5_isNoTableAboveMost_61, t_X5_isNoTableAboveMost_64, t_X5_isNoTableAboveMost_67, t_X5_isNoTableAboveMost_70, t_X5_isNoTableAboveMost_71, t_X5_isNoTableAboveMost_72, t_X5_isNoTableAboveMost_75, t_X5_isNoTableAboveMost_78, t_X5_isNoTableAboveMost_79, x_X5_isNoTableAboveMost_25, x_X5_isNoTableAboveMost_64, ↓reduceIte, ev_k_i, ev_k_r, ev_k_l, ev_k_J, ev_k_n, ev_kr_1, ev_kr_0, ev_isK_y, ev_aG_y, ev_aS_y, ev_aN_y, ev_inA_0, ev_isA_0, ev_ft_I, ev_ft_0, ev_ft_1, ev_ft_o, ev_ft_a, ev_nb_0, ev_nb_1, and_true, true_and, if_true, if_false, not_true_eq_false, not_false_eq_true, nI_1, ev_fG_0, ev_fG_1, ev_fG_2, ev_fG_3, ev_fG_4, ev_fG_5, ev_fG_6, ev_fG_7, ev_fG_8, ev_fS_0, ev_fS_1, ev_fS_2, ev_fS_3, ev_fS_4, ev_fS_5, ev_fS_6, ev_fS_7, ev_fS_8, ev_isO_0, ev_isO_1, ev_isO_2, ev_isO_3, ev_isO_4, ev_isO_5, ev_isO_6, ev_isO_7, ev_isO_8, ev_z0, ev_z1, ev_z2, eq_self, ev_ofN, show ¬ (1 : Int32) = 0 from by decide]
      exact hI
  have h9 := key2 4 0 ev_J (by omega)
  rw [nI_0] at h9
  simp (disch := omega) only [t_X5_isNoTableAboveMost_0, t_X5_isNoTableAboveMost_1, t_X5_isNoTableAboveMost_4, t_X5_isNoTableAboveMost_5, t_X5_isNoTableAboveMost_6, t_X5_isNoTableAboveMost_7, t_X5_isNoTableAboveMost_8, t_X5_isNoTableAboveMost_9, t_X5_isNoTableAboveMost_11, t_X5_isNoTableAboveMost_12, t_X5_isNoTableAboveMost_15, t_X5_isNoTableAboveMost_16, t_X5_isNoTableAboveMost_17, t_X5_isNoTableAboveMost_18, t_X5_isNoTableAboveMost_20, t_X5_isNoTableAboveMost_22, t_X5_isNoTableAboveMost_25, t_X5_isNoTableAboveMost_28, t_X5_isNoTableAboveMost_31, t_X5_isNoTableAboveMost_32, t_X5_isNoTableAboveMost_33, t_X5_isNoTableAboveMost_36, t_X5_isNoTableAboveMost_39, t_X5_isNoTableAboveMost_40, t_X5_isNoTableAboveMost_43, t_X5_isNoTableAboveMost_44, t_X5_isNoTableAboveMost_45, t_X5_isNoTableAboveMost_46, t_X5_isNoTableAboveMost_47, t_X5_isNoTableAboveMost_48, t_X5_isNoTableAboveMost_50, t_X5_isNoTableAboveMost_51, t_X5_isNoTableAboveMost_54, t_X5_isNoTableAboveMost_55, t_X5_isNoTableAboveMost_56, t_X5_isNoTableAboveMost_57, t_X5_isNoTableAboveMost_59, t_X5_isNoTableAboveMost_61, t_X5_isNoTableAboveMost_64, t_X5_isNoTableAboveMost_67, t_X5_isNoTableAboveMost_70, t_X5_isNoTableAboveMost_71, t_X5_isNoTableAboveMost_72, t_X5_isNoTableAboveMost_75, t_X5_isNoTableAboveMost_78, t_X5_isNoTableAboveMost_79, x_X5_isNoTableAboveMost_25, x_X5_isNoTableAboveMost_64, ↓reduceIte, ev_k_i, ev_k_r, ev_k_l, ev_k_J, ev_k_n, ev_kr_1, ev_kr_0, ev_isK_y, ev_aG_y, ev_aS_y, ev_aN_y, ev_inA_0, ev_isA_0, ev_ft_I, ev_ft_0, ev_ft_1, ev_ft_o, ev_ft_a, ev_nb_0, ev_nb_1, and_true, true_and, if_true, if_false, not_true_eq_false, not_false_eq_true, nI_1, ev_fG_0, ev_fG_1, ev_fG_2, ev_fG_3, ev_fG_4, ev_fG_5, ev_fG_6, ev_fG_7, ev_fG_8, ev_fS_0, ev_fS_1, ev_fS_2, ev_fS_3, ev_fS_4, ev_fS_5, ev_fS_6, ev_fS_7, ev_fS_8, ev_isO_0, ev_isO_1, ev_isO_2, ev_isO_3, ev_isO_4, ev_isO_5, ev_isO_6, ev_isO_7, ev_isO_8, ev_z0, ev_z1, ev_z2, eq_self, ev_ofN, ev_lk_s h0, ev_lk_s g4, ev_isA_3, ev_ofN]
  exact h9
theorem C_sound1 (hl : jR G As) (hN60 : As.length ≤ 60) (hA : aR G As) (hM : ∀ i, i < 4 → ¬ pr_above (G.1 i).2.1.2.1 (G.1 i).1.length) (hc : c_all x G H) (hG : okG G) (c : ∀ H1, c_all x G H1 → c_fr x H H1 → P (.inl (some (.int 1))) H1 n q) : ev_ok (ev_TT X) 202 0 [.ref x, ev_J] [] H n q P := by
  have h6' : (6 : Int32) = nI 6 := rfl
  have hA20 : ∀ i, i < As.length → As.getD i 0 < 20 := fun i hi => (hA.2 i (by have := hA.1; omega)).2
  have hM2 : ∀ j, j < 6 → ¬ pr_above (G.2.2.1 j).2.1 (G.2.2.1 j).1.length := fun j hj => by
    unfold pr_above
    rw [(hl.2.2.2 j hj).2.1, nI_leI (by have := okL_len (hG.2.2.1 j hj); omega) (by omega)]
    exact fun z => z (Or.inr (hl.2.2.2 j hj).1.1)
  have rest : ∀ H1 (be : Nat → Int32), c_all x G H1 → c_fr x H H1 → H1 (x + 12) = some (.inl (0, 6, fun i => .int (be i))) → (∀ i, i < 6 → be i = nI (As.length - (gs As (i + 1) As.length).2)) → ev_ok (ev_TT X) 202 30 [.ref x, .int (nI 6)] [] H1 n q P := by
    intro H1 be hc1 hf1 h5 hbe
    have hk1 := c_all_k (X := X) hc1
    have hms : ∀ j, j < 6 → (G.2.2.1 j).2.2.2.2.1 = nI (mm As (j + 1) As.length 0) := fun j hj => (hl.2.2.2 j hj).2.2.2.1
    have hml : ∀ cc, mm As cc As.length 0 ≤ As.length := fun cc => mm_le _ _
    have hq1 : ∀ j, j < 6 → be j ≤ (G.2.2.1 j).2.2.2.2.1 := fun j hj => by
      rw [hbe j hj, hms j hj]
      exact nI_le (thm_best (by omega) hN60 hA20) (by have := hml (j + 1); omega)
    have hq2 : ∀ j, j < 5 → (G.2.2.1 (j + 1)).2.2.2.2.1 ≤ (G.2.2.1 j).2.2.2.2.1 ∧ be (j + 1) ≤ be j := fun j hj => by
      rw [hms (j + 1) (by omega), hms j (by omega), hbe (j + 1) (by omega), hbe j (by omega)]
      exact ⟨nI_le (thm_grow _) (by have := hml (j + 1); omega), nI_le (opt_grow (by omega) hN60 hA20) (by omega)⟩
    have hq3 : ∀ j k, j < 6 → k ≤ j → (G.2.2.1 j).2.2.2.2.1 * (nI (j + 1) - nI (k + 1) + 1) ≤ be k * nI (j + 1) := fun j k hj hk => by
      have h9 := thm_end (As := As) (c := j + 1) (k := k + 1) (by omega) (by omega) hN60 hA20
      have hb1 : (As.length - (gs As (k + 1) As.length).2) * (j + 1) ≤ 60 * 6 := Nat.mul_le_mul (by omega) (by omega)
      rw [hms j hj, hbe k (by omega), pk_sub (show k + 1 ≤ j + 1 by omega), ← nI_succ, nI_mul9, nI_mul9]
      refine nI_le ?_ (by omega)
      rw [Nat.mul_comm (mm As (j + 1) As.length 0), Nat.mul_comm (As.length - (gs As (k + 1) As.length).2)]
      exact h9
    simp (disch := omega) only [t_X5_isSound_0, t_X5_isSound_1, t_X5_isSound_3, t_X5_isSound_5, t_X5_isSound_8, t_X5_isSound_9, t_X5_isSound_12, t_X5_isSound_13, t_X5_isSound_14, t_X5_isSound_17, t_X5_isSound_18, t_X5_isSound_19, t_X5_isSound_20, t_X5_isSound_23, t_X5_isSound_24, t_X5_isSound_27, t_X5_isSound_30, t_X5_isSound_31, t_X5_isSound_34, t_X5_isSound_37, t_X5_isSound_38, t_X5_isSound_41, t_X5_isSound_44, t_X5_isSound_45, t_X5_isSound_48, t_X5_isSound_51, t_X5_isSound_52, t_X5_isSound_55, t_X5_isSound_58, t_X5_isSound_59, t_X5_isSound_62, t_X5_isSound_65, t_X5_isSound_66, t_X5_isSound_69, t_X5_isSound_72, t_X5_isSound_73, t_X5_isSound_76, t_X5_isSound_77, x_X5_isSound_20, x_X5_isSound_31, x_X5_isSound_38, x_X5_isSound_45, x_X5_isSound_52, x_X5_isSound_59, x_X5_isSound_66, ↓reduceIte, ev_k_i, ev_k_r, ev_k_l, ev_k_J, ev_k_n, ev_kr_1, ev_kr_0, ev_isK_y, ev_aG_y, ev_aS_y, ev_aN_y, ev_inA_0, ev_isA_0, ev_ft_I, ev_ft_0, ev_ft_1, ev_ft_o, ev_ft_a, ev_nb_0, ev_nb_1, and_true, true_and, if_true, if_false, not_true_eq_false, not_false_eq_true, nI_1, ev_fG_0, ev_fG_1, ev_fG_2, ev_fG_3, ev_fG_4, ev_fG_5, ev_fG_6, ev_fG_7, ev_fG_8, ev_fS_0, ev_fS_1, ev_fS_2, ev_fS_3, ev_fS_4, ev_fS_5, ev_fS_6, ev_fS_7, ev_fS_8, ev_isO_0, ev_isO_1, ev_isO_2, ev_isO_3, ev_isO_4, ev_isO_5, ev_isO_6, ev_isO_7, ev_isO_8, ev_z0, ev_z1, ev_z2, eq_self, ev_ofN, hk1]
    refine C_aMost1 hM hM2 hc1 ?_
    simp (disch := omega) only [t_X5_isSound_0, t_X5_isSound_1, t_X5_isSound_3, t_X5_isSound_5, t_X5_isSound_8, t_X5_isSound_9, t_X5_isSound_12, t_X5_isSound_13, t_X5_isSound_14, t_X5_isSound_17, t_X5_isSound_18, t_X5_isSound_19, t_X5_isSound_20, t_X5_isSound_23, t_X5_isSound_24, t_X5_isSound_27, t_X5_isSound_30, t_X5_isSound_31, t_X5_isSound_34, t_X5_isSound_37, t_X5_isSound_38, t_X5_isSound_41, t_X5_isSound_44, t_X5_isSound_45, t_X5_isSound_48, t_X5_isSound_51, t_X5_isSound_52, t_X5_isSound_55, t_X5_isSound_58, t_X5_isSound_59, t_X5_isSound_62, t_X5_isSound_65, t_X5_isSound_66, t_X5_isSound_69, t_X5_isSound_72, t_X5_isSound_73, t_X5_isSound_76, t_X5_isSound_77, x_X5_isSound_20, x_X5_isSound_31, x_X5_isSound_38, x_X5_isSound_45, x_X5_isSound_52, x_X5_isSound_59, x_X5_isSound_66, ↓reduceIte, ev_k_i, ev_k_r, ev_k_l, ev_k_J, ev_k_n, ev_kr_1, ev_kr_0, ev_isK_y, ev_aG_y, ev_aS_y, ev_aN_y, ev_inA_0, ev_isA_0, ev_ft_I, ev_ft_0, ev_ft_1, ev_ft_o, ev_ft_a, ev_nb_0, ev_nb_1, and_true, true_and, if_true, if_false, not_true_eq_false, not_false_eq_true, nI_1, ev_fG_0, ev_fG_1, ev_fG_2, ev_fG_3, ev_fG_4, ev_fG_5, ev_fG_6, ev_fG_7, ev_fG_8, ev_fS_0, ev_fS_1, ev_fS_2, ev_fS_3, ev_fS_4, ev_fS_5, ev_fS_6, ev_fS_7, ev_fS_8, ev_isO_0, ev_isO_1, ev_isO_2, ev_isO_3, ev_isO_4, ev_isO_5, ev_isO_6, ev_isO_7, ev_isO_8, ev_z0, ev_z1, ev_z2, eq_self, ev_ofN, show ¬ (1 : Int32) = 0 from by decide, hk1]
    refine C_aKeep1 hl hN60 hc1 hG ?_
    simp (disch := omega) only [t_X5_isSound_0, t_X5_isSound_1, t_X5_isSound_3, t_X5_isSound_5, t_X5_isSound_8, t_X5_isSound_9, t_X5_isSound_12, t_X5_isSound_13, t_X5_isSound_14, t_X5_isSound_17, t_X5_isSound_18, t_X5_isSound_19, t_X5_isSound_20, t_X5_isSound_23, t_X5_isSound_24, t_X5_isSound_27, t_X5_isSound_30, t_X5_isSound_31, t_X5_isSound_34, t_X5_isSound_37, t_X5_isSound_38, t_X5_isSound_41, t_X5_isSound_44, t_X5_isSound_45, t_X5_isSound_48, t_X5_isSound_51, t_X5_isSound_52, t_X5_isSound_55, t_X5_isSound_58, t_X5_isSound_59, t_X5_isSound_62, t_X5_isSound_65, t_X5_isSound_66, t_X5_isSound_69, t_X5_isSound_72, t_X5_isSound_73, t_X5_isSound_76, t_X5_isSound_77, x_X5_isSound_20, x_X5_isSound_31, x_X5_isSound_38, x_X5_isSound_45, x_X5_isSound_52, x_X5_isSound_59, x_X5_isSound_66, ↓reduceIte, ev_k_i, ev_k_r, ev_k_l, ev_k_J, ev_k_n, ev_kr_1, ev_kr_0, ev_isK_y, ev_aG_y, ev_aS_y, ev_aN_y, ev_inA_0, ev_isA_0, ev_ft_I, ev_ft_0, ev_ft_1, ev_ft_o, ev_ft_a, ev_nb_0, ev_nb_1, and_true, true_and, if_true, if_false, not_true_eq_false, not_false_eq_true, nI_1, ev_fG_0, ev_fG_1, ev_fG_2, ev_fG_3, ev_fG_4, ev_fG_5, ev_fG_6, ev_fG_7, ev_fG_8, ev_fS_0, ev_fS_1, ev_fS_2, ev_fS_3, ev_fS_4, ev_fS_5, ev_fS_6, ev_fS_7, ev_fS_8, ev_isO_0, ev_isO_1, ev_isO_2, ev_isO_3, ev_isO_4, ev_isO_5, ev_isO_6, ev_isO_7, ev_isO_8, ev_z0, ev_z1, ev_z2, eq_self, ev_ofN, show ¬ (1 : Int32) = 0 from by decide, hk1]
    refine C_aMiss1 hl hN60 hc1 hG ?_
    simp (disch := omega) only [t_X5_isSound_0, t_X5_isSound_1, t_X5_isSound_3, t_X5_isSound_5, t_X5_isSound_8, t_X5_isSound_9, t_X5_isSound_12, t_X5_isSound_13, t_X5_isSound_14, t_X5_isSound_17, t_X5_isSound_18, t_X5_isSound_19, t_X5_isSound_20, t_X5_isSound_23, t_X5_isSound_24, t_X5_isSound_27, t_X5_isSound_30, t_X5_isSound_31, t_X5_isSound_34, t_X5_isSound_37, t_X5_isSound_38, t_X5_isSound_41, t_X5_isSound_44, t_X5_isSound_45, t_X5_isSound_48, t_X5_isSound_51, t_X5_isSound_52, t_X5_isSound_55, t_X5_isSound_58, t_X5_isSound_59, t_X5_isSound_62, t_X5_isSound_65, t_X5_isSound_66, t_X5_isSound_69, t_X5_isSound_72, t_X5_isSound_73, t_X5_isSound_76, t_X5_isSound_77, x_X5_isSound_20, x_X5_isSound_31, x_X5_isSound_38, x_X5_isSound_45, x_X5_isSound_52, x_X5_isSound_59, x_X5_isSound_66, ↓reduceIte, ev_k_i, ev_k_r, ev_k_l, ev_k_J, ev_k_n, ev_kr_1, ev_kr_0, ev_isK_y, ev_aG_y, ev_aS_y, ev_aN_y, ev_inA_0, ev_isA_0, ev_ft_I, ev_ft_0, ev_ft_1, ev_ft_o, ev_ft_a, ev_nb_0, ev_nb_1, and_true, true_and, if_true, if_false, not_true_eq_false, not_false_eq_true, nI_1, ev_fG_0, ev_fG_1, ev_fG_2, ev_fG_3, ev_fG_4, ev_fG_5, ev_fG_6, ev_fG_7, ev_fG_8, ev_fS_0, ev_fS_1, ev_fS_2, ev_fS_3, ev_fS_4, ev_fS_5, ev_fS_6, ev_fS_7, ev_fS_8, ev_isO_0, ev_isO_1, ev_isO_2, ev_isO_3, ev_isO_4, ev_isO_5, ev_isO_6, ev_isO_7, ev_isO_8, ev_z0, ev_z1, ev_z2, eq_self, ev_ofN, show ¬ (1 : Int32) = 0 from by decide, hk1]
    refine C_aBest1 hc1 h5 hq1 ?_
    simp (disch := omega) only [t_X5_isSound_0, t_X5_isSound_1, t_X5_isSound_3, t_X5_isSound_5, t_X5_isSound_8, t_X5_isSound_9, t_X5_isSound_12, t_X5_isSound_13, t_X5_isSound_14, t_X5_isSound_17, t_X5_isSound_18, t_X5_isSound_19, t_X5_isSound_20, t_X5_isSound_23, t_X5_isSound_24, t_X5_isSound_27, t_X5_isSound_30, t_X5_isSound_31, t_X5_isSound_34, t_X5_isSound_37, t_X5_isSound_38, t_X5_isSound_41, t_X5_isSound_44, t_X5_isSound_45, t_X5_isSound_48, t_X5_isSound_51, t_X5_isSound_52, t_X5_isSound_55, t_X5_isSound_58, t_X5_isSound_59, t_X5_isSound_62, t_X5_isSound_65, t_X5_isSound_66, t_X5_isSound_69, t_X5_isSound_72, t_X5_isSound_73, t_X5_isSound_76, t_X5_isSound_77, x_X5_isSound_20, x_X5_isSound_31, x_X5_isSound_38, x_X5_isSound_45, x_X5_isSound_52, x_X5_isSound_59, x_X5_isSound_66, ↓reduceIte, ev_k_i, ev_k_r, ev_k_l, ev_k_J, ev_k_n, ev_kr_1, ev_kr_0, ev_isK_y, ev_aG_y, ev_aS_y, ev_aN_y, ev_inA_0, ev_isA_0, ev_ft_I, ev_ft_0, ev_ft_1, ev_ft_o, ev_ft_a, ev_nb_0, ev_nb_1, and_true, true_and, if_true, if_false, not_true_eq_false, not_false_eq_true, nI_1, ev_fG_0, ev_fG_1, ev_fG_2, ev_fG_3, ev_fG_4, ev_fG_5, ev_fG_6, ev_fG_7, ev_fG_8, ev_fS_0, ev_fS_1, ev_fS_2, ev_fS_3, ev_fS_4, ev_fS_5, ev_fS_6, ev_fS_7, ev_fS_8, ev_isO_0, ev_isO_1, ev_isO_2, ev_isO_3, ev_isO_4, ev_isO_5, ev_isO_6, ev_isO_7, ev_isO_8, ev_z0, ev_z1, ev_z2, eq_self, ev_ofN, show ¬ (1 : Int32) = 0 from by decide, hk1]
    refine C_aGrow1 hc1 h5 hq2 ?_
    simp (disch := omega) only [t_X5_isSound_0, t_X5_isSound_1, t_X5_isSound_3, t_X5_isSound_5, t_X5_isSound_8, t_X5_isSound_9, t_X5_isSound_12, t_X5_isSound_13, t_X5_isSound_14, t_X5_isSound_17, t_X5_isSound_18, t_X5_isSound_19, t_X5_isSound_20, t_X5_isSound_23, t_X5_isSound_24, t_X5_isSound_27, t_X5_isSound_30, t_X5_isSound_31, t_X5_isSound_34, t_X5_isSound_37, t_X5_isSound_38, t_X5_isSound_41, t_X5_isSound_44, t_X5_isSound_45, t_X5_isSound_48, t_X5_isSound_51, t_X5_isSound_52, t_X5_isSound_55, t_X5_isSound_58, t_X5_isSound_59, t_X5_isSound_62, t_X5_isSound_65, t_X5_isSound_66, t_X5_isSound_69, t_X5_isSound_72, t_X5_isSound_73, t_X5_isSound_76, t_X5_isSound_77, x_X5_isSound_20, x_X5_isSound_31, x_X5_isSound_38, x_X5_isSound_45, x_X5_isSound_52, x_X5_isSound_59, x_X5_isSound_66, ↓reduceIte, ev_k_i, ev_k_r, ev_k_l, ev_k_J, ev_k_n, ev_kr_1, ev_kr_0, ev_isK_y, ev_aG_y, ev_aS_y, ev_aN_y, ev_inA_0, ev_isA_0, ev_ft_I, ev_ft_0, ev_ft_1, ev_ft_o, ev_ft_a, ev_nb_0, ev_nb_1, and_true, true_and, if_true, if_false, not_true_eq_false, not_false_eq_true, nI_1, ev_fG_0, ev_fG_1, ev_fG_2, ev_fG_3, ev_fG_4, ev_fG_5, ev_fG_6, ev_fG_7, ev_fG_8, ev_fS_0, ev_fS_1, ev_fS_2, ev_fS_3, ev_fS_4, ev_fS_5, ev_fS_6, ev_fS_7, ev_fS_8, ev_isO_0, ev_isO_1, ev_isO_2, ev_isO_3, ev_isO_4, ev_isO_5, ev_isO_6, ev_isO_7, ev_isO_8, ev_z0, ev_z1, ev_z2, eq_self, ev_ofN, show ¬ (1 : Int32) = 0 from by decide, hk1]
    refine C_aThm1 hc1 h5 hq3 ?_
    simp (disch := omega) only [t_X5_isSound_0, t_X5_isSound_1, t_X5_isSound_3, t_X5_isSound_5, t_X5_isSound_8, t_X5_isSound_9, t_X5_isSound_12, t_X5_isSound_13, t_X5_isSound_14, t_X5_isSound_17, t_X5_isSound_18, t_X5_isSound_19, t_X5_isSound_20, t_X5_isSound_23, t_X5_isSound_24, t_X5_isSound_27, t_X5_isSound_30, t_X5_isSound_31, t_X5_isSound_34, t_X5_isSound_37, t_X5_isSound_38, t_X5_isSound_41, t_X5_isSound_44, t_X5_isSound_45, t_X5_isSound_48, t_X5_isSound_51, t_X5_isSound_52, t_X5_isSound_55, t_X5_isSound_58, t_X5_isSound_59, t_X5_isSound_62, t_X5_isSound_65, t_X5_isSound_66, t_X5_isSound_69, t_X5_isSound_72, t_X5_isSound_73, t_X5_isSound_76, t_X5_isSound_77, x_X5_isSound_20, x_X5_isSound_31, x_X5_isSound_38, x_X5_isSound_45, x_X5_isSound_52, x_X5_isSound_59, x_X5_isSound_66, ↓reduceIte, ev_k_i, ev_k_r, ev_k_l, ev_k_J, ev_k_n, ev_kr_1, ev_kr_0, ev_isK_y, ev_aG_y, ev_aS_y, ev_aN_y, ev_inA_0, ev_isA_0, ev_ft_I, ev_ft_0, ev_ft_1, ev_ft_o, ev_ft_a, ev_nb_0, ev_nb_1, and_true, true_and, if_true, if_false, not_true_eq_false, not_false_eq_true, nI_1, ev_fG_0, ev_fG_1, ev_fG_2, ev_fG_3, ev_fG_4, ev_fG_5, ev_fG_6, ev_fG_7, ev_fG_8, ev_fS_0, ev_fS_1, ev_fS_2, ev_fS_3, ev_fS_4, ev_fS_5, ev_fS_6, ev_fS_7, ev_fS_8, ev_isO_0, ev_isO_1, ev_isO_2, ev_isO_3, ev_isO_4, ev_isO_5, ev_isO_6, ev_isO_7, ev_isO_8, ev_z0, ev_z1, ev_z2, eq_self, ev_ofN, show ¬ (1 : Int32) = 0 from by decide, hk1]
    exact c _ hc1 hf1
  have key : ∀ d j H1, j + d = 6 → c_all x G H1 → c_fr x H H1 → (∃ be : Nat → Int32, H1 (x + 12) = some (.inl (0, 6, fun i => .int (be i))) ∧ ∀ i, i < j → be i = nI (As.length - (gs As (i + 1) As.length).2)) → ev_ok (ev_TT X) 202 2 [.ref x, .int (nI j)] [] H1 n q P := by
    intro d
    induction d with
    | zero =>
      intro j H1 hj hc1 hf1 hbe
      have hi2 : 6 ≤ j := by omega
      have e : j = 6 := by omega
      subst e
      obtain ⟨be, b1, b2⟩ := hbe
      have h9 := rest H1 be hc1 hf1 b1 b2
      simp (disch := omega) only [t_X5_isSound_0, t_X5_isSound_1, t_X5_isSound_2, t_X5_isSound_3, t_X5_isSound_5, t_X5_isSound_8, t_X5_isSound_9, t_X5_isSound_12, t_X5_isSound_13, t_X5_isSound_14, t_X5_isSound_17, t_X5_isSound_18, t_X5_isSound_19, t_X5_isSound_20, t_X5_isSound_23, t_X5_isSound_24, t_X5_isSound_27, t_X5_isSound_31, t_X5_isSound_34, t_X5_isSound_37, t_X5_isSound_38, t_X5_isSound_41, t_X5_isSound_44, t_X5_isSound_45, t_X5_isSound_48, t_X5_isSound_51, t_X5_isSound_52, t_X5_isSound_55, t_X5_isSound_58, t_X5_isSound_59, t_X5_isSound_62, t_X5_isSound_65, t_X5_isSound_66, t_X5_isSound_69, t_X5_isSound_72, t_X5_isSound_73, t_X5_isSound_76, t_X5_isSound_77, x_X5_isSound_20, x_X5_isSound_31, x_X5_isSound_38, x_X5_isSound_45, x_X5_isSound_52, x_X5_isSound_59, x_X5_isSound_66, ↓reduceIte, ev_k_i, ev_k_r, ev_k_l, ev_k_J, ev_k_n, ev_kr_1, ev_kr_0, ev_isK_y, ev_aG_y, ev_aS_y, ev_aN_y, ev_inA_0, ev_isA_0, ev_ft_I, ev_ft_0, ev_ft_1, ev_ft_o, ev_ft_a, ev_nb_0, ev_nb_1, and_true, true_and, if_true, if_false, not_true_eq_false, not_false_eq_true, nI_1, ev_fG_0, ev_fG_1, ev_fG_2, ev_fG_3, ev_fG_4, ev_fG_5, ev_fG_6, ev_fG_7, ev_fG_8, ev_fS_0, ev_fS_1, ev_fS_2, ev_fS_3, ev_fS_4, ev_fS_5, ev_fS_6, ev_fS_7, ev_fS_8, ev_isO_0, ev_isO_1, ev_isO_2, ev_isO_3, ev_isO_4, ev_isO_5, ev_isO_6, ev_isO_7, ev_isO_8, ev_z0, ev_z1, ev_z2, eq_self, ev_ofN, nI_leI, hi2, h6']
      exact h9
    | succ d ih =>
      intro j H1 hj hc1 hf1 hbe
      have hj6 : j < 6 := by omega
      have hi2 : ¬ 6 ≤ j := by omega
      have hp := nI_pos' (n := j) (by omega)
      have h0 := hc1.1
      unfold c_top at h0
      have ha0 := c_ask0 hc1
      have hak : ev_isK (ev_lk X H1 (x + 2)) 5 = True := by rw [ev_lk_s ha0]; exact ev_isK_y
      obtain ⟨ne, hk1, hn1, hH, hN⟩ := hc1.2.2.1
      obtain ⟨be, b1, b2⟩ := hbe
      rw [t_X5_isSound_2]
      simp (disch := omega) only [t_X5_isSound_0, t_X5_isSound_1, t_X5_isSound_3, t_X5_isSound_5, t_X5_isSound_8, t_X5_isSound_9, t_X5_isSound_12, t_X5_isSound_13, t_X5_isSound_14, t_X5_isSound_17, t_X5_isSound_18, t_X5_isSound_19, t_X5_isSound_20, t_X5_isSound_23, t_X5_isSound_24, t_X5_isSound_27, t_X5_isSound_31, t_X5_isSound_34, t_X5_isSound_37, t_X5_isSound_38, t_X5_isSound_41, t_X5_isSound_44, t_X5_isSound_45, t_X5_isSound_48, t_X5_isSound_51, t_X5_isSound_52, t_X5_isSound_55, t_X5_isSound_58, t_X5_isSound_59, t_X5_isSound_62, t_X5_isSound_65, t_X5_isSound_66, t_X5_isSound_69, t_X5_isSound_72, t_X5_isSound_73, t_X5_isSound_76, t_X5_isSound_77, x_X5_isSound_20, x_X5_isSound_31, x_X5_isSound_38, x_X5_isSound_45, x_X5_isSound_52, x_X5_isSound_59, x_X5_isSound_66, ↓reduceIte, ev_k_i, ev_k_r, ev_k_l, ev_k_J, ev_k_n, ev_kr_1, ev_kr_0, ev_isK_y, ev_aG_y, ev_aS_y, ev_aN_y, ev_inA_0, ev_isA_0, ev_ft_I, ev_ft_0, ev_ft_1, ev_ft_o, ev_ft_a, ev_nb_0, ev_nb_1, and_true, true_and, if_true, if_false, not_true_eq_false, not_false_eq_true, nI_1, ev_fG_0, ev_fG_1, ev_fG_2, ev_fG_3, ev_fG_4, ev_fG_5, ev_fG_6, ev_fG_7, ev_fG_8, ev_fS_0, ev_fS_1, ev_fS_2, ev_fS_3, ev_fS_4, ev_fS_5, ev_fS_6, ev_fS_7, ev_fS_8, ev_isO_0, ev_isO_1, ev_isO_2, ev_isO_3, ev_isO_4, ev_isO_5, ev_isO_6, ev_isO_7, ev_isO_8, ev_z0, ev_z1, ev_z2, eq_self, ev_ofN, h6', nI_leI, hi2, ev_lk_s h0, hak]
      rw [hH]
      refine A_few (As := As) hG.2.2.2 hA.1 hA.2 hN hj6 fun hk' hn' => ?_
      rw [← hA.1]
      have ho : ∀ a, (a < x + 2 ∨ x + 8 ≤ a) → ev_ask H1 (x + 2) G.2.2.2.1.1 G.2.2.2.1.2.1 ne hk' hn' As.length a = H1 a := fun a ha => ev_ask_o (by omega)
      have hc2 := c_upA hc1 (s := G.2.2.2.1) ho ⟨ne, hk', hn', by rw [hA.1]; exact ev_ask_ask.symm, hN⟩
      have hf2 : c_fr x H (ev_ask H1 (x + 2) G.2.2.2.1.1 G.2.2.2.1.2.1 ne hk' hn' As.length) := fun a ha => (ho a (by omega)).trans (hf1 a ha)
      have h5 : ev_ask H1 (x + 2) G.2.2.2.1.1 G.2.2.2.1.2.1 ne hk' hn' As.length (x + 12) = some (.inl (0, 6, fun i => .int (be i))) := (ho (x + 12) (by omega)).trans b1
      generalize ev_ask H1 (x + 2) G.2.2.2.1.1 G.2.2.2.1.2.1 ne hk' hn' As.length = H2 at hc2 hf2 h5 ⊢
      generalize hv : nI (As.length - (gs As (j + 1) As.length).2) = v
      have hc3 := c_upB hc2 (be' := ev_fu be j v) (H1 := ev_up H2 (x + 12) (.inl (0, 6, fun i => .int (ev_fu be j v i)))) (fun a ha => ev_up_n (by omega)) ev_up_s
      have hf3 : c_fr x H (ev_up H2 (x + 12) (.inl (0, 6, fun i => .int (ev_fu be j v i)))) := fun a ha => (ev_up_n (by omega)).trans (hf2 a ha)
      have hI := ih (j + 1) _ (by omega) hc3 hf3 ⟨ev_fu be j v, ev_up_s, fun i hi => by
        unfold ev_fu
        by_cases hij : i = j
        · rw [if_pos hij, hij]; exact hv.symm
        · rw [if_neg hij]; exact b2 i (by omega)⟩
      have eu : updV (fun i => .int (be i)) j (.int v) = fun i => .int (ev_fu be j v i) := ev_updI
      simp (disch := omega) only [t_X5_isSound_0, t_X5_isSound_1, t_X5_isSound_3, t_X5_isSound_5, t_X5_isSound_8, t_X5_isSound_9, t_X5_isSound_12, t_X5_isSound_13, t_X5_isSound_14, t_X5_isSound_17, t_X5_isSound_18, t_X5_isSound_19, t_X5_isSound_20, t_X5_isSound_23, t_X5_isSound_24, t_X5_isSound_27, t_X5_isSound_31, t_X5_isSound_34, t_X5_isSound_37, t_X5_isSound_38, t_X5_isSound_41, t_X5_isSound_44, t_X5_isSound_45, t_X5_isSound_48, t_X5_isSound_51, t_X5_isSound_52, t_X5_isSound_55, t_X5_isSound_58, t_X5_isSound_59, t_X5_isSound_62, t_X5_isSound_65, t_X5_isSound_66, t_X5_isSound_69, t_X5_isSound_72, t_X5_isSound_73, t_X5_isSound_76, t_X5_isSound_77, x_X5_isSound_20, x_X5_isSound_31, x_X5_isSound_38, x_X5_isSound_45, x_X5_isSound_52, x_X5_isSound_59, x_X5_isSound_66, ↓reduceIte, ev_k_i, ev_k_r, ev_k_l, ev_k_J, ev_k_n, ev_kr_1, ev_kr_0, ev_isK_y, ev_aG_y, ev_aS_y, ev_aN_y, ev_inA_0, ev_isA_0, ev_ft_I, ev_ft_0, ev_ft_1, ev_ft_o, ev_ft_a, ev_nb_0, ev_nb_1, and_true, true_and, if_true, if_false, not_true_eq_false, not_false_eq_true, nI_1, ev_fG_0, ev_fG_1, ev_fG_2, ev_fG_3, ev_fG_4, ev_fG_5, ev_fG_6, ev_fG_7, ev_fG_8, ev_fS_0, ev_fS_1, ev_fS_2, ev_fS_3, ev_fS_4, ev_fS_5, ev_fS_6, ev_fS_7, ev_fS_8, ev_isO_0, ev_isO_1, ev_isO_2, ev_isO_3, ev_isO_4, ev_isO_5, ev_isO_6, ev_isO_7, ev_isO_8, ev_z0, ev_z1, ev_z2, eq_self, ev_ofN, h5, hp, hj6, nI_clamp, eu]
      exact hI
  have hbe0 := hc.2.2.2.2.2.1
  obtain ⟨be0, hb0⟩ := hbe0
  have h9 := key 6 0 H (by omega) hc (fun _ _ => rfl) ⟨be0, hb0, fun i hi => absurd hi (Nat.not_lt_zero i)⟩
  rw [nI_0] at h9
  simp (disch := omega) only [t_X5_isSound_0, t_X5_isSound_1, t_X5_isSound_3, t_X5_isSound_5, t_X5_isSound_8, t_X5_isSound_9, t_X5_isSound_12, t_X5_isSound_13, t_X5_isSound_14, t_X5_isSound_17, t_X5_isSound_18, t_X5_isSound_19, t_X5_isSound_20, t_X5_isSound_23, t_X5_isSound_24, t_X5_isSound_27, t_X5_isSound_31, t_X5_isSound_34, t_X5_isSound_37, t_X5_isSound_38, t_X5_isSound_41, t_X5_isSound_44, t_X5_isSound_45, t_X5_isSound_48, t_X5_isSound_51, t_X5_isSound_52, t_X5_isSound_55, t_X5_isSound_58, t_X5_isSound_59, t_X5_isSound_62, t_X5_isSound_65, t_X5_isSound_66, t_X5_isSound_69, t_X5_isSound_72, t_X5_isSound_73, t_X5_isSound_76, t_X5_isSound_77, x_X5_isSound_20, x_X5_isSound_31, x_X5_isSound_38, x_X5_isSound_45, x_X5_isSound_52, x_X5_isSound_59, x_X5_isSound_66, ↓reduceIte, ev_k_i, ev_k_r, ev_k_l, ev_k_J, ev_k_n, ev_kr_1, ev_kr_0, ev_isK_y, ev_aG_y, ev_aS_y, ev_aN_y, ev_inA_0, ev_isA_0, ev_ft_I, ev_ft_0, ev_ft_1, ev_ft_o, ev_ft_a, ev_nb_0, ev_nb_1, and_true, true_and, if_true, if_false, not_true_eq_false, not_false_eq_true, nI_1, ev_fG_0, ev_fG_1, ev_fG_2, ev_fG_3, ev_fG_4, ev_fG_5, ev_fG_6, ev_fG_7, ev_fG_8, ev_fS_0, ev_fS_1, ev_fS_2, ev_fS_3, ev_fS_4, ev_fS_5, ev_fS_6, ev_fS_7, ev_fS_8, ev_isO_0, ev_isO_1, ev_isO_2, ev_isO_3, ev_isO_4, ev_isO_5, ev_isO_6, ev_isO_7, ev_isO_8, ev_z0, ev_z1, ev_z2, eq_self, ev_ofN]
  exact h9
end C78
