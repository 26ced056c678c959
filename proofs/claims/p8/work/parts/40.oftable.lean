/-! ===== the class: sums, ofTable ===== -/
def pr_sm (f : Nat → Int32) : Nat → Nat → Int32 → Int32
  | 0, _, s => s
  | d + 1, i, s => pr_sm f d (i + 1) (s + f i)
theorem pr_sm_cg {f g : Nat → Int32} : ∀ (d i : Nat) (s : Int32), (∀ j, i ≤ j → j < i + d → f j = g j) → pr_sm f d i s = pr_sm g d i s := by
  intro d
  induction d with
  | zero => intro i s h; rfl
  | succ d ih =>
    intro i s h
    unfold pr_sm
    rw [h i (Nat.le_refl i) (by omega)]
    exact ih (i + 1) _ fun j h1 h2 => h j (by omega) (by omega)
def pt_sum (L : ev_PL) : Int32 := pr_sm (fun i => (pf_at L i).2) L.length 0 0
section R40
variable {X : ev_E} {h H : ev_M} {r : Nat} {L : ev_PL} {b m lm ll : Int32} {kf vf : Nat → Int32} {c : Nat} {n q : Nat} {P : ev_O → ev_M → Nat → Nat → Prop}
theorem r_sum (hc : c ≤ 20) : ev_ok (ev_TT X) 40 0 [.ref r, ev_J, ev_J] [] (ev_row h r kf vf c b m lm ll) n q P ↔ P (.inl (some (.int (pr_sm vf c 0 0)))) (ev_row h r kf vf c b m lm ll) n q := by
  have key : ∀ d i s, i + d = c → (ev_ok (ev_TT X) 40 4 [.ref r, .int s, .int (nI i)] [] (ev_row h r kf vf c b m lm ll) n q P ↔ P (.inl (some (.int (pr_sm vf d i s)))) (ev_row h r kf vf c b m lm ll) n q) := by
    intro d
    induction d with
    | zero =>
      intro i s hi
      have hi2 : c ≤ i := by omega
      simp (disch := omega) only [t_X2_sumOfValues_0, t_X2_sumOfValues_1, t_X2_sumOfValues_2, t_X2_sumOfValues_3, t_X2_sumOfValues_4, t_X2_sumOfValues_5, t_X2_sumOfValues_6, t_X2_sumOfValues_9, t_X2_sumOfValues_12, t_X2_sumOfValues_13, t_X2_sumOfValues_14, t_X2_sumOfValues_17, t_X2_sumOfValues_18, t_X2_sumOfValues_19, t_X2_sumOfValues_20, t_X2_sumOfValues_21, t_X2_sumOfValues_24, t_X2_sumOfValues_27, t_X2_sumOfValues_28, ↓reduceIte, ev_k_i, ev_k_r, ev_k_l, ev_k_J, ev_k_n, ev_kr_1, ev_kr_0, ev_isK_y, ev_aG_y, ev_aS_y, ev_aN_y, ev_inA_0, ev_isA_0, ev_ft_I, ev_ft_0, ev_ft_1, ev_ft_o, ev_ft_a, ev_nb_0, ev_nb_1, and_true, true_and, if_true, if_false, not_true_eq_false, not_false_eq_true, nI_1, ev_fG_0, ev_fG_1, ev_fG_2, ev_fG_3, ev_fG_4, ev_fG_5, ev_fG_6, ev_fG_7, ev_fG_8, ev_fS_0, ev_fS_1, ev_fS_2, ev_fS_3, ev_fS_4, ev_fS_5, ev_fS_6, ev_fS_7, ev_fS_8, ev_isO_0, ev_isO_1, ev_isO_2, ev_isO_3, ev_isO_4, ev_isO_5, ev_isO_6, ev_isO_7, ev_isO_8, ev_z0, ev_z1, ev_z2, eq_self, ev_ofN, ev_row_0, ev_row_1, ev_row_2, ev_row_l0, ev_row_l1, ev_row_l2, ev_row_u0, ev_row_u1, ev_row_u2, nI_leI, hi2]
      exact Iff.rfl
    | succ d ih =>
      intro i s hi
      have hi2 : ¬ c ≤ i := by omega
      have hp := nI_pos' (n := i) (by omega)
      have h20 : i < 20 := by omega
      have hI := ih (i + 1) (s + vf i) (by omega)
      rw [t_X2_sumOfValues_4]
      simp (disch := omega) only [t_X2_sumOfValues_0, t_X2_sumOfValues_1, t_X2_sumOfValues_2, t_X2_sumOfValues_3, t_X2_sumOfValues_5, t_X2_sumOfValues_6, t_X2_sumOfValues_9, t_X2_sumOfValues_12, t_X2_sumOfValues_13, t_X2_sumOfValues_14, t_X2_sumOfValues_17, t_X2_sumOfValues_18, t_X2_sumOfValues_19, t_X2_sumOfValues_20, t_X2_sumOfValues_21, t_X2_sumOfValues_24, t_X2_sumOfValues_27, t_X2_sumOfValues_28, ↓reduceIte, ev_k_i, ev_k_r, ev_k_l, ev_k_J, ev_k_n, ev_kr_1, ev_kr_0, ev_isK_y, ev_aG_y, ev_aS_y, ev_aN_y, ev_inA_0, ev_isA_0, ev_ft_I, ev_ft_0, ev_ft_1, ev_ft_o, ev_ft_a, ev_nb_0, ev_nb_1, and_true, true_and, if_true, if_false, not_true_eq_false, not_false_eq_true, nI_1, ev_fG_0, ev_fG_1, ev_fG_2, ev_fG_3, ev_fG_4, ev_fG_5, ev_fG_6, ev_fG_7, ev_fG_8, ev_fS_0, ev_fS_1, ev_fS_2, ev_fS_3, ev_fS_4, ev_fS_5, ev_fS_6, ev_fS_7, ev_fS_8, ev_isO_0, ev_isO_1, ev_isO_2, ev_isO_3, ev_isO_4, ev_isO_5, ev_isO_6, ev_isO_7, ev_isO_8, ev_z0, ev_z1, ev_z2, eq_self, ev_ofN, ev_row_0, ev_row_1, ev_row_2, ev_row_l0, ev_row_l1, ev_row_l2, ev_row_u0, ev_row_u1, ev_row_u2, nI_leI, hi2, nI_clamp, hp, h20]
      exact hI
  have h0 := key c 0 0 (by omega)
  rw [nI_0] at h0
  simp (disch := omega) only [t_X2_sumOfValues_0, t_X2_sumOfValues_1, t_X2_sumOfValues_2, t_X2_sumOfValues_3, t_X2_sumOfValues_5, t_X2_sumOfValues_6, t_X2_sumOfValues_9, t_X2_sumOfValues_12, t_X2_sumOfValues_13, t_X2_sumOfValues_14, t_X2_sumOfValues_17, t_X2_sumOfValues_18, t_X2_sumOfValues_19, t_X2_sumOfValues_20, t_X2_sumOfValues_21, t_X2_sumOfValues_24, t_X2_sumOfValues_27, t_X2_sumOfValues_28, ↓reduceIte, ev_k_i, ev_k_r, ev_k_l, ev_k_J, ev_k_n, ev_kr_1, ev_kr_0, ev_isK_y, ev_aG_y, ev_aS_y, ev_aN_y, ev_inA_0, ev_isA_0, ev_ft_I, ev_ft_0, ev_ft_1, ev_ft_o, ev_ft_a, ev_nb_0, ev_nb_1, and_true, true_and, if_true, if_false, not_true_eq_false, not_false_eq_true, nI_1, ev_fG_0, ev_fG_1, ev_fG_2, ev_fG_3, ev_fG_4, ev_fG_5, ev_fG_6, ev_fG_7, ev_fG_8, ev_fS_0, ev_fS_1, ev_fS_2, ev_fS_3, ev_fS_4, ev_fS_5, ev_fS_6, ev_fS_7, ev_fS_8, ev_isO_0, ev_isO_1, ev_isO_2, ev_isO_3, ev_isO_4, ev_isO_5, ev_isO_6, ev_isO_7, ev_isO_8, ev_z0, ev_z1, ev_z2, eq_self, ev_ofN, ev_row_0, ev_row_1, ev_row_2, ev_row_l0, ev_row_l1, ev_row_l2, ev_row_u0, ev_row_u1, ev_row_u2]
  exact h0
theorem R_sum (hH : ev_rL h r L b m lm ll H) (hc : L.length ≤ 20) (k : P (.inl (some (.int (pt_sum L)))) H n q) : ev_ok (ev_TT X) 40 0 [.ref r, ev_J, ev_J] [] H n q P := by
  obtain ⟨kf, vf, h1, rfl⟩ := hH
  rw [r_sum hc, pr_sm_cg (g := fun i => (pf_at L i).2) L.length 0 0 (fun j _ h3 => (ev_RL_at h1 (by omega)).2)]
  exact k
end R40
def pt_of (s : ev_TS) (w : Nat) : Int32 := if w = 0 then s.2.1.1 else if w = 1 then s.2.1.2.1 else if w = 2 then s.2.1.2.2.1 else if w = 3 then s.2.1.2.2.2 else pt_sum s.1
theorem ev_swn {w : Int32} {n : Nat} (hn : n < 2 ^ 31) (hw : w < 0 ∨ nI n ≤ w) : w.toInt < 0 ∨ (0 : Int) + (n : Int) ≤ w.toInt := by
  rcases hw with h | h
  · exact Or.inl (Int32.lt_iff_toInt_lt.mp h)
  · right
    have := Int32.le_iff_toInt_le.mp h
    rw [nI_toInt hn] at this
    omega
section C40
variable {X : ev_E} {x : Nat} {G : ev_CS} {H : ev_M} {n q : Nat} {P : ev_O → ev_M → Nat → Nat → Prop}
theorem C_ofTable (hc : c_all x G H) (hG : okG G) {t w : Int32} (k0 : t < 0 ∨ nI 4 ≤ t → P (.inr 0) H (n + 1) (q + 6))
    (k_w : ∀ i, i < 4 → t = nI i → (w < 0 ∨ nI 5 ≤ w) → P (.inr 1) H (n + 1) (q + 6))
    (k2 : ∀ i a, i < 4 → t = nI i → a < 5 → w = nI a → P (.inl (some (.int (pt_of (G.1 i) a)))) H n q) : ev_ok (ev_TT X) 110 0 [.ref x, .int t, .int w, ev_J] [] H n q P := by
  have hk := c_all_k (X := X) hc
  rcases pk_ix t (n := 4) (by omega) with h | h | ⟨i, hi, rfl⟩
  · simp (disch := omega) only [t_X5_ofTable_0, t_X5_ofTable_1, t_X5_ofTable_2, t_X5_ofTable_5, t_X5_ofTable_8, t_X5_ofTable_9, t_X5_ofTable_10, t_X5_ofTable_44, t_X5_ofTable_45, t_X5_ofTable_48, t_X5_ofTable_51, t_X5_ofTable_52, t_X5_ofTable_55, t_X5_ofTable_56, t_X5_ofTable_57, t_X5_ofTable_58, t_X5_ofTable_61, t_X5_ofTable_62, t_X5_ofTable_63, t_X5_ofTable_66, t_X5_ofTable_67, t_X5_ofTable_68, t_X5_ofTable_71, t_X5_ofTable_72, t_X5_ofTable_73, t_X5_ofTable_76, t_X5_ofTable_77, x_X5_ofTable_2, x_X5_ofTable_73, ↓reduceIte, ev_k_i, ev_k_r, ev_k_l, ev_k_J, ev_k_n, ev_kr_1, ev_kr_0, ev_isK_y, ev_aG_y, ev_aS_y, ev_aN_y, ev_inA_0, ev_isA_0, ev_ft_I, ev_ft_0, ev_ft_1, ev_ft_o, ev_ft_a, ev_nb_0, ev_nb_1, and_true, true_and, if_true, if_false, not_true_eq_false, not_false_eq_true, nI_1, ev_fG_0, ev_fG_1, ev_fG_2, ev_fG_3, ev_fG_4, ev_fG_5, ev_fG_6, ev_fG_7, ev_fG_8, ev_fS_0, ev_fS_1, ev_fS_2, ev_fS_3, ev_fS_4, ev_fS_5, ev_fS_6, ev_fS_7, ev_fS_8, ev_isO_0, ev_isO_1, ev_isO_2, ev_isO_3, ev_isO_4, ev_isO_5, ev_isO_6, ev_isO_7, ev_isO_8, ev_z0, ev_z1, ev_z2, eq_self, ev_ofN, hk, C_tableOf_n (Or.inl h)]
    exact k0 (Or.inl h)
  · simp (disch := omega) only [t_X5_ofTable_0, t_X5_ofTable_1, t_X5_ofTable_2, t_X5_ofTable_5, t_X5_ofTable_8, t_X5_ofTable_9, t_X5_ofTable_10, t_X5_ofTable_44, t_X5_ofTable_45, t_X5_ofTable_48, t_X5_ofTable_51, t_X5_ofTable_52, t_X5_ofTable_55, t_X5_ofTable_56, t_X5_ofTable_57, t_X5_ofTable_58, t_X5_ofTable_61, t_X5_ofTable_62, t_X5_ofTable_63, t_X5_ofTable_66, t_X5_ofTable_67, t_X5_ofTable_68, t_X5_ofTable_71, t_X5_ofTable_72, t_X5_ofTable_73, t_X5_ofTable_76, t_X5_ofTable_77, x_X5_ofTable_2, x_X5_ofTable_73, ↓reduceIte, ev_k_i, ev_k_r, ev_k_l, ev_k_J, ev_k_n, ev_kr_1, ev_kr_0, ev_isK_y, ev_aG_y, ev_aS_y, ev_aN_y, ev_inA_0, ev_isA_0, ev_ft_I, ev_ft_0, ev_ft_1, ev_ft_o, ev_ft_a, ev_nb_0, ev_nb_1, and_true, true_and, if_true, if_false, not_true_eq_false, not_false_eq_true, nI_1, ev_fG_0, ev_fG_1, ev_fG_2, ev_fG_3, ev_fG_4, ev_fG_5, ev_fG_6, ev_fG_7, ev_fG_8, ev_fS_0, ev_fS_1, ev_fS_2, ev_fS_3, ev_fS_4, ev_fS_5, ev_fS_6, ev_fS_7, ev_fS_8, ev_isO_0, ev_isO_1, ev_isO_2, ev_isO_3, ev_isO_4, ev_isO_5, ev_isO_6, ev_isO_7, ev_isO_8, ev_z0, ev_z1, ev_z2, eq_self, ev_ofN, hk, C_tableOf_n (Or.inr h)]
    exact k0 (Or.inr h)
  · obtain ⟨h1, h2, h3⟩ := hc.2.2.2.2.2.2.1 i hi
    have hT := hG.1 i hi
    unfold ev_tbc at h1
    have h2k := ev_rL_k (X := X) h2
    have h2b := ev_rL_b (X := X) h2
    have hw : w < 0 ∨ nI 5 ≤ w ∨ ∃ a, a < 5 ∧ w = nI a := pk_ix w (n := 5) (by omega)
    rcases or_assoc.mpr hw with h | ⟨a, ha, rfl⟩
    · have hs : w.toInt < (0) ∨ (0) + ((([44, 57, 62, 67, 72] : List Nat).length : Nat) : Int) ≤ w.toInt := ev_swn (n := 5) (by omega) h
      simp (disch := omega) only [t_X5_ofTable_0, t_X5_ofTable_1, t_X5_ofTable_2, t_X5_ofTable_5, t_X5_ofTable_8, t_X5_ofTable_9, t_X5_ofTable_10, t_X5_ofTable_44, t_X5_ofTable_45, t_X5_ofTable_48, t_X5_ofTable_51, t_X5_ofTable_52, t_X5_ofTable_55, t_X5_ofTable_56, t_X5_ofTable_57, t_X5_ofTable_58, t_X5_ofTable_61, t_X5_ofTable_62, t_X5_ofTable_63, t_X5_ofTable_66, t_X5_ofTable_67, t_X5_ofTable_68, t_X5_ofTable_71, t_X5_ofTable_72, t_X5_ofTable_73, t_X5_ofTable_76, t_X5_ofTable_77, x_X5_ofTable_2, x_X5_ofTable_73, ↓reduceIte, ev_k_i, ev_k_r, ev_k_l, ev_k_J, ev_k_n, ev_kr_1, ev_kr_0, ev_isK_y, ev_aG_y, ev_aS_y, ev_aN_y, ev_inA_0, ev_isA_0, ev_ft_I, ev_ft_0, ev_ft_1, ev_ft_o, ev_ft_a, ev_nb_0, ev_nb_1, and_true, true_and, if_true, if_false, not_true_eq_false, not_false_eq_true, nI_1, ev_fG_0, ev_fG_1, ev_fG_2, ev_fG_3, ev_fG_4, ev_fG_5, ev_fG_6, ev_fG_7, ev_fG_8, ev_fS_0, ev_fS_1, ev_fS_2, ev_fS_3, ev_fS_4, ev_fS_5, ev_fS_6, ev_fS_7, ev_fS_8, ev_isO_0, ev_isO_1, ev_isO_2, ev_isO_3, ev_isO_4, ev_isO_5, ev_isO_6, ev_isO_7, ev_isO_8, ev_z0, ev_z1, ev_z2, eq_self, ev_ofN, hk, C_tableOf_y hc hi, ev_lk_s h1, hs]
      exact k_w i hi rfl h
    · have hK := k2 i a hi rfl ha rfl
      have ha' : a = 0 ∨ a = 1 ∨ a = 2 ∨ a = 3 ∨ a = 4 := by omega
      have hB := hT.2.1
      rcases ha' with rfl | rfl | rfl | rfl | rfl

      · have hs : (if (nI 0).toInt < (0) ∨ (0) + ((([44, 57, 62, 67, 72] : List Nat).length : Nat) : Int) ≤ (nI 0).toInt then 77 else ([44, 57, 62, 67, 72] : List Nat).getD ((nI 0).toInt - (0)).toNat 77) = 44 := by decide
        unfold pt_of at hK
        rw [if_pos rfl] at hK
        rcases hB with e | e
        · rw [e] at h2b hK
          simp (disch := omega) only [t_X5_ofTable_0, t_X5_ofTable_1, t_X5_ofTable_2, t_X5_ofTable_5, t_X5_ofTable_8, t_X5_ofTable_9, t_X5_ofTable_10, t_X5_ofTable_44, t_X5_ofTable_45, t_X5_ofTable_48, t_X5_ofTable_51, t_X5_ofTable_52, t_X5_ofTable_55, t_X5_ofTable_56, t_X5_ofTable_57, t_X5_ofTable_58, t_X5_ofTable_61, t_X5_ofTable_62, t_X5_ofTable_63, t_X5_ofTable_66, t_X5_ofTable_67, t_X5_ofTable_68, t_X5_ofTable_71, t_X5_ofTable_72, t_X5_ofTable_73, t_X5_ofTable_76, t_X5_ofTable_77, x_X5_ofTable_2, x_X5_ofTable_73, ↓reduceIte, ev_k_i, ev_k_r, ev_k_l, ev_k_J, ev_k_n, ev_kr_1, ev_kr_0, ev_isK_y, ev_aG_y, ev_aS_y, ev_aN_y, ev_inA_0, ev_isA_0, ev_ft_I, ev_ft_0, ev_ft_1, ev_ft_o, ev_ft_a, ev_nb_0, ev_nb_1, and_true, true_and, if_true, if_false, not_true_eq_false, not_false_eq_true, nI_1, ev_fG_0, ev_fG_1, ev_fG_2, ev_fG_3, ev_fG_4, ev_fG_5, ev_fG_6, ev_fG_7, ev_fG_8, ev_fS_0, ev_fS_1, ev_fS_2, ev_fS_3, ev_fS_4, ev_fS_5, ev_fS_6, ev_fS_7, ev_fS_8, ev_isO_0, ev_isO_1, ev_isO_2, ev_isO_3, ev_isO_4, ev_isO_5, ev_isO_6, ev_isO_7, ev_isO_8, ev_z0, ev_z1, ev_z2, eq_self, ev_ofN, hk, C_tableOf_y hc hi, ev_lk_s h1, h2b.1.1, h2b.1.2, h2b.2.1.1, h2b.2.1.2, h2b.2.2.1.1, h2b.2.2.1.2, h2b.2.2.2.1.1, h2b.2.2.2.1.2, h2b.2.2.2.2.1, h2b.2.2.2.2.2, hs]
          exact hK
        · rw [e] at h2b hK
          simp (disch := omega) only [t_X5_ofTable_0, t_X5_ofTable_1, t_X5_ofTable_2, t_X5_ofTable_5, t_X5_ofTable_8, t_X5_ofTable_9, t_X5_ofTable_10, t_X5_ofTable_44, t_X5_ofTable_45, t_X5_ofTable_48, t_X5_ofTable_51, t_X5_ofTable_52, t_X5_ofTable_55, t_X5_ofTable_56, t_X5_ofTable_57, t_X5_ofTable_58, t_X5_ofTable_61, t_X5_ofTable_62, t_X5_ofTable_63, t_X5_ofTable_66, t_X5_ofTable_67, t_X5_ofTable_68, t_X5_ofTable_71, t_X5_ofTable_72, t_X5_ofTable_73, t_X5_ofTable_76, t_X5_ofTable_77, x_X5_ofTable_2, x_X5_ofTable_73, ↓reduceIte, ev_k_i, ev_k_r, ev_k_l, ev_k_J, ev_k_n, ev_kr_1, ev_kr_0, ev_isK_y, ev_aG_y, ev_aS_y, ev_aN_y, ev_inA_0, ev_isA_0, ev_ft_I, ev_ft_0, ev_ft_1, ev_ft_o, ev_ft_a, ev_nb_0, ev_nb_1, and_true, true_and, if_true, if_false, not_true_eq_false, not_false_eq_true, nI_1, ev_fG_0, ev_fG_1, ev_fG_2, ev_fG_3, ev_fG_4, ev_fG_5, ev_fG_6, ev_fG_7, ev_fG_8, ev_fS_0, ev_fS_1, ev_fS_2, ev_fS_3, ev_fS_4, ev_fS_5, ev_fS_6, ev_fS_7, ev_fS_8, ev_isO_0, ev_isO_1, ev_isO_2, ev_isO_3, ev_isO_4, ev_isO_5, ev_isO_6, ev_isO_7, ev_isO_8, ev_z0, ev_z1, ev_z2, eq_self, ev_ofN, hk, C_tableOf_y hc hi, ev_lk_s h1, h2b.1.1, h2b.1.2, h2b.2.1.1, h2b.2.1.2, h2b.2.2.1.1, h2b.2.2.1.2, h2b.2.2.2.1.1, h2b.2.2.2.1.2, h2b.2.2.2.2.1, h2b.2.2.2.2.2, hs]
          exact hK
      · have hs : (if (nI 1).toInt < (0) ∨ (0) + ((([44, 57, 62, 67, 72] : List Nat).length : Nat) : Int) ≤ (nI 1).toInt then 77 else ([44, 57, 62, 67, 72] : List Nat).getD ((nI 1).toInt - (0)).toNat 77) = 57 := by decide
        simp (disch := omega) only [t_X5_ofTable_0, t_X5_ofTable_1, t_X5_ofTable_2, t_X5_ofTable_5, t_X5_ofTable_8, t_X5_ofTable_9, t_X5_ofTable_10, t_X5_ofTable_44, t_X5_ofTable_45, t_X5_ofTable_48, t_X5_ofTable_51, t_X5_ofTable_52, t_X5_ofTable_55, t_X5_ofTable_56, t_X5_ofTable_57, t_X5_ofTable_58, t_X5_ofTable_61, t_X5_ofTable_62, t_X5_ofTable_63, t_X5_ofTable_66, t_X5_ofTable_67, t_X5_ofTable_68, t_X5_ofTable_71, t_X5_ofTable_72, t_X5_ofTable_73, t_X5_ofTable_76, t_X5_ofTable_77, x_X5_ofTable_2, x_X5_ofTable_73, ↓reduceIte, ev_k_i, ev_k_r, ev_k_l, ev_k_J, ev_k_n, ev_kr_1, ev_kr_0, ev_isK_y, ev_aG_y, ev_aS_y, ev_aN_y, ev_inA_0, ev_isA_0, ev_ft_I, ev_ft_0, ev_ft_1, ev_ft_o, ev_ft_a, ev_nb_0, ev_nb_1, and_true, true_and, if_true, if_false, not_true_eq_false, not_false_eq_true, nI_1, ev_fG_0, ev_fG_1, ev_fG_2, ev_fG_3, ev_fG_4, ev_fG_5, ev_fG_6, ev_fG_7, ev_fG_8, ev_fS_0, ev_fS_1, ev_fS_2, ev_fS_3, ev_fS_4, ev_fS_5, ev_fS_6, ev_fS_7, ev_fS_8, ev_isO_0, ev_isO_1, ev_isO_2, ev_isO_3, ev_isO_4, ev_isO_5, ev_isO_6, ev_isO_7, ev_isO_8, ev_z0, ev_z1, ev_z2, eq_self, ev_ofN, hk, C_tableOf_y hc hi, ev_lk_s h1, h2b.1.1, h2b.1.2, h2b.2.1.1, h2b.2.1.2, h2b.2.2.1.1, h2b.2.2.1.2, h2b.2.2.2.1.1, h2b.2.2.2.1.2, h2b.2.2.2.2.1, h2b.2.2.2.2.2, hs]
        exact hK
      · have hs : (if (nI 2).toInt < (0) ∨ (0) + ((([44, 57, 62, 67, 72] : List Nat).length : Nat) : Int) ≤ (nI 2).toInt then 77 else ([44, 57, 62, 67, 72] : List Nat).getD ((nI 2).toInt - (0)).toNat 77) = 62 := by decide
        simp (disch := omega) only [t_X5_ofTable_0, t_X5_ofTable_1, t_X5_ofTable_2, t_X5_ofTable_5, t_X5_ofTable_8, t_X5_ofTable_9, t_X5_ofTable_10, t_X5_ofTable_44, t_X5_ofTable_45, t_X5_ofTable_48, t_X5_ofTable_51, t_X5_ofTable_52, t_X5_ofTable_55, t_X5_ofTable_56, t_X5_ofTable_57, t_X5_ofTable_58, t_X5_ofTable_61, t_X5_ofTable_62, t_X5_ofTable_63, t_X5_ofTable_66, t_X5_ofTable_67, t_X5_ofTable_68, t_X5_ofTable_71, t_X5_ofTable_72, t_X5_ofTable_73, t_X5_ofTable_76, t_X5_ofTable_77, x_X5_ofTable_2, x_X5_ofTable_73, ↓reduceIte, ev_k_i, ev_k_r, ev_k_l, ev_k_J, ev_k_n, ev_kr_1, ev_kr_0, ev_isK_y, ev_aG_y, ev_aS_y, ev_aN_y, ev_inA_0, ev_isA_0, ev_ft_I, ev_ft_0, ev_ft_1, ev_ft_o, ev_ft_a, ev_nb_0, ev_nb_1, and_true, true_and, if_true, if_false, not_true_eq_false, not_false_eq_true, nI_1, ev_fG_0, ev_fG_1, ev_fG_2, ev_fG_3, ev_fG_4, ev_fG_5, ev_fG_6, ev_fG_7, ev_fG_8, ev_fS_0, ev_fS_1, ev_fS_2, ev_fS_3, ev_fS_4, ev_fS_5, ev_fS_6, ev_fS_7, ev_fS_8, ev_isO_0, ev_isO_1, ev_isO_2, ev_isO_3, ev_isO_4, ev_isO_5, ev_isO_6, ev_isO_7, ev_isO_8, ev_z0, ev_z1, ev_z2, eq_self, ev_ofN, hk, C_tableOf_y hc hi, ev_lk_s h1, h2b.1.1, h2b.1.2, h2b.2.1.1, h2b.2.1.2, h2b.2.2.1.1, h2b.2.2.1.2, h2b.2.2.2.1.1, h2b.2.2.2.1.2, h2b.2.2.2.2.1, h2b.2.2.2.2.2, hs]
        exact hK
      · have hs : (if (nI 3).toInt < (0) ∨ (0) + ((([44, 57, 62, 67, 72] : List Nat).length : Nat) : Int) ≤ (nI 3).toInt then 77 else ([44, 57, 62, 67, 72] : List Nat).getD ((nI 3).toInt - (0)).toNat 77) = 67 := by decide
        simp (disch := omega) only [t_X5_ofTable_0, t_X5_ofTable_1, t_X5_ofTable_2, t_X5_ofTable_5, t_X5_ofTable_8, t_X5_ofTable_9, t_X5_ofTable_10, t_X5_ofTable_44, t_X5_ofTable_45, t_X5_ofTable_48, t_X5_ofTable_51, t_X5_ofTable_52, t_X5_ofTable_55, t_X5_ofTable_56, t_X5_ofTable_57, t_X5_ofTable_58, t_X5_ofTable_61, t_X5_ofTable_62, t_X5_ofTable_63, t_X5_ofTable_66, t_X5_ofTable_67, t_X5_ofTable_68, t_X5_ofTable_71, t_X5_ofTable_72, t_X5_ofTable_73, t_X5_ofTable_76, t_X5_ofTable_77, x_X5_ofTable_2, x_X5_ofTable_73, ↓reduceIte, ev_k_i, ev_k_r, ev_k_l, ev_k_J, ev_k_n, ev_kr_1, ev_kr_0, ev_isK_y, ev_aG_y, ev_aS_y, ev_aN_y, ev_inA_0, ev_isA_0, ev_ft_I, ev_ft_0, ev_ft_1, ev_ft_o, ev_ft_a, ev_nb_0, ev_nb_1, and_true, true_and, if_true, if_false, not_true_eq_false, not_false_eq_true, nI_1, ev_fG_0, ev_fG_1, ev_fG_2, ev_fG_3, ev_fG_4, ev_fG_5, ev_fG_6, ev_fG_7, ev_fG_8, ev_fS_0, ev_fS_1, ev_fS_2, ev_fS_3, ev_fS_4, ev_fS_5, ev_fS_6, ev_fS_7, ev_fS_8, ev_isO_0, ev_isO_1, ev_isO_2, ev_isO_3, ev_isO_4, ev_isO_5, ev_isO_6, ev_isO_7, ev_isO_8, ev_z0, ev_z1, ev_z2, eq_self, ev_ofN, hk, C_tableOf_y hc hi, ev_lk_s h1, h2b.1.1, h2b.1.2, h2b.2.1.1, h2b.2.1.2, h2b.2.2.1.1, h2b.2.2.1.2, h2b.2.2.2.1.1, h2b.2.2.2.1.2, h2b.2.2.2.2.1, h2b.2.2.2.2.2, hs]
        exact hK
      · have hs : (if (nI 4).toInt < (0) ∨ (0) + ((([44, 57, 62, 67, 72] : List Nat).length : Nat) : Int) ≤ (nI 4).toInt then 77 else ([44, 57, 62, 67, 72] : List Nat).getD ((nI 4).toInt - (0)).toNat 77) = 72 := by decide
        simp (disch := omega) only [t_X5_ofTable_0, t_X5_ofTable_1, t_X5_ofTable_2, t_X5_ofTable_5, t_X5_ofTable_8, t_X5_ofTable_9, t_X5_ofTable_10, t_X5_ofTable_44, t_X5_ofTable_45, t_X5_ofTable_48, t_X5_ofTable_51, t_X5_ofTable_52, t_X5_ofTable_55, t_X5_ofTable_56, t_X5_ofTable_57, t_X5_ofTable_58, t_X5_ofTable_61, t_X5_ofTable_62, t_X5_ofTable_63, t_X5_ofTable_66, t_X5_ofTable_67, t_X5_ofTable_68, t_X5_ofTable_71, t_X5_ofTable_72, t_X5_ofTable_73, t_X5_ofTable_76, t_X5_ofTable_77, x_X5_ofTable_2, x_X5_ofTable_73, ↓reduceIte, ev_k_i, ev_k_r, ev_k_l, ev_k_J, ev_k_n, ev_kr_1, ev_kr_0, ev_isK_y, ev_aG_y, ev_aS_y, ev_aN_y, ev_inA_0, ev_isA_0, ev_ft_I, ev_ft_0, ev_ft_1, ev_ft_o, ev_ft_a, ev_nb_0, ev_nb_1, and_true, true_and, if_true, if_false, not_true_eq_false, not_false_eq_true, nI_1, ev_fG_0, ev_fG_1, ev_fG_2, ev_fG_3, ev_fG_4, ev_fG_5, ev_fG_6, ev_fG_7, ev_fG_8, ev_fS_0, ev_fS_1, ev_fS_2, ev_fS_3, ev_fS_4, ev_fS_5, ev_fS_6, ev_fS_7, ev_fS_8, ev_isO_0, ev_isO_1, ev_isO_2, ev_isO_3, ev_isO_4, ev_isO_5, ev_isO_6, ev_isO_7, ev_isO_8, ev_z0, ev_z1, ev_z2, eq_self, ev_ofN, hk, C_tableOf_y hc hi, ev_lk_s h1, h2b.1.1, h2b.1.2, h2b.2.1.1, h2b.2.1.2, h2b.2.2.1.1, h2b.2.2.1.2, h2b.2.2.2.1.1, h2b.2.2.2.1.2, h2b.2.2.2.2.1, h2b.2.2.2.2.2, hs, h2k]
        refine R_sum h2 (okL_len hT.1) ?_
        simp (disch := omega) only [t_X5_ofTable_0, t_X5_ofTable_1, t_X5_ofTable_2, t_X5_ofTable_5, t_X5_ofTable_8, t_X5_ofTable_9, t_X5_ofTable_10, t_X5_ofTable_44, t_X5_ofTable_45, t_X5_ofTable_48, t_X5_ofTable_51, t_X5_ofTable_52, t_X5_ofTable_55, t_X5_ofTable_56, t_X5_ofTable_57, t_X5_ofTable_58, t_X5_ofTable_61, t_X5_ofTable_62, t_X5_ofTable_63, t_X5_ofTable_66, t_X5_ofTable_67, t_X5_ofTable_68, t_X5_ofTable_71, t_X5_ofTable_72, t_X5_ofTable_73, t_X5_ofTable_76, t_X5_ofTable_77, x_X5_ofTable_2, x_X5_ofTable_73, ↓reduceIte, ev_k_i, ev_k_r, ev_k_l, ev_k_J, ev_k_n, ev_kr_1, ev_kr_0, ev_isK_y, ev_aG_y, ev_aS_y, ev_aN_y, ev_inA_0, ev_isA_0, ev_ft_I, ev_ft_0, ev_ft_1, ev_ft_o, ev_ft_a, ev_nb_0, ev_nb_1, and_true, true_and, if_true, if_false, not_true_eq_false, not_false_eq_true, nI_1, ev_fG_0, ev_fG_1, ev_fG_2, ev_fG_3, ev_fG_4, ev_fG_5, ev_fG_6, ev_fG_7, ev_fG_8, ev_fS_0, ev_fS_1, ev_fS_2, ev_fS_3, ev_fS_4, ev_fS_5, ev_fS_6, ev_fS_7, ev_fS_8, ev_isO_0, ev_isO_1, ev_isO_2, ev_isO_3, ev_isO_4, ev_isO_5, ev_isO_6, ev_isO_7, ev_isO_8, ev_z0, ev_z1, ev_z2, eq_self, ev_ofN]
        exact hK
end C40
