/-! ===== the askings of the class ===== -/
def ev_ask (h : ev_M) (a : Nat) (ka de ne hk hn : Nat → Int32) (c : Nat) : ev_M := fun x => if x = a then some (.inr (5, [.ref (a + 1), .ref (a + 2), .ref (a + 3), .ref (a + 4), .ref (a + 5), .int (nI c)])) else if x = a + 1 then some (.inl (0, 60, fun i => .int (ka i))) else if x = a + 2 then some (.inl (0, 60, fun i => .int (de i))) else if x = a + 3 then some (.inl (0, 60, fun i => .int (ne i))) else if x = a + 4 then some (.inl (0, 6, fun i => .int (hk i))) else if x = a + 5 then some (.inl (0, 6, fun i => .int (hn i))) else h x
section AK
variable {X : ev_E} {h : ev_M} {a : Nat} {ka de ne hk hn : Nat → Int32} {c : Nat} {n q : Nat} {P : ev_O → ev_M → Nat → Nat → Prop}
theorem ev_ask_0 : ev_ask h a ka de ne hk hn c a = some (.inr (5, [.ref (a + 1), .ref (a + 2), .ref (a + 3), .ref (a + 4), .ref (a + 5), .int (nI c)])) := if_pos rfl
theorem ev_ask_l0 : ev_lk X (ev_ask h a ka de ne hk hn c) a = some (.inr (5, [.ref (a + 1), .ref (a + 2), .ref (a + 3), .ref (a + 4), .ref (a + 5), .int (nI c)])) := ev_lk_s ev_ask_0
theorem ev_ask_1 : ev_ask h a ka de ne hk hn c (a + 1) = some (.inl (0, 60, fun i => .int (ka i))) := (if_neg (by omega)).trans (if_pos rfl)
theorem ev_ask_l1 : ev_lk X (ev_ask h a ka de ne hk hn c) (a + 1) = some (.inl (0, 60, fun i => .int (ka i))) := ev_lk_s ev_ask_1
theorem ev_ask_2 : ev_ask h a ka de ne hk hn c (a + 2) = some (.inl (0, 60, fun i => .int (de i))) := (if_neg (by omega)).trans ((if_neg (by omega)).trans (if_pos rfl))
theorem ev_ask_l2 : ev_lk X (ev_ask h a ka de ne hk hn c) (a + 2) = some (.inl (0, 60, fun i => .int (de i))) := ev_lk_s ev_ask_2
theorem ev_ask_3 : ev_ask h a ka de ne hk hn c (a + 3) = some (.inl (0, 60, fun i => .int (ne i))) := (if_neg (by omega)).trans ((if_neg (by omega)).trans ((if_neg (by omega)).trans (if_pos rfl)))
theorem ev_ask_l3 : ev_lk X (ev_ask h a ka de ne hk hn c) (a + 3) = some (.inl (0, 60, fun i => .int (ne i))) := ev_lk_s ev_ask_3
theorem ev_ask_4 : ev_ask h a ka de ne hk hn c (a + 4) = some (.inl (0, 6, fun i => .int (hk i))) := (if_neg (by omega)).trans ((if_neg (by omega)).trans ((if_neg (by omega)).trans ((if_neg (by omega)).trans (if_pos rfl))))
theorem ev_ask_l4 : ev_lk X (ev_ask h a ka de ne hk hn c) (a + 4) = some (.inl (0, 6, fun i => .int (hk i))) := ev_lk_s ev_ask_4
theorem ev_ask_5 : ev_ask h a ka de ne hk hn c (a + 5) = some (.inl (0, 6, fun i => .int (hn i))) := (if_neg (by omega)).trans ((if_neg (by omega)).trans ((if_neg (by omega)).trans ((if_neg (by omega)).trans ((if_neg (by omega)).trans (if_pos rfl)))))
theorem ev_ask_l5 : ev_lk X (ev_ask h a ka de ne hk hn c) (a + 5) = some (.inl (0, 6, fun i => .int (hn i))) := ev_lk_s ev_ask_5
theorem ev_ask_o {x : Nat} (e : x < a ∨ a + 6 ≤ x) : ev_ask h a ka de ne hk hn c x = h x := (if_neg (by omega)).trans ((if_neg (by omega)).trans ((if_neg (by omega)).trans ((if_neg (by omega)).trans ((if_neg (by omega)).trans (if_neg (by omega))))))
theorem ev_ask_u0 {c' : Nat} : ev_up (ev_ask h a ka de ne hk hn c) a (.inr (5, [.ref (a + 1), .ref (a + 2), .ref (a + 3), .ref (a + 4), .ref (a + 5), .int (nI c')])) = (ev_ask h a ka de ne hk hn c') := by
  funext x
  unfold ev_up ev_ask
  split <;> rfl
theorem ev_ask_u1 {j : Nat} {v : Int32} : ev_up (ev_ask h a ka de ne hk hn c) (a + 1) (.inl (0, 60, updV (fun i => .int (ka i)) j (.int v))) = (ev_ask h a (ev_fu ka j v) de ne hk hn c) := by
  rw [ev_updI]
  funext x
  unfold ev_up ev_ask ev_fu
  by_cases e : x = a + 1
  · rw [if_pos e, if_neg (show ¬ x = a by omega), if_pos e]
  · simp only [if_neg e]
theorem ev_ask_u2 {j : Nat} {v : Int32} : ev_up (ev_ask h a ka de ne hk hn c) (a + 2) (.inl (0, 60, updV (fun i => .int (de i)) j (.int v))) = (ev_ask h a ka (ev_fu de j v) ne hk hn c) := by
  rw [ev_updI]
  funext x
  unfold ev_up ev_ask ev_fu
  by_cases e : x = a + 2
  · rw [if_pos e, if_neg (show ¬ x = a by omega), if_neg (show ¬ x = a + 1 by omega), if_pos e]
  · simp only [if_neg e]
theorem ev_ask_u3 {j : Nat} {v : Int32} : ev_up (ev_ask h a ka de ne hk hn c) (a + 3) (.inl (0, 60, updV (fun i => .int (ne i)) j (.int v))) = (ev_ask h a ka de (ev_fu ne j v) hk hn c) := by
  rw [ev_updI]
  funext x
  unfold ev_up ev_ask ev_fu
  by_cases e : x = a + 3
  · rw [if_pos e, if_neg (show ¬ x = a by omega), if_neg (show ¬ x = a + 1 by omega), if_neg (show ¬ x = a + 2 by omega), if_pos e]
  · simp only [if_neg e]
theorem ev_ask_u4 {j : Nat} {v : Int32} : ev_up (ev_ask h a ka de ne hk hn c) (a + 4) (.inl (0, 6, updV (fun i => .int (hk i)) j (.int v))) = (ev_ask h a ka de ne (ev_fu hk j v) hn c) := by
  rw [ev_updI]
  funext x
  unfold ev_up ev_ask ev_fu
  by_cases e : x = a + 4
  · rw [if_pos e, if_neg (show ¬ x = a by omega), if_neg (show ¬ x = a + 1 by omega), if_neg (show ¬ x = a + 2 by omega), if_neg (show ¬ x = a + 3 by omega), if_pos e]
  · simp only [if_neg e]
theorem ev_ask_u5 {j : Nat} {v : Int32} : ev_up (ev_ask h a ka de ne hk hn c) (a + 5) (.inl (0, 6, updV (fun i => .int (hn i)) j (.int v))) = (ev_ask h a ka de ne hk (ev_fu hn j v) c) := by
  rw [ev_updI]
  funext x
  unfold ev_up ev_ask ev_fu
  by_cases e : x = a + 5
  · rw [if_pos e, if_neg (show ¬ x = a by omega), if_neg (show ¬ x = a + 1 by omega), if_neg (show ¬ x = a + 2 by omega), if_neg (show ¬ x = a + 3 by omega), if_neg (show ¬ x = a + 4 by omega), if_pos e]
  · simp only [if_neg e]
theorem ev_ask_ask {ka' de' ne' hk' hn' : Nat → Int32} {c' : Nat} : ev_ask (ev_ask h a ka de ne hk hn c) a ka' de' ne' hk' hn' c' = ev_ask h a ka' de' ne' hk' hn' c' := by
  funext x
  by_cases e : x < a ∨ a + 6 ≤ x
  · rw [ev_ask_o e, ev_ask_o e, ev_ask_o e]
  · have hx : x = a ∨ x = a + 1 ∨ x = a + 2 ∨ x = a + 3 ∨ x = a + 4 ∨ x = a + 5 := by omega
    rcases hx with rfl | rfl | rfl | rfl | rfl | rfl
    · rw [ev_ask_0, ev_ask_0]
    · rw [ev_ask_1, ev_ask_1]
    · rw [ev_ask_2, ev_ask_2]
    · rw [ev_ask_3, ev_ask_3]
    · rw [ev_ask_4, ev_ask_4]
    · rw [ev_ask_5, ev_ask_5]
theorem ev_ask_t (e0 : h a = some (.inr (5, [.ref (a + 1), .ref (a + 2), .ref (a + 3), .ref (a + 4), .ref (a + 5), .int (nI c)]))) (e1 : h (a + 1) = some (.inl (0, 60, fun i => .int (ka i)))) (e2 : h (a + 2) = some (.inl (0, 60, fun i => .int (de i)))) (e3 : h (a + 3) = some (.inl (0, 60, fun i => .int (ne i)))) (e4 : h (a + 4) = some (.inl (0, 6, fun i => .int (hk i)))) (e5 : h (a + 5) = some (.inl (0, 6, fun i => .int (hn i)))) : ev_ask h a ka de ne hk hn c = h := by
  funext x
  by_cases e : x < a ∨ a + 6 ≤ x
  · rw [ev_ask_o e]
  · have hx : x = a ∨ x = a + 1 ∨ x = a + 2 ∨ x = a + 3 ∨ x = a + 4 ∨ x = a + 5 := by omega
    rcases hx with rfl | rfl | rfl | rfl | rfl | rfl
    · rw [ev_ask_0, e0]
    · rw [ev_ask_1, e1]
    · rw [ev_ask_2, e2]
    · rw [ev_ask_3, e3]
    · rw [ev_ask_4, e4]
    · rw [ev_ask_5, e5]
theorem r_min {x y : Int32} {H : ev_M} : ev_ok (ev_TT X) 17 0 [.int x, .int y] [] H n q P ↔ P (.inl (some (.int (if y < x then y else x)))) H n q := by
  simp only [t_J9_min_7cf53_0, t_J9_min_7cf53_1, t_J9_min_7cf53_2, t_J9_min_7cf53_5, t_J9_min_7cf53_6, t_J9_min_7cf53_9, t_J9_min_7cf53_10, ↓reduceIte, ev_k_i, ev_k_r, ev_k_l, ev_k_J, ev_k_n, ev_kr_1, ev_kr_0, ev_isK_y, ev_aG_y, ev_aS_y, ev_aN_y, ev_inA_0, ev_isA_0, ev_ft_I, ev_ft_0, ev_ft_1, ev_ft_o, ev_ft_a, ev_nb_0, ev_nb_1, and_true, true_and, if_true, if_false, not_true_eq_false, not_false_eq_true, nI_1, ev_fG_0, ev_fG_1, ev_fG_2, ev_fG_3, ev_fG_4, ev_fG_5, ev_fG_6, ev_fG_7, ev_fG_8, ev_fS_0, ev_fS_1, ev_fS_2, ev_fS_3, ev_fS_4, ev_fS_5, ev_fS_6, ev_fS_7, ev_fS_8, ev_isO_0, ev_isO_1, ev_isO_2, ev_isO_3, ev_isO_4, ev_isO_5, ev_isO_6, ev_isO_7, ev_isO_8, ev_z0, ev_z1, ev_z2, eq_self, ev_ask_0, ev_ask_1, ev_ask_2, ev_ask_3, ev_ask_4, ev_ask_5, ev_ask_l0, ev_ask_l1, ev_ask_l2, ev_ask_l3, ev_ask_l4, ev_ask_l5, ev_ask_u0, ev_ask_u1, ev_ask_u2, ev_ask_u3, ev_ask_u4, ev_ask_u5]
  split <;> rfl
theorem r_max {x y : Int32} {H : ev_M} : ev_ok (ev_TT X) 16 0 [.int x, .int y] [] H n q P ↔ P (.inl (some (.int (if x < y then y else x)))) H n q := by
  simp only [t_J9_max_7cf53_0, t_J9_max_7cf53_1, t_J9_max_7cf53_2, t_J9_max_7cf53_5, t_J9_max_7cf53_6, t_J9_max_7cf53_9, t_J9_max_7cf53_10, ↓reduceIte, ev_k_i, ev_k_r, ev_k_l, ev_k_J, ev_k_n, ev_kr_1, ev_kr_0, ev_isK_y, ev_aG_y, ev_aS_y, ev_aN_y, ev_inA_0, ev_isA_0, ev_ft_I, ev_ft_0, ev_ft_1, ev_ft_o, ev_ft_a, ev_nb_0, ev_nb_1, and_true, true_and, if_true, if_false, not_true_eq_false, not_false_eq_true, nI_1, ev_fG_0, ev_fG_1, ev_fG_2, ev_fG_3, ev_fG_4, ev_fG_5, ev_fG_6, ev_fG_7, ev_fG_8, ev_fS_0, ev_fS_1, ev_fS_2, ev_fS_3, ev_fS_4, ev_fS_5, ev_fS_6, ev_fS_7, ev_fS_8, ev_isO_0, ev_isO_1, ev_isO_2, ev_isO_3, ev_isO_4, ev_isO_5, ev_isO_6, ev_isO_7, ev_isO_8, ev_z0, ev_z1, ev_z2, eq_self, ev_ask_0, ev_ask_1, ev_ask_2, ev_ask_3, ev_ask_4, ev_ask_5, ev_ask_l0, ev_ask_l1, ev_ask_l2, ev_ask_l3, ev_ask_l4, ev_ask_l5, ev_ask_u0, ev_ask_u1, ev_ask_u2, ev_ask_u3, ev_ask_u4, ev_ask_u5]
  split <;> rfl
theorem A_isNum (hc : c ≤ 60) {x : Int32} (k : P (.inl (some (.int (ev_b (0 ≤ x ∧ x < nI c))))) (ev_ask h a ka de ne hk hn c) n q) : ev_ok (ev_TT X) 32 0 [.ref a, .int x] [] (ev_ask h a ka de ne hk hn c) n q P := by
  simp only [t_X0_isNumber_0, t_X0_isNumber_1, t_X0_isNumber_4, t_X0_isNumber_5, t_X0_isNumber_6, t_X0_isNumber_9, t_X0_isNumber_12, t_X0_isNumber_13, t_X0_isNumber_16, t_X0_isNumber_17, ↓reduceIte, ev_k_i, ev_k_r, ev_k_l, ev_k_J, ev_k_n, ev_kr_1, ev_kr_0, ev_isK_y, ev_aG_y, ev_aS_y, ev_aN_y, ev_inA_0, ev_isA_0, ev_ft_I, ev_ft_0, ev_ft_1, ev_ft_o, ev_ft_a, ev_nb_0, ev_nb_1, and_true, true_and, if_true, if_false, not_true_eq_false, not_false_eq_true, nI_1, ev_fG_0, ev_fG_1, ev_fG_2, ev_fG_3, ev_fG_4, ev_fG_5, ev_fG_6, ev_fG_7, ev_fG_8, ev_fS_0, ev_fS_1, ev_fS_2, ev_fS_3, ev_fS_4, ev_fS_5, ev_fS_6, ev_fS_7, ev_fS_8, ev_isO_0, ev_isO_1, ev_isO_2, ev_isO_3, ev_isO_4, ev_isO_5, ev_isO_6, ev_isO_7, ev_isO_8, ev_z0, ev_z1, ev_z2, eq_self, ev_ask_0, ev_ask_1, ev_ask_2, ev_ask_3, ev_ask_4, ev_ask_5, ev_ask_l0, ev_ask_l1, ev_ask_l2, ev_ask_l3, ev_ask_l4, ev_ask_l5, ev_ask_u0, ev_ask_u1, ev_ask_u2, ev_ask_u3, ev_ask_u4, ev_ask_u5]
  unfold ev_b at k
  by_cases h0 : x < 0
  · rw [if_neg (fun z => Int32.not_le.mpr h0 z.1)] at k
    simp only [if_pos h0]
    exact k
  · by_cases h1 : nI c ≤ x
    · rw [if_neg (fun z => Int32.not_le.mpr z.2 h1)] at k
      simp only [if_neg h0, if_pos h1]
      exact k
    · rw [if_pos ⟨Int32.not_lt.mp h0, Int32.not_le.mp h1⟩] at k
      simp only [if_neg h0, if_neg h1]
      exact k
def pr_cnt (f : Nat → Int32) (p : Int32 → Bool) : Nat → Nat → Int32 → Int32
  | 0, _, s => s
  | d + 1, i, s => pr_cnt f p d (i + 1) (if p (f i) = true then s + 1 else s)
theorem A_cntD (hc : c ≤ 60) {x : Int32} (k : P (.inl (some (.int (pr_cnt de (fun y => decide (y = x)) c 0 0)))) (ev_ask h a ka de ne hk hn c) n q) : ev_ok (ev_TT X) 27 0 [.ref a, .int x, ev_J, ev_J] [] (ev_ask h a ka de ne hk hn c) n q P := by
  have key : ∀ d i s, i + d = c → P (.inl (some (.int (pr_cnt de (fun y => decide (y = x)) d i s)))) (ev_ask h a ka de ne hk hn c) n q → ev_ok (ev_TT X) 27 4 [.ref a, .int x, .int s, .int (nI i)] [] (ev_ask h a ka de ne hk hn c) n q P := by
    intro d
    induction d with
    | zero =>
      intro i s hi k
      have hi2 : c ≤ i := by omega
      simp (disch := omega) only [t_X0_countOfDepth_0, t_X0_countOfDepth_1, t_X0_countOfDepth_2, t_X0_countOfDepth_3, t_X0_countOfDepth_4, t_X0_countOfDepth_5, t_X0_countOfDepth_6, t_X0_countOfDepth_9, t_X0_countOfDepth_12, t_X0_countOfDepth_13, t_X0_countOfDepth_16, t_X0_countOfDepth_17, t_X0_countOfDepth_18, t_X0_countOfDepth_19, t_X0_countOfDepth_22, t_X0_countOfDepth_25, t_X0_countOfDepth_28, t_X0_countOfDepth_31, t_X0_countOfDepth_32, ↓reduceIte, ev_k_i, ev_k_r, ev_k_l, ev_k_J, ev_k_n, ev_kr_1, ev_kr_0, ev_isK_y, ev_aG_y, ev_aS_y, ev_aN_y, ev_inA_0, ev_isA_0, ev_ft_I, ev_ft_0, ev_ft_1, ev_ft_o, ev_ft_a, ev_nb_0, ev_nb_1, and_true, true_and, if_true, if_false, not_true_eq_false, not_false_eq_true, nI_1, ev_fG_0, ev_fG_1, ev_fG_2, ev_fG_3, ev_fG_4, ev_fG_5, ev_fG_6, ev_fG_7, ev_fG_8, ev_fS_0, ev_fS_1, ev_fS_2, ev_fS_3, ev_fS_4, ev_fS_5, ev_fS_6, ev_fS_7, ev_fS_8, ev_isO_0, ev_isO_1, ev_isO_2, ev_isO_3, ev_isO_4, ev_isO_5, ev_isO_6, ev_isO_7, ev_isO_8, ev_z0, ev_z1, ev_z2, eq_self, ev_ask_0, ev_ask_1, ev_ask_2, ev_ask_3, ev_ask_4, ev_ask_5, ev_ask_l0, ev_ask_l1, ev_ask_l2, ev_ask_l3, ev_ask_l4, ev_ask_l5, ev_ask_u0, ev_ask_u1, ev_ask_u2, ev_ask_u3, ev_ask_u4, ev_ask_u5, nI_leI, hi2]
      exact k
    | succ d ih =>
      intro i s hi k
      have hi2 : ¬ c ≤ i := by omega
      have hp := nI_pos' (n := i) (by omega)
      have h60 : i < 60 := by omega
      have hI := ih (i + 1) (if decide ((de i) = x) = true then s + 1 else s) (by omega) k
      by_cases e : de i = x
      · rw [decide_eq_true e, if_pos rfl] at hI
        simp (disch := omega) only [t_X0_countOfDepth_4, ↓reduceIte, ev_k_i, ev_k_r, ev_k_l, ev_k_J, ev_k_n, ev_kr_1, ev_kr_0, ev_isK_y, ev_aG_y, ev_aS_y, ev_aN_y, ev_inA_0, ev_isA_0, ev_ft_I, ev_ft_0, ev_ft_1, ev_ft_o, ev_ft_a, ev_nb_0, ev_nb_1, and_true, true_and, if_true, if_false, not_true_eq_false, not_false_eq_true, nI_1, ev_fG_0, ev_fG_1, ev_fG_2, ev_fG_3, ev_fG_4, ev_fG_5, ev_fG_6, ev_fG_7, ev_fG_8, ev_fS_0, ev_fS_1, ev_fS_2, ev_fS_3, ev_fS_4, ev_fS_5, ev_fS_6, ev_fS_7, ev_fS_8, ev_isO_0, ev_isO_1, ev_isO_2, ev_isO_3, ev_isO_4, ev_isO_5, ev_isO_6, ev_isO_7, ev_isO_8, ev_z0, ev_z1, ev_z2, eq_self, ev_ask_0, ev_ask_1, ev_ask_2, ev_ask_3, ev_ask_4, ev_ask_5, ev_ask_l0, ev_ask_l1, ev_ask_l2, ev_ask_l3, ev_ask_l4, ev_ask_l5, ev_ask_u0, ev_ask_u1, ev_ask_u2, ev_ask_u3, ev_ask_u4, ev_ask_u5]
        simp (disch := omega) only [t_X0_countOfDepth_0, t_X0_countOfDepth_1, t_X0_countOfDepth_2, t_X0_countOfDepth_3, t_X0_countOfDepth_5, t_X0_countOfDepth_6, t_X0_countOfDepth_9, t_X0_countOfDepth_12, t_X0_countOfDepth_13, t_X0_countOfDepth_16, t_X0_countOfDepth_17, t_X0_countOfDepth_18, t_X0_countOfDepth_19, t_X0_countOfDepth_22, t_X0_countOfDepth_25, t_X0_countOfDepth_28, t_X0_countOfDepth_31, t_X0_countOfDepth_32, ↓reduceIte, ev_k_i, ev_k_r, ev_k_l, ev_k_J, ev_k_n, ev_kr_1, ev_kr_0, ev_isK_y, ev_aG_y, ev_aS_y, ev_aN_y, ev_inA_0, ev_isA_0, ev_ft_I, ev_ft_0, ev_ft_1, ev_ft_o, ev_ft_a, ev_nb_0, ev_nb_1, and_true, true_and, if_true, if_false, not_true_eq_false, not_false_eq_true, nI_1, ev_fG_0, ev_fG_1, ev_fG_2, ev_fG_3, ev_fG_4, ev_fG_5, ev_fG_6, ev_fG_7, ev_fG_8, ev_fS_0, ev_fS_1, ev_fS_2, ev_fS_3, ev_fS_4, ev_fS_5, ev_fS_6, ev_fS_7, ev_fS_8, ev_isO_0, ev_isO_1, ev_isO_2, ev_isO_3, ev_isO_4, ev_isO_5, ev_isO_6, ev_isO_7, ev_isO_8, ev_z0, ev_z1, ev_z2, eq_self, ev_ask_0, ev_ask_1, ev_ask_2, ev_ask_3, ev_ask_4, ev_ask_5, ev_ask_l0, ev_ask_l1, ev_ask_l2, ev_ask_l3, ev_ask_l4, ev_ask_l5, ev_ask_u0, ev_ask_u1, ev_ask_u2, ev_ask_u3, ev_ask_u4, ev_ask_u5, nI_leI, hi2, nI_clamp, hp, h60, e]
        exact hI
      · rw [decide_eq_false e, if_neg Bool.false_ne_true] at hI
        simp (disch := omega) only [t_X0_countOfDepth_4, ↓reduceIte, ev_k_i, ev_k_r, ev_k_l, ev_k_J, ev_k_n, ev_kr_1, ev_kr_0, ev_isK_y, ev_aG_y, ev_aS_y, ev_aN_y, ev_inA_0, ev_isA_0, ev_ft_I, ev_ft_0, ev_ft_1, ev_ft_o, ev_ft_a, ev_nb_0, ev_nb_1, and_true, true_and, if_true, if_false, not_true_eq_false, not_false_eq_true, nI_1, ev_fG_0, ev_fG_1, ev_fG_2, ev_fG_3, ev_fG_4, ev_fG_5, ev_fG_6, ev_fG_7, ev_fG_8, ev_fS_0, ev_fS_1, ev_fS_2, ev_fS_3, ev_fS_4, ev_fS_5, ev_fS_6, ev_fS_7, ev_fS_8, ev_isO_0, ev_isO_1, ev_isO_2, ev_isO_3, ev_isO_4, ev_isO_5, ev_isO_6, ev_isO_7, ev_isO_8, ev_z0, ev_z1, ev_z2, eq_self, ev_ask_0, ev_ask_1, ev_ask_2, ev_ask_3, ev_ask_4, ev_ask_5, ev_ask_l0, ev_ask_l1, ev_ask_l2, ev_ask_l3, ev_ask_l4, ev_ask_l5, ev_ask_u0, ev_ask_u1, ev_ask_u2, ev_ask_u3, ev_ask_u4, ev_ask_u5]
        simp (disch := omega) only [t_X0_countOfDepth_0, t_X0_countOfDepth_1, t_X0_countOfDepth_2, t_X0_countOfDepth_3, t_X0_countOfDepth_5, t_X0_countOfDepth_6, t_X0_countOfDepth_9, t_X0_countOfDepth_12, t_X0_countOfDepth_13, t_X0_countOfDepth_16, t_X0_countOfDepth_17, t_X0_countOfDepth_18, t_X0_countOfDepth_19, t_X0_countOfDepth_22, t_X0_countOfDepth_25, t_X0_countOfDepth_28, t_X0_countOfDepth_31, t_X0_countOfDepth_32, ↓reduceIte, ev_k_i, ev_k_r, ev_k_l, ev_k_J, ev_k_n, ev_kr_1, ev_kr_0, ev_isK_y, ev_aG_y, ev_aS_y, ev_aN_y, ev_inA_0, ev_isA_0, ev_ft_I, ev_ft_0, ev_ft_1, ev_ft_o, ev_ft_a, ev_nb_0, ev_nb_1, and_true, true_and, if_true, if_false, not_true_eq_false, not_false_eq_true, nI_1, ev_fG_0, ev_fG_1, ev_fG_2, ev_fG_3, ev_fG_4, ev_fG_5, ev_fG_6, ev_fG_7, ev_fG_8, ev_fS_0, ev_fS_1, ev_fS_2, ev_fS_3, ev_fS_4, ev_fS_5, ev_fS_6, ev_fS_7, ev_fS_8, ev_isO_0, ev_isO_1, ev_isO_2, ev_isO_3, ev_isO_4, ev_isO_5, ev_isO_6, ev_isO_7, ev_isO_8, ev_z0, ev_z1, ev_z2, eq_self, ev_ask_0, ev_ask_1, ev_ask_2, ev_ask_3, ev_ask_4, ev_ask_5, ev_ask_l0, ev_ask_l1, ev_ask_l2, ev_ask_l3, ev_ask_l4, ev_ask_l5, ev_ask_u0, ev_ask_u1, ev_ask_u2, ev_ask_u3, ev_ask_u4, ev_ask_u5, nI_leI, hi2, nI_clamp, hp, h60, e]
        exact hI
  have h0 := key c 0 0 (by omega) k
  rw [nI_0] at h0
  simp (disch := omega) only [t_X0_countOfDepth_0, t_X0_countOfDepth_1, t_X0_countOfDepth_2, t_X0_countOfDepth_3, t_X0_countOfDepth_5, t_X0_countOfDepth_6, t_X0_countOfDepth_9, t_X0_countOfDepth_12, t_X0_countOfDepth_13, t_X0_countOfDepth_16, t_X0_countOfDepth_17, t_X0_countOfDepth_18, t_X0_countOfDepth_19, t_X0_countOfDepth_22, t_X0_countOfDepth_25, t_X0_countOfDepth_28, t_X0_countOfDepth_31, t_X0_countOfDepth_32, ↓reduceIte, ev_k_i, ev_k_r, ev_k_l, ev_k_J, ev_k_n, ev_kr_1, ev_kr_0, ev_isK_y, ev_aG_y, ev_aS_y, ev_aN_y, ev_inA_0, ev_isA_0, ev_ft_I, ev_ft_0, ev_ft_1, ev_ft_o, ev_ft_a, ev_nb_0, ev_nb_1, and_true, true_and, if_true, if_false, not_true_eq_false, not_false_eq_true, nI_1, ev_fG_0, ev_fG_1, ev_fG_2, ev_fG_3, ev_fG_4, ev_fG_5, ev_fG_6, ev_fG_7, ev_fG_8, ev_fS_0, ev_fS_1, ev_fS_2, ev_fS_3, ev_fS_4, ev_fS_5, ev_fS_6, ev_fS_7, ev_fS_8, ev_isO_0, ev_isO_1, ev_isO_2, ev_isO_3, ev_isO_4, ev_isO_5, ev_isO_6, ev_isO_7, ev_isO_8, ev_z0, ev_z1, ev_z2, eq_self, ev_ask_0, ev_ask_1, ev_ask_2, ev_ask_3, ev_ask_4, ev_ask_5, ev_ask_l0, ev_ask_l1, ev_ask_l2, ev_ask_l3, ev_ask_l4, ev_ask_l5, ev_ask_u0, ev_ask_u1, ev_ask_u2, ev_ask_u3, ev_ask_u4, ev_ask_u5]
  exact h0
theorem A_cntO (hc : c ≤ 60) {x : Int32} (k : P (.inl (some (.int (pr_cnt de (fun y => decide (y = 0 ∨ x < y)) c 0 0)))) (ev_ask h a ka de ne hk hn c) n q) : ev_ok (ev_TT X) 28 0 [.ref a, .int x, ev_J, ev_J] [] (ev_ask h a ka de ne hk hn c) n q P := by
  have key : ∀ d i s, i + d = c → P (.inl (some (.int (pr_cnt de (fun y => decide (y = 0 ∨ x < y)) d i s)))) (ev_ask h a ka de ne hk hn c) n q → ev_ok (ev_TT X) 28 4 [.ref a, .int x, .int s, .int (nI i)] [] (ev_ask h a ka de ne hk hn c) n q P := by
    intro d
    induction d with
    | zero =>
      intro i s hi k
      have hi2 : c ≤ i := by omega
      simp (disch := omega) only [t_X0_countOutOfReach_0, t_X0_countOutOfReach_1, t_X0_countOutOfReach_2, t_X0_countOutOfReach_3, t_X0_countOutOfReach_4, t_X0_countOutOfReach_5, t_X0_countOutOfReach_6, t_X0_countOutOfReach_9, t_X0_countOutOfReach_12, t_X0_countOutOfReach_13, t_X0_countOutOfReach_16, t_X0_countOutOfReach_17, t_X0_countOutOfReach_18, t_X0_countOutOfReach_21, t_X0_countOutOfReach_22, t_X0_countOutOfReach_25, t_X0_countOutOfReach_26, t_X0_countOutOfReach_27, t_X0_countOutOfReach_28, t_X0_countOutOfReach_31, t_X0_countOutOfReach_34, t_X0_countOutOfReach_37, t_X0_countOutOfReach_40, t_X0_countOutOfReach_41, ↓reduceIte, ev_k_i, ev_k_r, ev_k_l, ev_k_J, ev_k_n, ev_kr_1, ev_kr_0, ev_isK_y, ev_aG_y, ev_aS_y, ev_aN_y, ev_inA_0, ev_isA_0, ev_ft_I, ev_ft_0, ev_ft_1, ev_ft_o, ev_ft_a, ev_nb_0, ev_nb_1, and_true, true_and, if_true, if_false, not_true_eq_false, not_false_eq_true, nI_1, ev_fG_0, ev_fG_1, ev_fG_2, ev_fG_3, ev_fG_4, ev_fG_5, ev_fG_6, ev_fG_7, ev_fG_8, ev_fS_0, ev_fS_1, ev_fS_2, ev_fS_3, ev_fS_4, ev_fS_5, ev_fS_6, ev_fS_7, ev_fS_8, ev_isO_0, ev_isO_1, ev_isO_2, ev_isO_3, ev_isO_4, ev_isO_5, ev_isO_6, ev_isO_7, ev_isO_8, ev_z0, ev_z1, ev_z2, eq_self, ev_ask_0, ev_ask_1, ev_ask_2, ev_ask_3, ev_ask_4, ev_ask_5, ev_ask_l0, ev_ask_l1, ev_ask_l2, ev_ask_l3, ev_ask_l4, ev_ask_l5, ev_ask_u0, ev_ask_u1, ev_ask_u2, ev_ask_u3, ev_ask_u4, ev_ask_u5, nI_leI, hi2]
      exact k
    | succ d ih =>
      intro i s hi k
      have hi2 : ¬ c ≤ i := by omega
      have hp := nI_pos' (n := i) (by omega)
      have h60 : i < 60 := by omega
      have hI := ih (i + 1) (if decide ((de i) = 0 ∨ x < (de i)) = true then s + 1 else s) (by omega) k
      by_cases e : de i = 0
      · rw [decide_eq_true (Or.inl e), if_pos rfl] at hI
        simp (disch := omega) only [t_X0_countOutOfReach_4, ↓reduceIte, ev_k_i, ev_k_r, ev_k_l, ev_k_J, ev_k_n, ev_kr_1, ev_kr_0, ev_isK_y, ev_aG_y, ev_aS_y, ev_aN_y, ev_inA_0, ev_isA_0, ev_ft_I, ev_ft_0, ev_ft_1, ev_ft_o, ev_ft_a, ev_nb_0, ev_nb_1, and_true, true_and, if_true, if_false, not_true_eq_false, not_false_eq_true, nI_1, ev_fG_0, ev_fG_1, ev_fG_2, ev_fG_3, ev_fG_4, ev_fG_5, ev_fG_6, ev_fG_7, ev_fG_8, ev_fS_0, ev_fS_1, ev_fS_2, ev_fS_3, ev_fS_4, ev_fS_5, ev_fS_6, ev_fS_7, ev_fS_8, ev_isO_0, ev_isO_1, ev_isO_2, ev_isO_3, ev_isO_4, ev_isO_5, ev_isO_6, ev_isO_7, ev_isO_8, ev_z0, ev_z1, ev_z2, eq_self, ev_ask_0, ev_ask_1, ev_ask_2, ev_ask_3, ev_ask_4, ev_ask_5, ev_ask_l0, ev_ask_l1, ev_ask_l2, ev_ask_l3, ev_ask_l4, ev_ask_l5, ev_ask_u0, ev_ask_u1, ev_ask_u2, ev_ask_u3, ev_ask_u4, ev_ask_u5]
        simp (disch := omega) only [t_X0_countOutOfReach_0, t_X0_countOutOfReach_1, t_X0_countOutOfReach_2, t_X0_countOutOfReach_3, t_X0_countOutOfReach_5, t_X0_countOutOfReach_6, t_X0_countOutOfReach_9, t_X0_countOutOfReach_12, t_X0_countOutOfReach_13, t_X0_countOutOfReach_16, t_X0_countOutOfReach_17, t_X0_countOutOfReach_18, t_X0_countOutOfReach_21, t_X0_countOutOfReach_22, t_X0_countOutOfReach_25, t_X0_countOutOfReach_26, t_X0_countOutOfReach_27, t_X0_countOutOfReach_28, t_X0_countOutOfReach_31, t_X0_countOutOfReach_34, t_X0_countOutOfReach_37, t_X0_countOutOfReach_40, t_X0_countOutOfReach_41, ↓reduceIte, ev_k_i, ev_k_r, ev_k_l, ev_k_J, ev_k_n, ev_kr_1, ev_kr_0, ev_isK_y, ev_aG_y, ev_aS_y, ev_aN_y, ev_inA_0, ev_isA_0, ev_ft_I, ev_ft_0, ev_ft_1, ev_ft_o, ev_ft_a, ev_nb_0, ev_nb_1, and_true, true_and, if_true, if_false, not_true_eq_false, not_false_eq_true, nI_1, ev_fG_0, ev_fG_1, ev_fG_2, ev_fG_3, ev_fG_4, ev_fG_5, ev_fG_6, ev_fG_7, ev_fG_8, ev_fS_0, ev_fS_1, ev_fS_2, ev_fS_3, ev_fS_4, ev_fS_5, ev_fS_6, ev_fS_7, ev_fS_8, ev_isO_0, ev_isO_1, ev_isO_2, ev_isO_3, ev_isO_4, ev_isO_5, ev_isO_6, ev_isO_7, ev_isO_8, ev_z0, ev_z1, ev_z2, eq_self, ev_ask_0, ev_ask_1, ev_ask_2, ev_ask_3, ev_ask_4, ev_ask_5, ev_ask_l0, ev_ask_l1, ev_ask_l2, ev_ask_l3, ev_ask_l4, ev_ask_l5, ev_ask_u0, ev_ask_u1, ev_ask_u2, ev_ask_u3, ev_ask_u4, ev_ask_u5, nI_leI, hi2, nI_clamp, hp, h60, e]
        exact hI
      · by_cases e2 : x < de i
        · rw [decide_eq_true (Or.inr e2), if_pos rfl] at hI
          have e3 : ¬ de i ≤ x := Int32.not_le.mpr e2
          simp (disch := omega) only [t_X0_countOutOfReach_4, ↓reduceIte, ev_k_i, ev_k_r, ev_k_l, ev_k_J, ev_k_n, ev_kr_1, ev_kr_0, ev_isK_y, ev_aG_y, ev_aS_y, ev_aN_y, ev_inA_0, ev_isA_0, ev_ft_I, ev_ft_0, ev_ft_1, ev_ft_o, ev_ft_a, ev_nb_0, ev_nb_1, and_true, true_and, if_true, if_false, not_true_eq_false, not_false_eq_true, nI_1, ev_fG_0, ev_fG_1, ev_fG_2, ev_fG_3, ev_fG_4, ev_fG_5, ev_fG_6, ev_fG_7, ev_fG_8, ev_fS_0, ev_fS_1, ev_fS_2, ev_fS_3, ev_fS_4, ev_fS_5, ev_fS_6, ev_fS_7, ev_fS_8, ev_isO_0, ev_isO_1, ev_isO_2, ev_isO_3, ev_isO_4, ev_isO_5, ev_isO_6, ev_isO_7, ev_isO_8, ev_z0, ev_z1, ev_z2, eq_self, ev_ask_0, ev_ask_1, ev_ask_2, ev_ask_3, ev_ask_4, ev_ask_5, ev_ask_l0, ev_ask_l1, ev_ask_l2, ev_ask_l3, ev_ask_l4, ev_ask_l5, ev_ask_u0, ev_ask_u1, ev_ask_u2, ev_ask_u3, ev_ask_u4, ev_ask_u5]
          simp (disch := omega) only [t_X0_countOutOfReach_0, t_X0_countOutOfReach_1, t_X0_countOutOfReach_2, t_X0_countOutOfReach_3, t_X0_countOutOfReach_5, t_X0_countOutOfReach_6, t_X0_countOutOfReach_9, t_X0_countOutOfReach_12, t_X0_countOutOfReach_13, t_X0_countOutOfReach_16, t_X0_countOutOfReach_17, t_X0_countOutOfReach_18, t_X0_countOutOfReach_21, t_X0_countOutOfReach_22, t_X0_countOutOfReach_25, t_X0_countOutOfReach_26, t_X0_countOutOfReach_27, t_X0_countOutOfReach_28, t_X0_countOutOfReach_31, t_X0_countOutOfReach_34, t_X0_countOutOfReach_37, t_X0_countOutOfReach_40, t_X0_countOutOfReach_41, ↓reduceIte, ev_k_i, ev_k_r, ev_k_l, ev_k_J, ev_k_n, ev_kr_1, ev_kr_0, ev_isK_y, ev_aG_y, ev_aS_y, ev_aN_y, ev_inA_0, ev_isA_0, ev_ft_I, ev_ft_0, ev_ft_1, ev_ft_o, ev_ft_a, ev_nb_0, ev_nb_1, and_true, true_and, if_true, if_false, not_true_eq_false, not_false_eq_true, nI_1, ev_fG_0, ev_fG_1, ev_fG_2, ev_fG_3, ev_fG_4, ev_fG_5, ev_fG_6, ev_fG_7, ev_fG_8, ev_fS_0, ev_fS_1, ev_fS_2, ev_fS_3, ev_fS_4, ev_fS_5, ev_fS_6, ev_fS_7, ev_fS_8, ev_isO_0, ev_isO_1, ev_isO_2, ev_isO_3, ev_isO_4, ev_isO_5, ev_isO_6, ev_isO_7, ev_isO_8, ev_z0, ev_z1, ev_z2, eq_self, ev_ask_0, ev_ask_1, ev_ask_2, ev_ask_3, ev_ask_4, ev_ask_5, ev_ask_l0, ev_ask_l1, ev_ask_l2, ev_ask_l3, ev_ask_l4, ev_ask_l5, ev_ask_u0, ev_ask_u1, ev_ask_u2, ev_ask_u3, ev_ask_u4, ev_ask_u5, nI_leI, hi2, nI_clamp, hp, h60, e, e3]
          exact hI
        · rw [decide_eq_false (fun z => z.elim e e2), if_neg Bool.false_ne_true] at hI
          have e3 : de i ≤ x := Int32.not_lt.mp e2
          simp (disch := omega) only [t_X0_countOutOfReach_4, ↓reduceIte, ev_k_i, ev_k_r, ev_k_l, ev_k_J, ev_k_n, ev_kr_1, ev_kr_0, ev_isK_y, ev_aG_y, ev_aS_y, ev_aN_y, ev_inA_0, ev_isA_0, ev_ft_I, ev_ft_0, ev_ft_1, ev_ft_o, ev_ft_a, ev_nb_0, ev_nb_1, and_true, true_and, if_true, if_false, not_true_eq_false, not_false_eq_true, nI_1, ev_fG_0, ev_fG_1, ev_fG_2, ev_fG_3, ev_fG_4, ev_fG_5, ev_fG_6, ev_fG_7, ev_fG_8, ev_fS_0, ev_fS_1, ev_fS_2, ev_fS_3, ev_fS_4, ev_fS_5, ev_fS_6, ev_fS_7, ev_fS_8, ev_isO_0, ev_isO_1, ev_isO_2, ev_isO_3, ev_isO_4, ev_isO_5, ev_isO_6, ev_isO_7, ev_isO_8, ev_z0, ev_z1, ev_z2, eq_self, ev_ask_0, ev_ask_1, ev_ask_2, ev_ask_3, ev_ask_4, ev_ask_5, ev_ask_l0, ev_ask_l1, ev_ask_l2, ev_ask_l3, ev_ask_l4, ev_ask_l5, ev_ask_u0, ev_ask_u1, ev_ask_u2, ev_ask_u3, ev_ask_u4, ev_ask_u5]
          simp (disch := omega) only [t_X0_countOutOfReach_0, t_X0_countOutOfReach_1, t_X0_countOutOfReach_2, t_X0_countOutOfReach_3, t_X0_countOutOfReach_5, t_X0_countOutOfReach_6, t_X0_countOutOfReach_9, t_X0_countOutOfReach_12, t_X0_countOutOfReach_13, t_X0_countOutOfReach_16, t_X0_countOutOfReach_17, t_X0_countOutOfReach_18, t_X0_countOutOfReach_21, t_X0_countOutOfReach_22, t_X0_countOutOfReach_25, t_X0_countOutOfReach_26, t_X0_countOutOfReach_27, t_X0_countOutOfReach_28, t_X0_countOutOfReach_31, t_X0_countOutOfReach_34, t_X0_countOutOfReach_37, t_X0_countOutOfReach_40, t_X0_countOutOfReach_41, ↓reduceIte, ev_k_i, ev_k_r, ev_k_l, ev_k_J, ev_k_n, ev_kr_1, ev_kr_0, ev_isK_y, ev_aG_y, ev_aS_y, ev_aN_y, ev_inA_0, ev_isA_0, ev_ft_I, ev_ft_0, ev_ft_1, ev_ft_o, ev_ft_a, ev_nb_0, ev_nb_1, and_true, true_and, if_true, if_false, not_true_eq_false, not_false_eq_true, nI_1, ev_fG_0, ev_fG_1, ev_fG_2, ev_fG_3, ev_fG_4, ev_fG_5, ev_fG_6, ev_fG_7, ev_fG_8, ev_fS_0, ev_fS_1, ev_fS_2, ev_fS_3, ev_fS_4, ev_fS_5, ev_fS_6, ev_fS_7, ev_fS_8, ev_isO_0, ev_isO_1, ev_isO_2, ev_isO_3, ev_isO_4, ev_isO_5, ev_isO_6, ev_isO_7, ev_isO_8, ev_z0, ev_z1, ev_z2, eq_self, ev_ask_0, ev_ask_1, ev_ask_2, ev_ask_3, ev_ask_4, ev_ask_5, ev_ask_l0, ev_ask_l1, ev_ask_l2, ev_ask_l3, ev_ask_l4, ev_ask_l5, ev_ask_u0, ev_ask_u1, ev_ask_u2, ev_ask_u3, ev_ask_u4, ev_ask_u5, nI_leI, hi2, nI_clamp, hp, h60, e, e3]
          exact hI
  have h0 := key c 0 0 (by omega) k
  rw [nI_0] at h0
  simp (disch := omega) only [t_X0_countOutOfReach_0, t_X0_countOutOfReach_1, t_X0_countOutOfReach_2, t_X0_countOutOfReach_3, t_X0_countOutOfReach_5, t_X0_countOutOfReach_6, t_X0_countOutOfReach_9, t_X0_countOutOfReach_12, t_X0_countOutOfReach_13, t_X0_countOutOfReach_16, t_X0_countOutOfReach_17, t_X0_countOutOfReach_18, t_X0_countOutOfReach_21, t_X0_countOutOfReach_22, t_X0_countOutOfReach_25, t_X0_countOutOfReach_26, t_X0_countOutOfReach_27, t_X0_countOutOfReach_28, t_X0_countOutOfReach_31, t_X0_countOutOfReach_34, t_X0_countOutOfReach_37, t_X0_countOutOfReach_40, t_X0_countOutOfReach_41, ↓reduceIte, ev_k_i, ev_k_r, ev_k_l, ev_k_J, ev_k_n, ev_kr_1, ev_kr_0, ev_isK_y, ev_aG_y, ev_aS_y, ev_aN_y, ev_inA_0, ev_isA_0, ev_ft_I, ev_ft_0, ev_ft_1, ev_ft_o, ev_ft_a, ev_nb_0, ev_nb_1, and_true, true_and, if_true, if_false, not_true_eq_false, not_false_eq_true, nI_1, ev_fG_0, ev_fG_1, ev_fG_2, ev_fG_3, ev_fG_4, ev_fG_5, ev_fG_6, ev_fG_7, ev_fG_8, ev_fS_0, ev_fS_1, ev_fS_2, ev_fS_3, ev_fS_4, ev_fS_5, ev_fS_6, ev_fS_7, ev_fS_8, ev_isO_0, ev_isO_1, ev_isO_2, ev_isO_3, ev_isO_4, ev_isO_5, ev_isO_6, ev_isO_7, ev_isO_8, ev_z0, ev_z1, ev_z2, eq_self, ev_ask_0, ev_ask_1, ev_ask_2, ev_ask_3, ev_ask_4, ev_ask_5, ev_ask_l0, ev_ask_l1, ev_ask_l2, ev_ask_l3, ev_ask_l4, ev_ask_l5, ev_ask_u0, ev_ask_u1, ev_ask_u2, ev_ask_u3, ev_ask_u4, ev_ask_u5]
  exact h0
theorem ev_sub1 {x : Int32} : x + (-1) = x - 1 := (Int32.sub_eq_add_neg x 1).symm
theorem ev_neg1 : (((0 : Int32) - 1) < 0) = True := eq_true (by decide)
def nt (ka ne : Nat → Int32) (x v : Int32) : Nat → (Nat → Int32)
  | 0 => ne
  | i + 1 => if ka i = x then ev_fu ne i v else nt ka ne x v i
theorem nt_n {ka ne : Nat → Int32} {x v : Int32} {z : Nat} : ∀ p, (z < p ∧ ka z = x ∧ ∀ y, z < y → y < p → ¬ ka y = x) ∧ nt ka ne x v p z = v ∨ ¬ (z < p ∧ ka z = x ∧ ∀ y, z < y → y < p → ¬ ka y = x) ∧ nt ka ne x v p z = ne z := by
  intro p
  induction p with
  | zero => exact Or.inr ⟨fun h => absurd h.1 (Nat.not_lt_zero z), rfl⟩
  | succ p ih =>
    by_cases e : ka p = x
    · have h1 : nt ka ne x v (p + 1) = ev_fu ne p v := if_pos e
      rw [h1]
      by_cases hz : z = p
      · subst hz
        exact Or.inl ⟨⟨Nat.lt_succ_self z, e, fun y h1 h2 => by omega⟩, if_pos rfl⟩
      · refine Or.inr ⟨fun h => ?_, if_neg hz⟩
        exact h.2.2 p (by have := h.1; omega) (Nat.lt_succ_self p) e
    · have h1 : nt ka ne x v (p + 1) = nt ka ne x v p := if_neg e
      rw [h1]
      have hiff : (z < p + 1 ∧ ka z = x ∧ ∀ y, z < y → y < p + 1 → ¬ ka y = x) ↔ (z < p ∧ ka z = x ∧ ∀ y, z < y → y < p → ¬ ka y = x) := by
        constructor
        · intro h
          refine ⟨Nat.lt_of_le_of_ne (by omega) (fun w => e (w ▸ h.2.1)), h.2.1, fun y h1 h2 => h.2.2 y h1 (by omega)⟩
        · intro h
          refine ⟨by omega, h.2.1, fun y h1 h2 => ?_⟩
          by_cases hy : y = p
          · rw [hy]; exact e
          · exact h.2.2 y h1 (by omega)
      rw [hiff]
      exact ih
def okN (ka ne : Nat → Int32) (c : Nat) : Prop := ∀ i, i < c → ∃ k, ne i = nI k ∧ ((i < k ∧ k < c ∧ ka k = ka i ∧ ∀ z, i < z → z < k → ¬ ka z = ka i) ∨ (k = 60 ∧ ∀ z, i < z → z < c → ¬ ka z = ka i))
theorem okN_0 {ka ne : Nat → Int32} : okN ka ne 0 := fun i hi => absurd hi (Nat.not_lt_zero i)
theorem okN_add {ka ne : Nat → Int32} {c : Nat} {x : Int32} (h : okN ka ne c) (hc : c < 60) : okN (ev_fu ka c x) (ev_fu (nt ka ne x (nI c) c) c (nI 60)) (c + 1) := by
  intro i hi
  have hka : ∀ z, z < c → ev_fu ka c x z = ka z := fun z hz => if_neg (by omega)
  have hkc : ev_fu ka c x c = x := if_pos rfl
  by_cases e : i = c
  · subst e
    exact ⟨60, if_pos rfl, Or.inr ⟨rfl, fun z h1 h2 => by omega⟩⟩
  · have hic : i < c := by omega
    have hne : ev_fu (nt ka ne x (nI c) c) c (nI 60) i = nt ka ne x (nI c) c i := if_neg e
    rw [hne, hka i hic]
    obtain ⟨k, hk, hh⟩ := h i hic
    rcases nt_n (ka := ka) (ne := ne) (x := x) (v := nI c) (z := i) c with ⟨⟨a1, a2, a3⟩, a4⟩ | ⟨a1, a2⟩
    · refine ⟨c, a4, Or.inl ⟨hic, Nat.lt_succ_self c, by rw [hkc]; exact a2.symm, fun z h1 h2 => ?_⟩⟩
      rw [hka z h2, a2]
      exact a3 z h1 h2
    · refine ⟨k, by rw [a2]; exact hk, ?_⟩
      rcases hh with ⟨b1, b2, b3, b4⟩ | ⟨b1, b2⟩
      · refine Or.inl ⟨b1, by omega, by rw [hka k b2]; exact b3, fun z h1 h2 => by rw [hka z (by omega)]; exact b4 z h1 h2⟩
      · refine Or.inr ⟨b1, fun z h1 h2 => ?_⟩
        by_cases hz : z = c
        · rw [hz, hkc]
          intro w
          exact a1 ⟨hic, w.symm, fun y y1 y2 => by rw [w]; exact b2 y y1 y2⟩
        · rw [hka z (by omega)]
          exact b2 z h1 (by omega)
theorem A_note (hc : c ≤ 60) {x : Int32} (k : P (.inl none) (ev_ask h a ka de (nt ka ne x (nI c) c) hk hn c) n q) : ev_ok (ev_TT X) 33 0 [.ref a, .int x, ev_J] [] (ev_ask h a ka de ne hk hn c) n q P := by
  have key : ∀ i, i ≤ c → P (.inl none) (ev_ask h a ka de (nt ka ne x (nI c) i) hk hn c) n q → ev_ok (ev_TT X) 33 7 [.ref a, .int x, .int (nI i - 1)] [] (ev_ask h a ka de ne hk hn c) n q P := by
    intro i
    induction i with
    | zero =>
      intro _ kk
      rw [nI_0]
      simp (disch := omega) only [t_X0_noteNext_0, t_X0_noteNext_1, t_X0_noteNext_4, t_X0_noteNext_5, t_X0_noteNext_6, t_X0_noteNext_7, t_X0_noteNext_8, t_X0_noteNext_11, t_X0_noteNext_12, t_X0_noteNext_15, t_X0_noteNext_16, t_X0_noteNext_17, t_X0_noteNext_18, t_X0_noteNext_21, t_X0_noteNext_22, t_X0_noteNext_25, t_X0_noteNext_26, t_X0_noteNext_27, t_X0_noteNext_30, t_X0_noteNext_31, t_X0_noteNext_32, t_X0_noteNext_35, t_X0_noteNext_38, ↓reduceIte, ev_k_i, ev_k_r, ev_k_l, ev_k_J, ev_k_n, ev_kr_1, ev_kr_0, ev_isK_y, ev_aG_y, ev_aS_y, ev_aN_y, ev_inA_0, ev_isA_0, ev_ft_I, ev_ft_0, ev_ft_1, ev_ft_o, ev_ft_a, ev_nb_0, ev_nb_1, and_true, true_and, if_true, if_false, not_true_eq_false, not_false_eq_true, nI_1, ev_fG_0, ev_fG_1, ev_fG_2, ev_fG_3, ev_fG_4, ev_fG_5, ev_fG_6, ev_fG_7, ev_fG_8, ev_fS_0, ev_fS_1, ev_fS_2, ev_fS_3, ev_fS_4, ev_fS_5, ev_fS_6, ev_fS_7, ev_fS_8, ev_isO_0, ev_isO_1, ev_isO_2, ev_isO_3, ev_isO_4, ev_isO_5, ev_isO_6, ev_isO_7, ev_isO_8, ev_z0, ev_z1, ev_z2, eq_self, ev_ask_0, ev_ask_1, ev_ask_2, ev_ask_3, ev_ask_4, ev_ask_5, ev_ask_l0, ev_ask_l1, ev_ask_l2, ev_ask_l3, ev_ask_l4, ev_ask_l5, ev_ask_u0, ev_ask_u1, ev_ask_u2, ev_ask_u3, ev_ask_u4, ev_ask_u5, ev_neg1]
      exact kk
    | succ i ih =>
      intro hi kk
      have hp := nI_pos' (n := i) (by omega)
      have hp2 := nI_pos (n := i) (by omega)
      have h60 : i < 60 := by omega
      rw [nI_pred]
      by_cases e : ka i = x
      · have e9 : nt ka ne x (nI c) (i + 1) = ev_fu ne i (nI c) := if_pos e
        rw [e9] at kk
        simp (disch := omega) only [t_X0_noteNext_0, t_X0_noteNext_1, t_X0_noteNext_4, t_X0_noteNext_5, t_X0_noteNext_6, t_X0_noteNext_7, t_X0_noteNext_8, t_X0_noteNext_11, t_X0_noteNext_12, t_X0_noteNext_15, t_X0_noteNext_16, t_X0_noteNext_17, t_X0_noteNext_18, t_X0_noteNext_21, t_X0_noteNext_22, t_X0_noteNext_25, t_X0_noteNext_26, t_X0_noteNext_27, t_X0_noteNext_30, t_X0_noteNext_31, t_X0_noteNext_32, t_X0_noteNext_35, t_X0_noteNext_38, ↓reduceIte, ev_k_i, ev_k_r, ev_k_l, ev_k_J, ev_k_n, ev_kr_1, ev_kr_0, ev_isK_y, ev_aG_y, ev_aS_y, ev_aN_y, ev_inA_0, ev_isA_0, ev_ft_I, ev_ft_0, ev_ft_1, ev_ft_o, ev_ft_a, ev_nb_0, ev_nb_1, and_true, true_and, if_true, if_false, not_true_eq_false, not_false_eq_true, nI_1, ev_fG_0, ev_fG_1, ev_fG_2, ev_fG_3, ev_fG_4, ev_fG_5, ev_fG_6, ev_fG_7, ev_fG_8, ev_fS_0, ev_fS_1, ev_fS_2, ev_fS_3, ev_fS_4, ev_fS_5, ev_fS_6, ev_fS_7, ev_fS_8, ev_isO_0, ev_isO_1, ev_isO_2, ev_isO_3, ev_isO_4, ev_isO_5, ev_isO_6, ev_isO_7, ev_isO_8, ev_z0, ev_z1, ev_z2, eq_self, ev_ask_0, ev_ask_1, ev_ask_2, ev_ask_3, ev_ask_4, ev_ask_5, ev_ask_l0, ev_ask_l1, ev_ask_l2, ev_ask_l3, ev_ask_l4, ev_ask_l5, ev_ask_u0, ev_ask_u1, ev_ask_u2, ev_ask_u3, ev_ask_u4, ev_ask_u5, nI_clamp, hp, hp2, h60, e]
        exact kk
      · have e9 : nt ka ne x (nI c) (i + 1) = nt ka ne x (nI c) i := if_neg e
        rw [e9] at kk
        have hI := ih (by omega) kk
        simp (disch := omega) only [t_X0_noteNext_7, hp2, if_false]
        simp (disch := omega) only [t_X0_noteNext_0, t_X0_noteNext_1, t_X0_noteNext_4, t_X0_noteNext_5, t_X0_noteNext_6, t_X0_noteNext_8, t_X0_noteNext_11, t_X0_noteNext_12, t_X0_noteNext_15, t_X0_noteNext_16, t_X0_noteNext_17, t_X0_noteNext_18, t_X0_noteNext_21, t_X0_noteNext_22, t_X0_noteNext_25, t_X0_noteNext_26, t_X0_noteNext_27, t_X0_noteNext_30, t_X0_noteNext_31, t_X0_noteNext_32, t_X0_noteNext_35, t_X0_noteNext_38, ↓reduceIte, ev_k_i, ev_k_r, ev_k_l, ev_k_J, ev_k_n, ev_kr_1, ev_kr_0, ev_isK_y, ev_aG_y, ev_aS_y, ev_aN_y, ev_inA_0, ev_isA_0, ev_ft_I, ev_ft_0, ev_ft_1, ev_ft_o, ev_ft_a, ev_nb_0, ev_nb_1, and_true, true_and, if_true, if_false, not_true_eq_false, not_false_eq_true, nI_1, ev_fG_0, ev_fG_1, ev_fG_2, ev_fG_3, ev_fG_4, ev_fG_5, ev_fG_6, ev_fG_7, ev_fG_8, ev_fS_0, ev_fS_1, ev_fS_2, ev_fS_3, ev_fS_4, ev_fS_5, ev_fS_6, ev_fS_7, ev_fS_8, ev_isO_0, ev_isO_1, ev_isO_2, ev_isO_3, ev_isO_4, ev_isO_5, ev_isO_6, ev_isO_7, ev_isO_8, ev_z0, ev_z1, ev_z2, eq_self, ev_ask_0, ev_ask_1, ev_ask_2, ev_ask_3, ev_ask_4, ev_ask_5, ev_ask_l0, ev_ask_l1, ev_ask_l2, ev_ask_l3, ev_ask_l4, ev_ask_l5, ev_ask_u0, ev_ask_u1, ev_ask_u2, ev_ask_u3, ev_ask_u4, ev_ask_u5, nI_clamp, hp, hp2, h60, e, ev_sub1]
        exact hI
  have h0 := key c (Nat.le_refl c) k
  simp (disch := omega) only [t_X0_noteNext_0, t_X0_noteNext_1, t_X0_noteNext_4, t_X0_noteNext_5, t_X0_noteNext_6, t_X0_noteNext_8, t_X0_noteNext_11, t_X0_noteNext_12, t_X0_noteNext_15, t_X0_noteNext_16, t_X0_noteNext_17, t_X0_noteNext_18, t_X0_noteNext_21, t_X0_noteNext_22, t_X0_noteNext_25, t_X0_noteNext_26, t_X0_noteNext_27, t_X0_noteNext_30, t_X0_noteNext_31, t_X0_noteNext_32, t_X0_noteNext_35, t_X0_noteNext_38, ↓reduceIte, ev_k_i, ev_k_r, ev_k_l, ev_k_J, ev_k_n, ev_kr_1, ev_kr_0, ev_isK_y, ev_aG_y, ev_aS_y, ev_aN_y, ev_inA_0, ev_isA_0, ev_ft_I, ev_ft_0, ev_ft_1, ev_ft_o, ev_ft_a, ev_nb_0, ev_nb_1, and_true, true_and, if_true, if_false, not_true_eq_false, not_false_eq_true, nI_1, ev_fG_0, ev_fG_1, ev_fG_2, ev_fG_3, ev_fG_4, ev_fG_5, ev_fG_6, ev_fG_7, ev_fG_8, ev_fS_0, ev_fS_1, ev_fS_2, ev_fS_3, ev_fS_4, ev_fS_5, ev_fS_6, ev_fS_7, ev_fS_8, ev_isO_0, ev_isO_1, ev_isO_2, ev_isO_3, ev_isO_4, ev_isO_5, ev_isO_6, ev_isO_7, ev_isO_8, ev_z0, ev_z1, ev_z2, eq_self, ev_ask_0, ev_ask_1, ev_ask_2, ev_ask_3, ev_ask_4, ev_ask_5, ev_ask_l0, ev_ask_l1, ev_ask_l2, ev_ask_l3, ev_ask_l4, ev_ask_l5, ev_ask_u0, ev_ask_u1, ev_ask_u2, ev_ask_u3, ev_ask_u4, ev_ask_u5]
  exact h0
theorem nI_60 : (60 : Int32) = nI 60 := rfl
theorem A_add (hc : c < 60) {x y : Int32} (k : P (.inl none) (ev_ask h a (ev_fu ka c x) (ev_fu de c y) (ev_fu (nt ka ne x (nI c) c) c (nI 60)) hk hn (c + 1)) n q) : ev_ok (ev_TT X) 89 0 [.ref a, .int x, .int y] [] (ev_ask h a ka de ne hk hn c) n q P := by
  have hp := nI_pos' (n := c) (by omega)
  simp (disch := omega) only [t_X0_add_0, t_X0_add_1, t_X0_add_4, t_X0_add_6, t_X0_add_9, t_X0_add_10, t_X0_add_11, t_X0_add_12, t_X0_add_15, t_X0_add_16, t_X0_add_19, t_X0_add_20, t_X0_add_23, t_X0_add_24, t_X0_add_25, t_X0_add_26, t_X0_add_29, t_X0_add_30, t_X0_add_33, t_X0_add_34, t_X0_add_35, t_X0_add_36, t_X0_add_39, t_X0_add_40, t_X0_add_43, t_X0_add_45, t_X0_add_46, t_X0_add_47, t_X0_add_47_i, t_X0_add_48, t_X0_add_51, t_X0_add_52, t_X0_add_53, t_X0_add_56, ↓reduceIte, ev_k_i, ev_k_r, ev_k_l, ev_k_J, ev_k_n, ev_kr_1, ev_kr_0, ev_isK_y, ev_aG_y, ev_aS_y, ev_aN_y, ev_inA_0, ev_isA_0, ev_ft_I, ev_ft_0, ev_ft_1, ev_ft_o, ev_ft_a, ev_nb_0, ev_nb_1, and_true, true_and, if_true, if_false, not_true_eq_false, not_false_eq_true, nI_1, ev_fG_0, ev_fG_1, ev_fG_2, ev_fG_3, ev_fG_4, ev_fG_5, ev_fG_6, ev_fG_7, ev_fG_8, ev_fS_0, ev_fS_1, ev_fS_2, ev_fS_3, ev_fS_4, ev_fS_5, ev_fS_6, ev_fS_7, ev_fS_8, ev_isO_0, ev_isO_1, ev_isO_2, ev_isO_3, ev_isO_4, ev_isO_5, ev_isO_6, ev_isO_7, ev_isO_8, ev_z0, ev_z1, ev_z2, eq_self, ev_ask_0, ev_ask_1, ev_ask_2, ev_ask_3, ev_ask_4, ev_ask_5, ev_ask_l0, ev_ask_l1, ev_ask_l2, ev_ask_l3, ev_ask_l4, ev_ask_l5, ev_ask_u0, ev_ask_u1, ev_ask_u2, ev_ask_u3, ev_ask_u4, ev_ask_u5, nI_60, nI_ltI, hc]
  refine A_note (by omega) ?_
  simp (disch := omega) only [t_X0_add_0, t_X0_add_1, t_X0_add_4, t_X0_add_6, t_X0_add_9, t_X0_add_10, t_X0_add_11, t_X0_add_12, t_X0_add_15, t_X0_add_16, t_X0_add_19, t_X0_add_20, t_X0_add_23, t_X0_add_24, t_X0_add_25, t_X0_add_26, t_X0_add_29, t_X0_add_30, t_X0_add_33, t_X0_add_34, t_X0_add_35, t_X0_add_36, t_X0_add_39, t_X0_add_40, t_X0_add_43, t_X0_add_45, t_X0_add_46, t_X0_add_47, t_X0_add_47_i, t_X0_add_48, t_X0_add_51, t_X0_add_52, t_X0_add_53, t_X0_add_56, ↓reduceIte, ev_k_i, ev_k_r, ev_k_l, ev_k_J, ev_k_n, ev_kr_1, ev_kr_0, ev_isK_y, ev_aG_y, ev_aS_y, ev_aN_y, ev_inA_0, ev_isA_0, ev_ft_I, ev_ft_0, ev_ft_1, ev_ft_o, ev_ft_a, ev_nb_0, ev_nb_1, and_true, true_and, if_true, if_false, not_true_eq_false, not_false_eq_true, nI_1, ev_fG_0, ev_fG_1, ev_fG_2, ev_fG_3, ev_fG_4, ev_fG_5, ev_fG_6, ev_fG_7, ev_fG_8, ev_fS_0, ev_fS_1, ev_fS_2, ev_fS_3, ev_fS_4, ev_fS_5, ev_fS_6, ev_fS_7, ev_fS_8, ev_isO_0, ev_isO_1, ev_isO_2, ev_isO_3, ev_isO_4, ev_isO_5, ev_isO_6, ev_isO_7, ev_isO_8, ev_z0, ev_z1, ev_z2, eq_self, ev_ask_0, ev_ask_1, ev_ask_2, ev_ask_3, ev_ask_4, ev_ask_5, ev_ask_l0, ev_ask_l1, ev_ask_l2, ev_ask_l3, ev_ask_l4, ev_ask_l5, ev_ask_u0, ev_ask_u1, ev_ask_u2, ev_ask_u3, ev_ask_u4, ev_ask_u5, nI_clamp, hp, hc]
  first | exact k | (rw [nI_60]; exact k)
theorem A_held {e : Nat} (he : e ≤ 6) {x : Int32} (k0 : (∀ j, j < e → ¬ hk j = x) → P (.inl (some (.int (-1)))) (ev_ask h a ka de ne hk hn c) n q) (k1 : ∀ j, j < e → hk j = x → P (.inl (some (.int (nI j)))) (ev_ask h a ka de ne hk hn c) n q) : ev_ok (ev_TT X) 30 0 [.ref a, .int x, .int (nI e), ev_J] [] (ev_ask h a ka de ne hk hn c) n q P := by
  have key : ∀ d i, i + d = e → (∀ j, j < i → ¬ hk j = x) → ev_ok (ev_TT X) 30 2 [.ref a, .int x, .int (nI e), .int (nI i)] [] (ev_ask h a ka de ne hk hn c) n q P := by
    intro d
    induction d with
    | zero =>
      intro i hi hno
      have hi2 : e ≤ i := by omega
      simp (disch := omega) only [t_X0_heldPlace_0, t_X0_heldPlace_1, t_X0_heldPlace_2, t_X0_heldPlace_3, t_X0_heldPlace_4, t_X0_heldPlace_7, t_X0_heldPlace_8, t_X0_heldPlace_11, t_X0_heldPlace_12, t_X0_heldPlace_13, t_X0_heldPlace_14, t_X0_heldPlace_17, t_X0_heldPlace_18, t_X0_heldPlace_19, t_X0_heldPlace_22, t_X0_heldPlace_25, t_X0_heldPlace_26, ↓reduceIte, ev_k_i, ev_k_r, ev_k_l, ev_k_J, ev_k_n, ev_kr_1, ev_kr_0, ev_isK_y, ev_aG_y, ev_aS_y, ev_aN_y, ev_inA_0, ev_isA_0, ev_ft_I, ev_ft_0, ev_ft_1, ev_ft_o, ev_ft_a, ev_nb_0, ev_nb_1, and_true, true_and, if_true, if_false, not_true_eq_false, not_false_eq_true, nI_1, ev_fG_0, ev_fG_1, ev_fG_2, ev_fG_3, ev_fG_4, ev_fG_5, ev_fG_6, ev_fG_7, ev_fG_8, ev_fS_0, ev_fS_1, ev_fS_2, ev_fS_3, ev_fS_4, ev_fS_5, ev_fS_6, ev_fS_7, ev_fS_8, ev_isO_0, ev_isO_1, ev_isO_2, ev_isO_3, ev_isO_4, ev_isO_5, ev_isO_6, ev_isO_7, ev_isO_8, ev_z0, ev_z1, ev_z2, eq_self, ev_ask_0, ev_ask_1, ev_ask_2, ev_ask_3, ev_ask_4, ev_ask_5, ev_ask_l0, ev_ask_l1, ev_ask_l2, ev_ask_l3, ev_ask_l4, ev_ask_l5, ev_ask_u0, ev_ask_u1, ev_ask_u2, ev_ask_u3, ev_ask_u4, ev_ask_u5, nI_leI, hi2]
      exact k0 (fun j hj => hno j (by omega))
    | succ d ih =>
      intro i hi hno
      have hi2 : ¬ e ≤ i := by omega
      have hp := nI_pos' (n := i) (by omega)
      have h6 : i < 6 := by omega
      by_cases hx : hk i = x
      · simp (disch := omega) only [t_X0_heldPlace_0, t_X0_heldPlace_1, t_X0_heldPlace_2, t_X0_heldPlace_3, t_X0_heldPlace_4, t_X0_heldPlace_7, t_X0_heldPlace_8, t_X0_heldPlace_11, t_X0_heldPlace_12, t_X0_heldPlace_13, t_X0_heldPlace_14, t_X0_heldPlace_17, t_X0_heldPlace_18, t_X0_heldPlace_19, t_X0_heldPlace_22, t_X0_heldPlace_25, t_X0_heldPlace_26, ↓reduceIte, ev_k_i, ev_k_r, ev_k_l, ev_k_J, ev_k_n, ev_kr_1, ev_kr_0, ev_isK_y, ev_aG_y, ev_aS_y, ev_aN_y, ev_inA_0, ev_isA_0, ev_ft_I, ev_ft_0, ev_ft_1, ev_ft_o, ev_ft_a, ev_nb_0, ev_nb_1, and_true, true_and, if_true, if_false, not_true_eq_false, not_false_eq_true, nI_1, ev_fG_0, ev_fG_1, ev_fG_2, ev_fG_3, ev_fG_4, ev_fG_5, ev_fG_6, ev_fG_7, ev_fG_8, ev_fS_0, ev_fS_1, ev_fS_2, ev_fS_3, ev_fS_4, ev_fS_5, ev_fS_6, ev_fS_7, ev_fS_8, ev_isO_0, ev_isO_1, ev_isO_2, ev_isO_3, ev_isO_4, ev_isO_5, ev_isO_6, ev_isO_7, ev_isO_8, ev_z0, ev_z1, ev_z2, eq_self, ev_ask_0, ev_ask_1, ev_ask_2, ev_ask_3, ev_ask_4, ev_ask_5, ev_ask_l0, ev_ask_l1, ev_ask_l2, ev_ask_l3, ev_ask_l4, ev_ask_l5, ev_ask_u0, ev_ask_u1, ev_ask_u2, ev_ask_u3, ev_ask_u4, ev_ask_u5, nI_leI, hi2, nI_clamp, hp, h6, hx]
        exact k1 i (by omega) hx
      · simp (disch := omega) only [t_X0_heldPlace_2, t_X0_heldPlace_3]
        simp (disch := omega) only [t_X0_heldPlace_0, t_X0_heldPlace_1, t_X0_heldPlace_3, t_X0_heldPlace_4, t_X0_heldPlace_7, t_X0_heldPlace_8, t_X0_heldPlace_11, t_X0_heldPlace_12, t_X0_heldPlace_13, t_X0_heldPlace_14, t_X0_heldPlace_17, t_X0_heldPlace_18, t_X0_heldPlace_19, t_X0_heldPlace_22, t_X0_heldPlace_25, t_X0_heldPlace_26, ↓reduceIte, ev_k_i, ev_k_r, ev_k_l, ev_k_J, ev_k_n, ev_kr_1, ev_kr_0, ev_isK_y, ev_aG_y, ev_aS_y, ev_aN_y, ev_inA_0, ev_isA_0, ev_ft_I, ev_ft_0, ev_ft_1, ev_ft_o, ev_ft_a, ev_nb_0, ev_nb_1, and_true, true_and, if_true, if_false, not_true_eq_false, not_false_eq_true, nI_1, ev_fG_0, ev_fG_1, ev_fG_2, ev_fG_3, ev_fG_4, ev_fG_5, ev_fG_6, ev_fG_7, ev_fG_8, ev_fS_0, ev_fS_1, ev_fS_2, ev_fS_3, ev_fS_4, ev_fS_5, ev_fS_6, ev_fS_7, ev_fS_8, ev_isO_0, ev_isO_1, ev_isO_2, ev_isO_3, ev_isO_4, ev_isO_5, ev_isO_6, ev_isO_7, ev_isO_8, ev_z0, ev_z1, ev_z2, eq_self, ev_ask_0, ev_ask_1, ev_ask_2, ev_ask_3, ev_ask_4, ev_ask_5, ev_ask_l0, ev_ask_l1, ev_ask_l2, ev_ask_l3, ev_ask_l4, ev_ask_l5, ev_ask_u0, ev_ask_u1, ev_ask_u2, ev_ask_u3, ev_ask_u4, ev_ask_u5, nI_leI, hi2, nI_clamp, hp, h6, hx]
        exact ih (i + 1) (by omega) (fun j hj => by
          by_cases hj2 : j = i
          · rw [hj2]; exact hx
          · exact hno j (by omega))
  have h0 := key e 0 (by omega) (fun j hj => absurd hj (Nat.not_lt_zero j))
  rw [nI_0] at h0
  simp (disch := omega) only [t_X0_heldPlace_0, t_X0_heldPlace_1, t_X0_heldPlace_3, t_X0_heldPlace_4, t_X0_heldPlace_7, t_X0_heldPlace_8, t_X0_heldPlace_11, t_X0_heldPlace_12, t_X0_heldPlace_13, t_X0_heldPlace_14, t_X0_heldPlace_17, t_X0_heldPlace_18, t_X0_heldPlace_19, t_X0_heldPlace_22, t_X0_heldPlace_25, t_X0_heldPlace_26, ↓reduceIte, ev_k_i, ev_k_r, ev_k_l, ev_k_J, ev_k_n, ev_kr_1, ev_kr_0, ev_isK_y, ev_aG_y, ev_aS_y, ev_aN_y, ev_inA_0, ev_isA_0, ev_ft_I, ev_ft_0, ev_ft_1, ev_ft_o, ev_ft_a, ev_nb_0, ev_nb_1, and_true, true_and, if_true, if_false, not_true_eq_false, not_false_eq_true, nI_1, ev_fG_0, ev_fG_1, ev_fG_2, ev_fG_3, ev_fG_4, ev_fG_5, ev_fG_6, ev_fG_7, ev_fG_8, ev_fS_0, ev_fS_1, ev_fS_2, ev_fS_3, ev_fS_4, ev_fS_5, ev_fS_6, ev_fS_7, ev_fS_8, ev_isO_0, ev_isO_1, ev_isO_2, ev_isO_3, ev_isO_4, ev_isO_5, ev_isO_6, ev_isO_7, ev_isO_8, ev_z0, ev_z1, ev_z2, eq_self, ev_ask_0, ev_ask_1, ev_ask_2, ev_ask_3, ev_ask_4, ev_ask_5, ev_ask_l0, ev_ask_l1, ev_ask_l2, ev_ask_l3, ev_ask_l4, ev_ask_l5, ev_ask_u0, ev_ask_u1, ev_ask_u2, ev_ask_u3, ev_ask_u4, ev_ask_u5]
  exact h0
theorem A_far {e : Nat} (he : e ≤ 6) (he1 : 1 ≤ e) (k : ∀ j, j < e → (∀ z, z < e → hn z ≤ hn j) → P (.inl (some (.int (nI j)))) (ev_ask h a ka de ne hk hn c) n q) : ev_ok (ev_TT X) 29 0 [.ref a, .int (nI e), ev_J, ev_J] [] (ev_ask h a ka de ne hk hn c) n q P := by
  have key : ∀ d i f, i + d = e → f < i → (∀ z, z < i → hn z ≤ hn f) → ev_ok (ev_TT X) 29 4 [.ref a, .int (nI e), .int (nI f), .int (nI i)] [] (ev_ask h a ka de ne hk hn c) n q P := by
    intro d
    induction d with
    | zero =>
      intro i f hi hf hm
      have hi2 : e ≤ i := by omega
      simp (disch := omega) only [t_X0_farthestPlace_0, t_X0_farthestPlace_1, t_X0_farthestPlace_2, t_X0_farthestPlace_3, t_X0_farthestPlace_4, t_X0_farthestPlace_5, t_X0_farthestPlace_6, t_X0_farthestPlace_9, t_X0_farthestPlace_10, t_X0_farthestPlace_13, t_X0_farthestPlace_14, t_X0_farthestPlace_15, t_X0_farthestPlace_16, t_X0_farthestPlace_19, t_X0_farthestPlace_20, t_X0_farthestPlace_21, t_X0_farthestPlace_24, t_X0_farthestPlace_25, t_X0_farthestPlace_26, t_X0_farthestPlace_29, t_X0_farthestPlace_32, t_X0_farthestPlace_33, ↓reduceIte, ev_k_i, ev_k_r, ev_k_l, ev_k_J, ev_k_n, ev_kr_1, ev_kr_0, ev_isK_y, ev_aG_y, ev_aS_y, ev_aN_y, ev_inA_0, ev_isA_0, ev_ft_I, ev_ft_0, ev_ft_1, ev_ft_o, ev_ft_a, ev_nb_0, ev_nb_1, and_true, true_and, if_true, if_false, not_true_eq_false, not_false_eq_true, nI_1, ev_fG_0, ev_fG_1, ev_fG_2, ev_fG_3, ev_fG_4, ev_fG_5, ev_fG_6, ev_fG_7, ev_fG_8, ev_fS_0, ev_fS_1, ev_fS_2, ev_fS_3, ev_fS_4, ev_fS_5, ev_fS_6, ev_fS_7, ev_fS_8, ev_isO_0, ev_isO_1, ev_isO_2, ev_isO_3, ev_isO_4, ev_isO_5, ev_isO_6, ev_isO_7, ev_isO_8, ev_z0, ev_z1, ev_z2, eq_self, ev_ask_0, ev_ask_1, ev_ask_2, ev_ask_3, ev_ask_4, ev_ask_5, ev_ask_l0, ev_ask_l1, ev_ask_l2, ev_ask_l3, ev_ask_l4, ev_ask_l5, ev_ask_u0, ev_ask_u1, ev_ask_u2, ev_ask_u3, ev_ask_u4, ev_ask_u5, nI_leI, hi2]
      exact k f (by omega) (fun z hz => hm z (by omega))
    | succ d ih =>
      intro i f hi hf hm
      have hi2 : ¬ e ≤ i := by omega
      have hp := nI_pos' (n := i) (by omega)
      have hpf := nI_pos' (n := f) (by omega)
      have h6 : i < 6 := by omega
      have hf6 : f < 6 := by omega
      simp (disch := omega) only [t_X0_farthestPlace_4, t_X0_farthestPlace_5, t_X0_farthestPlace_6, nI_leI, hi2, if_false]
      simp (disch := omega) only [t_X0_farthestPlace_0, t_X0_farthestPlace_1, t_X0_farthestPlace_2, t_X0_farthestPlace_3, t_X0_farthestPlace_5, t_X0_farthestPlace_6, t_X0_farthestPlace_9, t_X0_farthestPlace_10, t_X0_farthestPlace_13, t_X0_farthestPlace_14, t_X0_farthestPlace_15, t_X0_farthestPlace_16, t_X0_farthestPlace_19, t_X0_farthestPlace_20, t_X0_farthestPlace_21, t_X0_farthestPlace_24, t_X0_farthestPlace_25, t_X0_farthestPlace_26, t_X0_farthestPlace_29, t_X0_farthestPlace_32, t_X0_farthestPlace_33, ↓reduceIte, ev_k_i, ev_k_r, ev_k_l, ev_k_J, ev_k_n, ev_kr_1, ev_kr_0, ev_isK_y, ev_aG_y, ev_aS_y, ev_aN_y, ev_inA_0, ev_isA_0, ev_ft_I, ev_ft_0, ev_ft_1, ev_ft_o, ev_ft_a, ev_nb_0, ev_nb_1, and_true, true_and, if_true, if_false, not_true_eq_false, not_false_eq_true, nI_1, ev_fG_0, ev_fG_1, ev_fG_2, ev_fG_3, ev_fG_4, ev_fG_5, ev_fG_6, ev_fG_7, ev_fG_8, ev_fS_0, ev_fS_1, ev_fS_2, ev_fS_3, ev_fS_4, ev_fS_5, ev_fS_6, ev_fS_7, ev_fS_8, ev_isO_0, ev_isO_1, ev_isO_2, ev_isO_3, ev_isO_4, ev_isO_5, ev_isO_6, ev_isO_7, ev_isO_8, ev_z0, ev_z1, ev_z2, eq_self, ev_ask_0, ev_ask_1, ev_ask_2, ev_ask_3, ev_ask_4, ev_ask_5, ev_ask_l0, ev_ask_l1, ev_ask_l2, ev_ask_l3, ev_ask_l4, ev_ask_l5, ev_ask_u0, ev_ask_u1, ev_ask_u2, ev_ask_u3, ev_ask_u4, ev_ask_u5, nI_leI, hi2, nI_clamp, hp, hpf, h6, hf6]
      split
      · rename_i hle
        exact ih (i + 1) f (by omega) (by omega) (fun z hz => by
          by_cases hz2 : z = i
          · rw [hz2]; exact hle
          · exact hm z (by omega))
      · rename_i hle
        exact ih (i + 1) i (by omega) (by omega) (fun z hz => by
          by_cases hz2 : z = i
          · rw [hz2]; exact Int32.le_refl _
          · exact Int32.le_trans (hm z (by omega)) (Int32.le_of_lt (Int32.not_le.mp hle)))
  have h0 := key (e - 1) 1 0 (by omega) (by omega) (fun z hz => by rw [show z = 0 from by omega]; exact Int32.le_refl _)
  rw [nI_0, show nI 1 = 1 from rfl] at h0
  simp (disch := omega) only [t_X0_farthestPlace_0, t_X0_farthestPlace_1, t_X0_farthestPlace_2, t_X0_farthestPlace_3, t_X0_farthestPlace_5, t_X0_farthestPlace_6, t_X0_farthestPlace_9, t_X0_farthestPlace_10, t_X0_farthestPlace_13, t_X0_farthestPlace_14, t_X0_farthestPlace_15, t_X0_farthestPlace_16, t_X0_farthestPlace_19, t_X0_farthestPlace_20, t_X0_farthestPlace_21, t_X0_farthestPlace_24, t_X0_farthestPlace_25, t_X0_farthestPlace_26, t_X0_farthestPlace_29, t_X0_farthestPlace_32, t_X0_farthestPlace_33, ↓reduceIte, ev_k_i, ev_k_r, ev_k_l, ev_k_J, ev_k_n, ev_kr_1, ev_kr_0, ev_isK_y, ev_aG_y, ev_aS_y, ev_aN_y, ev_inA_0, ev_isA_0, ev_ft_I, ev_ft_0, ev_ft_1, ev_ft_o, ev_ft_a, ev_nb_0, ev_nb_1, and_true, true_and, if_true, if_false, not_true_eq_false, not_false_eq_true, nI_1, ev_fG_0, ev_fG_1, ev_fG_2, ev_fG_3, ev_fG_4, ev_fG_5, ev_fG_6, ev_fG_7, ev_fG_8, ev_fS_0, ev_fS_1, ev_fS_2, ev_fS_3, ev_fS_4, ev_fS_5, ev_fS_6, ev_fS_7, ev_fS_8, ev_isO_0, ev_isO_1, ev_isO_2, ev_isO_3, ev_isO_4, ev_isO_5, ev_isO_6, ev_isO_7, ev_isO_8, ev_z0, ev_z1, ev_z2, eq_self, ev_ask_0, ev_ask_1, ev_ask_2, ev_ask_3, ev_ask_4, ev_ask_5, ev_ask_l0, ev_ask_l1, ev_ask_l2, ev_ask_l3, ev_ask_l4, ev_ask_l5, ev_ask_u0, ev_ask_u1, ev_ask_u2, ev_ask_u3, ev_ask_u4, ev_ask_u5]
  exact h0
end AK
