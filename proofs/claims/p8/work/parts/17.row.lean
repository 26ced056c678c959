/-! ===== a row of pairs: its cells and its methods ===== -/
def ev_fu (f : Nat → Int32) (j : Nat) (v : Int32) : Nat → Int32 := fun i => if i = j then v else f i
def ev_row (h : ev_M) (r : Nat) (kf vf : Nat → Int32) (c : Nat) (b m lm ll : Int32) : ev_M := fun a => if a = r then some (.inr (7, [.ref (r + 1), .ref (r + 2), .int (nI c), .int b, .int m, .int lm, .int ll])) else if a = r + 1 then some (.inl (0, 20, fun i => .int (kf i))) else if a = r + 2 then some (.inl (0, 20, fun i => .int (vf i))) else h a
/-- one left out -/
def ev_dr (f : Nat → Int32) (j c : Nat) : Nat → Int32 := fun i => if j ≤ i ∧ i < c then f (i + 1) else f i
section RW
variable {X : ev_E} {h : ev_M} {r : Nat} {kf vf : Nat → Int32} {c : Nat} {b m lm ll : Int32} {n q : Nat} {P : ev_O → ev_M → Nat → Nat → Prop}
theorem ev_row_0 : ev_row h r kf vf c b m lm ll r = some (.inr (7, [.ref (r + 1), .ref (r + 2), .int (nI c), .int b, .int m, .int lm, .int ll])) := if_pos rfl
theorem ev_row_1 : ev_row h r kf vf c b m lm ll (r + 1) = some (.inl (0, 20, fun i => .int (kf i))) := (if_neg (by omega)).trans (if_pos rfl)
theorem ev_row_2 : ev_row h r kf vf c b m lm ll (r + 2) = some (.inl (0, 20, fun i => .int (vf i))) := (if_neg (by omega)).trans ((if_neg (by omega)).trans (if_pos rfl))
theorem ev_row_o {a : Nat} (e0 : ¬ a = r) (e1 : ¬ a = r + 1) (e2 : ¬ a = r + 2) : ev_row h r kf vf c b m lm ll a = h a := (if_neg e0).trans ((if_neg e1).trans (if_neg e2))
theorem ev_row_l0 : ev_lk X (ev_row h r kf vf c b m lm ll) r = some (.inr (7, [.ref (r + 1), .ref (r + 2), .int (nI c), .int b, .int m, .int lm, .int ll])) := ev_lk_s ev_row_0
theorem ev_row_l1 : ev_lk X (ev_row h r kf vf c b m lm ll) (r + 1) = some (.inl (0, 20, fun i => .int (kf i))) := ev_lk_s ev_row_1
theorem ev_row_l2 : ev_lk X (ev_row h r kf vf c b m lm ll) (r + 2) = some (.inl (0, 20, fun i => .int (vf i))) := ev_lk_s ev_row_2
theorem ev_row_u0 {c' : Nat} {b' m' lm' ll' : Int32} : ev_up (ev_row h r kf vf c b m lm ll) r (.inr (7, [.ref (r + 1), .ref (r + 2), .int (nI c'), .int b', .int m', .int lm', .int ll'])) = ev_row h r kf vf c' b' m' lm' ll' := by
  funext a
  unfold ev_up ev_row
  split <;> rfl
theorem ev_row_u0z {b' m' lm' ll' : Int32} : ev_up (ev_row h r kf vf c b m lm ll) r (.inr (7, [.ref (r + 1), .ref (r + 2), .int 0, .int b', .int m', .int lm', .int ll'])) = ev_row h r kf vf 0 b' m' lm' ll' := ev_row_u0 (c' := 0)
theorem ev_row_u1 {j : Nat} {v : Int32} : ev_up (ev_row h r kf vf c b m lm ll) (r + 1) (.inl (0, 20, updV (fun i => .int (kf i)) j (.int v))) = ev_row h r (ev_fu kf j v) vf c b m lm ll := by
  rw [ev_updI]
  funext a
  unfold ev_up ev_row ev_fu
  by_cases h1 : a = r + 1
  · rw [if_pos h1, if_neg (by omega), if_pos h1]
  · simp only [if_neg h1]
theorem ev_row_u2 {j : Nat} {v : Int32} : ev_up (ev_row h r kf vf c b m lm ll) (r + 2) (.inl (0, 20, updV (fun i => .int (vf i)) j (.int v))) = ev_row h r kf (ev_fu vf j v) c b m lm ll := by
  rw [ev_updI]
  funext a
  unfold ev_up ev_row ev_fu
  by_cases h1 : a = r + 2
  · rw [if_pos h1, if_neg (by omega), if_neg (by omega), if_pos h1]
  · simp only [if_neg h1]
theorem ev_row_row {kf' vf' : Nat → Int32} {c' : Nat} {b' m' lm' ll' : Int32} : ev_row (ev_row h r kf vf c b m lm ll) r kf' vf' c' b' m' lm' ll' = ev_row h r kf' vf' c' b' m' lm' ll' := by
  funext a
  unfold ev_row
  split
  · rfl
  · split
    · rfl
    · split <;> rfl
theorem ev_row_t (e0 : h r = some (.inr (7, [.ref (r + 1), .ref (r + 2), .int (nI c), .int b, .int m, .int lm, .int ll]))) (e1 : h (r + 1) = some (.inl (0, 20, fun i => .int (kf i)))) (e2 : h (r + 2) = some (.inl (0, 20, fun i => .int (vf i)))) : ev_row h r kf vf c b m lm ll = h := by
  funext a
  unfold ev_row
  split
  · rename_i e; rw [e, e0]
  · split
    · rename_i e; rw [e, e1]
    · split
      · rename_i e; rw [e, e2]
      · rfl
theorem ev_row_as (e : ev_row h r kf vf c b m lm ll = h) : h = ev_row h r kf vf c b m lm ll := e.symm
theorem r_isPlace_y {j : Nat} (hc : c ≤ 20) (hj : j < c) : ev_ok (ev_TT X) 39 0 [.ref r, .int (nI j)] [] (ev_row h r kf vf c b m lm ll) n q P ↔ P (.inl (some (.int 1))) (ev_row h r kf vf c b m lm ll) n q := by
  simp (disch := omega) only [t_X2_isPlace_0, t_X2_isPlace_1, t_X2_isPlace_4, t_X2_isPlace_5, t_X2_isPlace_6, t_X2_isPlace_9, t_X2_isPlace_12, t_X2_isPlace_13, t_X2_isPlace_16, t_X2_isPlace_17, ↓reduceIte, ev_k_i, ev_k_r, ev_k_l, ev_k_J, ev_k_n, ev_kr_1, ev_kr_0, ev_isK_y, ev_aG_y, ev_aS_y, ev_aN_y, ev_inA_0, ev_isA_0, ev_ft_I, ev_ft_0, ev_ft_1, ev_ft_o, ev_ft_a, ev_nb_0, ev_nb_1, and_true, true_and, if_true, if_false, not_true_eq_false, not_false_eq_true, nI_1, ev_fG_0, ev_fG_1, ev_fG_2, ev_fG_3, ev_fG_4, ev_fG_5, ev_fG_6, ev_fG_7, ev_fG_8, ev_fS_0, ev_fS_1, ev_fS_2, ev_fS_3, ev_fS_4, ev_fS_5, ev_fS_6, ev_fS_7, ev_fS_8, ev_isO_0, ev_isO_1, ev_isO_2, ev_isO_3, ev_isO_4, ev_isO_5, ev_isO_6, ev_isO_7, ev_isO_8, ev_row_0, ev_row_1, ev_row_2, ev_row_l0, ev_row_l1, ev_row_l2, ev_row_u0, ev_row_u1, ev_row_u2, nI_pos, nI_leI, Nat.not_le.mpr hj]
theorem r_isPlace_n {p : Int32} (hp : ¬ (0 ≤ p ∧ p < nI c)) : ev_ok (ev_TT X) 39 0 [.ref r, .int p] [] (ev_row h r kf vf c b m lm ll) n q P ↔ P (.inl (some (.int 0))) (ev_row h r kf vf c b m lm ll) n q := by
  simp (disch := omega) only [t_X2_isPlace_0, t_X2_isPlace_1, t_X2_isPlace_4, t_X2_isPlace_5, t_X2_isPlace_6, t_X2_isPlace_9, t_X2_isPlace_12, t_X2_isPlace_13, t_X2_isPlace_16, t_X2_isPlace_17, ↓reduceIte, ev_k_i, ev_k_r, ev_k_l, ev_k_J, ev_k_n, ev_kr_1, ev_kr_0, ev_isK_y, ev_aG_y, ev_aS_y, ev_aN_y, ev_inA_0, ev_isA_0, ev_ft_I, ev_ft_0, ev_ft_1, ev_ft_o, ev_ft_a, ev_nb_0, ev_nb_1, and_true, true_and, if_true, if_false, not_true_eq_false, not_false_eq_true, nI_1, ev_fG_0, ev_fG_1, ev_fG_2, ev_fG_3, ev_fG_4, ev_fG_5, ev_fG_6, ev_fG_7, ev_fG_8, ev_fS_0, ev_fS_1, ev_fS_2, ev_fS_3, ev_fS_4, ev_fS_5, ev_fS_6, ev_fS_7, ev_fS_8, ev_isO_0, ev_isO_1, ev_isO_2, ev_isO_3, ev_isO_4, ev_isO_5, ev_isO_6, ev_isO_7, ev_isO_8, ev_row_0, ev_row_1, ev_row_2, ev_row_l0, ev_row_l1, ev_row_l2, ev_row_u0, ev_row_u1, ev_row_u2]
  by_cases h0 : p < 0
  · simp only [if_pos h0]
  · have h1 : nI c ≤ p := Int32.not_lt.mp fun h2 => hp ⟨Int32.not_lt.mp h0, h2⟩
    simp only [if_neg h0, if_pos h1]
theorem r_abm_y (h1 : ¬ m = -1) (h2 : m < nI c) : ev_ok (ev_TT X) 38 0 [.ref r] [] (ev_row h r kf vf c b m lm ll) n q P ↔ P (.inl (some (.int 1))) (ev_row h r kf vf c b m lm ll) n q := by
  have h3 : ¬ nI c ≤ m := Int32.not_le.mpr h2
  simp (disch := omega) only [t_X2_isAboveMost_0, t_X2_isAboveMost_1, t_X2_isAboveMost_4, t_X2_isAboveMost_5, t_X2_isAboveMost_8, t_X2_isAboveMost_9, t_X2_isAboveMost_12, t_X2_isAboveMost_13, t_X2_isAboveMost_16, t_X2_isAboveMost_19, t_X2_isAboveMost_20, t_X2_isAboveMost_23, t_X2_isAboveMost_24, ↓reduceIte, ev_k_i, ev_k_r, ev_k_l, ev_k_J, ev_k_n, ev_kr_1, ev_kr_0, ev_isK_y, ev_aG_y, ev_aS_y, ev_aN_y, ev_inA_0, ev_isA_0, ev_ft_I, ev_ft_0, ev_ft_1, ev_ft_o, ev_ft_a, ev_nb_0, ev_nb_1, and_true, true_and, if_true, if_false, not_true_eq_false, not_false_eq_true, nI_1, ev_fG_0, ev_fG_1, ev_fG_2, ev_fG_3, ev_fG_4, ev_fG_5, ev_fG_6, ev_fG_7, ev_fG_8, ev_fS_0, ev_fS_1, ev_fS_2, ev_fS_3, ev_fS_4, ev_fS_5, ev_fS_6, ev_fS_7, ev_fS_8, ev_isO_0, ev_isO_1, ev_isO_2, ev_isO_3, ev_isO_4, ev_isO_5, ev_isO_6, ev_isO_7, ev_isO_8, ev_row_0, ev_row_1, ev_row_2, ev_row_l0, ev_row_l1, ev_row_l2, ev_row_u0, ev_row_u1, ev_row_u2, h1, h3]
theorem r_abm_n (h1 : m = -1 ∨ nI c ≤ m) : ev_ok (ev_TT X) 38 0 [.ref r] [] (ev_row h r kf vf c b m lm ll) n q P ↔ P (.inl (some (.int 0))) (ev_row h r kf vf c b m lm ll) n q := by
  simp (disch := omega) only [t_X2_isAboveMost_0, t_X2_isAboveMost_1, t_X2_isAboveMost_4, t_X2_isAboveMost_5, t_X2_isAboveMost_8, t_X2_isAboveMost_9, t_X2_isAboveMost_12, t_X2_isAboveMost_13, t_X2_isAboveMost_16, t_X2_isAboveMost_19, t_X2_isAboveMost_20, t_X2_isAboveMost_23, t_X2_isAboveMost_24, ↓reduceIte, ev_k_i, ev_k_r, ev_k_l, ev_k_J, ev_k_n, ev_kr_1, ev_kr_0, ev_isK_y, ev_aG_y, ev_aS_y, ev_aN_y, ev_inA_0, ev_isA_0, ev_ft_I, ev_ft_0, ev_ft_1, ev_ft_o, ev_ft_a, ev_nb_0, ev_nb_1, and_true, true_and, if_true, if_false, not_true_eq_false, not_false_eq_true, nI_1, ev_fG_0, ev_fG_1, ev_fG_2, ev_fG_3, ev_fG_4, ev_fG_5, ev_fG_6, ev_fG_7, ev_fG_8, ev_fS_0, ev_fS_1, ev_fS_2, ev_fS_3, ev_fS_4, ev_fS_5, ev_fS_6, ev_fS_7, ev_fS_8, ev_isO_0, ev_isO_1, ev_isO_2, ev_isO_3, ev_isO_4, ev_isO_5, ev_isO_6, ev_isO_7, ev_isO_8, ev_row_0, ev_row_1, ev_row_2, ev_row_l0, ev_row_l1, ev_row_l2, ev_row_u0, ev_row_u1, ev_row_u2]
  by_cases h0 : m = -1
  · simp only [if_pos h0]
  · simp only [if_neg h0, if_pos (h1.resolve_left h0)]
theorem r_dropAll  : ev_ok (ev_TT X) 35 0 [.ref r, ev_J] [] (ev_row h r kf vf c b m lm ll) n q P ↔ P (.inl (some (.int (nI c)))) (ev_row h r kf vf 0 b m lm ll) n q := by
  simp (disch := omega) only [t_X2_dropAll_0, t_X2_dropAll_1, t_X2_dropAll_4, t_X2_dropAll_5, t_X2_dropAll_6, t_X2_dropAll_7, t_X2_dropAll_10, t_X2_dropAll_11, ↓reduceIte, ev_k_i, ev_k_r, ev_k_l, ev_k_J, ev_k_n, ev_kr_1, ev_kr_0, ev_isK_y, ev_aG_y, ev_aS_y, ev_aN_y, ev_inA_0, ev_isA_0, ev_ft_I, ev_ft_0, ev_ft_1, ev_ft_o, ev_ft_a, ev_nb_0, ev_nb_1, and_true, true_and, if_true, if_false, not_true_eq_false, not_false_eq_true, nI_1, ev_fG_0, ev_fG_1, ev_fG_2, ev_fG_3, ev_fG_4, ev_fG_5, ev_fG_6, ev_fG_7, ev_fG_8, ev_fS_0, ev_fS_1, ev_fS_2, ev_fS_3, ev_fS_4, ev_fS_5, ev_fS_6, ev_fS_7, ev_fS_8, ev_isO_0, ev_isO_1, ev_isO_2, ev_isO_3, ev_isO_4, ev_isO_5, ev_isO_6, ev_isO_7, ev_isO_8, ev_row_0, ev_row_1, ev_row_2, ev_row_l0, ev_row_l1, ev_row_l2, ev_row_u0, ev_row_u1, ev_row_u2, ev_row_u0z]
theorem r_renew {b1 m1 : Int32} (hb : ev_isB b1) : ev_ok (ev_TT X) 95 0 [.ref r, .int b1, .int m1] [] (ev_row h r kf vf c b m lm ll) n q P ↔ P (.inl (some (.int (nI c)))) (ev_row h r kf vf 0 b1 m1 0 (-1)) n q := by
  have hb2 := eq_true (ev_ft_B hb)
  simp (disch := omega) only [t_X2_renew_0, t_X2_renew_1, t_X2_renew_2, t_X2_renew_5, t_X2_renew_6, t_X2_renew_7, t_X2_renew_10, t_X2_renew_11, t_X2_renew_12, t_X2_renew_15, t_X2_renew_16, t_X2_renew_17, t_X2_renew_20, t_X2_renew_21, t_X2_renew_24, ↓reduceIte, ev_k_i, ev_k_r, ev_k_l, ev_k_J, ev_k_n, ev_kr_1, ev_kr_0, ev_isK_y, ev_aG_y, ev_aS_y, ev_aN_y, ev_inA_0, ev_isA_0, ev_ft_I, ev_ft_0, ev_ft_1, ev_ft_o, ev_ft_a, ev_nb_0, ev_nb_1, and_true, true_and, if_true, if_false, not_true_eq_false, not_false_eq_true, nI_1, ev_fG_0, ev_fG_1, ev_fG_2, ev_fG_3, ev_fG_4, ev_fG_5, ev_fG_6, ev_fG_7, ev_fG_8, ev_fS_0, ev_fS_1, ev_fS_2, ev_fS_3, ev_fS_4, ev_fS_5, ev_fS_6, ev_fS_7, ev_fS_8, ev_isO_0, ev_isO_1, ev_isO_2, ev_isO_3, ev_isO_4, ev_isO_5, ev_isO_6, ev_isO_7, ev_isO_8, ev_row_0, ev_row_1, ev_row_2, ev_row_l0, ev_row_l1, ev_row_l2, ev_row_u0, ev_row_u1, ev_row_u2, hb2, r_dropAll]
theorem r_find_n {k : Int32} (hc : c ≤ 20) (hk : ∀ i, i < c → ¬ kf i = k) : ev_ok (ev_TT X) 36 0 [.ref r, .int k, ev_J] [] (ev_row h r kf vf c b m lm ll) n q P ↔ P (.inl (some (.int (-1)))) (ev_row h r kf vf c b m lm ll) n q := by
  have key : ∀ d j, j + d = c → (ev_ok (ev_TT X) 36 2 [.ref r, .int k, .int (nI j)] [] (ev_row h r kf vf c b m lm ll) n q P ↔ P (.inl (some (.int (-1)))) (ev_row h r kf vf c b m lm ll) n q) := by
    intro d
    induction d with
    | zero =>
      intro j hj
      have hj2 : c ≤ j := by omega
      simp (disch := omega) only [t_X2_find_0, t_X2_find_1, t_X2_find_2, t_X2_find_3, t_X2_find_4, t_X2_find_7, t_X2_find_10, t_X2_find_11, t_X2_find_14, t_X2_find_15, t_X2_find_16, t_X2_find_17, t_X2_find_20, t_X2_find_21, t_X2_find_22, t_X2_find_25, t_X2_find_28, t_X2_find_29, ↓reduceIte, ev_k_i, ev_k_r, ev_k_l, ev_k_J, ev_k_n, ev_kr_1, ev_kr_0, ev_isK_y, ev_aG_y, ev_aS_y, ev_aN_y, ev_inA_0, ev_isA_0, ev_ft_I, ev_ft_0, ev_ft_1, ev_ft_o, ev_ft_a, ev_nb_0, ev_nb_1, and_true, true_and, if_true, if_false, not_true_eq_false, not_false_eq_true, nI_1, ev_fG_0, ev_fG_1, ev_fG_2, ev_fG_3, ev_fG_4, ev_fG_5, ev_fG_6, ev_fG_7, ev_fG_8, ev_fS_0, ev_fS_1, ev_fS_2, ev_fS_3, ev_fS_4, ev_fS_5, ev_fS_6, ev_fS_7, ev_fS_8, ev_isO_0, ev_isO_1, ev_isO_2, ev_isO_3, ev_isO_4, ev_isO_5, ev_isO_6, ev_isO_7, ev_isO_8, ev_row_0, ev_row_1, ev_row_2, ev_row_l0, ev_row_l1, ev_row_l2, ev_row_u0, ev_row_u1, ev_row_u2, nI_leI, hj2]
    | succ d ih =>
      intro j hj
      have hj2 : ¬ c ≤ j := by omega
      have hj3 := hk j (by omega)
      have hi := ih (j + 1) (by omega)
      have hp := nI_pos' (n := j) (by omega)
      rw [t_X2_find_2]
      simp (disch := omega) only [t_X2_find_0, t_X2_find_1, t_X2_find_3, t_X2_find_4, t_X2_find_7, t_X2_find_10, t_X2_find_11, t_X2_find_14, t_X2_find_15, t_X2_find_16, t_X2_find_17, t_X2_find_20, t_X2_find_21, t_X2_find_22, t_X2_find_25, t_X2_find_28, t_X2_find_29, ↓reduceIte, ev_k_i, ev_k_r, ev_k_l, ev_k_J, ev_k_n, ev_kr_1, ev_kr_0, ev_isK_y, ev_aG_y, ev_aS_y, ev_aN_y, ev_inA_0, ev_isA_0, ev_ft_I, ev_ft_0, ev_ft_1, ev_ft_o, ev_ft_a, ev_nb_0, ev_nb_1, and_true, true_and, if_true, if_false, not_true_eq_false, not_false_eq_true, nI_1, ev_fG_0, ev_fG_1, ev_fG_2, ev_fG_3, ev_fG_4, ev_fG_5, ev_fG_6, ev_fG_7, ev_fG_8, ev_fS_0, ev_fS_1, ev_fS_2, ev_fS_3, ev_fS_4, ev_fS_5, ev_fS_6, ev_fS_7, ev_fS_8, ev_isO_0, ev_isO_1, ev_isO_2, ev_isO_3, ev_isO_4, ev_isO_5, ev_isO_6, ev_isO_7, ev_isO_8, ev_row_0, ev_row_1, ev_row_2, ev_row_l0, ev_row_l1, ev_row_l2, ev_row_u0, ev_row_u1, ev_row_u2, nI_leI, hj2, nI_clamp, hj3, hi, hp, show j < 20 from by omega]
  have h0 := key c 0 (by omega)
  rw [nI_0] at h0
  simp (disch := omega) only [t_X2_find_0, t_X2_find_1, t_X2_find_3, t_X2_find_4, t_X2_find_7, t_X2_find_10, t_X2_find_11, t_X2_find_14, t_X2_find_15, t_X2_find_16, t_X2_find_17, t_X2_find_20, t_X2_find_21, t_X2_find_22, t_X2_find_25, t_X2_find_28, t_X2_find_29, ↓reduceIte, ev_k_i, ev_k_r, ev_k_l, ev_k_J, ev_k_n, ev_kr_1, ev_kr_0, ev_isK_y, ev_aG_y, ev_aS_y, ev_aN_y, ev_inA_0, ev_isA_0, ev_ft_I, ev_ft_0, ev_ft_1, ev_ft_o, ev_ft_a, ev_nb_0, ev_nb_1, and_true, true_and, if_true, if_false, not_true_eq_false, not_false_eq_true, nI_1, ev_fG_0, ev_fG_1, ev_fG_2, ev_fG_3, ev_fG_4, ev_fG_5, ev_fG_6, ev_fG_7, ev_fG_8, ev_fS_0, ev_fS_1, ev_fS_2, ev_fS_3, ev_fS_4, ev_fS_5, ev_fS_6, ev_fS_7, ev_fS_8, ev_isO_0, ev_isO_1, ev_isO_2, ev_isO_3, ev_isO_4, ev_isO_5, ev_isO_6, ev_isO_7, ev_isO_8, ev_row_0, ev_row_1, ev_row_2, ev_row_l0, ev_row_l1, ev_row_l2, ev_row_u0, ev_row_u1, ev_row_u2, h0]
theorem r_find_y {k : Int32} {p : Nat} (hc : c ≤ 20) (hp : p < c) (he : kf p = k) (hk : ∀ i, i < p → ¬ kf i = k) : ev_ok (ev_TT X) 36 0 [.ref r, .int k, ev_J] [] (ev_row h r kf vf c b m lm ll) n q P ↔ P (.inl (some (.int (nI p)))) (ev_row h r kf vf c b m lm ll) n q := by
  have key : ∀ d j, j + d = p → (ev_ok (ev_TT X) 36 2 [.ref r, .int k, .int (nI j)] [] (ev_row h r kf vf c b m lm ll) n q P ↔ P (.inl (some (.int (nI p)))) (ev_row h r kf vf c b m lm ll) n q) := by
    intro d
    induction d with
    | zero =>
      intro j hj
      have hj2 : ¬ c ≤ j := by omega
      have hj4 : j = p := by omega
      subst hj4
      have hp := nI_pos' (n := j) (by omega)
      simp (disch := omega) only [t_X2_find_0, t_X2_find_1, t_X2_find_2, t_X2_find_3, t_X2_find_4, t_X2_find_7, t_X2_find_10, t_X2_find_11, t_X2_find_14, t_X2_find_15, t_X2_find_16, t_X2_find_17, t_X2_find_20, t_X2_find_21, t_X2_find_22, t_X2_find_25, t_X2_find_28, t_X2_find_29, ↓reduceIte, ev_k_i, ev_k_r, ev_k_l, ev_k_J, ev_k_n, ev_kr_1, ev_kr_0, ev_isK_y, ev_aG_y, ev_aS_y, ev_aN_y, ev_inA_0, ev_isA_0, ev_ft_I, ev_ft_0, ev_ft_1, ev_ft_o, ev_ft_a, ev_nb_0, ev_nb_1, and_true, true_and, if_true, if_false, not_true_eq_false, not_false_eq_true, nI_1, ev_fG_0, ev_fG_1, ev_fG_2, ev_fG_3, ev_fG_4, ev_fG_5, ev_fG_6, ev_fG_7, ev_fG_8, ev_fS_0, ev_fS_1, ev_fS_2, ev_fS_3, ev_fS_4, ev_fS_5, ev_fS_6, ev_fS_7, ev_fS_8, ev_isO_0, ev_isO_1, ev_isO_2, ev_isO_3, ev_isO_4, ev_isO_5, ev_isO_6, ev_isO_7, ev_isO_8, ev_row_0, ev_row_1, ev_row_2, ev_row_l0, ev_row_l1, ev_row_l2, ev_row_u0, ev_row_u1, ev_row_u2, nI_leI, hj2, nI_clamp, he, hp, show j < 20 from by omega]
    | succ d ih =>
      intro j hj
      have hj2 : ¬ c ≤ j := by omega
      have hj3 := hk j (by omega)
      have hi := ih (j + 1) (by omega)
      have hp := nI_pos' (n := j) (by omega)
      rw [t_X2_find_2]
      simp (disch := omega) only [t_X2_find_0, t_X2_find_1, t_X2_find_3, t_X2_find_4, t_X2_find_7, t_X2_find_10, t_X2_find_11, t_X2_find_14, t_X2_find_15, t_X2_find_16, t_X2_find_17, t_X2_find_20, t_X2_find_21, t_X2_find_22, t_X2_find_25, t_X2_find_28, t_X2_find_29, ↓reduceIte, ev_k_i, ev_k_r, ev_k_l, ev_k_J, ev_k_n, ev_kr_1, ev_kr_0, ev_isK_y, ev_aG_y, ev_aS_y, ev_aN_y, ev_inA_0, ev_isA_0, ev_ft_I, ev_ft_0, ev_ft_1, ev_ft_o, ev_ft_a, ev_nb_0, ev_nb_1, and_true, true_and, if_true, if_false, not_true_eq_false, not_false_eq_true, nI_1, ev_fG_0, ev_fG_1, ev_fG_2, ev_fG_3, ev_fG_4, ev_fG_5, ev_fG_6, ev_fG_7, ev_fG_8, ev_fS_0, ev_fS_1, ev_fS_2, ev_fS_3, ev_fS_4, ev_fS_5, ev_fS_6, ev_fS_7, ev_fS_8, ev_isO_0, ev_isO_1, ev_isO_2, ev_isO_3, ev_isO_4, ev_isO_5, ev_isO_6, ev_isO_7, ev_isO_8, ev_row_0, ev_row_1, ev_row_2, ev_row_l0, ev_row_l1, ev_row_l2, ev_row_u0, ev_row_u1, ev_row_u2, nI_leI, hj2, nI_clamp, hj3, hi, hp, show j < 20 from by omega]
  have h0 := key p 0 (by omega)
  rw [nI_0] at h0
  simp (disch := omega) only [t_X2_find_0, t_X2_find_1, t_X2_find_3, t_X2_find_4, t_X2_find_7, t_X2_find_10, t_X2_find_11, t_X2_find_14, t_X2_find_15, t_X2_find_16, t_X2_find_17, t_X2_find_20, t_X2_find_21, t_X2_find_22, t_X2_find_25, t_X2_find_28, t_X2_find_29, ↓reduceIte, ev_k_i, ev_k_r, ev_k_l, ev_k_J, ev_k_n, ev_kr_1, ev_kr_0, ev_isK_y, ev_aG_y, ev_aS_y, ev_aN_y, ev_inA_0, ev_isA_0, ev_ft_I, ev_ft_0, ev_ft_1, ev_ft_o, ev_ft_a, ev_nb_0, ev_nb_1, and_true, true_and, if_true, if_false, not_true_eq_false, not_false_eq_true, nI_1, ev_fG_0, ev_fG_1, ev_fG_2, ev_fG_3, ev_fG_4, ev_fG_5, ev_fG_6, ev_fG_7, ev_fG_8, ev_fS_0, ev_fS_1, ev_fS_2, ev_fS_3, ev_fS_4, ev_fS_5, ev_fS_6, ev_fS_7, ev_fS_8, ev_isO_0, ev_isO_1, ev_isO_2, ev_isO_3, ev_isO_4, ev_isO_5, ev_isO_6, ev_isO_7, ev_isO_8, ev_row_0, ev_row_1, ev_row_2, ev_row_l0, ev_row_l1, ev_row_l2, ev_row_u0, ev_row_u1, ev_row_u2, h0]
theorem ev_fd (kf : Nat → Int32) (k : Int32) : ∀ c : Nat, (∀ i, i < c → ¬ kf i = k) ∨ ∃ p, p < c ∧ kf p = k ∧ ∀ i, i < p → ¬ kf i = k := by
  intro c
  induction c with
  | zero => exact Or.inl fun i hi => absurd hi (Nat.not_lt_zero i)
  | succ c ih =>
    rcases ih with h | ⟨p, h1, h2, h3⟩
    · by_cases e : kf c = k
      · exact Or.inr ⟨c, Nat.lt_succ_self c, e, h⟩
      · refine Or.inl fun i hi => ?_
        by_cases hic : i = c
        · rw [hic]; exact e
        · exact h i (by omega)
    · exact Or.inr ⟨p, by omega, h2, h3⟩
theorem r_chg {j : Nat} {v : Int32} (hc : c ≤ 20) (hj : j < c) : ev_ok (ev_TT X) 92 0 [.ref r, .int (nI j), .int v, ev_J] [] (ev_row h r kf vf c b m lm ll) n q P ↔ P (.inl (some (.int (vf j)))) (ev_row h r kf (ev_fu vf j v) c b m lm ll) n q := by
  have hp := nI_pos' (n := j) (by omega)
  have h20 : j < 20 := by omega
  simp (disch := omega) only [t_X2_changeValue_0, t_X2_changeValue_1, t_X2_changeValue_2, t_X2_changeValue_5, t_X2_changeValue_8, t_X2_changeValue_9, t_X2_changeValue_10, t_X2_changeValue_11, t_X2_changeValue_14, t_X2_changeValue_15, t_X2_changeValue_16, t_X2_changeValue_17, t_X2_changeValue_18, t_X2_changeValue_21, t_X2_changeValue_22, t_X2_changeValue_23, t_X2_changeValue_24, t_X2_changeValue_25, ↓reduceIte, ev_k_i, ev_k_r, ev_k_l, ev_k_J, ev_k_n, ev_kr_1, ev_kr_0, ev_isK_y, ev_aG_y, ev_aS_y, ev_aN_y, ev_inA_0, ev_isA_0, ev_ft_I, ev_ft_0, ev_ft_1, ev_ft_o, ev_ft_a, ev_nb_0, ev_nb_1, and_true, true_and, if_true, if_false, not_true_eq_false, not_false_eq_true, nI_1, ev_fG_0, ev_fG_1, ev_fG_2, ev_fG_3, ev_fG_4, ev_fG_5, ev_fG_6, ev_fG_7, ev_fG_8, ev_fS_0, ev_fS_1, ev_fS_2, ev_fS_3, ev_fS_4, ev_fS_5, ev_fS_6, ev_fS_7, ev_fS_8, ev_isO_0, ev_isO_1, ev_isO_2, ev_isO_3, ev_isO_4, ev_isO_5, ev_isO_6, ev_isO_7, ev_isO_8, ev_row_0, ev_row_1, ev_row_2, ev_row_l0, ev_row_l1, ev_row_l2, ev_row_u0, ev_row_u1, ev_row_u2, r_isPlace_y hc hj, nI_clamp, hp, h20, show ¬ (1 : Int32) = 0 from by decide]
theorem r_app {k v : Int32} (hc : c < 20) : ev_ok (ev_TT X) 34 0 [.ref r, .int k, .int v] [] (ev_row h r kf vf c b m lm ll) n q P ↔ P (.inl none) (ev_row h r (ev_fu kf c k) (ev_fu vf c v) (c + 1) b m lm ll) n q := by
  have h20 : ¬ 20 ≤ c := by omega
  have hp := nI_pos' (n := c) (by omega)
  simp (disch := omega) only [t_X2_append_0, t_X2_append_1, t_X2_append_4, t_X2_append_6, t_X2_append_9, t_X2_append_10, t_X2_append_13, t_X2_append_14, t_X2_append_17, t_X2_append_18, t_X2_append_19, t_X2_append_20, t_X2_append_23, t_X2_append_24, t_X2_append_27, t_X2_append_28, t_X2_append_29, t_X2_append_30, t_X2_append_30_i, t_X2_append_31, t_X2_append_34, t_X2_append_35, t_X2_append_36, t_X2_append_39, ↓reduceIte, ev_k_i, ev_k_r, ev_k_l, ev_k_J, ev_k_n, ev_kr_1, ev_kr_0, ev_isK_y, ev_aG_y, ev_aS_y, ev_aN_y, ev_inA_0, ev_isA_0, ev_ft_I, ev_ft_0, ev_ft_1, ev_ft_o, ev_ft_a, ev_nb_0, ev_nb_1, and_true, true_and, if_true, if_false, not_true_eq_false, not_false_eq_true, nI_1, ev_fG_0, ev_fG_1, ev_fG_2, ev_fG_3, ev_fG_4, ev_fG_5, ev_fG_6, ev_fG_7, ev_fG_8, ev_fS_0, ev_fS_1, ev_fS_2, ev_fS_3, ev_fS_4, ev_fS_5, ev_fS_6, ev_fS_7, ev_fS_8, ev_isO_0, ev_isO_1, ev_isO_2, ev_isO_3, ev_isO_4, ev_isO_5, ev_isO_6, ev_isO_7, ev_isO_8, ev_row_0, ev_row_1, ev_row_2, ev_row_l0, ev_row_l1, ev_row_l2, ev_row_u0, ev_row_u1, ev_row_u2, nI_20, nI_leI, nI_clamp, hp, hc, h20]
theorem r_app_n {k v : Int32} (hc : c = 20) : ev_ok (ev_TT X) 34 0 [.ref r, .int k, .int v] [] (ev_row h r kf vf c b m lm ll) n q P ↔ P (.inl none) (ev_row h r kf vf c b m lm ll) n q := by
  subst hc
  simp (disch := omega) only [t_X2_append_0, t_X2_append_1, t_X2_append_4, t_X2_append_6, t_X2_append_9, t_X2_append_10, t_X2_append_13, t_X2_append_14, t_X2_append_17, t_X2_append_18, t_X2_append_19, t_X2_append_20, t_X2_append_23, t_X2_append_24, t_X2_append_27, t_X2_append_28, t_X2_append_29, t_X2_append_30, t_X2_append_30_i, t_X2_append_31, t_X2_append_34, t_X2_append_35, t_X2_append_36, t_X2_append_39, ↓reduceIte, ev_k_i, ev_k_r, ev_k_l, ev_k_J, ev_k_n, ev_kr_1, ev_kr_0, ev_isK_y, ev_aG_y, ev_aS_y, ev_aN_y, ev_inA_0, ev_isA_0, ev_ft_I, ev_ft_0, ev_ft_1, ev_ft_o, ev_ft_a, ev_nb_0, ev_nb_1, and_true, true_and, if_true, if_false, not_true_eq_false, not_false_eq_true, nI_1, ev_fG_0, ev_fG_1, ev_fG_2, ev_fG_3, ev_fG_4, ev_fG_5, ev_fG_6, ev_fG_7, ev_fG_8, ev_fS_0, ev_fS_1, ev_fS_2, ev_fS_3, ev_fS_4, ev_fS_5, ev_fS_6, ev_fS_7, ev_fS_8, ev_isO_0, ev_isO_1, ev_isO_2, ev_isO_3, ev_isO_4, ev_isO_5, ev_isO_6, ev_isO_7, ev_isO_8, ev_row_0, ev_row_1, ev_row_2, ev_row_l0, ev_row_l1, ev_row_l2, ev_row_u0, ev_row_u1, ev_row_u2, nI_20, show nI 20 ≤ nI 20 from by decide]
theorem ev_dr_0 {f : Nat → Int32} {j : Nat} : ev_dr f j j = f := by
  funext i
  unfold ev_dr
  rw [if_neg (by omega)]
theorem ev_dr_s {f : Nat → Int32} {j i : Nat} (h : j ≤ i) : ev_fu (ev_dr f j i) i (ev_dr f j i (i + 1)) = ev_dr f j (i + 1) := by
  funext x
  unfold ev_fu ev_dr
  by_cases e : x = i
  · subst e
    rw [if_pos rfl, if_neg (by omega), if_pos (by omega)]
  · rw [if_neg e]
    by_cases e2 : j ≤ x ∧ x < i
    · rw [if_pos e2, if_pos (by omega)]
    · rw [if_neg e2, if_neg (by omega)]
theorem r_dropAt {j : Nat} (hc : c < 20) (hj : j ≤ c) : ev_ok (ev_TT X) 93 0 [.ref r, .int (nI j), ev_J] [] (ev_row h r kf vf (c + 1) b m lm ll) n q P ↔ P (.inl none) (ev_row h r (ev_dr kf j c) (ev_dr vf j c) c b m lm ll) n q := by
  have key : ∀ d i, i + d = c → j ≤ i → (ev_ok (ev_TT X) 93 11 [.ref r, .int (nI j), .int (nI i)] [] (ev_row h r (ev_dr kf j i) (ev_dr vf j i) (c + 1) b m lm ll) n q P ↔ P (.inl none) (ev_row h r (ev_dr kf j c) (ev_dr vf j c) c b m lm ll) n q) := by
    intro d
    induction d with
    | zero =>
      intro i hi hji
      have hi2 : c + 1 ≤ i + 1 := by omega
      have hi3 : i = c := by omega
      subst hi3
      simp (disch := omega) only [t_X2_dropAt_0, t_X2_dropAt_1, t_X2_dropAt_2, t_X2_dropAt_5, t_X2_dropAt_8, t_X2_dropAt_9, t_X2_dropAt_10, t_X2_dropAt_11, t_X2_dropAt_12, t_X2_dropAt_13, t_X2_dropAt_14, t_X2_dropAt_15, t_X2_dropAt_18, t_X2_dropAt_21, t_X2_dropAt_22, t_X2_dropAt_25, t_X2_dropAt_26, t_X2_dropAt_27, t_X2_dropAt_30, t_X2_dropAt_31, t_X2_dropAt_32, t_X2_dropAt_33, t_X2_dropAt_34, t_X2_dropAt_35, t_X2_dropAt_36, t_X2_dropAt_39, t_X2_dropAt_40, t_X2_dropAt_41, t_X2_dropAt_44, t_X2_dropAt_45, t_X2_dropAt_46, t_X2_dropAt_47, t_X2_dropAt_48, t_X2_dropAt_49, t_X2_dropAt_52, t_X2_dropAt_55, t_X2_dropAt_56, t_X2_dropAt_56_i, t_X2_dropAt_57, t_X2_dropAt_60, t_X2_dropAt_61, t_X2_dropAt_62, t_X2_dropAt_65, ↓reduceIte, ev_k_i, ev_k_r, ev_k_l, ev_k_J, ev_k_n, ev_kr_1, ev_kr_0, ev_isK_y, ev_aG_y, ev_aS_y, ev_aN_y, ev_inA_0, ev_isA_0, ev_ft_I, ev_ft_0, ev_ft_1, ev_ft_o, ev_ft_a, ev_nb_0, ev_nb_1, and_true, true_and, if_true, if_false, not_true_eq_false, not_false_eq_true, nI_1, ev_fG_0, ev_fG_1, ev_fG_2, ev_fG_3, ev_fG_4, ev_fG_5, ev_fG_6, ev_fG_7, ev_fG_8, ev_fS_0, ev_fS_1, ev_fS_2, ev_fS_3, ev_fS_4, ev_fS_5, ev_fS_6, ev_fS_7, ev_fS_8, ev_isO_0, ev_isO_1, ev_isO_2, ev_isO_3, ev_isO_4, ev_isO_5, ev_isO_6, ev_isO_7, ev_isO_8, ev_row_0, ev_row_1, ev_row_2, ev_row_l0, ev_row_l1, ev_row_l2, ev_row_u0, ev_row_u1, ev_row_u2, nI_leI, hi2, nI_pred, Nat.le_refl]
    | succ d ih =>
      intro i hi hji
      have hi2 : ¬ c + 1 ≤ i + 1 := by omega
      have hp := nI_pos' (n := i) (by omega)
      have hp2 := nI_pos' (n := i + 1) (by omega)
      have hI := ih (i + 1) (by omega) (by omega)
      rw [t_X2_dropAt_11]
      simp (disch := omega) only [t_X2_dropAt_0, t_X2_dropAt_1, t_X2_dropAt_2, t_X2_dropAt_5, t_X2_dropAt_8, t_X2_dropAt_9, t_X2_dropAt_10, t_X2_dropAt_12, t_X2_dropAt_13, t_X2_dropAt_14, t_X2_dropAt_15, t_X2_dropAt_18, t_X2_dropAt_21, t_X2_dropAt_22, t_X2_dropAt_25, t_X2_dropAt_26, t_X2_dropAt_27, t_X2_dropAt_30, t_X2_dropAt_31, t_X2_dropAt_32, t_X2_dropAt_33, t_X2_dropAt_34, t_X2_dropAt_35, t_X2_dropAt_36, t_X2_dropAt_39, t_X2_dropAt_40, t_X2_dropAt_41, t_X2_dropAt_44, t_X2_dropAt_45, t_X2_dropAt_46, t_X2_dropAt_47, t_X2_dropAt_48, t_X2_dropAt_49, t_X2_dropAt_52, t_X2_dropAt_55, t_X2_dropAt_56, t_X2_dropAt_56_i, t_X2_dropAt_57, t_X2_dropAt_60, t_X2_dropAt_61, t_X2_dropAt_62, t_X2_dropAt_65, ↓reduceIte, ev_k_i, ev_k_r, ev_k_l, ev_k_J, ev_k_n, ev_kr_1, ev_kr_0, ev_isK_y, ev_aG_y, ev_aS_y, ev_aN_y, ev_inA_0, ev_isA_0, ev_ft_I, ev_ft_0, ev_ft_1, ev_ft_o, ev_ft_a, ev_nb_0, ev_nb_1, and_true, true_and, if_true, if_false, not_true_eq_false, not_false_eq_true, nI_1, ev_fG_0, ev_fG_1, ev_fG_2, ev_fG_3, ev_fG_4, ev_fG_5, ev_fG_6, ev_fG_7, ev_fG_8, ev_fS_0, ev_fS_1, ev_fS_2, ev_fS_3, ev_fS_4, ev_fS_5, ev_fS_6, ev_fS_7, ev_fS_8, ev_isO_0, ev_isO_1, ev_isO_2, ev_isO_3, ev_isO_4, ev_isO_5, ev_isO_6, ev_isO_7, ev_isO_8, ev_row_0, ev_row_1, ev_row_2, ev_row_l0, ev_row_l1, ev_row_l2, ev_row_u0, ev_row_u1, ev_row_u2, nI_leI, hi2, nI_clamp, hp, hp2, show i < 20 from by omega, show i + 1 < 20 from by omega, ev_dr_s hji, hI]
  have h0 := key (c - j) j (by omega) (Nat.le_refl j)
  rw [ev_dr_0, ev_dr_0] at h0
  simp (disch := omega) only [t_X2_dropAt_0, t_X2_dropAt_1, t_X2_dropAt_2, t_X2_dropAt_5, t_X2_dropAt_8, t_X2_dropAt_9, t_X2_dropAt_10, t_X2_dropAt_12, t_X2_dropAt_13, t_X2_dropAt_14, t_X2_dropAt_15, t_X2_dropAt_18, t_X2_dropAt_21, t_X2_dropAt_22, t_X2_dropAt_25, t_X2_dropAt_26, t_X2_dropAt_27, t_X2_dropAt_30, t_X2_dropAt_31, t_X2_dropAt_32, t_X2_dropAt_33, t_X2_dropAt_34, t_X2_dropAt_35, t_X2_dropAt_36, t_X2_dropAt_39, t_X2_dropAt_40, t_X2_dropAt_41, t_X2_dropAt_44, t_X2_dropAt_45, t_X2_dropAt_46, t_X2_dropAt_47, t_X2_dropAt_48, t_X2_dropAt_49, t_X2_dropAt_52, t_X2_dropAt_55, t_X2_dropAt_56, t_X2_dropAt_56_i, t_X2_dropAt_57, t_X2_dropAt_60, t_X2_dropAt_61, t_X2_dropAt_62, t_X2_dropAt_65, ↓reduceIte, ev_k_i, ev_k_r, ev_k_l, ev_k_J, ev_k_n, ev_kr_1, ev_kr_0, ev_isK_y, ev_aG_y, ev_aS_y, ev_aN_y, ev_inA_0, ev_isA_0, ev_ft_I, ev_ft_0, ev_ft_1, ev_ft_o, ev_ft_a, ev_nb_0, ev_nb_1, and_true, true_and, if_true, if_false, not_true_eq_false, not_false_eq_true, nI_1, ev_fG_0, ev_fG_1, ev_fG_2, ev_fG_3, ev_fG_4, ev_fG_5, ev_fG_6, ev_fG_7, ev_fG_8, ev_fS_0, ev_fS_1, ev_fS_2, ev_fS_3, ev_fS_4, ev_fS_5, ev_fS_6, ev_fS_7, ev_fS_8, ev_isO_0, ev_isO_1, ev_isO_2, ev_isO_3, ev_isO_4, ev_isO_5, ev_isO_6, ev_isO_7, ev_isO_8, ev_row_0, ev_row_1, ev_row_2, ev_row_l0, ev_row_l1, ev_row_l2, ev_row_u0, ev_row_u1, ev_row_u2, r_isPlace_y (show c + 1 ≤ 20 from by omega) (show j < c + 1 from by omega), show ¬ (1 : Int32) = 0 from by decide, h0]
theorem r_dropAt_n {p : Int32} (hp : ¬ (0 ≤ p ∧ p < nI c)) : ev_ok (ev_TT X) 93 0 [.ref r, .int p, ev_J] [] (ev_row h r kf vf c b m lm ll) n q P ↔ P (.inl none) (ev_row h r kf vf c b m lm ll) n q := by
  simp (disch := omega) only [t_X2_dropAt_0, t_X2_dropAt_1, t_X2_dropAt_2, t_X2_dropAt_5, t_X2_dropAt_8, t_X2_dropAt_9, t_X2_dropAt_10, t_X2_dropAt_12, t_X2_dropAt_13, t_X2_dropAt_14, t_X2_dropAt_15, t_X2_dropAt_18, t_X2_dropAt_21, t_X2_dropAt_22, t_X2_dropAt_25, t_X2_dropAt_26, t_X2_dropAt_27, t_X2_dropAt_30, t_X2_dropAt_31, t_X2_dropAt_32, t_X2_dropAt_33, t_X2_dropAt_34, t_X2_dropAt_35, t_X2_dropAt_36, t_X2_dropAt_39, t_X2_dropAt_40, t_X2_dropAt_41, t_X2_dropAt_44, t_X2_dropAt_45, t_X2_dropAt_46, t_X2_dropAt_47, t_X2_dropAt_48, t_X2_dropAt_49, t_X2_dropAt_52, t_X2_dropAt_55, t_X2_dropAt_56, t_X2_dropAt_56_i, t_X2_dropAt_57, t_X2_dropAt_60, t_X2_dropAt_61, t_X2_dropAt_62, t_X2_dropAt_65, ↓reduceIte, ev_k_i, ev_k_r, ev_k_l, ev_k_J, ev_k_n, ev_kr_1, ev_kr_0, ev_isK_y, ev_aG_y, ev_aS_y, ev_aN_y, ev_inA_0, ev_isA_0, ev_ft_I, ev_ft_0, ev_ft_1, ev_ft_o, ev_ft_a, ev_nb_0, ev_nb_1, and_true, true_and, if_true, if_false, not_true_eq_false, not_false_eq_true, nI_1, ev_fG_0, ev_fG_1, ev_fG_2, ev_fG_3, ev_fG_4, ev_fG_5, ev_fG_6, ev_fG_7, ev_fG_8, ev_fS_0, ev_fS_1, ev_fS_2, ev_fS_3, ev_fS_4, ev_fS_5, ev_fS_6, ev_fS_7, ev_fS_8, ev_isO_0, ev_isO_1, ev_isO_2, ev_isO_3, ev_isO_4, ev_isO_5, ev_isO_6, ev_isO_7, ev_isO_8, ev_row_0, ev_row_1, ev_row_2, ev_row_l0, ev_row_l1, ev_row_l2, ev_row_u0, ev_row_u1, ev_row_u2, r_isPlace_n hp, ne_eq]
end RW
