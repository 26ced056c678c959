/-! ===== joined: 17.row, 18.row2, 19.walk, 20.ask, 21.keep, 22.list, 23.list2, 24.itr, 24b.best, 24c.opt, 25.few, 26.cls, 27.keys, 28.calls, 29.calls2, 30.calls3, 31.calls4, 32.ask1, 33.ask2, 34.ask3, 35.keepers, 36.forget, 37.askrow, 38.askrow2, 39.askat ===== -/
section
/-! ===== a row of pairs: its cells and its methods ===== -/
def ev_fu (f : Nat → Int32) (j : Nat) (v : Int32) : Nat → Int32 := fun i => if i = j then v else f i
def ev_row (h : ev_M) (r : Nat) (kf vf : Nat → Int32) (c : Nat) (b m lm ll : Int32) : ev_M := fun a => if a = r then some (.inr (7, [.ref (r + 1), .ref (r + 2), .int (nI c), .int b, .int m, .int lm, .int ll])) else if a = r + 1 then some (.inl (0, 20, fun i => .int (kf i))) else if a = r + 2 then some (.inl (0, 20, fun i => .int (vf i))) else h a
/-- one left out -/
def ev_dr (f : Nat → Int32) (j c : Nat) : Nat → Int32 := fun i => if j ≤ i ∧ i < c then f (i + 1) else f i
section RW
variable {X : ev_E} {h : ev_M} {r : Nat} {kf vf : Nat → Int32} {c : Nat} {b m lm ll : Int32} {n q : Nat} {P : ev_O → ev_M → Nat → Nat → Prop}
theorem ev_row_0 : ev_row h r kf vf c b m lm ll r = some (.inr (7, [.ref (r + 1), .ref (r + 2), .int (nI c), .int b, .int m, .int lm, .int ll])) := if_pos rfl
theorem ev_row_1 : ev_row h r kf vf c b m lm ll (r + 1) = some (.inl (0, 20, fun i => .int (kf i))) := (if_neg (by omega)).trans (if_pos rfl)
theorem ev_row_2 : ev_row h r kf vf c b m lm ll (r + 2) = some (.inl (0, 20, fun i => .int (vf i))) := (if_neg (by omega)).trans ((if_neg (by omega)).trans (if_pos rfl))
theorem ev_row_o {a : Nat} (e0 : ¬ a = r) (e1 : ¬ a = r + 1) (e2 : ¬ a = r + 2) : ev_row h r kf vf c b m lm ll a = h a := (if_neg e0).trans ((if_neg e1).trans (if_neg e2))
theorem ev_row_l0 : ev_lk X (ev_row h r kf vf c b m lm ll) r = some (.inr (7, [.ref (r + 1), .ref (r + 2), .int (nI c), .int b, .int m, .int lm, .int ll])) := ev_lk_s ev_row_0
theorem ev_row_l1 : ev_lk X (ev_row h r kf vf c b m lm ll) (r + 1) = some (.inl (0, 20, fun i => .int (kf i))) := ev_lk_s ev_row_1
theorem ev_row_l2 : ev_lk X (ev_row h r kf vf c b m lm ll) (r + 2) = some (.inl (0, 20, fun i => .int (vf i))) := ev_lk_s ev_row_2
theorem ev_row_u0 {c' : Nat} {b' m' lm' ll' : Int32} : ev_up (ev_row h r kf vf c b m lm ll) r (.inr (7, [.ref (r + 1), .ref (r + 2), .int (nI c'), .int b', .int m', .int lm', .int ll'])) = ev_row h r kf vf c' b' m' lm' ll' := by
  funext a
  unfold ev_up ev_row
  split <;> rfl
theorem ev_row_u0z {b' m' lm' ll' : Int32} : ev_up (ev_row h r kf vf c b m lm ll) r (.inr (7, [.ref (r + 1), .ref (r + 2), .int 0, .int b', .int m', .int lm', .int ll'])) = ev_row h r kf vf 0 b' m' lm' ll' := ev_row_u0 (c' := 0)
theorem ev_row_u1 {j : Nat} {v : Int32} : ev_up (ev_row h r kf vf c b m lm ll) (r + 1) (.inl (0, 20, updV (fun i => .int (kf i)) j (.int v))) = ev_row h r (ev_fu kf j v) vf c b m lm ll := by
  rw [ev_updI]
  funext a
  unfold ev_up ev_row ev_fu
  by_cases h1 : a = r + 1
  · rw [if_pos h1, if_neg (by omega), if_pos h1]
  · simp only [if_neg h1]
theorem ev_row_u2 {j : Nat} {v : Int32} : ev_up (ev_row h r kf vf c b m lm ll) (r + 2) (.inl (0, 20, updV (fun i => .int (vf i)) j (.int v))) = ev_row h r kf (ev_fu vf j v) c b m lm ll := by
  rw [ev_updI]
  funext a
  unfold ev_up ev_row ev_fu
  by_cases h1 : a = r + 2
  · rw [if_pos h1, if_neg (by omega), if_neg (by omega), if_pos h1]
  · simp only [if_neg h1]
theorem ev_row_row {kf' vf' : Nat → Int32} {c' : Nat} {b' m' lm' ll' : Int32} : ev_row (ev_row h r kf vf c b m lm ll) r kf' vf' c' b' m' lm' ll' = ev_row h r kf' vf' c' b' m' lm' ll' := by
  funext a
  unfold ev_row
  split
  · rfl
  · split
    · rfl
    · split <;> rfl
theorem ev_row_t (e0 : h r = some (.inr (7, [.ref (r + 1), .ref (r + 2), .int (nI c), .int b, .int m, .int lm, .int ll]))) (e1 : h (r + 1) = some (.inl (0, 20, fun i => .int (kf i)))) (e2 : h (r + 2) = some (.inl (0, 20, fun i => .int (vf i)))) : ev_row h r kf vf c b m lm ll = h := by
  funext a
  unfold ev_row
  split
  · rename_i e; rw [e, e0]
  · split
    · rename_i e; rw [e, e1]
    · split
      · rename_i e; rw [e, e2]
      · rfl
theorem ev_row_as (e : ev_row h r kf vf c b m lm ll = h) : h = ev_row h r kf vf c b m lm ll := e.symm
theorem r_isPlace_y {j : Nat} (hc : c ≤ 20) (hj : j < c) : ev_ok (ev_TT X) 39 0 [.ref r, .int (nI j)] [] (ev_row h r kf vf c b m lm ll) n q P ↔ P (.inl (some (.int 1))) (ev_row h r kf vf c b m lm ll) n q := by
  simp (disch := omega) only [t_X2_isPlace_0, t_X2_isPlace_1, t_X2_isPlace_4, t_X2_isPlace_5, t_X2_isPlace_6, t_X2_isPlace_9, t_X2_isPlace_12, t_X2_isPlace_13, t_X2_isPlace_17, ↓reduceIte, ev_nb_1, true_and, ev_fG_2, ev_isO_2, ev_row_l0, nI_pos, nI_leI, Nat.not_le.mpr hj]
theorem r_isPlace_n {p : Int32} (hp : ¬ (0 ≤ p ∧ p < nI c)) : ev_ok (ev_TT X) 39 0 [.ref r, .int p] [] (ev_row h r kf vf c b m lm ll) n q P ↔ P (.inl (some (.int 0))) (ev_row h r kf vf c b m lm ll) n q := by
  simp (disch := omega) only [t_X2_isPlace_0, t_X2_isPlace_1, t_X2_isPlace_4, t_X2_isPlace_5, t_X2_isPlace_6, t_X2_isPlace_9, t_X2_isPlace_12, t_X2_isPlace_13, t_X2_isPlace_16, t_X2_isPlace_17, ev_nb_0, ev_nb_1, true_and, ev_fG_2, ev_isO_2, ev_row_l0]
  by_cases h0 : p < 0
  · simp only [if_pos h0]
  · have h1 : nI c ≤ p := Int32.not_lt.mp fun h2 => hp ⟨Int32.not_lt.mp h0, h2⟩
    simp only [if_neg h0, if_pos h1]
theorem r_abm_y (h1 : ¬ m = -1) (h2 : m < nI c) : ev_ok (ev_TT X) 38 0 [.ref r] [] (ev_row h r kf vf c b m lm ll) n q P ↔ P (.inl (some (.int 1))) (ev_row h r kf vf c b m lm ll) n q := by
  have h3 : ¬ nI c ≤ m := Int32.not_le.mpr h2
  simp (disch := omega) only [t_X2_isAboveMost_0, t_X2_isAboveMost_1, t_X2_isAboveMost_4, t_X2_isAboveMost_5, t_X2_isAboveMost_8, t_X2_isAboveMost_9, t_X2_isAboveMost_12, t_X2_isAboveMost_13, t_X2_isAboveMost_16, t_X2_isAboveMost_19, t_X2_isAboveMost_20, t_X2_isAboveMost_24, ↓reduceIte, ev_nb_1, true_and, ev_fG_2, ev_fG_4, ev_isO_2, ev_isO_4, ev_row_l0, h1, h3]
theorem r_abm_n (h1 : m = -1 ∨ nI c ≤ m) : ev_ok (ev_TT X) 38 0 [.ref r] [] (ev_row h r kf vf c b m lm ll) n q P ↔ P (.inl (some (.int 0))) (ev_row h r kf vf c b m lm ll) n q := by
  simp (disch := omega) only [t_X2_isAboveMost_0, t_X2_isAboveMost_1, t_X2_isAboveMost_4, t_X2_isAboveMost_5, t_X2_isAboveMost_8, t_X2_isAboveMost_9, t_X2_isAboveMost_12, t_X2_isAboveMost_13, t_X2_isAboveMost_16, t_X2_isAboveMost_19, t_X2_isAboveMost_20, t_X2_isAboveMost_23, t_X2_isAboveMost_24, ev_nb_0, ev_nb_1, true_and, ev_fG_2, ev_fG_4, ev_isO_2, ev_isO_4, ev_row_l0]
  by_cases h0 : m = -1
  · simp only [if_pos h0]
  · simp only [if_neg h0, if_pos (h1.resolve_left h0)]
theorem r_dropAll  : ev_ok (ev_TT X) 35 0 [.ref r, ev_J] [] (ev_row h r kf vf c b m lm ll) n q P ↔ P (.inl (some (.int (nI c)))) (ev_row h r kf vf 0 b m lm ll) n q := by
  simp (disch := omega) only [t_X2_dropAll_0, t_X2_dropAll_1, t_X2_dropAll_4, t_X2_dropAll_5, t_X2_dropAll_6, t_X2_dropAll_7, t_X2_dropAll_10, t_X2_dropAll_11, ev_k_r, ev_ft_I, and_true, true_and, ev_fG_2, ev_fS_2, ev_isO_2, ev_row_0, ev_row_l0, ev_row_u0z]
theorem r_renew {b1 m1 : Int32} (hb : ev_isB b1) : ev_ok (ev_TT X) 94 0 [.ref r, .int b1, .int m1] [] (ev_row h r kf vf c b m lm ll) n q P ↔ P (.inl (some (.int (nI c)))) (ev_row h r kf vf 0 b1 m1 0 (-1)) n q := by
  have hb2 := eq_true (ev_ft_B hb)
  simp (disch := omega) only [t_X2_renew_0, t_X2_renew_1, t_X2_renew_2, t_X2_renew_5, t_X2_renew_6, t_X2_renew_7, t_X2_renew_10, t_X2_renew_11, t_X2_renew_12, t_X2_renew_15, t_X2_renew_16, t_X2_renew_17, t_X2_renew_20, t_X2_renew_21, t_X2_renew_24, ev_kr_1, ev_isK_y, ev_ft_I, and_true, true_and, ev_fS_3, ev_fS_4, ev_fS_5, ev_fS_6, ev_isO_3, ev_isO_4, ev_isO_5, ev_isO_6, ev_row_0, ev_row_l0, ev_row_u0, hb2, r_dropAll]
theorem r_find_n {k : Int32} (hc : c ≤ 20) (hk : ∀ i, i < c → ¬ kf i = k) : ev_ok (ev_TT X) 36 0 [.ref r, .int k, ev_J] [] (ev_row h r kf vf c b m lm ll) n q P ↔ P (.inl (some (.int (-1)))) (ev_row h r kf vf c b m lm ll) n q := by
  have key : ∀ d j, j + d = c → (ev_ok (ev_TT X) 36 2 [.ref r, .int k, .int (nI j)] [] (ev_row h r kf vf c b m lm ll) n q P ↔ P (.inl (some (.int (-1)))) (ev_row h r kf vf c b m lm ll) n q) := by
    intro d
    induction d with
    | zero =>
      intro j hj
      have hj2 : c ≤ j := by omega
      simp (disch := omega) only [t_X2_find_2, t_X2_find_3, t_X2_find_4, t_X2_find_7, t_X2_find_28, t_X2_find_29, ↓reduceIte, true_and, ev_fG_2, ev_isO_2, ev_row_l0, nI_leI, hj2]
    | succ d ih =>
      intro j hj
      have hj2 : ¬ c ≤ j := by omega
      have hj3 := hk j (by omega)
      have hi := ih (j + 1) (by omega)
      have hp := nI_pos' (n := j) (by omega)
      rw [t_X2_find_2]
      simp (disch := omega) only [t_X2_find_3, t_X2_find_4, t_X2_find_7, t_X2_find_10, t_X2_find_11, t_X2_find_14, t_X2_find_15, t_X2_find_16, t_X2_find_17, t_X2_find_22, t_X2_find_25, ↓reduceIte, ev_k_i, ev_aG_y, ev_inA_0, and_true, true_and, not_false_eq_true, nI_1, ev_fG_0, ev_fG_2, ev_isO_0, ev_isO_2, ev_row_l0, ev_row_l1, nI_leI, hj2, nI_clamp, hj3, hi, hp, show j < 20 from by omega]
  have h0 := key c 0 (by omega)
  rw [nI_0] at h0
  simp (disch := omega) only [t_X2_find_0, t_X2_find_1, ev_k_i, h0]
theorem r_find_y {k : Int32} {p : Nat} (hc : c ≤ 20) (hp : p < c) (he : kf p = k) (hk : ∀ i, i < p → ¬ kf i = k) : ev_ok (ev_TT X) 36 0 [.ref r, .int k, ev_J] [] (ev_row h r kf vf c b m lm ll) n q P ↔ P (.inl (some (.int (nI p)))) (ev_row h r kf vf c b m lm ll) n q := by
  have key : ∀ d j, j + d = p → (ev_ok (ev_TT X) 36 2 [.ref r, .int k, .int (nI j)] [] (ev_row h r kf vf c b m lm ll) n q P ↔ P (.inl (some (.int (nI p)))) (ev_row h r kf vf c b m lm ll) n q) := by
    intro d
    induction d with
    | zero =>
      intro j hj
      have hj2 : ¬ c ≤ j := by omega
      have hj4 : j = p := by omega
      subst hj4
      have hp := nI_pos' (n := j) (by omega)
      simp (disch := omega) only [t_X2_find_2, t_X2_find_3, t_X2_find_4, t_X2_find_7, t_X2_find_10, t_X2_find_11, t_X2_find_14, t_X2_find_15, t_X2_find_16, t_X2_find_17, t_X2_find_20, t_X2_find_21, ↓reduceIte, ev_aG_y, ev_inA_0, and_true, true_and, not_true_eq_false, ev_fG_0, ev_fG_2, ev_isO_0, ev_isO_2, ev_row_l0, ev_row_l1, nI_leI, hj2, nI_clamp, he, hp, show j < 20 from by omega]
    | succ d ih =>
      intro j hj
      have hj2 : ¬ c ≤ j := by omega
      have hj3 := hk j (by omega)
      have hi := ih (j + 1) (by omega)
      have hp := nI_pos' (n := j) (by omega)
      rw [t_X2_find_2]
      simp (disch := omega) only [t_X2_find_3, t_X2_find_4, t_X2_find_7, t_X2_find_10, t_X2_find_11, t_X2_find_14, t_X2_find_15, t_X2_find_16, t_X2_find_17, t_X2_find_22, t_X2_find_25, ↓reduceIte, ev_k_i, ev_aG_y, ev_inA_0, and_true, true_and, not_false_eq_true, nI_1, ev_fG_0, ev_fG_2, ev_isO_0, ev_isO_2, ev_row_l0, ev_row_l1, nI_leI, hj2, nI_clamp, hj3, hi, hp, show j < 20 from by omega]
  have h0 := key p 0 (by omega)
  rw [nI_0] at h0
  simp (disch := omega) only [t_X2_find_0, t_X2_find_1, ev_k_i, h0]
theorem ev_fd (kf : Nat → Int32) (k : Int32) : ∀ c : Nat, (∀ i, i < c → ¬ kf i = k) ∨ ∃ p, p < c ∧ kf p = k ∧ ∀ i, i < p → ¬ kf i = k := by
  intro c
  induction c with
  | zero => exact Or.inl fun i hi => absurd hi (Nat.not_lt_zero i)
  | succ c ih =>
    rcases ih with h | ⟨p, h1, h2, h3⟩
    · by_cases e : kf c = k
      · exact Or.inr ⟨c, Nat.lt_succ_self c, e, h⟩
      · refine Or.inl fun i hi => ?_
        by_cases hic : i = c
        · rw [hic]; exact e
        · exact h i (by omega)
    · exact Or.inr ⟨p, by omega, h2, h3⟩
theorem r_chg {j : Nat} {v : Int32} (hc : c ≤ 20) (hj : j < c) : ev_ok (ev_TT X) 91 0 [.ref r, .int (nI j), .int v, ev_J] [] (ev_row h r kf vf c b m lm ll) n q P ↔ P (.inl (some (.int (vf j)))) (ev_row h r kf (ev_fu vf j v) c b m lm ll) n q := by
  have hp := nI_pos' (n := j) (by omega)
  have h20 : j < 20 := by omega
  simp (disch := omega) only [t_X2_changeValue_0, t_X2_changeValue_1, t_X2_changeValue_2, t_X2_changeValue_5, t_X2_changeValue_10, t_X2_changeValue_11, t_X2_changeValue_14, t_X2_changeValue_15, t_X2_changeValue_16, t_X2_changeValue_17, t_X2_changeValue_18, t_X2_changeValue_21, t_X2_changeValue_22, t_X2_changeValue_23, t_X2_changeValue_24, t_X2_changeValue_25, ↓reduceIte, ev_k_i, ev_kr_1, ev_isK_y, ev_aG_y, ev_aS_y, ev_inA_0, and_true, true_and, not_false_eq_true, ev_fG_1, ev_isO_1, ev_row_2, ev_row_l0, ev_row_l2, ev_row_u2, r_isPlace_y hc hj, nI_clamp, hp, h20, show ¬ (1 : Int32) = 0 from by decide]
theorem r_app {k v : Int32} (hc : c < 20) : ev_ok (ev_TT X) 34 0 [.ref r, .int k, .int v] [] (ev_row h r kf vf c b m lm ll) n q P ↔ P (.inl none) (ev_row h r (ev_fu kf c k) (ev_fu vf c v) (c + 1) b m lm ll) n q := by
  have h20 : ¬ 20 ≤ c := by omega
  have hp := nI_pos' (n := c) (by omega)
  simp (disch := omega) only [t_X2_append_0, t_X2_append_1, t_X2_append_4, t_X2_append_6, t_X2_append_9, t_X2_append_10, t_X2_append_13, t_X2_append_14, t_X2_append_17, t_X2_append_18, t_X2_append_19, t_X2_append_20, t_X2_append_23, t_X2_append_24, t_X2_append_27, t_X2_append_28, t_X2_append_29, t_X2_append_30, t_X2_append_31, t_X2_append_34, t_X2_append_35, t_X2_append_36, t_X2_append_39, ↓reduceIte, ev_aS_y, ev_inA_0, ev_ft_I, and_true, true_and, nI_1, ev_fG_0, ev_fG_1, ev_fG_2, ev_fS_2, ev_isO_0, ev_isO_1, ev_isO_2, ev_row_0, ev_row_1, ev_row_2, ev_row_l0, ev_row_u0, ev_row_u1, ev_row_u2, nI_20, nI_leI, nI_clamp, hp, hc, h20]
theorem r_app_n {k v : Int32} (hc : c = 20) : ev_ok (ev_TT X) 34 0 [.ref r, .int k, .int v] [] (ev_row h r kf vf c b m lm ll) n q P ↔ P (.inl none) (ev_row h r kf vf c b m lm ll) n q := by
  subst hc
  simp (disch := omega) only [t_X2_append_0, t_X2_append_1, t_X2_append_4, t_X2_append_6, t_X2_append_39, ↓reduceIte, true_and, ev_fG_2, ev_isO_2, ev_row_l0, nI_20, show nI 20 ≤ nI 20 from by decide]
theorem ev_dr_0 {f : Nat → Int32} {j : Nat} : ev_dr f j j = f := by
  funext i
  unfold ev_dr
  rw [if_neg (by omega)]
theorem ev_dr_s {f : Nat → Int32} {j i : Nat} (h : j ≤ i) : ev_fu (ev_dr f j i) i (ev_dr f j i (i + 1)) = ev_dr f j (i + 1) := by
  funext x
  unfold ev_fu ev_dr
  by_cases e : x = i
  · subst e
    rw [if_pos rfl, if_neg (by omega), if_pos (by omega)]
  · rw [if_neg e]
    by_cases e2 : j ≤ x ∧ x < i
    · rw [if_pos e2, if_pos (by omega)]
    · rw [if_neg e2, if_neg (by omega)]
theorem r_dropAt {j : Nat} (hc : c < 20) (hj : j ≤ c) : ev_ok (ev_TT X) 92 0 [.ref r, .int (nI j), ev_J] [] (ev_row h r kf vf (c + 1) b m lm ll) n q P ↔ P (.inl none) (ev_row h r (ev_dr kf j c) (ev_dr vf j c) c b m lm ll) n q := by
  have key : ∀ d i, i + d = c → j ≤ i → (ev_ok (ev_TT X) 92 11 [.ref r, .int (nI j), .int (nI i)] [] (ev_row h r (ev_dr kf j i) (ev_dr vf j i) (c + 1) b m lm ll) n q P ↔ P (.inl none) (ev_row h r (ev_dr kf j c) (ev_dr vf j c) c b m lm ll) n q) := by
    intro d
    induction d with
    | zero =>
      intro i hi hji
      have hi2 : c + 1 ≤ i + 1 := by omega
      have hi3 : i = c := by omega
      subst hi3
      simp (disch := omega) only [t_X2_dropAt_11, t_X2_dropAt_12, t_X2_dropAt_13, t_X2_dropAt_14, t_X2_dropAt_15, t_X2_dropAt_18, t_X2_dropAt_55, t_X2_dropAt_56, t_X2_dropAt_57, t_X2_dropAt_60, t_X2_dropAt_61, t_X2_dropAt_62, t_X2_dropAt_65, ↓reduceIte, ev_ft_I, and_true, true_and, nI_1, ev_fG_2, ev_fS_2, ev_isO_2, ev_row_0, ev_row_l0, ev_row_u0, nI_leI, hi2, nI_pred]
    | succ d ih =>
      intro i hi hji
      have hi2 : ¬ c + 1 ≤ i + 1 := by omega
      have hp := nI_pos' (n := i) (by omega)
      have hp2 := nI_pos' (n := i + 1) (by omega)
      have hI := ih (i + 1) (by omega) (by omega)
      rw [t_X2_dropAt_11]
      simp (disch := omega) only [t_X2_dropAt_12, t_X2_dropAt_13, t_X2_dropAt_14, t_X2_dropAt_15, t_X2_dropAt_18, t_X2_dropAt_21, t_X2_dropAt_22, t_X2_dropAt_25, t_X2_dropAt_26, t_X2_dropAt_27, t_X2_dropAt_30, t_X2_dropAt_31, t_X2_dropAt_32, t_X2_dropAt_33, t_X2_dropAt_34, t_X2_dropAt_35, t_X2_dropAt_36, t_X2_dropAt_39, t_X2_dropAt_40, t_X2_dropAt_41, t_X2_dropAt_44, t_X2_dropAt_45, t_X2_dropAt_46, t_X2_dropAt_47, t_X2_dropAt_48, t_X2_dropAt_49, t_X2_dropAt_52, ↓reduceIte, ev_k_i, ev_aG_y, ev_aS_y, ev_inA_0, and_true, true_and, nI_1, ev_fG_0, ev_fG_1, ev_fG_2, ev_isO_0, ev_isO_1, ev_isO_2, ev_row_1, ev_row_2, ev_row_l0, ev_row_l1, ev_row_l2, ev_row_u1, ev_row_u2, nI_leI, hi2, nI_clamp, hp, hp2, show i < 20 from by omega, show i + 1 < 20 from by omega, ev_dr_s hji, hI]
  have h0 := key (c - j) j (by omega) (Nat.le_refl j)
  rw [ev_dr_0, ev_dr_0] at h0
  simp (disch := omega) only [t_X2_dropAt_0, t_X2_dropAt_1, t_X2_dropAt_2, t_X2_dropAt_5, t_X2_dropAt_9, t_X2_dropAt_10, ↓reduceIte, ev_k_i, ev_kr_1, ev_isK_y, true_and, not_false_eq_true, ev_row_l0, r_isPlace_y (show c + 1 ≤ 20 from by omega) (show j < c + 1 from by omega), show ¬ (1 : Int32) = 0 from by decide, h0]
theorem r_dropAt_n {p : Int32} (hp : ¬ (0 ≤ p ∧ p < nI c)) : ev_ok (ev_TT X) 92 0 [.ref r, .int p, ev_J] [] (ev_row h r kf vf c b m lm ll) n q P ↔ P (.inl none) (ev_row h r kf vf c b m lm ll) n q := by
  simp (disch := omega) only [t_X2_dropAt_0, t_X2_dropAt_1, t_X2_dropAt_2, t_X2_dropAt_5, t_X2_dropAt_8, ↓reduceIte, ev_kr_1, ev_isK_y, true_and, not_true_eq_false, ev_row_l0, r_isPlace_n hp]
end RW
end
section
/-! ===== a row as a list of pairs ===== -/
abbrev ev_PL : Type := List (Int32 × Int32)
def ev_RL (kf vf : Nat → Int32) (L : ev_PL) : Prop := ∀ (i : Nat) (x : Int32 × Int32), L[i]? = some x → kf i = x.1 ∧ vf i = x.2
/-- the heap h, with the row of these pairs at r -/
def ev_rL (h : ev_M) (r : Nat) (L : ev_PL) (b m lm ll : Int32) (H : ev_M) : Prop := ∃ kf vf : Nat → Int32, ev_RL kf vf L ∧ H = ev_row h r kf vf L.length b m lm ll
def pf_find (L : ev_PL) (k : Int32) : Option Nat := L.findIdx? (fun x => decide (x.1 = k))
def pf_place (L : ev_PL) (k : Int32) : Int32 := match pf_find L k with
  | none => -1
  | some j => nI j
def pf_at (L : ev_PL) (j : Nat) : Int32 × Int32 := L.getD j (0, 0)
def pr_above (m : Int32) (c : Nat) : Prop := ¬ (m = -1 ∨ nI c ≤ m)
def pr_ask (L : ev_PL) (b : Int32) (j : Nat) : ev_PL := if b = 0 then L else L.eraseIdx j ++ [pf_at L j]
theorem ev_RL_at {kf vf : Nat → Int32} {L : ev_PL} (h : ev_RL kf vf L) {j : Nat} (hj : j < L.length) : kf j = (pf_at L j).1 ∧ vf j = (pf_at L j).2 := by
  have e : L[j]? = some L[j] := List.getElem?_eq_getElem hj
  have := h j _ e
  unfold pf_at
  rw [List.getD_eq_getElem?_getD, e]
  exact this
theorem ev_RL_app {kf vf : Nat → Int32} {L : ev_PL} (h : ev_RL kf vf L) (k v : Int32) : ev_RL (ev_fu kf L.length k) (ev_fu vf L.length v) (L ++ [(k, v)]) := by
  intro i x hx
  unfold ev_fu
  by_cases e : i = L.length
  · subst e
    rw [List.getElem?_append_right (Nat.le_refl _), Nat.sub_self] at hx
    cases hx
    rw [if_pos rfl, if_pos rfl]
    exact ⟨rfl, rfl⟩
  · rw [if_neg e, if_neg e]
    by_cases e2 : i < L.length
    · rw [List.getElem?_append_left e2] at hx
      exact h i x hx
    · rw [List.getElem?_append_right (by omega)] at hx
      have := (List.getElem?_eq_some_iff.mp hx).1
      simp only [List.length_cons, List.length_nil] at this
      omega
theorem ev_RL_set {kf vf : Nat → Int32} {L : ev_PL} (h : ev_RL kf vf L) {j : Nat} (hj : j < L.length) (v : Int32) : ev_RL kf (ev_fu vf j v) (L.set j ((pf_at L j).1, v)) := by
  intro i x hx
  unfold ev_fu
  by_cases e : i = j
  · subst e
    rw [List.getElem?_set_self hj] at hx
    cases hx
    rw [if_pos rfl]
    exact ⟨(ev_RL_at h hj).1, rfl⟩
  · rw [if_neg e]
    rw [List.getElem?_set_ne (Ne.symm e)] at hx
    exact h i x hx
theorem ev_RL_del {kf vf : Nat → Int32} {L : ev_PL} (h : ev_RL kf vf L) {j c : Nat} (hc : L.length = c + 1) (hj : j ≤ c) : ev_RL (ev_dr kf j c) (ev_dr vf j c) (L.eraseIdx j) := by
  intro i x hx
  have hi := (List.getElem?_eq_some_iff.mp hx).1
  rw [List.length_eraseIdx, hc, if_pos (by omega)] at hi
  rw [List.getElem?_eraseIdx] at hx
  unfold ev_dr
  by_cases e : i < j
  · rw [if_pos e] at hx
    rw [if_neg (by omega), if_neg (by omega)]
    exact h i x hx
  · rw [if_neg e] at hx
    rw [if_pos (by omega), if_pos (by omega)]
    exact h (i + 1) x hx
theorem pf_find_n {L : ev_PL} {k : Int32} (e : pf_find L k = none) {kf vf : Nat → Int32} (h : ev_RL kf vf L) : ∀ i, i < L.length → ¬ kf i = k := by
  intro i hi
  unfold pf_find at e
  rw [List.findIdx?_eq_none_iff] at e
  have h1 := e L[i] (List.getElem_mem hi)
  rw [(h i _ (List.getElem?_eq_getElem hi)).1]
  exact of_decide_eq_false h1
theorem pf_find_s {L : ev_PL} {k : Int32} {j : Nat} (e : pf_find L k = some j) : ∃ hj : j < L.length, L[j].1 = k ∧ ∀ i, ∀ hi : i < j, ¬ (L[i]'(by omega)).1 = k := by
  unfold pf_find at e
  rw [List.findIdx?_eq_some_iff_getElem] at e
  obtain ⟨hj, h1, h2⟩ := e
  exact ⟨hj, of_decide_eq_true h1, fun i hi hk => h2 i hi (decide_eq_true hk)⟩
theorem pf_find_y {L : ev_PL} {k : Int32} {j : Nat} (e : pf_find L k = some j) {kf vf : Nat → Int32} (h : ev_RL kf vf L) : j < L.length ∧ kf j = k ∧ ∀ i, i < j → ¬ kf i = k := by
  obtain ⟨hj, h1, h2⟩ := pf_find_s e
  refine ⟨hj, (h j _ (List.getElem?_eq_getElem hj)).1.trans h1, fun i hi => ?_⟩
  rw [(h i _ (List.getElem?_eq_getElem (by omega))).1]
  exact h2 i hi
section RL
variable {X : ev_E} {h H : ev_M} {r : Nat} {L : ev_PL} {b m lm ll : Int32} {n q : Nat} {P : ev_O → ev_M → Nat → Nat → Prop}
theorem R_find (hH : ev_rL h r L b m lm ll H) (hc : L.length ≤ 20) {x : Int32} (k : P (.inl (some (.int (pf_place L x)))) H n q) : ev_ok (ev_TT X) 36 0 [.ref r, .int x, ev_J] [] H n q P := by
  obtain ⟨kf, vf, hR, rfl⟩ := hH
  unfold pf_place at k
  rcases e : pf_find L x with _ | j
  · rw [e] at k
    exact (r_find_n hc (pf_find_n e hR)).mpr k
  · rw [e] at k
    obtain ⟨h1, h2, h3⟩ := pf_find_y e hR
    exact (r_find_y hc h1 h2 h3).mpr k
theorem R_isPlace (hH : ev_rL h r L b m lm ll H) (hc : L.length ≤ 20) {x : Int32} (k : P (.inl (some (.int (ev_b (0 ≤ x ∧ x < nI L.length))))) H n q) : ev_ok (ev_TT X) 39 0 [.ref r, .int x] [] H n q P := by
  obtain ⟨kf, vf, hR, rfl⟩ := hH
  unfold ev_b at k
  by_cases e : 0 ≤ x ∧ x < nI L.length
  · rw [if_pos e] at k
    obtain ⟨j, hj, rfl⟩ := (ev_pl (by omega)).mp e
    exact (r_isPlace_y hc hj).mpr k
  · rw [if_neg e] at k
    exact (r_isPlace_n e).mpr k
theorem R_abm (hH : ev_rL h r L b m lm ll H) (k : P (.inl (some (.int (@ev_b (pr_above m L.length) (Classical.propDecidable _))))) H n q) : ev_ok (ev_TT X) 38 0 [.ref r] [] H n q P := by
  obtain ⟨kf, vf, hR, rfl⟩ := hH
  unfold ev_b pr_above at k
  by_cases e : m = -1 ∨ nI L.length ≤ m
  · rw [if_neg (fun z => z e)] at k
    exact (r_abm_n e).mpr k
  · rw [if_pos e] at k
    rw [not_or] at e
    exact (r_abm_y e.1 (Int32.not_le.mp e.2)).mpr k
theorem R_renew (hH : ev_rL h r L b m lm ll H) {b1 m1 : Int32} (hb : ev_isB b1) (k : ∀ H1, ev_rL h r [] b1 m1 0 (-1) H1 → P (.inl (some (.int (nI L.length)))) H1 n q) : ev_ok (ev_TT X) 94 0 [.ref r, .int b1, .int m1] [] H n q P := by
  obtain ⟨kf, vf, hR, rfl⟩ := hH
  exact (r_renew hb).mpr (k _ ⟨kf, vf, fun i x hx => by simp at hx, rfl⟩)
theorem R_dropAll (hH : ev_rL h r L b m lm ll H) (k : ∀ H1, ev_rL h r [] b m lm ll H1 → P (.inl (some (.int (nI L.length)))) H1 n q) : ev_ok (ev_TT X) 35 0 [.ref r, ev_J] [] H n q P := by
  obtain ⟨kf, vf, hR, rfl⟩ := hH
  exact r_dropAll.mpr (k _ ⟨kf, vf, fun i x hx => by simp at hx, rfl⟩)
theorem R_chg (hH : ev_rL h r L b m lm ll H) (hc : L.length ≤ 20) {j : Nat} (hj : j < L.length) {v : Int32} (k : ∀ H1, ev_rL h r (L.set j ((pf_at L j).1, v)) b m lm ll H1 → P (.inl (some (.int (pf_at L j).2))) H1 n q) : ev_ok (ev_TT X) 91 0 [.ref r, .int (nI j), .int v, ev_J] [] H n q P := by
  obtain ⟨kf, vf, hR, rfl⟩ := hH
  refine (r_chg hc hj).mpr ?_
  rw [(ev_RL_at hR hj).2]
  exact k _ ⟨kf, _, ev_RL_set hR hj v, by rw [List.length_set]⟩
theorem R_app (hH : ev_rL h r L b m lm ll H) (hc : L.length < 20) {x v : Int32} (k : ∀ H1, ev_rL h r (L ++ [(x, v)]) b m lm ll H1 → P (.inl none) H1 n q) : ev_ok (ev_TT X) 34 0 [.ref r, .int x, .int v] [] H n q P := by
  obtain ⟨kf, vf, hR, rfl⟩ := hH
  refine (r_app hc).mpr (k _ ⟨_, _, ev_RL_app hR x v, ?_⟩)
  rw [List.length_append]
  rfl
theorem R_dropAt (hH : ev_rL h r L b m lm ll H) (hc : L.length ≤ 20) {j : Nat} (hj : j < L.length) (k : ∀ H1, ev_rL h r (L.eraseIdx j) b m lm ll H1 → P (.inl none) H1 n q) : ev_ok (ev_TT X) 92 0 [.ref r, .int (nI j), ev_J] [] H n q P := by
  obtain ⟨kf, vf, hR, rfl⟩ := hH
  obtain ⟨c, hL⟩ : ∃ c, L.length = c + 1 := ⟨L.length - 1, by omega⟩
  rw [hL]
  refine (r_dropAt (show c < 20 by omega) (show j ≤ c by omega)).mpr (k _ ⟨_, _, ev_RL_del hR hL (by omega), ?_⟩)
  rw [List.length_eraseIdx, if_pos hj, hL]
  rfl
noncomputable def pr_take (L : ev_PL) (m lm ll x v : Int32) : ev_PL × Int32 × Int32 := @ite _ (pr_above m (L.length + 1)) (Classical.propDecidable _) ((L ++ [(x, v)]).eraseIdx 0, lm + 1, (pf_at (L ++ [(x, v)]) 0).1) (L ++ [(x, v)], lm, ll)
theorem ev_z0 : (0 : Int32).toNatClampNeg = 0 := rfl
theorem ev_z1 : ((0 : Int32) ≤ 0) = True := eq_true (by decide)
theorem ev_z2 : ((1 : Int32) = 0) = False := eq_false (by decide)
theorem ev_rL_k (hH : ev_rL h r L b m lm ll H) : ev_isK (ev_lk X H r) 7 = True := by
  obtain ⟨kf, vf, hR, rfl⟩ := hH
  rw [ev_row_l0]
  exact ev_isK_y
theorem ev_rL_b (hH : ev_rL h r L b m lm ll H) : (ev_isO (ev_lk X H r) 7 3 = True ∧ ev_fG (ev_lk X H r) 3 = .int b) ∧ (ev_isO (ev_lk X H r) 7 2 = True ∧ ev_fG (ev_lk X H r) 2 = .int (nI L.length)) ∧ (ev_isO (ev_lk X H r) 7 4 = True ∧ ev_fG (ev_lk X H r) 4 = .int m) ∧ (ev_isO (ev_lk X H r) 7 5 = True ∧ ev_fG (ev_lk X H r) 5 = .int lm) ∧ ev_isO (ev_lk X H r) 7 6 = True ∧ ev_fG (ev_lk X H r) 6 = .int ll := by
  obtain ⟨kf, vf, hR, rfl⟩ := hH
  rw [ev_row_l0]
  exact ⟨⟨ev_isO_3, rfl⟩, ⟨ev_isO_2, rfl⟩, ⟨ev_isO_4, rfl⟩, ⟨ev_isO_5, rfl⟩, ev_isO_6, rfl⟩
section RX
variable {kf vf : Nat → Int32} {c : Nat}
theorem r_takeIn_n {x v : Int32} (hc : c < 20) (hm : m = -1 ∨ nI (c + 1) ≤ m) : ev_ok (ev_TT X) 143 0 [.ref r, .int x, .int v] [] (ev_row h r kf vf c b m lm ll) n q P ↔ P (.inl none) (ev_row h r (ev_fu kf c x) (ev_fu vf c v) (c + 1) b m lm ll) n q := by
  simp (disch := omega) only [t_X2_takeIn_0, t_X2_takeIn_1, t_X2_takeIn_2, t_X2_takeIn_3, t_X2_takeIn_6, t_X2_takeIn_7, t_X2_takeIn_10, t_X2_takeIn_38, ↓reduceIte, ev_kr_1, ev_kr_0, ev_isK_y, true_and, ev_row_l0, r_app hc, r_abm_n (c := c + 1) hm]
theorem r_takeIn_y {x v : Int32} (hc : c < 20) (h1 : ¬ m = -1) (h2 : m < nI (c + 1)) : ev_ok (ev_TT X) 143 0 [.ref r, .int x, .int v] [] (ev_row h r kf vf c b m lm ll) n q P ↔ P (.inl none) (ev_row h r (ev_dr (ev_fu kf c x) 0 c) (ev_dr (ev_fu vf c v) 0 c) c b m (lm + 1) (ev_fu kf c x 0)) n q := by
  have hd : ∀ {kf vf : Nat → Int32} {b m lm ll : Int32} {P : ev_O → ev_M → Nat → Nat → Prop}, ev_ok (ev_TT X) 92 0 [.ref r, .int 0, ev_J] [] (ev_row h r kf vf (c + 1) b m lm ll) n q P ↔ P (.inl none) (ev_row h r (ev_dr kf 0 c) (ev_dr vf 0 c) c b m lm ll) n q := r_dropAt (j := 0) hc (Nat.zero_le c)
  simp (disch := omega) only [t_X2_takeIn_0, t_X2_takeIn_1, t_X2_takeIn_2, t_X2_takeIn_3, t_X2_takeIn_6, t_X2_takeIn_7, t_X2_takeIn_10, t_X2_takeIn_13, t_X2_takeIn_14, t_X2_takeIn_15, t_X2_takeIn_18, t_X2_takeIn_19, t_X2_takeIn_20, t_X2_takeIn_23, t_X2_takeIn_24, t_X2_takeIn_25, t_X2_takeIn_28, t_X2_takeIn_29, t_X2_takeIn_30, t_X2_takeIn_33, t_X2_takeIn_34, t_X2_takeIn_35, t_X2_takeIn_38, ↓reduceIte, ev_kr_1, ev_kr_0, ev_isK_y, ev_aG_y, ev_inA_0, ev_ft_I, and_true, true_and, ev_fG_0, ev_fG_5, ev_fS_5, ev_fS_6, ev_isO_0, ev_isO_5, ev_isO_6, ev_row_0, ev_row_l0, ev_row_l1, ev_row_u0, r_app hc, r_abm_y (c := c + 1) h1 h2, hd, show (0 : Nat) < 20 from by decide, ev_z0, ev_z1, ev_z2]
theorem r_note_0 {x : Int32} : ev_ok (ev_TT X) 142 0 [.ref r, .int x, ev_J, ev_J] [] (ev_row h r kf vf c 0 m lm ll) n q P ↔ P (.inl none) (ev_row h r kf vf c 0 m lm ll) n q := by
  simp (disch := omega) only [t_X2_noteAsking_0, t_X2_noteAsking_1, t_X2_noteAsking_4, t_X2_noteAsking_15, ↓reduceIte, true_and, ev_fG_3, ev_isO_3, ev_row_l0]
theorem r_note_1 {j : Nat} (hc : c < 20) (hj : j ≤ c) : ev_ok (ev_TT X) 142 0 [.ref r, .int (nI j), ev_J, ev_J] [] (ev_row h r kf vf (c + 1) 1 m lm ll) n q P ↔ P (.inl none) (ev_row h r (ev_fu (ev_dr kf j c) c (kf j)) (ev_fu (ev_dr vf j c) c (vf j)) (c + 1) 1 m lm ll) n q := by
  have hp := nI_pos' (n := j) (by omega)
  have h20 : j < 20 := by omega
  simp (disch := omega) only [t_X2_noteAsking_0, t_X2_noteAsking_1, t_X2_noteAsking_4, t_X2_noteAsking_7, t_X2_noteAsking_8, t_X2_noteAsking_9, t_X2_noteAsking_12, t_X2_noteAsking_16, t_X2_noteAsking_17, t_X2_noteAsking_20, t_X2_noteAsking_21, t_X2_noteAsking_22, t_X2_noteAsking_23, t_X2_noteAsking_24, t_X2_noteAsking_27, t_X2_noteAsking_28, t_X2_noteAsking_29, t_X2_noteAsking_30, t_X2_noteAsking_31, t_X2_noteAsking_32, t_X2_noteAsking_35, t_X2_noteAsking_36, t_X2_noteAsking_37, t_X2_noteAsking_38, t_X2_noteAsking_41, ↓reduceIte, ev_k_i, ev_kr_1, ev_kr_0, ev_isK_y, ev_aG_y, ev_inA_0, and_true, true_and, not_false_eq_true, ev_fG_0, ev_fG_1, ev_fG_3, ev_isO_0, ev_isO_1, ev_isO_3, ev_row_l0, ev_row_l1, ev_row_l2, r_isPlace_y (c := c + 1) (show c + 1 ≤ 20 from by omega) (show j < c + 1 from by omega), r_dropAt hc hj, r_app hc, nI_clamp, hp, h20, ev_z2]
end RX
theorem R_takeIn (hH : ev_rL h r L b m lm ll H) (hc : L.length < 20) {x v : Int32} (k : ∀ H1, ev_rL h r (pr_take L m lm ll x v).1 b m (pr_take L m lm ll x v).2.1 (pr_take L m lm ll x v).2.2 H1 → P (.inl none) H1 n q) : ev_ok (ev_TT X) 143 0 [.ref r, .int x, .int v] [] H n q P := by
  obtain ⟨kf, vf, hR, rfl⟩ := hH
  have hA := ev_RL_app hR x v
  have hl : (L ++ [(x, v)]).length = L.length + 1 := by rw [List.length_append]; rfl
  unfold pr_take at k
  by_cases e : pr_above m (L.length + 1)
  · rw [if_pos e] at k
    unfold pr_above at e
    rw [not_or] at e
    refine (r_takeIn_y hc e.1 (Int32.not_le.mp e.2)).mpr (k _ ⟨_, _, ev_RL_del hA hl (Nat.zero_le _), ?_⟩)
    dsimp only
    rw [List.length_eraseIdx, if_pos (by omega), hl, (ev_RL_at hA (j := 0) (by omega)).1]
    rfl
  · rw [if_neg e] at k
    refine (r_takeIn_n hc (Classical.not_not.mp e)).mpr (k _ ⟨_, _, hA, ?_⟩)
    dsimp only
    rw [hl]
theorem R_note (hH : ev_rL h r L b m lm ll H) (hb : ev_isB b) (hc : L.length ≤ 20) {j : Nat} (hj : j < L.length) (k : ∀ H1, ev_rL h r (pr_ask L b j) b m lm ll H1 → P (.inl none) H1 n q) : ev_ok (ev_TT X) 142 0 [.ref r, .int (nI j), ev_J, ev_J] [] H n q P := by
  obtain ⟨kf, vf, hR, rfl⟩ := hH
  unfold pr_ask at k
  rcases hb with rfl | rfl
  · rw [if_pos rfl] at k
    exact r_note_0.mpr (k _ ⟨kf, vf, hR, rfl⟩)
  · rw [if_neg (by decide)] at k
    obtain ⟨c, hL⟩ : ∃ c, L.length = c + 1 := ⟨L.length - 1, by omega⟩
    have hD := ev_RL_del hR hL (j := j) (by omega)
    have hl : (L.eraseIdx j).length = c := by rw [List.length_eraseIdx, if_pos hj, hL]; rfl
    have hA := ev_RL_app hD (pf_at L j).1 (pf_at L j).2
    rw [hl] at hA
    have h1 := ev_RL_at hR hj
    rw [hL]
    refine (r_note_1 (show c < 20 by omega) (show j ≤ c by omega)).mpr (k _ ⟨_, _, hA, ?_⟩)
    rw [List.length_append, hl, h1.1, h1.2]
    rfl
noncomputable def pr_bring (L : ev_PL) (b m lm ll x v : Int32) : Int32 × ev_PL × Int32 × Int32 := match pf_find L x with
  | none => (-1, pr_take L m lm ll x v)
  | some j => ((pf_at L j).2, pr_ask (L.set j ((pf_at L j).1, v)) b j, lm, ll)
def pr_fetch (L : ev_PL) (b x o : Int32) : Int32 × ev_PL := match pf_find L x with
  | none => (o, L)
  | some j => ((pf_at L j).2, pr_ask L b j)
noncomputable def pr_fetchIn (L : ev_PL) (b m lm ll x v : Int32) : Int32 × ev_PL × Int32 × Int32 := match pf_find L x with
  | none => (0, pr_take L m lm ll x v)
  | some j => (1, pr_ask L b j, lm, ll)
def pr_drop (L : ev_PL) (x : Int32) : Int32 × ev_PL := match pf_find L x with
  | none => (-1, L)
  | some j => ((pf_at L j).2, L.eraseIdx j)
theorem R_bring (hH : ev_rL h r L b m lm ll H) (hb : ev_isB b) (hc : L.length ≤ 20) {x v : Int32} (hn : pf_find L x = none → L.length < 20) (k : ∀ H1, ev_rL h r (pr_bring L b m lm ll x v).2.1 b m (pr_bring L b m lm ll x v).2.2.1 (pr_bring L b m lm ll x v).2.2.2 H1 → P (.inl (some (.int (pr_bring L b m lm ll x v).1))) H1 n q) : ev_ok (ev_TT X) 194 0 [.ref r, .int x, .int v, ev_J, ev_J] [] H n q P := by
  unfold pr_bring at k
  simp (disch := omega) only [t_X2_bring_0, t_X2_bring_1, t_X2_bring_2, true_and, ev_rL_k hH]
  refine R_find hH hc ?_
  unfold pf_place
  rcases e : pf_find L x with _ | j
  · rw [e] at k
    simp (disch := omega) only [t_X2_bring_5, t_X2_bring_6, t_X2_bring_7, t_X2_bring_8, t_X2_bring_11, t_X2_bring_12, t_X2_bring_13, t_X2_bring_14, ↓reduceIte, ev_k_i, ev_kr_1, true_and, not_true_eq_false, ev_rL_k hH]
    refine R_takeIn hH (hn e) fun H1 hH1 => ?_
    simp (disch := omega) only [t_X2_bring_17, t_X2_bring_18, ev_kr_0]
    exact k H1 hH1
  · rw [e] at k
    have hj := (pf_find_s e).1
    simp (disch := omega) only [t_X2_bring_5, t_X2_bring_6, t_X2_bring_7, t_X2_bring_8, t_X2_bring_19, t_X2_bring_20, t_X2_bring_21, t_X2_bring_22, ↓reduceIte, ev_k_i, ev_kr_1, true_and, not_false_eq_true, ev_rL_k hH, ev_nm1]
    refine R_chg hH hc hj fun H1 hH1 => ?_
    simp (disch := omega) only [t_X2_bring_25, t_X2_bring_27, t_X2_bring_28, t_X2_bring_29, ev_k_i, ev_kr_1, true_and, ev_rL_k hH1]
    refine R_note hH1 hb (by rw [List.length_set]; exact hc) (by rw [List.length_set]; exact hj) fun H2 hH2 => ?_
    simp (disch := omega) only [t_X2_bring_32, t_X2_bring_34, ev_kr_0]
    exact k H2 hH2
theorem R_fetch (hH : ev_rL h r L b m lm ll H) (hb : ev_isB b) (hc : L.length ≤ 20) {x o : Int32} (k : ∀ H1, ev_rL h r (pr_fetch L b x o).2 b m lm ll H1 → P (.inl (some (.int (pr_fetch L b x o).1))) H1 n q) : ev_ok (ev_TT X) 195 0 [.ref r, .int x, .int o, ev_J, ev_J] [] H n q P := by
  unfold pr_fetch at k
  simp (disch := omega) only [t_X2_fetch_0, t_X2_fetch_1, t_X2_fetch_2, true_and, ev_rL_k hH]
  refine R_find hH hc ?_
  unfold pf_place
  rcases e : pf_find L x with _ | j
  · rw [e] at k
    simp (disch := omega) only [t_X2_fetch_5, t_X2_fetch_6, t_X2_fetch_7, t_X2_fetch_8, t_X2_fetch_11, t_X2_fetch_12, ↓reduceIte, ev_k_i, ev_kr_1, not_true_eq_false]
    exact k H hH
  · rw [e] at k
    have hj := (pf_find_s e).1
    have hp := nI_pos' (n := j) (by omega)
    have h20 : j < 20 := by omega
    obtain ⟨kf, vf, hR, rfl⟩ := hH
    have h2 := (ev_RL_at hR hj).2
    have hH : ev_rL h r L b m lm ll (ev_row h r kf vf L.length b m lm ll) := ⟨kf, vf, hR, rfl⟩
    simp (disch := omega) only [t_X2_fetch_5, t_X2_fetch_6, t_X2_fetch_7, t_X2_fetch_8, t_X2_fetch_13, t_X2_fetch_14, t_X2_fetch_17, t_X2_fetch_18, t_X2_fetch_19, t_X2_fetch_21, t_X2_fetch_22, t_X2_fetch_23, ↓reduceIte, ev_k_i, ev_kr_1, ev_isK_y, ev_aG_y, ev_inA_0, and_true, true_and, not_false_eq_true, ev_fG_1, ev_isO_1, ev_row_l0, ev_row_l2, ev_nm1, nI_clamp, hp, h20, h2]
    refine R_note hH hb hc hj fun H2 hH2 => ?_
    simp (disch := omega) only [t_X2_fetch_26, t_X2_fetch_28, ev_kr_0]
    exact k H2 hH2
theorem R_fetchIn (hH : ev_rL h r L b m lm ll H) (hb : ev_isB b) (hc : L.length ≤ 20) {x v : Int32} (hn : pf_find L x = none → L.length < 20) (k : ∀ H1, ev_rL h r (pr_fetchIn L b m lm ll x v).2.1 b m (pr_fetchIn L b m lm ll x v).2.2.1 (pr_fetchIn L b m lm ll x v).2.2.2 H1 → P (.inl (some (.int (pr_fetchIn L b m lm ll x v).1))) H1 n q) : ev_ok (ev_TT X) 196 0 [.ref r, .int x, .int v, ev_J] [] H n q P := by
  unfold pr_fetchIn at k
  simp (disch := omega) only [t_X2_fetchOrTakeIn_0, t_X2_fetchOrTakeIn_1, t_X2_fetchOrTakeIn_2, true_and, ev_rL_k hH]
  refine R_find hH hc ?_
  unfold pf_place
  rcases e : pf_find L x with _ | j
  · rw [e] at k
    simp (disch := omega) only [t_X2_fetchOrTakeIn_5, t_X2_fetchOrTakeIn_6, t_X2_fetchOrTakeIn_7, t_X2_fetchOrTakeIn_8, t_X2_fetchOrTakeIn_11, t_X2_fetchOrTakeIn_12, t_X2_fetchOrTakeIn_13, t_X2_fetchOrTakeIn_14, ↓reduceIte, ev_k_i, ev_kr_1, true_and, not_true_eq_false, ev_rL_k hH]
    refine R_takeIn hH (hn e) fun H1 hH1 => ?_
    simp (disch := omega) only [t_X2_fetchOrTakeIn_17, t_X2_fetchOrTakeIn_18, ev_kr_0, ev_nb_0, true_and]
    exact k H1 hH1
  · rw [e] at k
    have hj := (pf_find_s e).1
    simp (disch := omega) only [t_X2_fetchOrTakeIn_5, t_X2_fetchOrTakeIn_6, t_X2_fetchOrTakeIn_7, t_X2_fetchOrTakeIn_8, t_X2_fetchOrTakeIn_19, t_X2_fetchOrTakeIn_20, t_X2_fetchOrTakeIn_21, ↓reduceIte, ev_k_i, ev_kr_1, true_and, not_false_eq_true, ev_rL_k hH, ev_nm1]
    refine R_note hH hb hc hj fun H2 hH2 => ?_
    simp (disch := omega) only [t_X2_fetchOrTakeIn_24, t_X2_fetchOrTakeIn_25, ev_kr_0, ev_nb_1, true_and]
    exact k H2 hH2
theorem R_dropKey (hH : ev_rL h r L b m lm ll H) (hc : L.length ≤ 20) {x : Int32} (k : ∀ H1, ev_rL h r (pr_drop L x).2 b m lm ll H1 → P (.inl (some (.int (pr_drop L x).1))) H1 n q) : ev_ok (ev_TT X) 141 0 [.ref r, .int x, ev_J, ev_J] [] H n q P := by
  unfold pr_drop at k
  simp (disch := omega) only [t_X2_dropKey_0, t_X2_dropKey_1, t_X2_dropKey_2, true_and, ev_rL_k hH]
  refine R_find hH hc ?_
  unfold pf_place
  rcases e : pf_find L x with _ | j
  · rw [e] at k
    simp (disch := omega) only [t_X2_dropKey_5, t_X2_dropKey_6, t_X2_dropKey_7, t_X2_dropKey_8, t_X2_dropKey_11, t_X2_dropKey_12, ↓reduceIte, ev_k_i, ev_kr_1, not_true_eq_false]
    exact k H hH
  · rw [e] at k
    have hj := (pf_find_s e).1
    have hp := nI_pos' (n := j) (by omega)
    have h20 : j < 20 := by omega
    obtain ⟨kf, vf, hR, rfl⟩ := hH
    have h2 := (ev_RL_at hR hj).2
    have hH : ev_rL h r L b m lm ll (ev_row h r kf vf L.length b m lm ll) := ⟨kf, vf, hR, rfl⟩
    simp (disch := omega) only [t_X2_dropKey_5, t_X2_dropKey_6, t_X2_dropKey_7, t_X2_dropKey_8, t_X2_dropKey_13, t_X2_dropKey_14, t_X2_dropKey_17, t_X2_dropKey_18, t_X2_dropKey_19, t_X2_dropKey_20, t_X2_dropKey_21, t_X2_dropKey_22, ↓reduceIte, ev_k_i, ev_kr_1, ev_isK_y, ev_aG_y, ev_inA_0, and_true, true_and, not_false_eq_true, ev_fG_1, ev_isO_1, ev_row_l0, ev_row_l2, ev_nm1, nI_clamp, hp, h20, h2]
    refine R_dropAt hH hc hj fun H2 hH2 => ?_
    simp (disch := omega) only [t_X2_dropKey_25, t_X2_dropKey_26, ev_kr_0]
    exact k H2 hH2
noncomputable def pr_told (L : ev_PL) (p w : Int32) : Int32 := @ite _ (0 ≤ p ∧ p < nI L.length) (Classical.propDecidable _) (if w = 0 then (pf_at L p.toNatClampNeg).1 else if w = 1 then (pf_at L p.toNatClampNeg).2 else (pf_at L p.toNatClampNeg).1 * 100 + (pf_at L p.toNatClampNeg).2) (-1)
theorem R_told (hH : ev_rL h r L b m lm ll H) (hc : L.length ≤ 20) {p w : Int32} (k : P (.inl (some (.int (pr_told L p w)))) H n q) : ev_ok (ev_TT X) 95 0 [.ref r, .int p, .int w] [] H n q P := by
  unfold pr_told at k
  simp (disch := omega) only [t_X2_told_0, t_X2_told_1, t_X2_told_2, true_and, ev_rL_k hH]
  refine R_isPlace hH hc ?_
  unfold ev_b
  by_cases e : 0 ≤ p ∧ p < nI L.length
  · rw [if_pos e] at k
    obtain ⟨j, hj, rfl⟩ := (ev_pl (by omega)).mp e
    rw [if_pos e]
    have hp := nI_pos' (n := j) (by omega)
    have h20 : j < 20 := by omega
    rw [nI_clamp (n := j) (by omega)] at k
    obtain ⟨kf, vf, hR, rfl⟩ := hH
    have h1 := (ev_RL_at hR hj).1
    have h2 := (ev_RL_at hR hj).2
    by_cases w0 : w = 0
    · rw [if_pos w0] at k
      simp (disch := omega) only [t_X2_told_5, t_X2_told_10, t_X2_told_11, t_X2_told_14, t_X2_told_15, t_X2_told_18, t_X2_told_19, t_X2_told_20, ↓reduceIte, ev_kr_1, ev_aG_y, ev_inA_0, and_true, true_and, not_true_eq_false, not_false_eq_true, ev_fG_0, ev_isO_0, ev_z2, ev_row_l0, ev_row_l1, nI_clamp, hp, h20, h1, w0]
      exact k
    · rw [if_neg w0] at k
      by_cases w1 : w = 1
      · rw [if_pos w1] at k
        simp (disch := omega) only [t_X2_told_5, t_X2_told_10, t_X2_told_11, t_X2_told_21, t_X2_told_22, t_X2_told_23, t_X2_told_26, t_X2_told_27, t_X2_told_30, t_X2_told_31, t_X2_told_32, ↓reduceIte, ev_kr_1, ev_aG_y, ev_inA_0, and_true, true_and, not_true_eq_false, not_false_eq_true, ev_fG_1, ev_isO_1, ev_z2, ev_row_l0, ev_row_l2, nI_clamp, hp, h20, h2, w1]
        exact k
      · rw [if_neg w1] at k
        simp (disch := omega) only [t_X2_told_5, t_X2_told_10, t_X2_told_11, t_X2_told_21, t_X2_told_22, t_X2_told_23, t_X2_told_33, t_X2_told_34, t_X2_told_37, t_X2_told_38, t_X2_told_39, t_X2_told_41, t_X2_told_42, t_X2_told_43, t_X2_told_46, t_X2_told_47, t_X2_told_48, t_X2_told_49, ↓reduceIte, ev_kr_1, ev_aG_y, ev_inA_0, and_true, true_and, not_false_eq_true, ev_fG_0, ev_fG_1, ev_isO_0, ev_isO_1, ev_z2, ev_row_l0, ev_row_l1, ev_row_l2, nI_clamp, hp, h20, h1, h2, w0, w1]
        exact k
  · rw [if_neg e] at k
    rw [if_neg e]
    simp (disch := omega) only [t_X2_told_5, t_X2_told_8, t_X2_told_9, ↓reduceIte, ev_kr_1, not_true_eq_false]
    exact k
end RL
end
section
/-! ===== a walk along a row ===== -/
def ev_bb (b : Bool) : Int32 := match b with
  | true => 1
  | false => 0
theorem ev_bb_t : ev_bb true = 1 := rfl
theorem ev_bb_f : ev_bb false = 0 := rfl
theorem ev_bb_B (b : Bool) : ev_isB (ev_bb b) := by
  cases b
  · exact ev_isB_0
  · exact ev_isB_1
theorem ev_b_d (p : Prop) [Decidable p] : ev_b p = ev_bb (decide p) := by
  unfold ev_b
  by_cases h : p
  · rw [if_pos h, decide_eq_true h]; rfl
  · rw [if_neg h, decide_eq_false h]; rfl
def ev_wkc (r : Nat) (bg old cd : Bool) (kd : Int32) (k : Nat) : ev_C := .inr (9, [.ref r, .int (ev_bb bg), .int (ev_bb old), .int (ev_bb cd), .int kd, .int (nI k)])
theorem ev_rL_up {h H : ev_M} {r : Nat} {L : ev_PL} {b m lm ll : Int32} (hH : ev_rL h r L b m lm ll H) {a : Nat} {c : ev_C} (h0 : ¬ a = r) (h1 : ¬ a = r + 1) (h2 : ¬ a = r + 2) : ev_rL (ev_up h a c) r L b m lm ll (ev_up H a c) := by
  obtain ⟨kf, vf, hR, rfl⟩ := hH
  refine ⟨kf, vf, hR, ?_⟩
  funext x
  unfold ev_up ev_row
  by_cases e : x = a
  · subst e
    simp only [if_true, if_neg h0, if_neg h1, if_neg h2]
  · simp only [if_neg e]
theorem ev_rL_o {h H : ev_M} {r : Nat} {L : ev_PL} {b m lm ll : Int32} (hH : ev_rL h r L b m lm ll H) {a : Nat} (h0 : ¬ a = r) (h1 : ¬ a = r + 1) (h2 : ¬ a = r + 2) : H a = h a := by
  obtain ⟨kf, vf, hR, rfl⟩ := hH
  exact ev_row_o h0 h1 h2
theorem ev_rL_self {h H : ev_M} {r : Nat} {L : ev_PL} {b m lm ll : Int32} (hH : ev_rL h r L b m lm ll H) : ev_rL H r L b m lm ll H := by
  obtain ⟨kf, vf, hR, rfl⟩ := hH
  exact ⟨kf, vf, hR, ev_row_row.symm⟩
section WK
variable {X : ev_E} {H : ev_M} {r w : Nat} {L : ev_PL} {b m lm ll : Int32} {bg old cd : Bool} {kd : Int32} {k : Nat} {n q : Nat} {P : ev_O → ev_M → Nat → Nat → Prop}
theorem W_isUsable (hw : H w = some (ev_wkc r bg old cd kd k)) (k1 : P (.inl (some (.int (ev_bb (bg && !old))))) H n q) : ev_ok (ev_TT X) 44 0 [.ref w] [] H n q P := by
  unfold ev_wkc at hw
  cases bg <;> cases old <;> (
    simp (disch := omega) only [t_X4_isUsable_0, t_X4_isUsable_1, t_X4_isUsable_4, t_X4_isUsable_7, t_X4_isUsable_8, t_X4_isUsable_11, t_X4_isUsable_14, t_X4_isUsable_15, t_X4_isUsable_18, t_X4_isUsable_19, ↓reduceIte, ev_nb_0, ev_nb_1, true_and, not_true_eq_false, not_false_eq_true, ev_fG_1, ev_fG_2, ev_isO_1, ev_isO_2, ev_z2, ev_lk_s hw, ev_bb_t, ev_bb_f]
    exact k1)
theorem W_isOutdated (hw : H w = some (ev_wkc r bg old cd kd k)) (k1 : P (.inl (some (.int (ev_bb (bg && old))))) H n q) : ev_ok (ev_TT X) 43 0 [.ref w] [] H n q P := by
  unfold ev_wkc at hw
  cases bg <;> cases old <;> (
    simp (disch := omega) only [t_X4_isOutdated_0, t_X4_isOutdated_1, t_X4_isOutdated_4, t_X4_isOutdated_7, t_X4_isOutdated_8, t_X4_isOutdated_11, t_X4_isOutdated_14, t_X4_isOutdated_15, t_X4_isOutdated_18, t_X4_isOutdated_19, ↓reduceIte, ev_nb_0, ev_nb_1, true_and, ev_fG_1, ev_fG_2, ev_isO_1, ev_isO_2, ev_z2, ev_lk_s hw, ev_bb_t, ev_bb_f]
    exact k1)
theorem W_outdate (hw : H w = some (ev_wkc r bg old cd kd k)) (k1 : P (.inl none) (ev_up H w (ev_wkc r bg true cd kd k)) n q) : ev_ok (ev_TT X) 45 0 [.ref w] [] H n q P := by
  unfold ev_wkc at hw k1
  simp (disch := omega) only [t_X4_outdate_0, t_X4_outdate_1, t_X4_outdate_2, t_X4_outdate_5, ev_ft_1, and_true, true_and, ev_fS_2, ev_isO_2, hw]
  exact k1
theorem W_begin (hw : H w = some (ev_wkc r bg old cd kd k)) {x : Int32} (k1 : P (.inl none) (ev_up H w (ev_wkc r true false false x 0)) n q) : ev_ok (ev_TT X) 41 0 [.ref w, .int x] [] H n q P := by
  unfold ev_wkc at hw k1
  simp (disch := omega) only [t_X4_begin_0, t_X4_begin_1, t_X4_begin_2, t_X4_begin_5, t_X4_begin_6, t_X4_begin_7, t_X4_begin_10, t_X4_begin_11, t_X4_begin_12, t_X4_begin_15, t_X4_begin_16, t_X4_begin_17, t_X4_begin_20, t_X4_begin_21, t_X4_begin_22, t_X4_begin_25, ev_ft_I, ev_ft_0, ev_ft_1, and_true, true_and, ev_fS_1, ev_fS_2, ev_fS_3, ev_fS_4, ev_fS_5, ev_isO_1, ev_isO_2, ev_isO_3, ev_isO_4, ev_isO_5, hw, ev_up_s, ev_up_up]
  exact k1
theorem W_canCut (hw : H w = some (ev_wkc r bg old cd kd k)) (k1 : P (.inl (some (.int (ev_bb (bg && !old && cd))))) H n q) : ev_ok (ev_TT X) 97 0 [.ref w] [] H n q P := by
  have hk : ev_isK (ev_lk X H w) 9 = True := by rw [ev_lk_s hw]; exact ev_isK_y
  simp (disch := omega) only [t_X4_canCut_0, t_X4_canCut_1, true_and, hk]
  refine W_isUsable hw ?_
  unfold ev_wkc at hw
  cases bg <;> cases old <;> cases cd <;> (
    simp (disch := omega) only [t_X4_canCut_4, t_X4_canCut_7, t_X4_canCut_8, t_X4_canCut_11, t_X4_canCut_14, t_X4_canCut_15, t_X4_canCut_18, t_X4_canCut_19, ↓reduceIte, ev_kr_1, ev_nb_0, ev_nb_1, true_and, ev_fG_3, ev_isO_3, ev_z2, ev_lk_s hw, ev_bb_t, ev_bb_f, Bool.and_true, Bool.and_false, Bool.not_true, Bool.not_false]
    exact k1)
theorem W_isAnyAhead (hw : H w = some (ev_wkc r bg old cd kd k)) (hH : ev_rL H r L b m lm ll H) (hc : L.length ≤ 20) (hk : k < 2 ^ 31) (k1 : P (.inl (some (.int (ev_bb (bg && !old && decide (k < L.length)))))) H n q) : ev_ok (ev_TT X) 98 0 [.ref w] [] H n q P := by
  have hk9 : ev_isK (ev_lk X H w) 9 = True := by rw [ev_lk_s hw]; exact ev_isK_y
  simp (disch := omega) only [t_X4_isAnyAhead_0, t_X4_isAnyAhead_1, true_and, hk9]
  refine W_isUsable hw ?_
  have hr := ev_rL_k (X := X) hH
  have hw2 := hw
  unfold ev_wkc at hw
  have hd : decide (0 ≤ nI k ∧ nI k < nI L.length) = decide (k < L.length) := by
    have : (0 ≤ nI k ∧ nI k < nI L.length) ↔ k < L.length := by
      rw [nI_ltI hk (by omega)]
      exact ⟨fun z => z.2, fun z => ⟨nI_pos' hk, z⟩⟩
    by_cases e : k < L.length
    · rw [decide_eq_true e, decide_eq_true (this.mpr e)]
    · rw [decide_eq_false e, decide_eq_false (fun z => e (this.mp z))]
  cases bg <;> cases old <;> (
    simp (disch := omega) only [t_X4_isAnyAhead_4, t_X4_isAnyAhead_7, t_X4_isAnyAhead_8, t_X4_isAnyAhead_11, t_X4_isAnyAhead_12, t_X4_isAnyAhead_15, t_X4_isAnyAhead_25, t_X4_isAnyAhead_26, ↓reduceIte, ev_kr_1, ev_nb_0, true_and, ev_fG_0, ev_fG_5, ev_isO_0, ev_isO_5, ev_z2, ev_lk_s hw, ev_bb_t, ev_bb_f, hr, Bool.and_true, Bool.and_false, Bool.not_true, Bool.not_false]
    first
      | exact k1
      | (refine R_isPlace hH hc ?_
         rw [ev_b_d, hd]
         rcases hb : decide (k < L.length) <;> (
           rw [hb] at k1
           simp (disch := omega) only [t_X4_isAnyAhead_18, t_X4_isAnyAhead_21, t_X4_isAnyAhead_22, t_X4_isAnyAhead_25, t_X4_isAnyAhead_26, ↓reduceIte, ev_kr_1, ev_nb_0, ev_nb_1, true_and, ev_z2, ev_bb_t, ev_bb_f]
           exact k1)))
theorem W_advance (hw : H w = some (ev_wkc r bg old cd kd k)) (hH : ev_rL H r L b m lm ll H) (hc : L.length ≤ 20) (k1 : P (.inl (some (.int (pr_told L (nI k) kd)))) (ev_up H w (ev_wkc r bg old true kd (k + 1))) n q) : ev_ok (ev_TT X) 144 0 [.ref w, ev_J] [] H n q P := by
  have hr := ev_rL_k (X := X) hH
  unfold ev_wkc at hw k1
  simp (disch := omega) only [t_X4_advance_0, t_X4_advance_1, t_X4_advance_4, t_X4_advance_5, t_X4_advance_8, t_X4_advance_9, t_X4_advance_12, true_and, ev_fG_0, ev_fG_4, ev_fG_5, ev_isO_0, ev_isO_4, ev_isO_5, ev_lk_s hw, hr]
  refine R_told hH hc ?_
  simp (disch := omega) only [t_X4_advance_15, t_X4_advance_16, t_X4_advance_17, t_X4_advance_18, t_X4_advance_21, t_X4_advance_22, t_X4_advance_23, t_X4_advance_26, t_X4_advance_27, t_X4_advance_28, t_X4_advance_31, t_X4_advance_32, ev_k_r, ev_kr_1, ev_ft_I, ev_ft_1, and_true, true_and, nI_1, ev_fG_5, ev_fS_3, ev_fS_5, ev_isO_3, ev_isO_5, ev_lk_s hw, hw, ev_up_s, ev_up_up]
  exact k1
noncomputable def pr_acc (L : ev_PL) (kd : Int32) : Nat → Nat → Int32 → Int32
  | 0, _, s => s
  | d + 1, k, s => pr_acc L kd d (k + 1) (s + pr_told L (nI k) kd)
theorem W_toEnd_loop (a : Nat) (ha : a ≤ 20) (h0 : ¬ w = r) (h1 : ¬ w = r + 1) (h2 : ¬ w = r + 2) (hc : L.length ≤ 20) : ∀ (d i k : Nat) (cd : Bool) (s : Int32) (H : ev_M) (P : ev_O → ev_M → Nat → Nat → Prop), i + d = a → H w = some (ev_wkc r bg old cd kd k) → ev_rL H r L b m lm ll H →
    P (.inl (some (.int (pr_acc L kd d k s)))) (ev_up H w (ev_wkc r bg old (cd || decide (0 < d)) kd (k + d))) n q → ev_ok (ev_TT X) 197 17 [.ref w, .int (nI a), .int s, .int (nI i)] [] H n q P := by
  intro d
  induction d with
  | zero =>
    intro i k cd s H P hi hw hH k1
    have hi2 : a ≤ i := by omega
    simp (disch := omega) only [t_X4_advanceToEnd_17, t_X4_advanceToEnd_18, t_X4_advanceToEnd_19, t_X4_advanceToEnd_35, t_X4_advanceToEnd_36, ↓reduceIte, nI_leI, hi2]
    rw [ev_up_t (by rw [hw, decide_eq_false (by omega), Bool.or_false]; rfl)] at k1
    exact k1
  | succ d ih =>
    intro i k cd s H P hi hw hH k1
    have hi2 : ¬ a ≤ i := by omega
    have hw2 : ev_isK (ev_lk X H w) 9 = True := by rw [ev_lk_s hw]; exact ev_isK_y
    simp (disch := omega) only [t_X4_advanceToEnd_17, t_X4_advanceToEnd_18, t_X4_advanceToEnd_19, t_X4_advanceToEnd_22, t_X4_advanceToEnd_23, t_X4_advanceToEnd_24, ↓reduceIte, true_and, nI_leI, hi2, hw2]
    refine W_advance hw hH hc ?_
    simp (disch := omega) only [t_X4_advanceToEnd_27, t_X4_advanceToEnd_28, t_X4_advanceToEnd_29, t_X4_advanceToEnd_32, ev_k_i, ev_kr_1, nI_1]
    refine ih (i + 1) (k + 1) true _ _ P (by omega) ev_up_s (ev_rL_up hH h0 h1 h2) ?_
    rw [ev_up_up]
    rw [decide_eq_true (show 0 < d + 1 by omega), Bool.or_true] at k1
    rw [Bool.true_or, show k + 1 + d = k + (d + 1) by omega]
    rw [pr_acc] at k1
    exact k1
theorem W_toEnd (hw : H w = some (ev_wkc r bg old cd kd k)) (hH : ev_rL H r L b m lm ll H) (hc : L.length ≤ 20) (hk : k ≤ L.length) (h0 : ¬ w = r) (h1 : ¬ w = r + 1) (h2 : ¬ w = r + 2) (k1 : P (.inl (some (.int (pr_acc L kd (L.length - k) k 0)))) (ev_up H w (ev_wkc r bg old (cd || decide (0 < L.length - k)) kd L.length)) n q) : ev_ok (ev_TT X) 197 0 [.ref w, ev_J, ev_J, ev_J] [] H n q P := by
  have hw2 := hw
  have hx := (ev_rL_b (X := X) hH).2.1
  unfold ev_wkc at hw
  simp (disch := omega) only [t_X4_advanceToEnd_0, t_X4_advanceToEnd_1, t_X4_advanceToEnd_4, t_X4_advanceToEnd_7, t_X4_advanceToEnd_8, t_X4_advanceToEnd_11, t_X4_advanceToEnd_12, t_X4_advanceToEnd_13, t_X4_advanceToEnd_14, t_X4_advanceToEnd_15, t_X4_advanceToEnd_16, ev_k_i, ev_k_r, true_and, ev_fG_0, ev_fG_5, ev_isO_0, ev_isO_5, ev_lk_s hw, hx.1, hx.2, pk_sub hk]
  rw [← nI_0]
  refine W_toEnd_loop (L.length - k) (by omega) h0 h1 h2 hc (L.length - k) 0 k cd _ H P (by omega) hw2 hH ?_
  rw [nI_0, show k + (L.length - k) = L.length by omega]
  exact k1
theorem W_cutLast (hw : H w = some (ev_wkc r bg old cd kd (k + 1))) (hH : ev_rL H r L b m lm ll H) (hc : L.length ≤ 20) (hk : k < L.length) (h0 : ¬ w = r) (h1 : ¬ w = r + 1) (h2 : ¬ w = r + 2) (k1 : ∀ H1, ev_rL (ev_up H w (ev_wkc r bg old false kd k)) r (L.eraseIdx k) b m lm ll H1 → P (.inl none) H1 n q) : ev_ok (ev_TT X) 145 0 [.ref w] [] H n q P := by
  have hr := ev_rL_k (X := X) (ev_rL_up hH (c := ev_wkc r bg old false kd k) h0 h1 h2)
  have hU := ev_rL_up hH (c := ev_wkc r bg old false kd k) h0 h1 h2
  unfold ev_wkc at hw k1 hr hU
  rw [ev_bb_f] at k1 hr hU
  simp (disch := omega) only [t_X4_cutLast_0, t_X4_cutLast_1, t_X4_cutLast_2, t_X4_cutLast_5, t_X4_cutLast_6, t_X4_cutLast_7, t_X4_cutLast_10, t_X4_cutLast_11, t_X4_cutLast_12, t_X4_cutLast_15, t_X4_cutLast_16, t_X4_cutLast_19, t_X4_cutLast_20, t_X4_cutLast_23, ev_ft_I, ev_ft_0, and_true, true_and, ev_fG_0, ev_fG_5, ev_fS_3, ev_fS_5, ev_isO_0, ev_isO_3, ev_isO_5, ev_lk_s hw, hw, ev_up_s, ev_up_up, ev_lk_s ev_up_s, nI_pred, hr]
  refine R_dropAt hU hc hk fun H1 hH1 => ?_
  simp (disch := omega) only [t_X4_cutLast_26, ev_kr_0]
  exact k1 H1 hH1
end WK
end
section
/-! ===== the askings of the class ===== -/
def ev_ask (h : ev_M) (a : Nat) (ka de ne hk hn : Nat → Int32) (c : Nat) : ev_M := fun x => if x = a then some (.inr (5, [.ref (a + 1), .ref (a + 2), .ref (a + 3), .ref (a + 4), .ref (a + 5), .int (nI c)])) else if x = a + 1 then some (.inl (0, 60, fun i => .int (ka i))) else if x = a + 2 then some (.inl (0, 60, fun i => .int (de i))) else if x = a + 3 then some (.inl (0, 60, fun i => .int (ne i))) else if x = a + 4 then some (.inl (0, 6, fun i => .int (hk i))) else if x = a + 5 then some (.inl (0, 6, fun i => .int (hn i))) else h x
section AK
variable {X : ev_E} {h : ev_M} {a : Nat} {ka de ne hk hn : Nat → Int32} {c : Nat} {n q : Nat} {P : ev_O → ev_M → Nat → Nat → Prop}
theorem ev_ask_0 : ev_ask h a ka de ne hk hn c a = some (.inr (5, [.ref (a + 1), .ref (a + 2), .ref (a + 3), .ref (a + 4), .ref (a + 5), .int (nI c)])) := if_pos rfl
theorem ev_ask_l0 : ev_lk X (ev_ask h a ka de ne hk hn c) a = some (.inr (5, [.ref (a + 1), .ref (a + 2), .ref (a + 3), .ref (a + 4), .ref (a + 5), .int (nI c)])) := ev_lk_s ev_ask_0
theorem ev_ask_1 : ev_ask h a ka de ne hk hn c (a + 1) = some (.inl (0, 60, fun i => .int (ka i))) := (if_neg (by omega)).trans (if_pos rfl)
theorem ev_ask_l1 : ev_lk X (ev_ask h a ka de ne hk hn c) (a + 1) = some (.inl (0, 60, fun i => .int (ka i))) := ev_lk_s ev_ask_1
theorem ev_ask_2 : ev_ask h a ka de ne hk hn c (a + 2) = some (.inl (0, 60, fun i => .int (de i))) := (if_neg (by omega)).trans ((if_neg (by omega)).trans (if_pos rfl))
theorem ev_ask_l2 : ev_lk X (ev_ask h a ka de ne hk hn c) (a + 2) = some (.inl (0, 60, fun i => .int (de i))) := ev_lk_s ev_ask_2
theorem ev_ask_3 : ev_ask h a ka de ne hk hn c (a + 3) = some (.inl (0, 60, fun i => .int (ne i))) := (if_neg (by omega)).trans ((if_neg (by omega)).trans ((if_neg (by omega)).trans (if_pos rfl)))
theorem ev_ask_l3 : ev_lk X (ev_ask h a ka de ne hk hn c) (a + 3) = some (.inl (0, 60, fun i => .int (ne i))) := ev_lk_s ev_ask_3
theorem ev_ask_4 : ev_ask h a ka de ne hk hn c (a + 4) = some (.inl (0, 6, fun i => .int (hk i))) := (if_neg (by omega)).trans ((if_neg (by omega)).trans ((if_neg (by omega)).trans ((if_neg (by omega)).trans (if_pos rfl))))
theorem ev_ask_l4 : ev_lk X (ev_ask h a ka de ne hk hn c) (a + 4) = some (.inl (0, 6, fun i => .int (hk i))) := ev_lk_s ev_ask_4
theorem ev_ask_5 : ev_ask h a ka de ne hk hn c (a + 5) = some (.inl (0, 6, fun i => .int (hn i))) := (if_neg (by omega)).trans ((if_neg (by omega)).trans ((if_neg (by omega)).trans ((if_neg (by omega)).trans ((if_neg (by omega)).trans (if_pos rfl)))))
theorem ev_ask_l5 : ev_lk X (ev_ask h a ka de ne hk hn c) (a + 5) = some (.inl (0, 6, fun i => .int (hn i))) := ev_lk_s ev_ask_5
theorem ev_ask_o {x : Nat} (e : x < a ∨ a + 6 ≤ x) : ev_ask h a ka de ne hk hn c x = h x := (if_neg (by omega)).trans ((if_neg (by omega)).trans ((if_neg (by omega)).trans ((if_neg (by omega)).trans ((if_neg (by omega)).trans (if_neg (by omega))))))
theorem ev_ask_u0 {c' : Nat} : ev_up (ev_ask h a ka de ne hk hn c) a (.inr (5, [.ref (a + 1), .ref (a + 2), .ref (a + 3), .ref (a + 4), .ref (a + 5), .int (nI c')])) = (ev_ask h a ka de ne hk hn c') := by
  funext x
  unfold ev_up ev_ask
  split <;> rfl
theorem ev_ask_u1 {j : Nat} {v : Int32} : ev_up (ev_ask h a ka de ne hk hn c) (a + 1) (.inl (0, 60, updV (fun i => .int (ka i)) j (.int v))) = (ev_ask h a (ev_fu ka j v) de ne hk hn c) := by
  rw [ev_updI]
  funext x
  unfold ev_up ev_ask ev_fu
  by_cases e : x = a + 1
  · rw [if_pos e, if_neg (show ¬ x = a by omega), if_pos e]
  · simp only [if_neg e]
theorem ev_ask_u2 {j : Nat} {v : Int32} : ev_up (ev_ask h a ka de ne hk hn c) (a + 2) (.inl (0, 60, updV (fun i => .int (de i)) j (.int v))) = (ev_ask h a ka (ev_fu de j v) ne hk hn c) := by
  rw [ev_updI]
  funext x
  unfold ev_up ev_ask ev_fu
  by_cases e : x = a + 2
  · rw [if_pos e, if_neg (show ¬ x = a by omega), if_neg (show ¬ x = a + 1 by omega), if_pos e]
  · simp only [if_neg e]
theorem ev_ask_u3 {j : Nat} {v : Int32} : ev_up (ev_ask h a ka de ne hk hn c) (a + 3) (.inl (0, 60, updV (fun i => .int (ne i)) j (.int v))) = (ev_ask h a ka de (ev_fu ne j v) hk hn c) := by
  rw [ev_updI]
  funext x
  unfold ev_up ev_ask ev_fu
  by_cases e : x = a + 3
  · rw [if_pos e, if_neg (show ¬ x = a by omega), if_neg (show ¬ x = a + 1 by omega), if_neg (show ¬ x = a + 2 by omega), if_pos e]
  · simp only [if_neg e]
theorem ev_ask_u4 {j : Nat} {v : Int32} : ev_up (ev_ask h a ka de ne hk hn c) (a + 4) (.inl (0, 6, updV (fun i => .int (hk i)) j (.int v))) = (ev_ask h a ka de ne (ev_fu hk j v) hn c) := by
  rw [ev_updI]
  funext x
  unfold ev_up ev_ask ev_fu
  by_cases e : x = a + 4
  · rw [if_pos e, if_neg (show ¬ x = a by omega), if_neg (show ¬ x = a + 1 by omega), if_neg (show ¬ x = a + 2 by omega), if_neg (show ¬ x = a + 3 by omega), if_pos e]
  · simp only [if_neg e]
theorem ev_ask_u5 {j : Nat} {v : Int32} : ev_up (ev_ask h a ka de ne hk hn c) (a + 5) (.inl (0, 6, updV (fun i => .int (hn i)) j (.int v))) = (ev_ask h a ka de ne hk (ev_fu hn j v) c) := by
  rw [ev_updI]
  funext x
  unfold ev_up ev_ask ev_fu
  by_cases e : x = a + 5
  · rw [if_pos e, if_neg (show ¬ x = a by omega), if_neg (show ¬ x = a + 1 by omega), if_neg (show ¬ x = a + 2 by omega), if_neg (show ¬ x = a + 3 by omega), if_neg (show ¬ x = a + 4 by omega), if_pos e]
  · simp only [if_neg e]
theorem ev_ask_ask {ka' de' ne' hk' hn' : Nat → Int32} {c' : Nat} : ev_ask (ev_ask h a ka de ne hk hn c) a ka' de' ne' hk' hn' c' = ev_ask h a ka' de' ne' hk' hn' c' := by
  funext x
  by_cases e : x < a ∨ a + 6 ≤ x
  · rw [ev_ask_o e, ev_ask_o e, ev_ask_o e]
  · have hx : x = a ∨ x = a + 1 ∨ x = a + 2 ∨ x = a + 3 ∨ x = a + 4 ∨ x = a + 5 := by omega
    rcases hx with rfl | rfl | rfl | rfl | rfl | rfl
    · rw [ev_ask_0, ev_ask_0]
    · rw [ev_ask_1, ev_ask_1]
    · rw [ev_ask_2, ev_ask_2]
    · rw [ev_ask_3, ev_ask_3]
    · rw [ev_ask_4, ev_ask_4]
    · rw [ev_ask_5, ev_ask_5]
theorem ev_ask_t (e0 : h a = some (.inr (5, [.ref (a + 1), .ref (a + 2), .ref (a + 3), .ref (a + 4), .ref (a + 5), .int (nI c)]))) (e1 : h (a + 1) = some (.inl (0, 60, fun i => .int (ka i)))) (e2 : h (a + 2) = some (.inl (0, 60, fun i => .int (de i)))) (e3 : h (a + 3) = some (.inl (0, 60, fun i => .int (ne i)))) (e4 : h (a + 4) = some (.inl (0, 6, fun i => .int (hk i)))) (e5 : h (a + 5) = some (.inl (0, 6, fun i => .int (hn i)))) : ev_ask h a ka de ne hk hn c = h := by
  funext x
  by_cases e : x < a ∨ a + 6 ≤ x
  · rw [ev_ask_o e]
  · have hx : x = a ∨ x = a + 1 ∨ x = a + 2 ∨ x = a + 3 ∨ x = a + 4 ∨ x = a + 5 := by omega
    rcases hx with rfl | rfl | rfl | rfl | rfl | rfl
    · rw [ev_ask_0, e0]
    · rw [ev_ask_1, e1]
    · rw [ev_ask_2, e2]
    · rw [ev_ask_3, e3]
    · rw [ev_ask_4, e4]
    · rw [ev_ask_5, e5]
theorem r_min {x y : Int32} {H : ev_M} : ev_ok (ev_TT X) 17 0 [.int x, .int y] [] H n q P ↔ P (.inl (some (.int (if y < x then y else x)))) H n q := by
  simp only [t_J9_min_7cf53_0, t_J9_min_7cf53_1, t_J9_min_7cf53_2, t_J9_min_7cf53_5, t_J9_min_7cf53_6, t_J9_min_7cf53_9, t_J9_min_7cf53_10]
  split <;> rfl
theorem r_max {x y : Int32} {H : ev_M} : ev_ok (ev_TT X) 16 0 [.int x, .int y] [] H n q P ↔ P (.inl (some (.int (if x < y then y else x)))) H n q := by
  simp only [t_J9_max_7cf53_0, t_J9_max_7cf53_1, t_J9_max_7cf53_2, t_J9_max_7cf53_5, t_J9_max_7cf53_6, t_J9_max_7cf53_9, t_J9_max_7cf53_10]
  split <;> rfl
theorem A_isNum (hc : c ≤ 60) {x : Int32} (k : P (.inl (some (.int (ev_b (0 ≤ x ∧ x < nI c))))) (ev_ask h a ka de ne hk hn c) n q) : ev_ok (ev_TT X) 32 0 [.ref a, .int x] [] (ev_ask h a ka de ne hk hn c) n q P := by
  simp only [t_X0_isNumber_0, t_X0_isNumber_1, t_X0_isNumber_4, t_X0_isNumber_5, t_X0_isNumber_6, t_X0_isNumber_9, t_X0_isNumber_12, t_X0_isNumber_13, t_X0_isNumber_16, t_X0_isNumber_17, ev_nb_0, ev_nb_1, true_and, ev_fG_5, ev_isO_5, ev_ask_l0]
  unfold ev_b at k
  by_cases h0 : x < 0
  · rw [if_neg (fun z => Int32.not_le.mpr h0 z.1)] at k
    simp only [if_pos h0]
    exact k
  · by_cases h1 : nI c ≤ x
    · rw [if_neg (fun z => Int32.not_le.mpr z.2 h1)] at k
      simp only [if_neg h0, if_pos h1]
      exact k
    · rw [if_pos ⟨Int32.not_lt.mp h0, Int32.not_le.mp h1⟩] at k
      simp only [if_neg h0, if_neg h1]
      exact k
def pr_cnt (f : Nat → Int32) (p : Int32 → Bool) : Nat → Nat → Int32 → Int32
  | 0, _, s => s
  | d + 1, i, s => pr_cnt f p d (i + 1) (if p (f i) = true then s + 1 else s)
theorem A_cntD (hc : c ≤ 60) {x : Int32} (k : P (.inl (some (.int (pr_cnt de (fun y => decide (y = x)) c 0 0)))) (ev_ask h a ka de ne hk hn c) n q) : ev_ok (ev_TT X) 27 0 [.ref a, .int x, ev_J, ev_J] [] (ev_ask h a ka de ne hk hn c) n q P := by
  have key : ∀ d i s, i + d = c → P (.inl (some (.int (pr_cnt de (fun y => decide (y = x)) d i s)))) (ev_ask h a ka de ne hk hn c) n q → ev_ok (ev_TT X) 27 4 [.ref a, .int x, .int s, .int (nI i)] [] (ev_ask h a ka de ne hk hn c) n q P := by
    intro d
    induction d with
    | zero =>
      intro i s hi k
      have hi2 : c ≤ i := by omega
      simp (disch := omega) only [t_X0_countOfDepth_4, t_X0_countOfDepth_5, t_X0_countOfDepth_6, t_X0_countOfDepth_9, t_X0_countOfDepth_31, t_X0_countOfDepth_32, ↓reduceIte, true_and, ev_fG_5, ev_isO_5, ev_ask_l0, nI_leI, hi2]
      exact k
    | succ d ih =>
      intro i s hi k
      have hi2 : ¬ c ≤ i := by omega
      have hp := nI_pos' (n := i) (by omega)
      have h60 : i < 60 := by omega
      have hI := ih (i + 1) (if decide ((de i) = x) = true then s + 1 else s) (by omega) k
      by_cases e : de i = x
      · rw [decide_eq_true e, if_pos rfl] at hI
        simp (disch := omega) only [t_X0_countOfDepth_4]
        simp (disch := omega) only [t_X0_countOfDepth_5, t_X0_countOfDepth_6, t_X0_countOfDepth_9, t_X0_countOfDepth_12, t_X0_countOfDepth_13, t_X0_countOfDepth_16, t_X0_countOfDepth_17, t_X0_countOfDepth_18, t_X0_countOfDepth_19, t_X0_countOfDepth_22, t_X0_countOfDepth_25, t_X0_countOfDepth_28, ↓reduceIte, ev_k_i, ev_aG_y, ev_inA_0, and_true, true_and, not_true_eq_false, nI_1, ev_fG_1, ev_fG_5, ev_isO_1, ev_isO_5, ev_ask_l0, ev_ask_l2, nI_leI, hi2, nI_clamp, hp, h60, e]
        exact hI
      · rw [decide_eq_false e, if_neg Bool.false_ne_true] at hI
        simp (disch := omega) only [t_X0_countOfDepth_4]
        simp (disch := omega) only [t_X0_countOfDepth_5, t_X0_countOfDepth_6, t_X0_countOfDepth_9, t_X0_countOfDepth_12, t_X0_countOfDepth_13, t_X0_countOfDepth_16, t_X0_countOfDepth_17, t_X0_countOfDepth_18, t_X0_countOfDepth_19, t_X0_countOfDepth_25, t_X0_countOfDepth_28, ↓reduceIte, ev_k_i, ev_aG_y, ev_inA_0, and_true, true_and, not_false_eq_true, nI_1, ev_fG_1, ev_fG_5, ev_isO_1, ev_isO_5, ev_ask_l0, ev_ask_l2, nI_leI, hi2, nI_clamp, hp, h60, e]
        exact hI
  have h0 := key c 0 0 (by omega) k
  rw [nI_0] at h0
  simp (disch := omega) only [t_X0_countOfDepth_0, t_X0_countOfDepth_1, t_X0_countOfDepth_2, t_X0_countOfDepth_3, ev_k_i]
  exact h0
theorem A_cntO (hc : c ≤ 60) {x : Int32} (k : P (.inl (some (.int (pr_cnt de (fun y => decide (y = 0 ∨ x < y)) c 0 0)))) (ev_ask h a ka de ne hk hn c) n q) : ev_ok (ev_TT X) 28 0 [.ref a, .int x, ev_J, ev_J] [] (ev_ask h a ka de ne hk hn c) n q P := by
  have key : ∀ d i s, i + d = c → P (.inl (some (.int (pr_cnt de (fun y => decide (y = 0 ∨ x < y)) d i s)))) (ev_ask h a ka de ne hk hn c) n q → ev_ok (ev_TT X) 28 4 [.ref a, .int x, .int s, .int (nI i)] [] (ev_ask h a ka de ne hk hn c) n q P := by
    intro d
    induction d with
    | zero =>
      intro i s hi k
      have hi2 : c ≤ i := by omega
      simp (disch := omega) only [t_X0_countOutOfReach_4, t_X0_countOutOfReach_5, t_X0_countOutOfReach_6, t_X0_countOutOfReach_9, t_X0_countOutOfReach_40, t_X0_countOutOfReach_41, ↓reduceIte, true_and, ev_fG_5, ev_isO_5, ev_ask_l0, nI_leI, hi2]
      exact k
    | succ d ih =>
      intro i s hi k
      have hi2 : ¬ c ≤ i := by omega
      have hp := nI_pos' (n := i) (by omega)
      have h60 : i < 60 := by omega
      have hI := ih (i + 1) (if decide ((de i) = 0 ∨ x < (de i)) = true then s + 1 else s) (by omega) k
      by_cases e : de i = 0
      · rw [decide_eq_true (Or.inl e), if_pos rfl] at hI
        simp (disch := omega) only [t_X0_countOutOfReach_4]
        simp (disch := omega) only [t_X0_countOutOfReach_5, t_X0_countOutOfReach_6, t_X0_countOutOfReach_9, t_X0_countOutOfReach_12, t_X0_countOutOfReach_13, t_X0_countOutOfReach_16, t_X0_countOutOfReach_17, t_X0_countOutOfReach_18, t_X0_countOutOfReach_31, t_X0_countOutOfReach_34, t_X0_countOutOfReach_37, ↓reduceIte, ev_k_i, ev_aG_y, ev_inA_0, and_true, true_and, nI_1, ev_fG_1, ev_fG_5, ev_isO_1, ev_isO_5, ev_ask_l0, ev_ask_l2, nI_leI, hi2, nI_clamp, hp, h60, e]
        exact hI
      · by_cases e2 : x < de i
        · rw [decide_eq_true (Or.inr e2), if_pos rfl] at hI
          have e3 : ¬ de i ≤ x := Int32.not_le.mpr e2
          simp (disch := omega) only [t_X0_countOutOfReach_4]
          simp (disch := omega) only [t_X0_countOutOfReach_5, t_X0_countOutOfReach_6, t_X0_countOutOfReach_9, t_X0_countOutOfReach_12, t_X0_countOutOfReach_13, t_X0_countOutOfReach_16, t_X0_countOutOfReach_17, t_X0_countOutOfReach_18, t_X0_countOutOfReach_21, t_X0_countOutOfReach_22, t_X0_countOutOfReach_25, t_X0_countOutOfReach_26, t_X0_countOutOfReach_27, t_X0_countOutOfReach_28, t_X0_countOutOfReach_31, t_X0_countOutOfReach_34, t_X0_countOutOfReach_37, ↓reduceIte, ev_k_i, ev_aG_y, ev_inA_0, and_true, true_and, nI_1, ev_fG_1, ev_fG_5, ev_isO_1, ev_isO_5, ev_ask_l0, ev_ask_l2, nI_leI, hi2, nI_clamp, hp, h60, e, e3]
          exact hI
        · rw [decide_eq_false (fun z => z.elim e e2), if_neg Bool.false_ne_true] at hI
          have e3 : de i ≤ x := Int32.not_lt.mp e2
          simp (disch := omega) only [t_X0_countOutOfReach_4]
          simp (disch := omega) only [t_X0_countOutOfReach_5, t_X0_countOutOfReach_6, t_X0_countOutOfReach_9, t_X0_countOutOfReach_12, t_X0_countOutOfReach_13, t_X0_countOutOfReach_16, t_X0_countOutOfReach_17, t_X0_countOutOfReach_18, t_X0_countOutOfReach_21, t_X0_countOutOfReach_22, t_X0_countOutOfReach_25, t_X0_countOutOfReach_26, t_X0_countOutOfReach_27, t_X0_countOutOfReach_28, t_X0_countOutOfReach_34, t_X0_countOutOfReach_37, ↓reduceIte, ev_k_i, ev_aG_y, ev_inA_0, and_true, true_and, nI_1, ev_fG_1, ev_fG_5, ev_isO_1, ev_isO_5, ev_ask_l0, ev_ask_l2, nI_leI, hi2, nI_clamp, hp, h60, e, e3]
          exact hI
  have h0 := key c 0 0 (by omega) k
  rw [nI_0] at h0
  simp (disch := omega) only [t_X0_countOutOfReach_0, t_X0_countOutOfReach_1, t_X0_countOutOfReach_2, t_X0_countOutOfReach_3, ev_k_i]
  exact h0
theorem ev_sub1 {x : Int32} : x + (-1) = x - 1 := (Int32.sub_eq_add_neg x 1).symm
theorem ev_neg1 : (((0 : Int32) - 1) < 0) = True := eq_true (by decide)
def nt (ka ne : Nat → Int32) (x v : Int32) : Nat → (Nat → Int32)
  | 0 => ne
  | i + 1 => if ka i = x then ev_fu ne i v else nt ka ne x v i
theorem nt_n {ka ne : Nat → Int32} {x v : Int32} {z : Nat} : ∀ p, (z < p ∧ ka z = x ∧ ∀ y, z < y → y < p → ¬ ka y = x) ∧ nt ka ne x v p z = v ∨ ¬ (z < p ∧ ka z = x ∧ ∀ y, z < y → y < p → ¬ ka y = x) ∧ nt ka ne x v p z = ne z := by
  intro p
  induction p with
  | zero => exact Or.inr ⟨fun h => absurd h.1 (Nat.not_lt_zero z), rfl⟩
  | succ p ih =>
    by_cases e : ka p = x
    · have h1 : nt ka ne x v (p + 1) = ev_fu ne p v := if_pos e
      rw [h1]
      by_cases hz : z = p
      · subst hz
        exact Or.inl ⟨⟨Nat.lt_succ_self z, e, fun y h1 h2 => by omega⟩, if_pos rfl⟩
      · refine Or.inr ⟨fun h => ?_, if_neg hz⟩
        exact h.2.2 p (by have := h.1; omega) (Nat.lt_succ_self p) e
    · have h1 : nt ka ne x v (p + 1) = nt ka ne x v p := if_neg e
      rw [h1]
      have hiff : (z < p + 1 ∧ ka z = x ∧ ∀ y, z < y → y < p + 1 → ¬ ka y = x) ↔ (z < p ∧ ka z = x ∧ ∀ y, z < y → y < p → ¬ ka y = x) := by
        constructor
        · intro h
          refine ⟨Nat.lt_of_le_of_ne (by omega) (fun w => e (w ▸ h.2.1)), h.2.1, fun y h1 h2 => h.2.2 y h1 (by omega)⟩
        · intro h
          refine ⟨by omega, h.2.1, fun y h1 h2 => ?_⟩
          by_cases hy : y = p
          · rw [hy]; exact e
          · exact h.2.2 y h1 (by omega)
      rw [hiff]
      exact ih
def okN (ka ne : Nat → Int32) (c : Nat) : Prop := ∀ i, i < c → ∃ k, ne i = nI k ∧ ((i < k ∧ k < c ∧ ka k = ka i ∧ ∀ z, i < z → z < k → ¬ ka z = ka i) ∨ (k = 60 ∧ ∀ z, i < z → z < c → ¬ ka z = ka i))
theorem okN_0 {ka ne : Nat → Int32} : okN ka ne 0 := fun i hi => absurd hi (Nat.not_lt_zero i)
theorem okN_add {ka ne : Nat → Int32} {c : Nat} {x : Int32} (h : okN ka ne c) (hc : c < 60) : okN (ev_fu ka c x) (ev_fu (nt ka ne x (nI c) c) c (nI 60)) (c + 1) := by
  intro i hi
  have hka : ∀ z, z < c → ev_fu ka c x z = ka z := fun z hz => if_neg (by omega)
  have hkc : ev_fu ka c x c = x := if_pos rfl
  by_cases e : i = c
  · subst e
    exact ⟨60, if_pos rfl, Or.inr ⟨rfl, fun z h1 h2 => by omega⟩⟩
  · have hic : i < c := by omega
    have hne : ev_fu (nt ka ne x (nI c) c) c (nI 60) i = nt ka ne x (nI c) c i := if_neg e
    rw [hne, hka i hic]
    obtain ⟨k, hk, hh⟩ := h i hic
    rcases nt_n (ka := ka) (ne := ne) (x := x) (v := nI c) (z := i) c with ⟨⟨a1, a2, a3⟩, a4⟩ | ⟨a1, a2⟩
    · refine ⟨c, a4, Or.inl ⟨hic, Nat.lt_succ_self c, by rw [hkc]; exact a2.symm, fun z h1 h2 => ?_⟩⟩
      rw [hka z h2, a2]
      exact a3 z h1 h2
    · refine ⟨k, by rw [a2]; exact hk, ?_⟩
      rcases hh with ⟨b1, b2, b3, b4⟩ | ⟨b1, b2⟩
      · refine Or.inl ⟨b1, by omega, by rw [hka k b2]; exact b3, fun z h1 h2 => by rw [hka z (by omega)]; exact b4 z h1 h2⟩
      · refine Or.inr ⟨b1, fun z h1 h2 => ?_⟩
        by_cases hz : z = c
        · rw [hz, hkc]
          intro w
          exact a1 ⟨hic, w.symm, fun y y1 y2 => by rw [w]; exact b2 y y1 y2⟩
        · rw [hka z (by omega)]
          exact b2 z h1 (by omega)
theorem A_note (hc : c ≤ 60) {x : Int32} (k : P (.inl none) (ev_ask h a ka de (nt ka ne x (nI c) c) hk hn c) n q) : ev_ok (ev_TT X) 33 0 [.ref a, .int x, ev_J] [] (ev_ask h a ka de ne hk hn c) n q P := by
  have key : ∀ i, i ≤ c → P (.inl none) (ev_ask h a ka de (nt ka ne x (nI c) i) hk hn c) n q → ev_ok (ev_TT X) 33 7 [.ref a, .int x, .int (nI i - 1)] [] (ev_ask h a ka de ne hk hn c) n q P := by
    intro i
    induction i with
    | zero =>
      intro _ kk
      rw [nI_0]
      simp (disch := omega) only [t_X0_noteNext_7, t_X0_noteNext_8, t_X0_noteNext_38, ↓reduceIte, ev_neg1]
      exact kk
    | succ i ih =>
      intro hi kk
      have hp := nI_pos' (n := i) (by omega)
      have hp2 := nI_pos (n := i) (by omega)
      have h60 : i < 60 := by omega
      rw [nI_pred]
      by_cases e : ka i = x
      · have e9 : nt ka ne x (nI c) (i + 1) = ev_fu ne i (nI c) := if_pos e
        rw [e9] at kk
        simp (disch := omega) only [t_X0_noteNext_7, t_X0_noteNext_8, t_X0_noteNext_11, t_X0_noteNext_12, t_X0_noteNext_15, t_X0_noteNext_16, t_X0_noteNext_17, t_X0_noteNext_18, t_X0_noteNext_21, t_X0_noteNext_22, t_X0_noteNext_25, t_X0_noteNext_26, t_X0_noteNext_27, t_X0_noteNext_30, t_X0_noteNext_31, ↓reduceIte, ev_aG_y, ev_aS_y, ev_inA_0, and_true, true_and, not_true_eq_false, ev_fG_0, ev_fG_2, ev_fG_5, ev_isO_0, ev_isO_2, ev_isO_5, ev_ask_3, ev_ask_l0, ev_ask_l1, ev_ask_u3, nI_clamp, hp, hp2, h60, e]
        exact kk
      · have e9 : nt ka ne x (nI c) (i + 1) = nt ka ne x (nI c) i := if_neg e
        rw [e9] at kk
        have hI := ih (by omega) kk
        simp (disch := omega) only [t_X0_noteNext_7]
        simp (disch := omega) only [t_X0_noteNext_8, t_X0_noteNext_11, t_X0_noteNext_12, t_X0_noteNext_15, t_X0_noteNext_16, t_X0_noteNext_17, t_X0_noteNext_18, t_X0_noteNext_32, t_X0_noteNext_35, ↓reduceIte, ev_k_i, ev_aG_y, ev_inA_0, and_true, true_and, not_false_eq_true, ev_fG_0, ev_isO_0, ev_ask_l0, ev_ask_l1, nI_clamp, hp, hp2, h60, e, ev_sub1]
        exact hI
  have h0 := key c (Nat.le_refl c) k
  simp (disch := omega) only [t_X0_noteNext_0, t_X0_noteNext_1, t_X0_noteNext_4, t_X0_noteNext_5, t_X0_noteNext_6, ev_k_i, true_and, ev_fG_5, ev_isO_5, ev_ask_l0]
  exact h0
theorem nI_60 : (60 : Int32) = nI 60 := rfl
theorem A_add (hc : c < 60) {x y : Int32} (k : P (.inl none) (ev_ask h a (ev_fu ka c x) (ev_fu de c y) (ev_fu (nt ka ne x (nI c) c) c (nI 60)) hk hn (c + 1)) n q) : ev_ok (ev_TT X) 88 0 [.ref a, .int x, .int y] [] (ev_ask h a ka de ne hk hn c) n q P := by
  have hp := nI_pos' (n := c) (by omega)
  simp (disch := omega) only [t_X0_add_0, t_X0_add_1, t_X0_add_4, t_X0_add_6, t_X0_add_10, t_X0_add_11, t_X0_add_12, ↓reduceIte, ev_isK_y, true_and, ev_fG_5, ev_isO_5, ev_ask_l0, nI_60, nI_ltI, hc]
  refine A_note (by omega) ?_
  simp (disch := omega) only [t_X0_add_15, t_X0_add_16, t_X0_add_19, t_X0_add_20, t_X0_add_23, t_X0_add_24, t_X0_add_25, t_X0_add_26, t_X0_add_29, t_X0_add_30, t_X0_add_33, t_X0_add_34, t_X0_add_35, t_X0_add_36, t_X0_add_39, t_X0_add_40, t_X0_add_43, t_X0_add_45, t_X0_add_46, t_X0_add_47, t_X0_add_48, t_X0_add_51, t_X0_add_52, t_X0_add_53, t_X0_add_56, ev_kr_0, ev_aS_y, ev_inA_0, ev_ft_I, and_true, true_and, nI_1, ev_fG_0, ev_fG_1, ev_fG_2, ev_fG_5, ev_fS_5, ev_isO_0, ev_isO_1, ev_isO_2, ev_isO_5, ev_ask_0, ev_ask_1, ev_ask_2, ev_ask_3, ev_ask_l0, ev_ask_u0, ev_ask_u1, ev_ask_u2, ev_ask_u3, nI_clamp, hp, hc]
  first | exact k | (rw [nI_60]; exact k)
theorem A_held {e : Nat} (he : e ≤ 6) {x : Int32} (k0 : (∀ j, j < e → ¬ hk j = x) → P (.inl (some (.int (-1)))) (ev_ask h a ka de ne hk hn c) n q) (k1 : ∀ j, j < e → hk j = x → P (.inl (some (.int (nI j)))) (ev_ask h a ka de ne hk hn c) n q) : ev_ok (ev_TT X) 30 0 [.ref a, .int x, .int (nI e), ev_J] [] (ev_ask h a ka de ne hk hn c) n q P := by
  have key : ∀ d i, i + d = e → (∀ j, j < i → ¬ hk j = x) → ev_ok (ev_TT X) 30 2 [.ref a, .int x, .int (nI e), .int (nI i)] [] (ev_ask h a ka de ne hk hn c) n q P := by
    intro d
    induction d with
    | zero =>
      intro i hi hno
      have hi2 : e ≤ i := by omega
      simp (disch := omega) only [t_X0_heldPlace_2, t_X0_heldPlace_3, t_X0_heldPlace_4, t_X0_heldPlace_25, t_X0_heldPlace_26, ↓reduceIte, nI_leI, hi2]
      exact k0 (fun j hj => hno j (by omega))
    | succ d ih =>
      intro i hi hno
      have hi2 : ¬ e ≤ i := by omega
      have hp := nI_pos' (n := i) (by omega)
      have h6 : i < 6 := by omega
      by_cases hx : hk i = x
      · simp (disch := omega) only [t_X0_heldPlace_2, t_X0_heldPlace_3, t_X0_heldPlace_4, t_X0_heldPlace_7, t_X0_heldPlace_8, t_X0_heldPlace_11, t_X0_heldPlace_12, t_X0_heldPlace_13, t_X0_heldPlace_14, t_X0_heldPlace_17, t_X0_heldPlace_18, ↓reduceIte, ev_aG_y, ev_inA_0, and_true, true_and, not_true_eq_false, ev_fG_3, ev_isO_3, ev_ask_l0, ev_ask_l4, nI_leI, hi2, nI_clamp, hp, h6, hx]
        exact k1 i (by omega) hx
      · simp (disch := omega) only [t_X0_heldPlace_2, t_X0_heldPlace_3]
        simp (disch := omega) only [t_X0_heldPlace_4, t_X0_heldPlace_7, t_X0_heldPlace_8, t_X0_heldPlace_11, t_X0_heldPlace_12, t_X0_heldPlace_13, t_X0_heldPlace_14, t_X0_heldPlace_19, t_X0_heldPlace_22, ↓reduceIte, ev_k_i, ev_aG_y, ev_inA_0, and_true, true_and, not_false_eq_true, nI_1, ev_fG_3, ev_isO_3, ev_ask_l0, ev_ask_l4, nI_leI, hi2, nI_clamp, hp, h6, hx]
        exact ih (i + 1) (by omega) (fun j hj => by
          by_cases hj2 : j = i
          · rw [hj2]; exact hx
          · exact hno j (by omega))
  have h0 := key e 0 (by omega) (fun j hj => absurd hj (Nat.not_lt_zero j))
  rw [nI_0] at h0
  simp (disch := omega) only [t_X0_heldPlace_0, t_X0_heldPlace_1, ev_k_i]
  exact h0
theorem A_far {e : Nat} (he : e ≤ 6) (he1 : 1 ≤ e) (k : ∀ j, j < e → (∀ z, z < e → hn z ≤ hn j) → P (.inl (some (.int (nI j)))) (ev_ask h a ka de ne hk hn c) n q) : ev_ok (ev_TT X) 29 0 [.ref a, .int (nI e), ev_J, ev_J] [] (ev_ask h a ka de ne hk hn c) n q P := by
  have key : ∀ d i f, i + d = e → f < i → (∀ z, z < i → hn z ≤ hn f) → ev_ok (ev_TT X) 29 4 [.ref a, .int (nI e), .int (nI f), .int (nI i)] [] (ev_ask h a ka de ne hk hn c) n q P := by
    intro d
    induction d with
    | zero =>
      intro i f hi hf hm
      have hi2 : e ≤ i := by omega
      simp (disch := omega) only [t_X0_farthestPlace_4, t_X0_farthestPlace_5, t_X0_farthestPlace_6, t_X0_farthestPlace_32, t_X0_farthestPlace_33, ↓reduceIte, nI_leI, hi2]
      exact k f (by omega) (fun z hz => hm z (by omega))
    | succ d ih =>
      intro i f hi hf hm
      have hi2 : ¬ e ≤ i := by omega
      have hp := nI_pos' (n := i) (by omega)
      have hpf := nI_pos' (n := f) (by omega)
      have h6 : i < 6 := by omega
      have hf6 : f < 6 := by omega
      simp (disch := omega) only [t_X0_farthestPlace_4, t_X0_farthestPlace_5, t_X0_farthestPlace_6, nI_leI, hi2, if_false]
      simp (disch := omega) only [t_X0_farthestPlace_9, t_X0_farthestPlace_10, t_X0_farthestPlace_13, t_X0_farthestPlace_14, t_X0_farthestPlace_15, t_X0_farthestPlace_16, t_X0_farthestPlace_19, t_X0_farthestPlace_20, t_X0_farthestPlace_21, t_X0_farthestPlace_24, t_X0_farthestPlace_25, t_X0_farthestPlace_26, t_X0_farthestPlace_29, ev_k_i, ev_aG_y, ev_inA_0, and_true, true_and, nI_1, ev_fG_4, ev_isO_4, ev_ask_l0, ev_ask_l5, nI_clamp, hp, hpf, h6, hf6]
      split
      · rename_i hle
        exact ih (i + 1) f (by omega) (by omega) (fun z hz => by
          by_cases hz2 : z = i
          · rw [hz2]; exact hle
          · exact hm z (by omega))
      · rename_i hle
        exact ih (i + 1) i (by omega) (by omega) (fun z hz => by
          by_cases hz2 : z = i
          · rw [hz2]; exact Int32.le_refl _
          · exact Int32.le_trans (hm z (by omega)) (Int32.le_of_lt (Int32.not_le.mp hle)))
  have h0 := key (e - 1) 1 0 (by omega) (by omega) (fun z hz => by rw [show z = 0 from by omega]; exact Int32.le_refl _)
  rw [nI_0, show nI 1 = 1 from rfl] at h0
  simp (disch := omega) only [t_X0_farthestPlace_0, t_X0_farthestPlace_1, t_X0_farthestPlace_2, t_X0_farthestPlace_3, ev_k_i]
  exact h0
end AK
end
section
/-! ===== a keeper; a table with its walk ===== -/
def ev_kec (r : Nat) (ms ht : Int32) : ev_C := .inr (6, [.ref r, .int ms, .int ht])
def ev_tbc (r : Nat) : ev_C := .inr (8, [.ref r, .ref (r + 3)])
theorem pr_fetchIn_01 {L : ev_PL} {b m lm ll x v : Int32} : (pr_fetchIn L b m lm ll x v).1 = 0 ∨ (pr_fetchIn L b m lm ll x v).1 = 1 := by
  unfold pr_fetchIn
  rcases pf_find L x with _ | j
  · exact Or.inl rfl
  · exact Or.inr rfl
section KE
variable {X : ev_E} {H : ev_M} {w r : Nat} {L : ev_PL} {b m lm ll ms ht : Int32} {n q : Nat} {P : ev_O → ev_M → Nat → Nat → Prop}
theorem C_anew (hw : H w = some (ev_kec r ms ht)) (hH : ev_rL H r L b m lm ll H) (h0 : ¬ w = r) (h1 : ¬ w = r + 1) (h2 : ¬ w = r + 2) (hc : L.length ≤ 20) (k : ∀ H1, ev_rL (ev_up H w (ev_kec r 0 0)) r [] 1 m 0 (-1) H1 → P (.inl none) H1 n q) : ev_ok (ev_TT X) 139 0 [.ref w] [] H n q P := by
  have hm := (ev_rL_b (X := X) hH).2.2.1
  have hr := ev_rL_k (X := X) hH
  unfold ev_kec at hw k
  simp (disch := omega) only [t_X1_startAnew_0, t_X1_startAnew_1, t_X1_startAnew_4, t_X1_startAnew_5, t_X1_startAnew_6, t_X1_startAnew_9, t_X1_startAnew_12, true_and, ev_fG_0, ev_isO_0, ev_lk_s hw, hm.1, hm.2, hr]
  refine R_renew hH ev_isB_1 fun H1 hH1 => ?_
  have hw1 : H1 w = _ := (ev_rL_o hH1 h0 h1 h2).trans hw
  simp (disch := omega) only [t_X1_startAnew_15_i, t_X1_startAnew_16, t_X1_startAnew_17, t_X1_startAnew_18, t_X1_startAnew_21, t_X1_startAnew_22, t_X1_startAnew_23, t_X1_startAnew_26, ev_kr_1, ev_ft_I, and_true, true_and, ev_fS_1, ev_fS_2, ev_isO_1, ev_isO_2, hw1, ev_up_s, ev_up_up]
  exact k _ (ev_rL_up hH1 h0 h1 h2)
theorem C_meet (hw : H w = some (ev_kec r ms ht)) (hH : ev_rL H r L b m lm ll H) (h0 : ¬ w = r) (h1 : ¬ w = r + 1) (h2 : ¬ w = r + 2) (hb : ev_isB b) (hc : L.length ≤ 20) {x v : Int32} (hn : pf_find L x = none → L.length < 20)
    (k : ∀ H1, ev_rL (ev_up H w (ev_kec r (if (pr_fetchIn L b m lm ll x v).1 = 0 then ms + 1 else ms) (if (pr_fetchIn L b m lm ll x v).1 = 0 then ht else ht + 1))) r (pr_fetchIn L b m lm ll x v).2.1 b m (pr_fetchIn L b m lm ll x v).2.2.1 (pr_fetchIn L b m lm ll x v).2.2.2 H1 → P (.inl (some (.int (pr_fetchIn L b m lm ll x v).1))) H1 n q) : ev_ok (ev_TT X) 224 0 [.ref w, .int x, .int v, ev_J] [] H n q P := by
  have hr := ev_rL_k (X := X) hH
  unfold ev_kec at hw k
  simp (disch := omega) only [t_X1_meet_0, t_X1_meet_1, t_X1_meet_4, t_X1_meet_5, t_X1_meet_6, true_and, ev_fG_0, ev_isO_0, ev_lk_s hw, hr]
  refine R_fetchIn hH hb hc hn fun H1 hH1 => ?_
  have hw1 : H1 w = _ := (ev_rL_o hH1 h0 h1 h2).trans hw
  rcases pr_fetchIn_01 (L := L) (b := b) (m := m) (lm := lm) (ll := ll) (x := x) (v := v) with e | e
  · rw [e] at k ⊢
    rw [if_pos rfl, if_pos rfl] at k
    simp (disch := omega) only [t_X1_meet_9, t_X1_meet_10, t_X1_meet_11, t_X1_meet_27, t_X1_meet_28, t_X1_meet_29, t_X1_meet_32, t_X1_meet_33, t_X1_meet_34, t_X1_meet_37, t_X1_meet_38, ↓reduceIte, ev_k_i, ev_kr_1, ev_ft_I, ev_nb_0, and_true, true_and, ev_fG_1, ev_fS_1, ev_isO_1, hw1, ev_lk_s hw1]
    exact k _ (ev_rL_up hH1 h0 h1 h2)
  · rw [e] at k ⊢
    rw [if_neg (by decide), if_neg (by decide)] at k
    simp (disch := omega) only [t_X1_meet_9, t_X1_meet_10, t_X1_meet_11, t_X1_meet_14, t_X1_meet_15, t_X1_meet_16, t_X1_meet_19, t_X1_meet_20, t_X1_meet_21, t_X1_meet_24, t_X1_meet_37, t_X1_meet_38, ↓reduceIte, ev_k_i, ev_kr_1, ev_ft_I, ev_nb_1, and_true, true_and, ev_fG_2, ev_fS_2, ev_isO_2, ev_z2, hw1, ev_lk_s hw1]
    exact k _ (ev_rL_up hH1 h0 h1 h2)
end KE
end
section
/-! ===== the list of the JDK ===== -/
def ev_alc (mc : Int32) (e k : Nat) : ev_C := .inr (4, [.int mc, .ref e, .int (nI k)])
def ev_LF (f : Nat → Value) (L : List Value) : Prop := ∀ (i : Nat) (v : Value), L[i]? = some v → f i = v
theorem ev_ofN {k : Nat} : Int32.ofNat k = nI k := rfl
theorem ev_aC_y {kd N : Nat} {f g : Nat → Value} : ev_aC (some (.inl (kd, N, f))) g = .inl (kd, N, g) := rfl
theorem ev_aF_y {kd N : Nat} {f : Nat → Value} : ev_aF (some (.inl (kd, N, f))) = f := rfl
/-- what a list's array holds: the empty one of the JDK, or one of its own -/
def ev_AE (X : ev_E) (H : ev_M) (e : Nat) (L : List Value) : Prop := (∀ v ∈ L, ev_el X H v) ∧ ((H e = none ∧ e = X.2.2.2.2.2 1 ∧ (∃ g, X.2.2.2.2.1 e = some (.inl (10, 0, g))) ∧ L = []) ∨ ∃ (N : Nat) (f : Nat → Value), H e = some (.inl (2, N, f)) ∧ L.length ≤ N ∧ 10 ≤ N ∧ N ≤ 90 ∧ ev_LF f L)
def ev_AL (X : ev_E) (H : ev_M) (l : Nat) (L : List Value) : Prop := ∃ (mc : Int32) (e : Nat), H l = some (ev_alc mc e L.length) ∧ ev_AE X H e L
theorem ev_LF_app {f : Nat → Value} {L : List Value} (h : ev_LF f L) (v : Value) : ev_LF (updV f L.length v) (L ++ [v]) := by
  intro i x hx
  unfold updV
  by_cases e : i = L.length
  · subst e
    rw [List.getElem?_append_right (Nat.le_refl _), Nat.sub_self] at hx
    cases hx
    rw [if_pos rfl]
  · rw [if_neg e]
    by_cases e2 : i < L.length
    · rw [List.getElem?_append_left e2] at hx
      exact h i x hx
    · rw [List.getElem?_append_right (by omega)] at hx
      have := (List.getElem?_eq_some_iff.mp hx).1
      simp only [List.length_cons, List.length_nil] at this
      omega
theorem ev_LF_del {f : Nat → Value} {L : List Value} (h : ev_LF f L) {j : Nat} (hj : j < L.length) (v : Value) : ev_LF (updV (va_cpy f f (j + 1) j (L.length - 1 - j)) (L.length - 1) v) (L.eraseIdx j) := by
  intro i x hx
  have hi := (List.getElem?_eq_some_iff.mp hx).1
  rw [List.length_eraseIdx, if_pos hj] at hi
  rw [List.getElem?_eraseIdx] at hx
  unfold updV va_cpy
  rw [if_neg (by omega)]
  by_cases e : i < j
  · rw [if_pos e] at hx
    rw [if_neg (by omega)]
    exact h i x hx
  · rw [if_neg e] at hx
    rw [if_pos (by omega), show j + 1 + (i - j) = i + 1 by omega]
    exact h (i + 1) x hx
theorem ev_LF_last {f : Nat → Value} {L : List Value} (h : ev_LF f L) {j : Nat} (hj : j + 1 = L.length) (v : Value) : ev_LF (updV f j v) (L.eraseIdx j) := by
  intro i x hx
  have hi := (List.getElem?_eq_some_iff.mp hx).1
  rw [List.length_eraseIdx, if_pos (by omega)] at hi
  rw [List.getElem?_eraseIdx, if_pos (by omega)] at hx
  unfold updV
  rw [if_neg (by omega)]
  exact h i x hx
theorem ev_LF_cpy {f g : Nat → Value} {L : List Value} (h : ev_LF f L) : ev_LF (va_cpy f g 0 0 L.length) L := by
  intro i x hx
  have hi := (List.getElem?_eq_some_iff.mp hx).1
  unfold va_cpy
  rw [if_pos (by omega), show 0 + (i - 0) = i by omega]
  exact h i x hx
section LS
variable {X : ev_E} {H : ev_M} {l e : Nat} {L : List Value} {mc : Int32} {n q : Nat} {P : ev_O → ev_M → Nat → Nat → Prop}
theorem r_chk {i : Int32} {k : Nat} (h0 : ¬ i < 0) (h1 : i < nI k) : ev_ok (ev_TT X) 75 0 [.int i, .int (nI k)] [] H n q P ↔ P (.inl (some (.int i))) H n q := by
  simp (disch := omega) only [t_J15_checkIndex_7cf53_0, t_J15_checkIndex_7cf53_1, t_J15_checkIndex_7cf53_2, t_J15_checkIndex_7cf53_6, t_J3_checkIndex_8e157_0, t_J3_checkIndex_8e157_1, t_J3_checkIndex_8e157_4, t_J3_checkIndex_8e157_5, t_J3_checkIndex_8e157_6, t_J3_checkIndex_8e157_16, t_J3_checkIndex_8e157_17, ↓reduceIte, ev_kr_1, t_J15_checkIndex_7cf53_3_n, h0, h1]
theorem L_size (hl : H l = some (ev_alc mc e L.length)) (k : P (.inl (some (.int (nI L.length)))) H n q) : ev_ok (ev_TT X) 24 0 [.ref l] [] H n q P := by
  unfold ev_alc at hl
  simp (disch := omega) only [t_Jx4a65c_size_8abf5_0, t_Jx4a65c_size_8abf5_1, t_Jx4a65c_size_8abf5_4, true_and, ev_fG_2, ev_isO_2, ev_lk_s hl]
  exact k
theorem L_get (hl : H l = some (ev_alc mc e L.length)) (hA : ev_AE X H e L) (hL : L.length < 100) {j y : Nat} (hj : L[j]? = some (.ref y)) (k : P (.inl (some (.ref y))) H n q) : ev_ok (ev_TT X) 128 0 [.ref l, .int (nI j)] [] H n q P := by
  unfold ev_alc at hl
  have hj2 := (List.getElem?_eq_some_iff.mp hj).1
  have h0 := nI_pos (n := j) (by omega)
  have h1 : nI j < nI L.length := nI_lt hj2 (by omega)
  rcases hA.2 with ⟨-, -, -, rfl⟩ | ⟨N, f, he, hN, -, -, hf⟩
  · simp at hj2
  · have hp := nI_pos' (n := j) (by omega)
    have hfj := hf j _ hj
    have hjN : j < N := by omega
    simp (disch := omega) only [t_Jx4a65c_get_915e3_0, t_Jx4a65c_get_915e3_1, t_Jx4a65c_get_915e3_2, t_Jx4a65c_get_915e3_5, t_Jx4a65c_get_915e3_8_i, t_Jx4a65c_get_915e3_9, t_Jx4a65c_get_915e3_10, t_Jx4a65c_get_915e3_11, t_Jx4a65c_get_915e3_14, t_Jx4a65c_elementData_915e3_0, t_Jx4a65c_elementData_915e3_1, t_Jx4a65c_elementData_915e3_4, t_Jx4a65c_elementData_915e3_5, t_Jx4a65c_elementData_915e3_6, ev_kr_1, ev_isK_y, ev_aG_y, and_true, true_and, ev_fG_1, ev_fG_2, ev_isO_1, ev_isO_2, ev_lk_s hl, r_chk h0 h1, ev_lk_s he, ev_inA_2, nI_clamp, hp, hfj, hjN]
    exact k
theorem L_init {f0 f1 f2 : Value} (hl : H l = some (.inr (4, [f0, f1, f2]))) (k : P (.inl none) (ev_up H l (.inr (4, [.int 0, .ref (X.2.2.2.2.2 1), f2]))) n q) : ev_ok (ev_TT X) 129 0 [.ref l] [] H n q P := by
  simp (disch := omega) only [t_Jx4a65c_init_da8c8_0, t_Jx4a65c_init_da8c8_1, t_Jx4a65c_init_da8c8_4, t_Jx4a65c_init_da8c8_5, t_Jx4a65c_init_da8c8_8, t_Jx4a65c_init_da8c8_11, t_Jxc12de_init_da8c8_0, t_Jxc12de_init_da8c8_1, t_Jxc12de_init_da8c8_4, t_Jxc12de_init_da8c8_5, t_Jxc12de_init_da8c8_6, t_Jxc12de_init_da8c8_9, t_Jxa1e45_init_da8c8_0, t_Jxa1e45_init_da8c8_1, t_Jxa1e45_init_da8c8_4, ev_kr_0, ev_ft_I, ev_ft_a, and_true, true_and, ev_fS_0, ev_fS_1, ev_isO_0, ev_isO_1, hl, ev_up_s, ev_up_up]
  exact k
theorem ev_el_up {h : ev_M} {a kd N : Nat} {f g : Nat → Value} {v : Value} (hk : h a = some (.inl (kd, N, f))) (he : ev_el X h v) : ev_el X (ev_up h a (.inl (kd, N, g))) v := by
  rcases he with rfl | ⟨y, rfl, ⟨M, F, hy⟩ | ⟨ci, r, h1, h2, fs, h3⟩⟩
  · exact Or.inl rfl
  · refine Or.inr ⟨y, rfl, Or.inl ?_⟩
    unfold ev_up
    by_cases e1 : y = a
    · rw [if_pos e1]
      rw [e1, hk] at hy
      cases hy
      exact ⟨N, g, rfl⟩
    · rw [if_neg e1]
      exact ⟨M, F, hy⟩
  · refine Or.inr ⟨y, rfl, Or.inr ⟨ci, r, h1, h2, fs, ?_⟩⟩
    unfold ev_lk ev_up at *
    by_cases e1 : y = a
    · rw [e1, hk] at h3
      cases h3
    · rw [if_neg e1]
      exact h3
theorem ev_el_upO {h : ev_M} {a ci : Nat} {fs gs : List Value} {v : Value} (hk : h a = some (.inr (ci, fs))) (he : ev_el X h v) : ev_el X (ev_up h a (.inr (ci, gs))) v := by
  rcases he with rfl | ⟨y, rfl, ⟨M, F, hy⟩ | ⟨cj, r, h1, h2, fs', h3⟩⟩
  · exact Or.inl rfl
  · refine Or.inr ⟨y, rfl, Or.inl ?_⟩
    unfold ev_up
    by_cases e1 : y = a
    · rw [e1, hk] at hy
      cases hy
    · rw [if_neg e1]
      exact ⟨M, F, hy⟩
  · refine Or.inr ⟨y, rfl, Or.inr ⟨cj, r, h1, h2, ?_⟩⟩
    unfold ev_lk ev_up at *
    by_cases e1 : y = a
    · rw [e1, hk] at h3
      cases h3
      rw [if_pos e1]
      exact ⟨gs, rfl⟩
    · rw [if_neg e1]
      exact ⟨fs', h3⟩
theorem L_fastRemove (hl : H l = some (ev_alc mc e L.length)) {N : Nat} {f : Nat → Value} (he : H e = some (.inl (2, N, f))) (hle : ¬ l = e) (hN : L.length ≤ N) (hN9 : N ≤ 90) (hf : ev_LF f L) (hel : ∀ v ∈ L, ev_el X H v) {j : Nat} (hj : j < L.length)
    (k : ∀ mc' g, ev_LF g (L.eraseIdx j) → P (.inl none) (ev_up (ev_up H l (ev_alc mc' e (L.eraseIdx j).length)) e (.inl (2, N, g))) n q) : ev_ok (ev_TT X) 23 0 [.ref l, .ref e, .int (nI j), ev_J] [] H n q P := by
  have hlen : (L.eraseIdx j).length = L.length - 1 := by rw [List.length_eraseIdx, if_pos hj]
  obtain ⟨c, hc⟩ : ∃ c, L.length = c + 1 := ⟨L.length - 1, by omega⟩
  unfold ev_alc at hl k
  rw [hc] at hl
  have hp1 := nI_pos' (n := j) (by omega)
  have hp2 := nI_pos' (n := j + 1) (by omega)
  have hle' : ¬ e = l := fun z => hle z.symm
  have hpc := nI_pos' (n := c) (by omega)
  by_cases hlast : c ≤ j
  · have hnul : ev_el X (ev_up (ev_up H l (.inr (4, [.int (mc + 1), .ref e, .int (nI c)]))) e (.inl (2, N, f))) .null := Or.inl rfl
    have hjc : j = c := by omega
    have hG := ev_LF_last hf (j := j) (by omega) .null
    have hk := k (mc + 1) _ hG
    rw [hlen, hc, hjc, show c + 1 - 1 = c by omega] at hk
    simp (disch := omega) only [t_Jx4a65c_fastRemove_b59b0_0, t_Jx4a65c_fastRemove_b59b0_1, t_Jx4a65c_fastRemove_b59b0_2, t_Jx4a65c_fastRemove_b59b0_5, t_Jx4a65c_fastRemove_b59b0_6, t_Jx4a65c_fastRemove_b59b0_7, t_Jx4a65c_fastRemove_b59b0_10, t_Jx4a65c_fastRemove_b59b0_11, t_Jx4a65c_fastRemove_b59b0_14, t_Jx4a65c_fastRemove_b59b0_15, t_Jx4a65c_fastRemove_b59b0_16_i, t_Jx4a65c_fastRemove_b59b0_17, t_Jx4a65c_fastRemove_b59b0_18, t_Jx4a65c_fastRemove_b59b0_19, t_Jx4a65c_fastRemove_b59b0_34, t_Jx4a65c_fastRemove_b59b0_35, t_Jx4a65c_fastRemove_b59b0_36, t_Jx4a65c_fastRemove_b59b0_37, t_Jx4a65c_fastRemove_b59b0_38, t_Jx4a65c_fastRemove_b59b0_41, t_Jx4a65c_fastRemove_b59b0_42, t_Jx4a65c_fastRemove_b59b0_43, ↓reduceIte, ev_k_i, ev_aS_y, ev_ft_I, and_true, true_and, ev_fG_0, ev_fG_2, ev_fS_0, ev_fS_2, ev_isO_0, ev_isO_2, ev_lk_s hl, hl, ev_up_s, ev_up_up, ev_lk_s ev_up_s, nI_pred, nI_leI, ev_up_n hle', he, nI_clamp, hlast]
    exact ⟨⟨⟨N, f, rfl, fun z => z.elim (nI_pos (by omega)) (fun z => by omega)⟩, Or.inl rfl⟩, hk⟩
  · have hpd : c - j < 2 ^ 31 := by omega
    have hkk := k (mc + 1) _ (ev_LF_del hf hj .null)
    rw [hlen, hc, show c + 1 - 1 = c by omega] at hkk
    have hcl1 := nI_clamp (n := c - j) (by omega)
    have hcl2 := nI_clamp (n := j) (by omega)
    have hcl3 := nI_clamp (n := j + 1) (by omega)
    simp (disch := omega) only [t_Jx4a65c_fastRemove_b59b0_0, t_Jx4a65c_fastRemove_b59b0_1, t_Jx4a65c_fastRemove_b59b0_2, t_Jx4a65c_fastRemove_b59b0_5, t_Jx4a65c_fastRemove_b59b0_6, t_Jx4a65c_fastRemove_b59b0_7, t_Jx4a65c_fastRemove_b59b0_10, t_Jx4a65c_fastRemove_b59b0_11, t_Jx4a65c_fastRemove_b59b0_14, t_Jx4a65c_fastRemove_b59b0_15, t_Jx4a65c_fastRemove_b59b0_16_i, t_Jx4a65c_fastRemove_b59b0_17, t_Jx4a65c_fastRemove_b59b0_18, t_Jx4a65c_fastRemove_b59b0_19, t_Jx4a65c_fastRemove_b59b0_22, t_Jx4a65c_fastRemove_b59b0_23, t_Jx4a65c_fastRemove_b59b0_24, t_Jx4a65c_fastRemove_b59b0_25, t_Jx4a65c_fastRemove_b59b0_26, t_Jx4a65c_fastRemove_b59b0_27, t_Jx4a65c_fastRemove_b59b0_28, t_Jx4a65c_fastRemove_b59b0_29, t_Jx4a65c_fastRemove_b59b0_30, ↓reduceIte, ev_k_i, ev_ft_I, and_true, true_and, nI_1, ev_fG_0, ev_fG_2, ev_fS_0, ev_isO_0, ev_isO_2, ev_lk_s hl, hl, ev_lk_s ev_up_s, nI_pred, nI_leI, pk_sub, hlast]
    refine t_Jx4a65c_fastRemove_b59b0_31.mpr ⟨⟨nI_pos' (by omega), hp1, hp2, by decide, ⟨2, N, f, ev_lk_s ((ev_up_n hle').trans he), by decide, rfl, by rw [hcl1, hcl3]; omega, fun i hi => ?_⟩, 2, N, f, (ev_up_n hle').trans he, by decide, rfl, by rw [hcl1, hcl2]; omega⟩, ?_⟩
    · rw [hcl1] at hi
      rw [hcl3]
      have hx : L[j + 1 + i]? = some (L[j + 1 + i]'(by omega)) := List.getElem?_eq_getElem (by omega)
      rw [hf _ _ hx]
      exact ev_el_upO hl (hel _ (List.getElem_mem _))
    rw [hcl1, hcl2, hcl3, ev_lk_s ((ev_up_n hle').trans he), (ev_up_n hle').trans he]
    simp (disch := omega) only [t_Jx4a65c_fastRemove_b59b0_34, t_Jx4a65c_fastRemove_b59b0_35, t_Jx4a65c_fastRemove_b59b0_36, t_Jx4a65c_fastRemove_b59b0_37, t_Jx4a65c_fastRemove_b59b0_38, t_Jx4a65c_fastRemove_b59b0_41, t_Jx4a65c_fastRemove_b59b0_42, t_Jx4a65c_fastRemove_b59b0_43, ev_aS_y, ev_ft_I, and_true, true_and, ev_fS_2, ev_isO_2, ev_up_s, ev_up_up, ev_up_n hle, ev_aC_y, ev_aF_y, nI_clamp, ev_up_c hle]
    exact ⟨⟨⟨N, _, rfl, fun z => z.elim (nI_pos (by omega)) (fun z => by omega)⟩, Or.inl rfl⟩, hkk⟩
end LS
end
section
/-! ===== the list of the JDK: taking out, putting in, clearing ===== -/
/-- the list at l, its array at e -/
def ev_AT (X : ev_E) (H : ev_M) (l e : Nat) (L : List Value) : Prop := ∃ mc : Int32, H l = some (ev_alc mc e L.length) ∧ ev_AE X H e L
theorem ev_AT_ne {X : ev_E} {H : ev_M} {l e : Nat} {L : List Value} (h : ev_AT X H l e L) : ¬ l = e := by
  obtain ⟨mc, h1, -, h2⟩ := h
  rintro rfl
  rcases h2 with ⟨h3, -⟩ | ⟨N, f, h3, -⟩
  · rw [h3] at h1; cases h1
  · rw [h3] at h1; cases h1
section LT
variable {X : ev_E} {H : ev_M} {l e : Nat} {L : List Value} {mc : Int32} {n q : Nat} {P : ev_O → ev_M → Nat → Nat → Prop}
theorem L_remove (hA : ev_AT X H l e L) (hL : L.length < 90) {j y : Nat} (hj : L[j]? = some (.ref y))
    (k : ∀ H1, ev_AT X H1 l e (L.eraseIdx j) → (∀ a, ¬ a = l → ¬ a = e → H1 a = H a) → P (.inl (some (.ref y))) H1 n q) : ev_ok (ev_TT X) 130 0 [.ref l, .int (nI j), ev_J, ev_J] [] H n q P := by
  have hle := ev_AT_ne hA
  obtain ⟨mc, hl, hel, hA⟩ := hA
  have hj2 := (List.getElem?_eq_some_iff.mp hj).1
  have h0 := nI_pos (n := j) (by omega)
  have h1 : nI j < nI L.length := nI_lt hj2 (by omega)
  rcases hA with ⟨-, -, -, rfl⟩ | ⟨N, f, he, hN, hN1, hN9, hf⟩
  · simp at hj2
  · have hp := nI_pos' (n := j) (by omega)
    have hfj := hf j _ hj
    have hjN : j < N := by omega
    have hl2 := hl
    unfold ev_alc at hl2
    simp (disch := omega) only [t_Jx4a65c_remove_915e3_0, t_Jx4a65c_remove_915e3_1, t_Jx4a65c_remove_915e3_2, t_Jx4a65c_remove_915e3_5, t_Jx4a65c_remove_915e3_8_i, t_Jx4a65c_remove_915e3_9, t_Jx4a65c_remove_915e3_10, t_Jx4a65c_remove_915e3_13, t_Jx4a65c_remove_915e3_14, t_Jx4a65c_remove_915e3_15, t_Jx4a65c_remove_915e3_16, t_Jx4a65c_remove_915e3_17, t_Jx4a65c_remove_915e3_18, t_Jx4a65c_remove_915e3_19, t_Jx4a65c_remove_915e3_20, t_Jx4a65c_remove_915e3_21, ev_k_i, ev_k_r, ev_kr_1, ev_isK_y, ev_aG_y, and_true, true_and, ev_fG_1, ev_fG_2, ev_isO_1, ev_isO_2, ev_lk_s hl2, r_chk h0 h1, ev_lk_s he, ev_inA_2, nI_clamp, hp, hfj, hjN]
    refine L_fastRemove hl he hle hN hN9 hf hel hj2 fun mc' g hg => ?_
    simp (disch := omega) only [t_Jx4a65c_remove_915e3_24, t_Jx4a65c_remove_915e3_25, ev_kr_0]
    have hlen : (L.eraseIdx j).length = L.length - 1 := by rw [List.length_eraseIdx, if_pos hj2]
    refine k _ ⟨mc', (ev_up_n hle).trans ev_up_s, fun v hv => ?_, Or.inr ⟨N, g, ev_up_s, by omega, hN1, hN9, hg⟩⟩ fun a ha ha2 => (ev_up_n ha2).trans (ev_up_n ha)
    exact ev_el_up (by rw [ev_up_n (fun z => hle z.symm)]; exact he) (ev_el_upO (by unfold ev_alc at hl; exact hl) (hel v (List.mem_of_mem_eraseIdx hv)))
theorem ev_elN {h : ev_M} : ev_el X h .null := Or.inl rfl
theorem L_clear (hA : ev_AT X H l e L) (hL : L.length < 90) (k : ∀ H1, ev_AT X H1 l e [] → (∀ a, ¬ a = l → (¬ a = e ∨ H e = none) → H1 a = H a) → P (.inl none) H1 n q) : ev_ok (ev_TT X) 21 0 [.ref l, ev_J, ev_J, ev_J] [] H n q P := by
  have hle := ev_AT_ne hA
  have hle' : ¬ e = l := fun z => hle z.symm
  obtain ⟨mc, hl, hel, hA⟩ := hA
  unfold ev_alc at hl
  have key : ∀ (N : Nat) (H1 : ev_M), L.length ≤ N → N ≤ 90 → (∀ g, P (.inl none) (ev_up H1 e (.inl (2, N, g))) n q) → ∀ d i f, i + d = L.length → ev_ok (ev_TT X) 21 27 [.ref l, .ref e, .int (nI L.length), .int (nI i)] [] (ev_up H1 e (.inl (2, N, f))) n q P := by
    intro N H1 hN hN9 hk d
    induction d with
    | zero =>
      intro i f hi
      have hi2 : L.length ≤ i := by omega
      simp (disch := omega) only [t_Jx4a65c_clear_da8c8_27, t_Jx4a65c_clear_da8c8_28, t_Jx4a65c_clear_da8c8_29, t_Jx4a65c_clear_da8c8_42, ↓reduceIte, nI_leI, hi2]
      exact hk f
    | succ d ih =>
      intro i f hi
      have hi2 : ¬ L.length ≤ i := by omega
      rw [t_Jx4a65c_clear_da8c8_27]
      simp (disch := omega) only [t_Jx4a65c_clear_da8c8_28, t_Jx4a65c_clear_da8c8_29, t_Jx4a65c_clear_da8c8_32, t_Jx4a65c_clear_da8c8_33, t_Jx4a65c_clear_da8c8_34, t_Jx4a65c_clear_da8c8_35, t_Jx4a65c_clear_da8c8_36, t_Jx4a65c_clear_da8c8_39, ↓reduceIte, ev_k_i, ev_aS_y, nI_1, nI_leI, hi2, ev_up_s, ev_aS_y, ev_up_up, nI_clamp]
      exact ⟨⟨⟨N, f, rfl, fun z => z.elim (nI_pos (by omega)) (fun z => by omega)⟩, ev_elN⟩, ih (i + 1) _ (by omega)⟩
  rcases hA with ⟨he, he2, he3, rfl⟩ | ⟨N, f, he, hN, hN1, hN9, hf⟩
  · simp (disch := omega) only [t_Jx4a65c_clear_da8c8_0, t_Jx4a65c_clear_da8c8_1, t_Jx4a65c_clear_da8c8_2, t_Jx4a65c_clear_da8c8_5, t_Jx4a65c_clear_da8c8_6, t_Jx4a65c_clear_da8c8_7, t_Jx4a65c_clear_da8c8_10, t_Jx4a65c_clear_da8c8_11, t_Jx4a65c_clear_da8c8_14, t_Jx4a65c_clear_da8c8_15, t_Jx4a65c_clear_da8c8_16, t_Jx4a65c_clear_da8c8_19, t_Jx4a65c_clear_da8c8_20, t_Jx4a65c_clear_da8c8_21, t_Jx4a65c_clear_da8c8_22, t_Jx4a65c_clear_da8c8_23, t_Jx4a65c_clear_da8c8_26, t_Jx4a65c_clear_da8c8_27, t_Jx4a65c_clear_da8c8_28, t_Jx4a65c_clear_da8c8_29, t_Jx4a65c_clear_da8c8_42, ↓reduceIte, ev_k_i, ev_k_r, ev_ft_I, and_true, true_and, ev_fG_0, ev_fG_1, ev_fG_2, ev_fS_0, ev_fS_2, ev_isO_0, ev_isO_1, ev_isO_2, ev_lk_s hl, hl, ev_up_s, ev_up_up, ev_lk_s ev_up_s, List.length_nil, nI_0, Int32.le_refl]
    exact k _ ⟨mc + 1, ev_up_s, fun v hv => absurd hv (List.not_mem_nil), Or.inl ⟨(ev_up_n hle').trans he, he2, he3, rfl⟩⟩ fun a ha _ => ev_up_n ha
  · simp (disch := omega) only [t_Jx4a65c_clear_da8c8_0, t_Jx4a65c_clear_da8c8_1, t_Jx4a65c_clear_da8c8_2, t_Jx4a65c_clear_da8c8_5, t_Jx4a65c_clear_da8c8_6, t_Jx4a65c_clear_da8c8_7, t_Jx4a65c_clear_da8c8_10, t_Jx4a65c_clear_da8c8_11, t_Jx4a65c_clear_da8c8_14, t_Jx4a65c_clear_da8c8_15, t_Jx4a65c_clear_da8c8_16, t_Jx4a65c_clear_da8c8_19, t_Jx4a65c_clear_da8c8_20, t_Jx4a65c_clear_da8c8_21, t_Jx4a65c_clear_da8c8_22, t_Jx4a65c_clear_da8c8_23, t_Jx4a65c_clear_da8c8_26, ev_k_i, ev_k_r, ev_ft_I, and_true, true_and, ev_fG_0, ev_fG_1, ev_fG_2, ev_fS_0, ev_fS_2, ev_isO_0, ev_isO_1, ev_isO_2, ev_lk_s hl, hl, ev_up_s, ev_up_up, ev_lk_s ev_up_s]
    have h0 := key N (ev_up H l (.inr (4, [.int (mc + 1), .ref e, .int 0]))) hN hN9 (fun g => k _ ⟨mc + 1, (ev_up_n hle).trans ev_up_s, fun v hv => absurd hv (List.not_mem_nil), Or.inr ⟨N, g, ev_up_s, Nat.zero_le _, hN1, hN9, fun i v hv => by simp at hv⟩⟩ fun a ha ha2 => (ev_up_n (ha2.resolve_right (fun z => by rw [he] at z; cases z))).trans (ev_up_n ha)) L.length 0 f (by omega)
    rw [ev_up_t ((ev_up_n hle').trans he), nI_0] at h0
    exact h0
theorem nI_10 : (10 : Int32) = nI 10 := rfl
theorem nI_big : (2147483639 : Int32) = nI 2147483639 := rfl
theorem r_newLen {k : Nat} (h1 : 10 ≤ k) (h2 : k ≤ 90) : ev_ok (ev_TT X) 84 0 [.int (nI k), .int 1, .int (nI (k / 2)), ev_J] [] H n q P ↔ P (.inl (some (.int (nI (k + k / 2))))) H n q := by
  have hA : (1 : Int32) < nI (k / 2) := nI_lt (a := 1) (by omega) (by omega)
  have hB : ¬ nI (k + k / 2) ≤ 0 := nI_nle (by omega) (by omega)
  have hC : ¬ (2147483639 : Int32) < nI (k + k / 2) := nI_nlt (b := k + k / 2) (a := 2147483639) (by omega) (by omega)
  simp (disch := omega) only [t_J8_newLength_cabcc_0, t_J8_newLength_cabcc_1, t_J8_newLength_cabcc_2, t_J8_newLength_cabcc_3, t_J8_newLength_cabcc_6, t_J8_newLength_cabcc_7, t_J8_newLength_cabcc_8, t_J8_newLength_cabcc_9, t_J8_newLength_cabcc_10, t_J8_newLength_cabcc_13, t_J8_newLength_cabcc_14, t_J8_newLength_cabcc_16, t_J8_newLength_cabcc_19, t_J8_newLength_cabcc_20, ↓reduceIte, ev_k_i, ev_kr_1, r_max, hA, hB, hC, nI_add]
/-- a longer copy of the list's array -/
theorem r_copy {k N : Nat} {f : Nat → Value} (he : H e = some (.inl (2, k, f))) (hen : ¬ e = n) (hk : k ≤ N) (hN : N ≤ 1000) (hel : ∀ i, i < k → ev_el X H (f i)) (hn : H n = none) (hro : X.2.2.2.2.1 n = none)
    (c : P (.inl (some (.ref n))) (ev_up H n (.inl (2, N, va_cpy f (fun _ => .null) 0 0 k))) (n + 1) (q + N)) : ev_ok (ev_TT X) 127 0 [.ref e, .int (nI N)] [] H n q P := by
  have hp := nI_pos' (n := N) (by omega)
  have hcl := nI_clamp (n := N) (by omega)
  have hck := nI_clamp (n := k) (by omega)
  have hN2 : N ≤ 100000 := by omega
  have hlt : ¬ nI N < nI k := nI_nlt hk (by omega)
  simp (disch := omega) only [t_J7_copyOf_1904c_0, t_J7_copyOf_1904c_1, t_J7_copyOf_1904c_2]
  refine t_J7_copyOf_1904c_3.mpr ⟨⟨⟨k, f, he⟩, Nat.le_of_ble_eq_true rfl⟩, ?_⟩
  simp (disch := omega) only [t_J7_copyOf_1904c_6, t_J7_copyOf_6403c_0, t_J7_copyOf_6403c_1, t_J7_copyOf_6403c_3, t_J7_copyOf_6403c_6, t_J7_copyOf_6403c_7, t_J7_copyOf_6403c_10, t_J7_copyOf_6403c_24, t_J7_copyOf_6403c_25, t_J7_copyOf_6403c_26, t_J7_copyOf_6403c_27, t_J7_copyOf_6403c_28, t_J7_copyOf_6403c_29, t_J7_copyOf_6403c_30, t_J7_copyOf_6403c_31, t_J7_copyOf_6403c_32, ↓reduceIte, ev_k_r, ev_kr_1, ev_aN_y, and_true, true_and, not_true_eq_false, ev_ofN, hp, hcl, hN2, r_min, hlt, ev_lk_s ((ev_up_n hen).trans he), ev_isA_2]
  refine t_J7_copyOf_6403c_35.mpr ⟨⟨nI_pos' (by omega), Int32.le_refl 0, Int32.le_refl 0, Nat.le_of_ble_eq_true rfl, ⟨2, k, f, ev_lk_s ((ev_up_n hen).trans he), by decide, rfl, by rw [hck, ev_z0]; omega, fun i hi => ?_⟩, 2, N, _, ev_up_s, by decide, rfl, by rw [hck, ev_z0]; omega⟩, ?_⟩
  · rw [hck] at hi
    rw [ev_z0, Nat.zero_add]
    rcases hel i hi with h1 | ⟨y, h1, h2⟩
    · exact Or.inl h1
    · refine Or.inr ⟨y, h1, ?_⟩
      rcases h2 with ⟨M, F, hy⟩ | ⟨ci, r, g1, g2, fs, g3⟩
      · exact Or.inl ⟨M, F, (ev_up_n (fun z => by rw [z, hn] at hy; cases hy)).trans hy⟩
      · refine Or.inr ⟨ci, r, g1, g2, fs, ?_⟩
        unfold ev_lk ev_up at *
        by_cases z : y = n
        · rw [z, hn] at g3
          rw [show X.2.2.2.2.1 n = none from hro] at g3
          cases g3
        · rw [if_neg z]; exact g3
  rw [hck, ev_z0, ev_lk_s ((ev_up_n hen).trans he), ev_up_s]
  simp (disch := omega) only [t_J7_copyOf_1904c_9, t_J7_copyOf_6403c_38, t_J7_copyOf_6403c_39, ev_kr_1, ev_aC_y, ev_aF_y, ev_up_up]
  exact c
theorem r_grow_0 (hl : H l = some (.inr (4, [.int mc, .ref e, .int (nI 0)]))) (he : H e = none) (he2 : e = X.2.2.2.2.2 1) {g : Nat → Value} (he3 : X.2.2.2.2.1 e = some (.inl (10, 0, g))) (hln : ¬ l = n)
    (c : P (.inl (some (.ref n))) (ev_up (ev_up H n (.inl (2, 10, fun _ => .null))) l (.inr (4, [.int mc, .ref n, .int (nI 0)]))) (n + 1) (q + 10)) : ev_ok (ev_TT X) 219 0 [.ref l] [] H n q P := by
  have hA : ¬ (0 : Int32) < nI 0 := by decide
  have hB : ¬ (10 : Int32) < nI 1 := by decide
  have hC : (0 : Int32) ≤ 10 ∧ (10 : Int32).toNatClampNeg ≤ 100000 := by decide
  have hD : (10 : Int32).toNatClampNeg = 10 := by decide
  have hE : nI 0 + 1 = nI 1 := rfl
  have hF := ev_up_n (h := H) (c := .inl (2, 10, fun _ => .null)) hln
  simp (disch := omega) only [t_Jx4a65c_grow_d5877_0, t_Jx4a65c_grow_d5877_1, t_Jx4a65c_grow_d5877_2, t_Jx4a65c_grow_d5877_5, t_Jx4a65c_grow_d5877_6, t_Jx4a65c_grow_d5877_7, t_Jx4a65c_grow_d5877_10, t_Jx4a65c_grow_92f84_0, t_Jx4a65c_grow_92f84_1, t_Jx4a65c_grow_92f84_4, t_Jx4a65c_grow_92f84_5, t_Jx4a65c_grow_92f84_6, t_Jx4a65c_grow_92f84_7, t_Jx4a65c_grow_92f84_10, t_Jx4a65c_grow_92f84_11, t_Jx4a65c_grow_92f84_14, t_Jx4a65c_grow_92f84_17, t_Jx4a65c_grow_92f84_45, t_Jx4a65c_grow_92f84_46, t_Jx4a65c_grow_92f84_48, t_Jx4a65c_grow_92f84_49, t_Jx4a65c_grow_92f84_52, t_Jx4a65c_grow_92f84_55_r, t_Jx4a65c_grow_92f84_56, t_Jx4a65c_grow_92f84_59, ↓reduceIte, ev_k_i, ev_kr_1, ev_isK_y, ev_aN_y, ev_ft_a, and_true, true_and, ev_fG_1, ev_fG_2, ev_fS_1, ev_isO_1, ev_isO_2, ev_ofN, ev_lk_s hl, ev_lk_o he he3, ev_isA_10, hA, he2.symm, r_max, hB, hC, hD, hE, hF, hl, ev_lk_o he he3]
  exact ⟨by decide, c⟩
theorem r_grow_1 {k : Nat} {f : Nat → Value} (hl : H l = some (.inr (4, [.int mc, .ref e, .int (nI k)]))) (he : H e = some (.inl (2, k, f))) (h1 : 10 ≤ k) (h2 : k ≤ 60) (hln : ¬ l = n) (hen : ¬ e = n) (hel : ∀ i, i < k → ev_el X H (f i)) (hn : H n = none) (hro : X.2.2.2.2.1 n = none)
    (c : P (.inl (some (.ref n))) (ev_up (ev_up H n (.inl (2, k + k / 2, va_cpy f (fun _ => .null) 0 0 k))) l (.inr (4, [.int mc, .ref n, .int (nI k)]))) (n + 1) (q + (k + k / 2))) : ev_ok (ev_TT X) 219 0 [.ref l] [] H n q P := by
  have hA : (0 : Int32) < nI k := nI_lt (a := 0) (by omega) (by omega)
  have hB : nI (k + 1) - nI k = 1 := by rw [pk_sub (by omega), show k + 1 - k = 1 by omega]; rfl
  have hC : nI k >>> ((1 : Int32) &&& 31) = nI (k / 2) := pk_shrN (by omega) _ 1 (by decide)
  simp (disch := omega) only [t_Jx4a65c_grow_d5877_0, t_Jx4a65c_grow_d5877_1, t_Jx4a65c_grow_d5877_2, t_Jx4a65c_grow_d5877_5, t_Jx4a65c_grow_d5877_6, t_Jx4a65c_grow_d5877_7, t_Jx4a65c_grow_92f84_0, t_Jx4a65c_grow_92f84_1, t_Jx4a65c_grow_92f84_4, t_Jx4a65c_grow_92f84_5, t_Jx4a65c_grow_92f84_6, t_Jx4a65c_grow_92f84_7, t_Jx4a65c_grow_92f84_20, t_Jx4a65c_grow_92f84_21, t_Jx4a65c_grow_92f84_22, t_Jx4a65c_grow_92f84_23, t_Jx4a65c_grow_92f84_24, t_Jx4a65c_grow_92f84_25, t_Jx4a65c_grow_92f84_26, t_Jx4a65c_grow_92f84_27, ↓reduceIte, ev_k_i, ev_isK_y, ev_aN_y, true_and, nI_1, ev_fG_1, ev_fG_2, ev_isO_1, ev_isO_2, ev_ofN, ev_lk_s hl, ev_lk_s he, ev_isA_2, hA, hB, hC]
  refine (r_newLen h1 (by omega)).mpr ?_
  simp (disch := omega) only [t_Jx4a65c_grow_92f84_30, t_Jx4a65c_grow_92f84_31, t_Jx4a65c_grow_92f84_32, t_Jx4a65c_grow_92f84_33, t_Jx4a65c_grow_92f84_36, t_Jx4a65c_grow_92f84_37, ev_k_i, ev_kr_1, true_and, ev_fG_1, ev_isO_1, ev_lk_s hl]
  refine r_copy he hen (by omega) (by omega) hel hn hro ?_
  have hF := fun c => ev_up_n (h := H) (c := c) hln
  simp (disch := omega) only [t_Jx4a65c_grow_d5877_10, t_Jx4a65c_grow_92f84_40_r, t_Jx4a65c_grow_92f84_41, t_Jx4a65c_grow_92f84_44, ev_kr_1, ev_ft_a, and_true, true_and, ev_fS_1, ev_isO_1, hF, hl]
  exact c
theorem ev_el_new {h : ev_M} {v : Value} {c : ev_C} (hn : h n = none) (hro : X.2.2.2.2.1 n = none) (he : ev_el X h v) : ev_el X (ev_up h n c) v := by
  rcases he with h1 | ⟨y, h1, h2⟩
  · exact Or.inl h1
  · refine Or.inr ⟨y, h1, ?_⟩
    rcases h2 with ⟨M, F, hy⟩ | ⟨ci, r, g1, g2, fs, g3⟩
    · exact Or.inl ⟨M, F, (ev_up_n (fun z => by rw [z, hn] at hy; cases hy)).trans hy⟩
    · refine Or.inr ⟨ci, r, g1, g2, fs, ?_⟩
      unfold ev_lk ev_up at *
      by_cases z : y = n
      · rw [z, hn] at g3
        rw [show X.2.2.2.2.1 n = none from hro] at g3
        cases g3
      · rw [if_neg z]; exact g3
theorem L_add (hA : ev_AT X H l e L) (hL : L.length ≤ 60) {y : Nat} (hy : ev_el X H (.ref y)) (hln : ¬ l = n) (hn : H n = none) (hro : X.2.2.2.2.1 n = none) (hG : ¬ X.2.2.2.2.2 1 = n)
    (k : ∀ H1 e1 n1 q1, ev_AT X H1 l e1 (L ++ [.ref y]) → (∀ a, ¬ a = l → (¬ a = e ∨ H e = none) → (¬ a = n ∨ n1 = n) → H1 a = H a) → (e1 = e ∧ n1 = n ∧ q1 = q ∧ ∃ c, H e = some c) ∨ (e1 = n ∧ n1 = n + 1 ∧ q ≤ q1 ∧ q1 ≤ q + 90) → P (.inl (some (.int 1))) H1 n1 q1) : ev_ok (ev_TT X) 261 0 [.ref l, .ref y] [] H n q P := by
  have hle := ev_AT_ne hA
  have hle' : ¬ e = l := fun z => hle z.symm
  obtain ⟨mc, hl, hel, hA⟩ := hA
  unfold ev_alc at hl
  have hlen : (L ++ [Value.ref y]).length = L.length + 1 := by rw [List.length_append]; rfl
  have hel2 : ∀ v ∈ L ++ [Value.ref y], ev_el X H v := fun v hv => by
    rcases List.mem_append.mp hv with h | h
    · exact hel v h
    · rw [List.mem_singleton.mp h]; exact hy
  have hcl := nI_clamp (n := L.length) (by omega)
  rcases hA with ⟨he, he2, ⟨g, he3⟩, rfl⟩ | ⟨N, f, he, hN, hN1, hN9, hf⟩
  · have hnl : ¬ n = l := fun z => hln z.symm
    have hl0 : H l = some (.inr (4, [.int mc, .ref e, .int (nI 0)])) := hl
    have hle0 : ev_up H l (.inr (4, [.int (mc + 1), .ref e, .int (nI 0)])) e = none := (ev_up_n hle').trans he
    simp (disch := omega) only [t_Jx4a65c_add_9ea2d_0, t_Jx4a65c_add_9ea2d_1, t_Jx4a65c_add_9ea2d_2, t_Jx4a65c_add_9ea2d_5, t_Jx4a65c_add_9ea2d_6, t_Jx4a65c_add_9ea2d_7, t_Jx4a65c_add_9ea2d_10, t_Jx4a65c_add_9ea2d_11, t_Jx4a65c_add_9ea2d_12, t_Jx4a65c_add_9ea2d_13, t_Jx4a65c_add_9ea2d_16, t_Jx4a65c_add_9ea2d_17, t_Jx4a65c_add_9ea2d_20, t_Jx4a65c_add_72be8_0, t_Jx4a65c_add_72be8_1, t_Jx4a65c_add_72be8_2, t_Jx4a65c_add_72be8_3, t_Jx4a65c_add_72be8_6, t_Jx4a65c_add_72be8_7, ↓reduceIte, ev_isK_y, ev_aN_y, ev_ft_I, and_true, true_and, not_true_eq_false, ev_fG_0, ev_fG_1, ev_fG_2, ev_fS_0, ev_isO_0, ev_isO_1, ev_isO_2, ev_ofN, ev_lk_s hl0, hl0, ev_lk_s ev_up_s, ev_lk_o hle0 he3, ev_isA_10]
    refine r_grow_0 ev_up_s hle0 he2 he3 hln ?_
    have hq : ∀ v, ev_el X H v → ev_el X (ev_up (ev_up (ev_up H l (.inr (4, [.int (mc + 1), .ref e, .int (nI 0)]))) n (.inl (2, 10, fun _ => .null))) l (.inr (4, [.int (mc + 1), .ref n, .int (nI 0)]))) v := fun v hv => ev_el_upO ((ev_up_n hln).trans ev_up_s) (ev_el_new ((ev_up_n hnl).trans hn) hro (ev_el_upO hl hv))
    simp (disch := omega) only [t_Jx4a65c_add_9ea2d_23, t_Jx4a65c_add_9ea2d_24, t_Jx4a65c_add_72be8_10, t_Jx4a65c_add_72be8_11, t_Jx4a65c_add_72be8_12, t_Jx4a65c_add_72be8_13, t_Jx4a65c_add_72be8_14, t_Jx4a65c_add_72be8_15, t_Jx4a65c_add_72be8_16, t_Jx4a65c_add_72be8_17, t_Jx4a65c_add_72be8_18, t_Jx4a65c_add_72be8_19, t_Jx4a65c_add_72be8_22, ev_k_r, ev_kr_1, ev_kr_0, ev_aS_y, ev_ft_I, ev_nb_1, and_true, true_and, nI_1, ev_fS_2, ev_isO_2, ev_up_s, ev_up_n hnl, ev_up_n hln, nI_clamp, ev_aS_y]
    refine ⟨⟨⟨_, _, rfl, fun z => z.elim (nI_pos (by omega)) (fun z => by omega)⟩, hq _ hy⟩, k _ n (n + 1) _ ⟨mc + 1, ev_up_s, fun v hv => ?_, Or.inr ⟨_, _, (ev_up_n hnl).trans ev_up_s, Nat.le_of_ble_eq_true rfl, by decide, by decide, ev_LF_app (f := fun _ => .null) (L := []) (fun i v h => by simp at h) (.ref y)⟩⟩ ?_ (Or.inr ⟨rfl, rfl, by omega, by omega⟩)⟩
    · exact ev_el_upO ((ev_up_n hln).trans ev_up_s) (ev_el_up ((ev_up_n hnl).trans ev_up_s) (hq v (hel2 v hv)))
    · exact fun a ha _ han0 => have han := han0.resolve_right (by omega); (ev_up_n ha).trans ((ev_up_n han).trans ((ev_up_n ha).trans ((ev_up_n han).trans (ev_up_n ha))))
  · have hen : ¬ e = n := fun z => by rw [z, hn] at he; cases he
    have hB : ev_el X (ev_up H l (.inr (4, [.int (mc + 1), .ref e, .int (nI L.length)]))) (.ref y) := ev_el_upO hl hy
    by_cases hfull : L.length = N
    · subst hfull
      have hnl : ¬ n = l := fun z => hln z.symm
      simp (disch := omega) only [t_Jx4a65c_add_9ea2d_0, t_Jx4a65c_add_9ea2d_1, t_Jx4a65c_add_9ea2d_2, t_Jx4a65c_add_9ea2d_5, t_Jx4a65c_add_9ea2d_6, t_Jx4a65c_add_9ea2d_7, t_Jx4a65c_add_9ea2d_10, t_Jx4a65c_add_9ea2d_11, t_Jx4a65c_add_9ea2d_12, t_Jx4a65c_add_9ea2d_13, t_Jx4a65c_add_9ea2d_16, t_Jx4a65c_add_9ea2d_17, t_Jx4a65c_add_9ea2d_20, t_Jx4a65c_add_72be8_0, t_Jx4a65c_add_72be8_1, t_Jx4a65c_add_72be8_2, t_Jx4a65c_add_72be8_3, t_Jx4a65c_add_72be8_6, t_Jx4a65c_add_72be8_7, ↓reduceIte, ev_isK_y, ev_aN_y, ev_ft_I, and_true, true_and, not_true_eq_false, ev_fG_0, ev_fG_1, ev_fG_2, ev_fS_0, ev_isO_0, ev_isO_1, ev_isO_2, ev_ofN, ev_lk_s hl, hl, ev_lk_s ev_up_s, ev_lk_s ((ev_up_n hle').trans he), ev_isA_2]
      refine r_grow_1 ev_up_s ((ev_up_n hle').trans he) hN1 hL hln hen (fun i hi => ?_) ((ev_up_n hnl).trans hn) hro ?_
      · rw [hf i _ (List.getElem?_eq_getElem hi)]
        exact ev_el_upO hl (hel _ (List.getElem_mem _))
      have hq : ∀ v, ev_el X H v → ev_el X (ev_up (ev_up (ev_up H l (.inr (4, [.int (mc + 1), .ref e, .int (nI L.length)]))) n (.inl (2, L.length + L.length / 2, va_cpy f (fun _ => .null) 0 0 L.length))) l (.inr (4, [.int (mc + 1), .ref n, .int (nI L.length)]))) v := fun v hv => ev_el_upO ((ev_up_n hln).trans ev_up_s) (ev_el_new ((ev_up_n hnl).trans hn) hro (ev_el_upO hl hv))
      simp (disch := omega) only [t_Jx4a65c_add_9ea2d_23, t_Jx4a65c_add_9ea2d_24, t_Jx4a65c_add_72be8_10, t_Jx4a65c_add_72be8_11, t_Jx4a65c_add_72be8_12, t_Jx4a65c_add_72be8_13, t_Jx4a65c_add_72be8_14, t_Jx4a65c_add_72be8_15, t_Jx4a65c_add_72be8_16, t_Jx4a65c_add_72be8_17, t_Jx4a65c_add_72be8_18, t_Jx4a65c_add_72be8_19, t_Jx4a65c_add_72be8_22, ev_k_r, ev_kr_1, ev_kr_0, ev_aS_y, ev_ft_I, ev_nb_1, and_true, true_and, nI_1, ev_fS_2, ev_isO_2, ev_up_s, ev_up_n hnl, ev_up_n hln, hcl, ev_aS_y]
      refine ⟨⟨⟨_, _, rfl, fun z => z.elim (nI_pos (by omega)) (fun z => by omega)⟩, hq _ hy⟩, k _ n (n + 1) _ ⟨mc + 1, by rw [hlen]; exact ev_up_s, fun v hv => ?_, Or.inr ⟨_, _, (ev_up_n hnl).trans ev_up_s, by omega, by omega, by omega, ev_LF_app (ev_LF_cpy hf) (.ref y)⟩⟩ ?_ (Or.inr ⟨rfl, rfl, by omega, by omega⟩)⟩
      · exact ev_el_upO ((ev_up_n hln).trans ev_up_s) (ev_el_up ((ev_up_n hnl).trans ev_up_s) (hq v (hel2 v hv)))
      · exact fun a ha _ han0 => have han := han0.resolve_right (by omega); (ev_up_n ha).trans ((ev_up_n han).trans ((ev_up_n ha).trans ((ev_up_n han).trans (ev_up_n ha))))
    · have hne : ¬ nI L.length = nI N := fun z => hfull ((nI_eq (by omega) (by omega)).mp z)
      simp (disch := omega) only [t_Jx4a65c_add_9ea2d_0, t_Jx4a65c_add_9ea2d_1, t_Jx4a65c_add_9ea2d_2, t_Jx4a65c_add_9ea2d_5, t_Jx4a65c_add_9ea2d_6, t_Jx4a65c_add_9ea2d_7, t_Jx4a65c_add_9ea2d_10, t_Jx4a65c_add_9ea2d_11, t_Jx4a65c_add_9ea2d_12, t_Jx4a65c_add_9ea2d_13, t_Jx4a65c_add_9ea2d_16, t_Jx4a65c_add_9ea2d_17, t_Jx4a65c_add_9ea2d_20, t_Jx4a65c_add_9ea2d_23, t_Jx4a65c_add_9ea2d_24, t_Jx4a65c_add_72be8_0, t_Jx4a65c_add_72be8_1, t_Jx4a65c_add_72be8_2, t_Jx4a65c_add_72be8_3, t_Jx4a65c_add_72be8_11, t_Jx4a65c_add_72be8_12, t_Jx4a65c_add_72be8_13, t_Jx4a65c_add_72be8_14, t_Jx4a65c_add_72be8_15, t_Jx4a65c_add_72be8_16, t_Jx4a65c_add_72be8_17, t_Jx4a65c_add_72be8_18, t_Jx4a65c_add_72be8_19, t_Jx4a65c_add_72be8_22, ↓reduceIte, ev_kr_0, ev_isK_y, ev_aS_y, ev_aN_y, ev_ft_I, ev_nb_1, and_true, true_and, not_false_eq_true, nI_1, ev_fG_0, ev_fG_1, ev_fG_2, ev_fS_0, ev_fS_2, ev_isO_0, ev_isO_1, ev_isO_2, ev_ofN, ev_lk_s hl, hl, ev_up_s, ev_lk_s ev_up_s, ev_up_n hle', ev_lk_s ((ev_up_n hle').trans he), he, ev_isA_2, hne, hcl, ev_aS_y, ev_up_n hle]
      refine ⟨⟨⟨N, f, rfl, fun z => z.elim (nI_pos (by omega)) (fun z => by omega)⟩, hB⟩, k _ e n q ⟨mc + 1, ?_, fun v hv => ?_, Or.inr ⟨N, _, ?_, by omega, hN1, hN9, ev_LF_app hf (.ref y)⟩⟩ ?_ (Or.inl ⟨rfl, rfl, rfl, _, he⟩)⟩
      · rw [hlen]
        exact ev_up_s
      · exact ev_el_upO ((ev_up_n hle).trans ev_up_s) (ev_el_up ((ev_up_n hle').trans he) (ev_el_upO hl (hel2 v hv)))
      · exact (ev_up_n hle').trans ev_up_s
      · exact fun a ha ha20 _ => have ha2 := ha20.resolve_right (fun z => by rw [he] at z; cases z); (ev_up_n ha).trans ((ev_up_n ha2).trans (ev_up_n ha))
end LT
end
section
/-! ===== walks along a list of the JDK; small Integers ===== -/
def ev_itc (l cur : Nat) (last mc : Int32) : ev_C := .inr (3, [.int (nI cur), .int last, .int mc, .ref l])
section IT
variable {X : ev_E} {H : ev_M} {l e i k cur : Nat} {L : List Value} {mc last : Int32} {n q : Nat} {P : ev_O → ev_M → Nat → Nat → Prop}
theorem I_iter (hl : H l = some (ev_alc mc e k)) (hln : ¬ l = n) (c : P (.inl (some (.ref n))) (ev_up H n (ev_itc l 0 (-1) mc)) (n + 1) (q + 4)) : ev_ok (ev_TT X) 86 0 [.ref l] [] H n q P := by
  unfold ev_alc at hl
  unfold ev_itc at c
  rw [nI_0] at c
  have hF := fun c => ev_up_n (h := H) (c := c) hln
  simp (disch := omega) only [t_Jx4a65c_iterator_32c93_0, t_Jx4a65c_iterator_32c93_3, t_Jx4a65c_iterator_32c93_4, t_Jx4a65c_iterator_32c93_5, t_Jx4a65c_iterator_32c93_8, t_Jx35411_init_45d68_0, t_Jx35411_init_45d68_1, t_Jx35411_init_45d68_2, t_Jx35411_init_45d68_5, t_Jx35411_init_45d68_6, t_Jx35411_init_45d68_9, t_Jx35411_init_45d68_10, t_Jx35411_init_45d68_11, t_Jx35411_init_45d68_14, t_Jx35411_init_45d68_15, t_Jx35411_init_45d68_16, t_Jx35411_init_45d68_19, t_Jx35411_init_45d68_22, t_Jx35411_init_45d68_25, ev_kr_0, ev_ft_I, ev_ft_o, and_true, true_and, ev_fG_0, ev_fG_3, ev_fS_1, ev_fS_2, ev_fS_3, ev_isO_0, ev_isO_1, ev_isO_2, ev_isO_3, ev_up_s, ev_up_up, ev_lk_s ev_up_s, ev_lk_s ((hF _).trans hl)]
  exact c
theorem I_has_y (hi : H i = some (ev_itc l cur last mc)) {mc' : Int32} (hl : H l = some (ev_alc mc' e k)) (hk : k < 2 ^ 31) (hc : cur < k) (c : P (.inl (some (.int 1))) H n q) : ev_ok (ev_TT X) 19 0 [.ref i] [] H n q P := by
  unfold ev_alc at hl
  unfold ev_itc at hi
  have hne : ¬ nI cur = nI k := fun z => by have := (nI_eq (by omega) hk).mp z; omega
  simp (disch := omega) only [t_Jx35411_hasNext_aae02_0, t_Jx35411_hasNext_aae02_1, t_Jx35411_hasNext_aae02_4, t_Jx35411_hasNext_aae02_5, t_Jx35411_hasNext_aae02_8, t_Jx35411_hasNext_aae02_11, t_Jx35411_hasNext_aae02_14, t_Jx35411_hasNext_aae02_15, t_Jx35411_hasNext_aae02_19, ↓reduceIte, ev_nb_1, true_and, ev_fG_0, ev_fG_2, ev_fG_3, ev_isO_0, ev_isO_2, ev_isO_3, ev_lk_s hi, ev_lk_s hl, hne]
  exact c
theorem I_has_n (hi : H i = some (ev_itc l k last mc)) {mc' : Int32} (hl : H l = some (ev_alc mc' e k)) (c : P (.inl (some (.int 0))) H n q) : ev_ok (ev_TT X) 19 0 [.ref i] [] H n q P := by
  unfold ev_alc at hl
  unfold ev_itc at hi
  simp (disch := omega) only [t_Jx35411_hasNext_aae02_0, t_Jx35411_hasNext_aae02_1, t_Jx35411_hasNext_aae02_4, t_Jx35411_hasNext_aae02_5, t_Jx35411_hasNext_aae02_8, t_Jx35411_hasNext_aae02_11, t_Jx35411_hasNext_aae02_18, t_Jx35411_hasNext_aae02_19, ↓reduceIte, ev_nb_0, true_and, ev_fG_0, ev_fG_2, ev_fG_3, ev_isO_0, ev_isO_2, ev_isO_3, ev_lk_s hi, ev_lk_s hl]
  exact c
theorem I_next (hi : H i = some (ev_itc l cur last mc)) (hl : H l = some (ev_alc mc e L.length)) (hA : ev_AE X H e L) (hL : L.length < 90) {y : Nat} (hj : L[cur]? = some (.ref y)) (c : P (.inl (some (.ref y))) (ev_up H i (ev_itc l (cur + 1) (nI cur) mc)) n q) : ev_ok (ev_TT X) 85 0 [.ref i, ev_J, ev_J] [] H n q P := by
  unfold ev_alc at hl
  unfold ev_itc at hi c
  have hj2 := (List.getElem?_eq_some_iff.mp hj).1
  have h1 : nI cur < nI L.length := nI_lt hj2 (by omega)
  have hil : ¬ l = i := fun z => by rw [z, hi] at hl; cases hl
  rcases hA.2 with ⟨-, -, -, rfl⟩ | ⟨N, f, he, hN, -, hN9, hf⟩
  · simp at hj2
  · have hie : ¬ e = i := fun z => by rw [z, hi] at he; cases he
    have hp := nI_pos' (n := cur) (by omega)
    have hfj := hf cur _ hj
    have hjN : cur < N := by omega
    have h2 : nI cur < nI N := nI_lt hjN (by omega)
    simp (disch := omega) only [t_Jx35411_next_0502b_0, t_Jx35411_next_0502b_1, t_Jx35411_next_0502b_4, t_Jx35411_next_0502b_5, t_Jx35411_next_0502b_8, t_Jx35411_next_0502b_9, t_Jx35411_next_0502b_10, t_Jx35411_next_0502b_11, t_Jx35411_next_0502b_14, t_Jx35411_next_0502b_17, t_Jx35411_next_0502b_28, t_Jx35411_next_0502b_29, t_Jx35411_next_0502b_32, t_Jx35411_next_0502b_35, t_Jx35411_next_0502b_36, t_Jx35411_next_0502b_37, t_Jx35411_next_0502b_38, t_Jx35411_next_0502b_39, t_Jx35411_next_0502b_50, t_Jx35411_next_0502b_51, t_Jx35411_next_0502b_52, t_Jx35411_next_0502b_53, t_Jx35411_next_0502b_54, t_Jx35411_next_0502b_57, t_Jx35411_next_0502b_58, t_Jx35411_next_0502b_59, t_Jx35411_next_0502b_60, t_Jx35411_next_0502b_61, t_Jx35411_next_0502b_64, t_Jx35411_next_0502b_65, t_Jx35411_checkForComodification_da8c8_0, t_Jx35411_checkForComodification_da8c8_1, t_Jx35411_checkForComodification_da8c8_4, t_Jx35411_checkForComodification_da8c8_7, t_Jx35411_checkForComodification_da8c8_8, t_Jx35411_checkForComodification_da8c8_11, t_Jx35411_checkForComodification_da8c8_22, ↓reduceIte, ev_k_i, ev_k_r, ev_kr_0, ev_isK_y, ev_aG_y, ev_aN_y, ev_ft_I, and_true, true_and, nI_1, ev_fG_0, ev_fG_1, ev_fG_2, ev_fG_3, ev_fS_0, ev_fS_1, ev_isO_0, ev_isO_1, ev_isO_2, ev_isO_3, ev_ofN, ev_lk_s hi, hi, ev_lk_s hl, ev_lk_s he, ev_up_s, ev_up_up, ev_isA_2, ev_inA_2, h1, h2, ev_lk_s ((ev_up_n hie).trans he), nI_clamp, hp, hfj, hjN]
    exact c
/-- the Integers of the JDK's cache, as they can be read -/
def ev_IC (X : ev_E) (zf : Nat → Nat) : Prop := ∃ (N : Nat) (cf : Nat → Value), X.2.2.2.2.1 (X.2.2.2.2.2 0) = some (.inl (9, N, cf)) ∧ 256 ≤ N ∧ N < 2 ^ 31 ∧ X.2.2.2.2.2 0 < X.1.heap.size ∧ ∀ j, j < 128 → cf (j + 128) = .ref (zf j) ∧ X.2.2.2.2.1 (zf j) = some (.inr (2, [.int (nI j)])) ∧ zf j < X.1.heap.size
/-- nothing of one's own lies below the start -/
def ev_low (X : ev_E) (H : ev_M) : Prop := ∀ a, a < X.1.heap.size → H a = none
theorem I_val {zf : Nat → Nat} (hI : ev_IC X zf) (hw : ev_low X H) {j : Nat} (hj : j < 128) (c : P (.inl (some (.ref (zf j)))) H n q) : ev_ok (ev_TT X) 125 0 [.int (nI j)] [] H n q P := by
  obtain ⟨N, cf, h1, h2, h3, h4, h5⟩ := hI
  obtain ⟨h6, h7, h8⟩ := h5 j hj
  have hA : ¬ nI j < -128 := Int32.not_lt.mpr (Int32.le_trans (by decide : (-128 : Int32) ≤ 0) (nI_pos' (by omega)))
  have hB : ¬ (127 : Int32) < nI j := nI_nlt (b := j) (a := 127) (by omega) (by omega)
  have hC : nI j + 128 = nI (j + 128) := nI_add j 128
  have hp := nI_pos' (n := j + 128) (by omega)
  have hjN : j + 128 < N := by omega
  simp (disch := omega) only [t_J6_valueOf_2dffe_0, t_J6_valueOf_2dffe_1, t_J6_valueOf_2dffe_3, t_J6_valueOf_2dffe_6, t_J6_valueOf_2dffe_7, t_J6_valueOf_2dffe_10, t_J6_valueOf_2dffe_13, t_J6_valueOf_2dffe_16, t_J6_valueOf_2dffe_17, t_J6_valueOf_2dffe_20, t_J6_valueOf_2dffe_21, t_J6_valueOf_2dffe_22, ↓reduceIte, ev_aG_y, and_true, true_and, hA, hB, hC, ev_lk_o (hw _ h4) h1, ev_inA_9, nI_clamp, hp, h6, hjN]
  exact c
theorem I_int {zf : Nat → Nat} (hI : ev_IC X zf) (hw : ev_low X H) {j : Nat} (hj : j < 128) (c : P (.inl (some (.int (nI j)))) H n q) : ev_ok (ev_TT X) 12 0 [.ref (zf j)] [] H n q P := by
  obtain ⟨N, cf, h1, h2, h3, h4, h5⟩ := hI
  obtain ⟨h6, h7, h8⟩ := h5 j hj
  simp (disch := omega) only [t_J6_intValue_8abf5_0, t_J6_intValue_8abf5_1, t_J6_intValue_8abf5_4, true_and, ev_fG_0, ev_isO_0, ev_lk_o (hw _ h8) h7]
  exact c
end IT
end
section
/-! ===== the fewest misses of a size: the spans that are taken, and what is held ===== -/
def mb (As : List Nat) (a : Nat) : Nat → Option Nat
  | 0 => none
  | p + 1 => if As.getD p 0 = a then some p else mb As a p
theorem mb_lt {As : List Nat} {a : Nat} : ∀ {p j : Nat}, mb As a p = some j → j < p := by
  intro p
  induction p with
  | zero => intro j h; cases h
  | succ p ih =>
    intro j h
    unfold mb at h
    split at h
    · cases h; omega
    · have := ih h; omega
theorem mb_at {As : List Nat} {a : Nat} : ∀ {p j : Nat}, mb As a p = some j → As.getD j 0 = a := by
  intro p
  induction p with
  | zero => intro j h; cases h
  | succ p ih =>
    intro j h
    unfold mb at h
    split at h
    · rename_i e
      cases h
      exact e
    · exact ih h
theorem gb_y {As : List Nat} {a p : Nat} (e : As.getD p 0 = a) : mb As a (p + 1) = some p := if_pos e
theorem gb_n {As : List Nat} {a p : Nat} (e : ¬ As.getD p 0 = a) : mb As a (p + 1) = mb As a p := if_neg e
theorem gb_max {As : List Nat} {a : Nat} : ∀ {p l : Nat}, mb As a p = some l → ∀ z, l < z → z < p → ¬ As.getD z 0 = a := by
  intro p
  induction p with
  | zero => intro l h; cases h
  | succ p ih =>
    intro l h z h1 h2
    by_cases e : As.getD p 0 = a
    · rw [gb_y e] at h
      cases h
      omega
    · rw [gb_n e] at h
      by_cases hz : z = p
      · rw [hz]; exact e
      · exact ih h z h1 (by omega)
theorem gb_none {As : List Nat} {a : Nat} : ∀ {p : Nat}, mb As a p = none → ∀ z, z < p → ¬ As.getD z 0 = a := by
  intro p
  induction p with
  | zero => intro _ z h; omega
  | succ p ih =>
    intro h z h2
    by_cases e : As.getD p 0 = a
    · rw [gb_y e] at h; cases h
    · rw [gb_n e] at h
      by_cases hz : z = p
      · rw [hz]; exact e
      · exact ih h z (by omega)
theorem gb_eq {As : List Nat} {a : Nat} : ∀ {p l : Nat}, l < p → As.getD l 0 = a → (∀ z, l < z → z < p → ¬ As.getD z 0 = a) → mb As a p = some l := by
  intro p
  induction p with
  | zero => intro l h; omega
  | succ p ih =>
    intro l h1 h2 h3
    by_cases hl : l = p
    · subst hl; exact gb_y h2
    · rw [gb_n (h3 p (by omega) (by omega))]
      exact ih (by omega) h2 (fun z ha hb => h3 z ha (by omega))
/-- how many taken spans lie over a place, and how many are taken, of the spans that end ahead of e -/
def gs (As : List Nat) (m : Nat) : Nat → (Nat → Nat) × Nat
  | 0 => (fun _ => 0, 0)
  | e + 1 => match mb As (As.getD e 0) e with
    | none => gs As m e
    | some b => if ∀ k, k < e → b < k → (gs As m e).1 k + 1 < m then (fun k => if b < k ∧ k < e then (gs As m e).1 k + 1 else (gs As m e).1 k, (gs As m e).2 + 1) else gs As m e
def gk (As : List Nat) (m e : Nat) : Prop := ∃ b, mb As (As.getD e 0) e = some b ∧ ∀ k, k < e → b < k → (gs As m e).1 k + 1 < m
section GS
variable {As : List Nat} {m : Nat}
theorem gs_y {e b : Nat} (h : mb As (As.getD e 0) e = some b) (hc : ∀ k, k < e → b < k → (gs As m e).1 k + 1 < m) : gs As m (e + 1) = (fun k => if b < k ∧ k < e then (gs As m e).1 k + 1 else (gs As m e).1 k, (gs As m e).2 + 1) := by
  show (match mb As (As.getD e 0) e with
    | none => gs As m e
    | some b => if ∀ k, k < e → b < k → (gs As m e).1 k + 1 < m then (fun k => if b < k ∧ k < e then (gs As m e).1 k + 1 else (gs As m e).1 k, (gs As m e).2 + 1) else gs As m e) = _
  rw [h]
  exact if_pos hc
theorem gs_n {e : Nat} (h : ¬ gk As m e) : gs As m (e + 1) = gs As m e := by
  show (match mb As (As.getD e 0) e with
    | none => gs As m e
    | some b => if ∀ k, k < e → b < k → (gs As m e).1 k + 1 < m then (fun k => if b < k ∧ k < e then (gs As m e).1 k + 1 else (gs As m e).1 k, (gs As m e).2 + 1) else gs As m e) = _
  rcases hb : mb As (As.getD e 0) e with _ | b
  · rfl
  · exact if_neg (fun z => h ⟨b, hb, z⟩)
theorem gs_far : ∀ e k, e ≤ k + 1 → (gs As m e).1 k = 0 := by
  intro e
  induction e with
  | zero => intro k _; rfl
  | succ e ih =>
    intro k hk
    have h0 := ih k (by omega)
    by_cases h : gk As m e
    · obtain ⟨b, h1, h2⟩ := h
      rw [gs_y h1 h2]
      show (if b < k ∧ k < e then (gs As m e).1 k + 1 else (gs As m e).1 k) = 0
      rw [if_neg (by omega)]
      exact h0
    · rw [gs_n h]; exact h0
theorem gs_mono {e p : Nat} : (gs As m e).1 p ≤ (gs As m (e + 1)).1 p := by
  by_cases h : gk As m e
  · obtain ⟨b, h1, h2⟩ := h
    rw [gs_y h1 h2]
    show _ ≤ (if b < p ∧ p < e then (gs As m e).1 p + 1 else (gs As m e).1 p)
    split <;> omega
  · rw [gs_n h]
    exact Nat.le_refl _
theorem gs_le : ∀ e, (gs As m e).2 ≤ e := by
  intro e
  induction e with
  | zero => exact Nat.le_refl 0
  | succ e ih =>
    by_cases h : gk As m e
    · obtain ⟨b, h1, h2⟩ := h
      rw [gs_y h1 h2]
      show (gs As m e).2 + 1 ≤ e + 1
      omega
    · rw [gs_n h]; omega
theorem gs_cnt {p : Nat} : ∀ (i : Nat) (S : List Nat), S.Nodup → (∀ e ∈ S, e < i ∧ gk As m e ∧ ∃ b, mb As (As.getD e 0) e = some b ∧ b < p ∧ p < e) → S.length ≤ (gs As m i).1 p := by
  intro i
  induction i with
  | zero =>
    intro S _ hS
    rcases S with _ | ⟨a, S⟩
    · exact Nat.zero_le _
    · exact absurd (hS a (List.mem_cons_self)).1 (Nat.not_lt_zero a)
  | succ i ih =>
    intro S hn hS
    by_cases hm : i ∈ S
    · obtain ⟨-, ⟨b', hb', hc⟩, b, hb, h1, h2⟩ := hS i hm
      cases Option.some.inj (hb'.symm.trans hb)
      rw [gs_y hb' hc]
      show S.length ≤ if b' < p ∧ p < i then (gs As m i).1 p + 1 else (gs As m i).1 p
      rw [if_pos ⟨h1, h2⟩]
      have h9 := ih (S.erase i) (hn.erase i) (fun e he => by
        obtain ⟨n1, n2⟩ := (hn.mem_erase_iff).mp he
        have := hS e n2
        exact ⟨by omega, this.2⟩)
      rw [List.length_erase_of_mem hm] at h9
      omega
    · refine Nat.le_trans (ih S hn (fun e he => ?_)) gs_mono
      have h9 := hS e he
      have : ¬ e = i := fun z => hm (z ▸ he)
      exact ⟨by omega, h9.2⟩
end GS
/-- the next asking of the same key -/
def nX (As : List Nat) (l k : Nat) : Prop := (l < k ∧ k < As.length ∧ As.getD k 0 = As.getD l 0 ∧ ∀ z, l < z → z < k → ¬ As.getD z 0 = As.getD l 0) ∨ (k = 60 ∧ ∀ z, l < z → z < As.length → ¬ As.getD z 0 = As.getD l 0)
theorem nX_le {As : List Nat} {l k : Nat} (h : nX As l k) (hA : As.length ≤ 60) : k ≤ 60 := by
  rcases h with ⟨-, h, -⟩ | ⟨h, -⟩ <;> omega
theorem nX_fun {As : List Nat} {l k k' : Nat} (hA : As.length ≤ 60) (h : nX As l k) (h' : nX As l k') : k = k' := by
  rcases h with ⟨a1, a2, a3, a4⟩ | ⟨a1, a2⟩ <;> rcases h' with ⟨b1, b2, b3, b4⟩ | ⟨b1, b2⟩
  · rcases Nat.lt_trichotomy k k' with e | e | e
    · exact absurd a3 (b4 k a1 e)
    · exact e
    · exact absurd b3 (a4 k' b1 e)
  · exact absurd a3 (b2 k a1 a2)
  · exact absurd b3 (a2 k' b1 b2)
  · omega
def gc (lk : Nat → Nat) (k : Nat) : Nat → Nat
  | 0 => 0
  | j + 1 => gc lk k j + (if lk j < k then 1 else 0)
theorem gc_ext {lk lk' : Nat → Nat} {k : Nat} : ∀ e, (∀ j, j < e → lk' j = lk j) → gc lk' k e = gc lk k e := by
  intro e
  induction e with
  | zero => intro _; rfl
  | succ e ih =>
    intro h
    show gc lk' k e + _ = gc lk k e + _
    rw [ih (fun j hj => h j (by omega)), h e (by omega)]
theorem gc_le {lk : Nat → Nat} {k : Nat} : ∀ e, gc lk k e ≤ e := by
  intro e
  induction e with
  | zero => exact Nat.le_refl 0
  | succ e ih =>
    show gc lk k e + (if lk e < k then 1 else 0) ≤ e + 1
    split <;> omega
theorem gc_lt {lk : Nat → Nat} {k f : Nat} : ∀ e, f < e → ¬ lk f < k → gc lk k e + 1 ≤ e := by
  intro e
  induction e with
  | zero => intro h; omega
  | succ e ih =>
    intro h hf
    show gc lk k e + (if lk e < k then 1 else 0) + 1 ≤ e + 1
    by_cases he : f = e
    · subst he
      rw [if_neg hf]
      have := gc_le (lk := lk) (k := k) f
      omega
    · have := ih (by omega) hf
      split <;> omega
theorem gc_upd {lk lk' : Nat → Nat} {k f : Nat} : ∀ e, f < e → (∀ j, j < e → ¬ j = f → lk' j = lk j) → gc lk' k e + (if lk f < k then 1 else 0) = gc lk k e + (if lk' f < k then 1 else 0) := by
  intro e
  induction e with
  | zero => intro h; omega
  | succ e ih =>
    intro h hl
    show gc lk' k e + (if lk' e < k then 1 else 0) + _ = gc lk k e + (if lk e < k then 1 else 0) + _
    by_cases he : f = e
    · subst he
      rw [gc_ext f (fun j hj => hl j (by omega) (by omega))]
      omega
    · have := ih (by omega) (fun j hj => hl j (by omega))
      rw [hl e (by omega) (fun z => he z.symm)]
      omega
theorem gs_nodup {f : Nat → Nat} : ∀ {S : List Nat}, S.Nodup → (∀ a ∈ S, ∀ b ∈ S, f a = f b → a = b) → (S.map f).Nodup := by
  intro S
  induction S with
  | nil => intro _ _; exact List.Pairwise.nil
  | cons a S ih =>
    intro h hi
    obtain ⟨h1, h2⟩ := List.nodup_cons.mp h
    rw [List.map_cons]
    refine List.nodup_cons.mpr ⟨fun z => ?_, ih h2 (fun x hx y hy => hi x (List.mem_cons_of_mem _ hx) y (List.mem_cons_of_mem _ hy))⟩
    obtain ⟨b, hb, e⟩ := List.mem_map.mp z
    have := hi a List.mem_cons_self b (List.mem_cons_of_mem _ hb) e.symm
    exact h1 (this ▸ hb)
/-- what is held, ahead of asking i: keys, their last askings, their next ones -/
def bJ (As : List Nat) (m i e : Nat) (xk lk nk : Nat → Nat) : Prop :=
  e ≤ m ∧ (∀ j, j < e → mb As (xk j) i = some (lk j) ∧ nX As (lk j) (nk j)) ∧
  (∀ j j', j < e → j' < e → xk j = xk j' → j = j') ∧
  (∀ k, k < i → (gs As m i).1 k + gc lk k e + 1 ≤ m) ∧
  ∀ y b ny, (∀ j, j < e → ¬ xk j = y) → mb As y i = some b → nX As b ny → ny < As.length →
    ∃ (p : Nat) (S : List Nat), b < p ∧ p < i ∧ S.Nodup ∧ S.length + 1 = m ∧ ∀ e' ∈ S, e' < ny ∧ ∃ b', mb As (As.getD e' 0) e' = some b' ∧ b' < p ∧ p < e' ∧ (e' < i → gk As m e') ∧ (i ≤ e' → ∃ j, j < e ∧ xk j = As.getD e' 0 ∧ nk j = e')
def gu (f : Nat → Nat) (j v : Nat) : Nat → Nat := fun i => if i = j then v else f i
theorem gu_s {f : Nat → Nat} {j v : Nat} : gu f j v j = v := if_pos rfl
theorem gu_o {f : Nat → Nat} {j v i : Nat} (h : ¬ i = j) : gu f j v i = f i := if_neg h
section BJ
variable {As : List Nat} {m i e : Nat} {xk lk nk : Nat → Nat}
theorem bJ_0 : bJ As m 0 0 xk lk nk := ⟨Nat.zero_le m, fun j hj => absurd hj (Nat.not_lt_zero j), fun j _ hj => absurd hj (Nat.not_lt_zero j), fun k hk => absurd hk (Nat.not_lt_zero k), fun y b ny _ h => by cases h⟩
theorem bJ_nge (h : bJ As m i e xk lk nk) (hA : As.length ≤ 60) {j : Nat} (hj : j < e) (hn : nk j < As.length) : lk j < nk j ∧ i ≤ nk j ∧ As.getD (nk j) 0 = xk j ∧ mb As (As.getD (nk j) 0) (nk j) = some (lk j) := by
  obtain ⟨h1, h2⟩ := h.2.1 j hj
  have hat := mb_at h1
  rcases h2 with ⟨a1, a2, a3, a4⟩ | ⟨a1, a2⟩
  · refine ⟨a1, ?_, a3.trans hat, ?_⟩
    · refine Nat.le_of_not_lt fun z => gb_max h1 _ a1 z (a3.trans hat)
    · exact gb_eq a1 a3.symm (fun z z1 z2 => by rw [a3]; exact a4 z z1 z2)
  · have hl := mb_lt h1
    exfalso
    omega
theorem bJ_hit (h : bJ As m i e xk lk nk) (hi : i < As.length) (hA : As.length ≤ 60) {f ni : Nat} (hf : f < e) (hx : xk f = As.getD i 0) (hn : nX As i ni) : gk As m i ∧ bJ As m (i + 1) e xk (gu lk f i) (gu nk f ni) := by
  obtain ⟨hem, h1, h2, h3, h4⟩ := h
  obtain ⟨m1, m2⟩ := h1 f hf
  have hl := mb_lt m1
  rw [hx] at m1
  have hcount : ∀ k, lk f < k → 1 ≤ gc lk k e := fun k hk => by
    have := gc_upd (lk := lk) (lk' := gu lk f k) (k := k) (f := f) e hf (fun j _ hj => gu_o hj)
    rw [gu_s, if_pos hk, if_neg (Nat.lt_irrefl k)] at this
    omega
  have hg : ∀ k, k < i → lk f < k → (gs As m i).1 k + 1 < m := fun k k1 k2 => by
    have := h3 k k1
    have := hcount k k2
    omega
  have hgk : gk As m i := ⟨lk f, m1, hg⟩
  refine ⟨hgk, hem, fun j hj => ?_, h2, fun k hk => ?_, fun y b ny hy hb hny hlt => ?_⟩
  · by_cases hjf : j = f
    · subst hjf
      rw [gu_s, gu_s]
      exact ⟨gb_y hx.symm, hn⟩
    · rw [gu_o hjf, gu_o hjf]
      have hne : ¬ As.getD i 0 = xk j := fun z => hjf (h2 j f hj hf (z.symm.trans hx.symm))
      rw [gb_n hne]
      exact h1 j hj
  · rw [gs_y m1 hg]
    show (if lk f < k ∧ k < i then (gs As m i).1 k + 1 else (gs As m i).1 k) + gc (gu lk f i) k e + 1 ≤ m
    have hu := gc_upd (lk := lk) (lk' := gu lk f i) (k := k) (f := f) e hf (fun j _ hj => gu_o hj)
    rw [gu_s, if_neg (show ¬ i < k by omega)] at hu
    by_cases hki : k < i
    · have h9 := h3 k hki
      by_cases hlk : lk f < k
      · rw [if_pos ⟨hlk, hki⟩]
        rw [if_pos hlk] at hu
        omega
      · rw [if_neg (fun z => hlk z.1)]
        rw [if_neg hlk] at hu
        omega
    · have hki2 : k = i := by omega
      subst hki2
      rw [if_neg (fun z => Nat.lt_irrefl _ z.2), gs_far k k (by omega)]
      rw [if_pos hl] at hu
      have := gc_lt (lk := gu lk f k) (k := k) (f := f) e hf (by rw [gu_s]; omega)
      omega
  · have hyi : ¬ As.getD i 0 = y := fun z => hy f hf (hx.trans z)
    rw [gb_n hyi] at hb
    obtain ⟨p, S, p1, p2, p3, p4, p5⟩ := h4 y b ny hy hb hny hlt
    refine ⟨p, S, p1, by omega, p3, p4, fun e' he' => ?_⟩
    obtain ⟨q1, b', q2, q3, q4, q5, q6⟩ := p5 e' he'
    refine ⟨q1, b', q2, q3, q4, fun z => ?_, fun z => ?_⟩
    · by_cases hei : e' = i
      · rw [hei]; exact hgk
      · exact q5 (by omega)
    · obtain ⟨j, j1, j2, j3⟩ := q6 (by omega)
      refine ⟨j, j1, j2, ?_⟩
      by_cases hjf : j = f
      · exfalso
        rw [hjf, hx] at j2
        exact gb_max q2 i (by omega) (by omega) j2
      · rw [gu_o hjf]; exact j3
theorem bJ_not (h : bJ As m i e xk lk nk) (hi : i < As.length) (hx : ∀ j, j < e → ¬ xk j = As.getD i 0) : ¬ gk As m i := by
  rintro ⟨b, hb, hc⟩
  have hbl := mb_lt hb
  have hbx := mb_at hb
  obtain ⟨p, S, p1, p2, p3, p4, p5⟩ := h.2.2.2.2 (As.getD i 0) b i hx hb (Or.inl ⟨hbl, hi, hbx.symm, fun z z1 z2 => by rw [hbx]; exact gb_max hb z z1 z2⟩) hi
  have h9 := gs_cnt (As := As) (m := m) (p := p) i S p3 (fun e' he' => by
    obtain ⟨q1, b', q2, q3, q4, q5, q6⟩ := p5 e' he'
    exact ⟨q1, q5 q1, b', q2, q3, q4⟩)
  have := hc p p2 p1
  omega
theorem bJ_new (h : bJ As m i e xk lk nk) (hi : i < As.length) (hA : As.length ≤ 60) {ni : Nat} (hx : ∀ j, j < e → ¬ xk j = As.getD i 0) (hn : nX As i ni) (he : e < m) : bJ As m (i + 1) (e + 1) (gu xk e (As.getD i 0)) (gu lk e i) (gu nk e ni) := by
  have hng := bJ_not h hi hx
  obtain ⟨hem, h1, h2, h3, h4⟩ := h
  refine ⟨by omega, fun j hj => ?_, fun j j' hj hj' => ?_, fun k hk => ?_, fun y b ny hy hb hny hlt => ?_⟩
  · by_cases hje : j = e
    · subst hje
      rw [gu_s, gu_s, gu_s]
      exact ⟨gb_y rfl, hn⟩
    · rw [gu_o hje, gu_o hje, gu_o hje, gb_n (fun z => hx j (by omega) z.symm)]
      exact h1 j (by omega)
  · by_cases hje : j = e <;> by_cases hje' : j' = e
    · intro _; omega
    · rw [hje, gu_s, gu_o hje']
      intro z; exact absurd z.symm (hx j' (by omega))
    · rw [hje', gu_s, gu_o hje]
      intro z; exact absurd z (hx j (by omega))
    · rw [gu_o hje, gu_o hje']
      exact h2 j j' (by omega) (by omega)
  · rw [gs_n hng]
    show (gs As m i).1 k + (gc (gu lk e i) k e + (if gu lk e i e < k then 1 else 0)) + 1 ≤ m
    rw [gu_s, if_neg (by omega), show gc (gu lk e i) k e = gc lk k e from gc_ext e (fun j hj => gu_o (by omega))]
    by_cases hki : k < i
    · exact h3 k hki
    · rw [gs_far i k (by omega)]
      have := gc_le (lk := lk) (k := k) e
      omega
  · have hyx : ¬ As.getD i 0 = y := by
      have := hy e (by omega)
      rw [gu_s] at this
      exact this
    have hy' : ∀ j, j < e → ¬ xk j = y := fun j hj => by
      have := hy j (by omega)
      rw [gu_o (by omega)] at this
      exact this
    rw [gb_n hyx] at hb
    obtain ⟨p, S, p1, p2, p3, p4, p5⟩ := h4 y b ny hy' hb hny hlt
    refine ⟨p, S, p1, by omega, p3, p4, fun e' he' => ?_⟩
    obtain ⟨q1, b', q2, q3, q4, q5, q6⟩ := p5 e' he'
    have hei : ¬ e' = i := fun z => by
      obtain ⟨j, j1, j2, j3⟩ := q6 (by omega)
      rw [z] at j2
      exact hx j j1 j2
    refine ⟨q1, b', q2, q3, q4, fun z => q5 (by omega), fun z => ?_⟩
    obtain ⟨j, j1, j2, j3⟩ := q6 (by omega)
    exact ⟨j, by omega, by rw [gu_o (by omega)]; exact j2, by rw [gu_o (by omega)]; exact j3⟩
theorem bJ_out (h : bJ As m i m xk lk nk) (hi : i < As.length) (hA : As.length ≤ 60) {f ni : Nat} (hf : f < m) (hx : ∀ j, j < m → ¬ xk j = As.getD i 0) (hn : nX As i ni) (hfar : ∀ j, j < m → nk j ≤ nk f) : bJ As m (i + 1) m (gu xk f (As.getD i 0)) (gu lk f i) (gu nk f ni) := by
  have hng := bJ_not h hi hx
  have h0 := h
  obtain ⟨hem, h1, h2, h3, h4⟩ := h
  -- the witness at i, for a key that isn't asked again ahead of the one let go
  have hw : ∀ b ny, b < i → nk f < As.length → nk f ≤ ny → ∃ (p : Nat) (S : List Nat), b < p ∧ p < i + 1 ∧ S.Nodup ∧ S.length + 1 = m ∧ ∀ e' ∈ S, e' < ny ∧ ∃ b', mb As (As.getD e' 0) e' = some b' ∧ b' < p ∧ p < e' ∧ (e' < i + 1 → gk As m e') ∧ (i + 1 ≤ e' → ∃ j, j < m ∧ gu xk f (As.getD i 0) j = As.getD e' 0 ∧ gu nk f ni j = e') := by
    intro b ny hb hreal hle
    have hnd : (List.range m).Nodup := by first | exact List.nodup_range | exact List.nodup_range _
    have hinj : ∀ a, a < m → ∀ c, c < m → nk a = nk c → a = c := fun a ha c hc e => by
      have ea := (bJ_nge h0 hA ha (by have := hfar a ha; omega)).2.2.1
      have ec := (bJ_nge h0 hA hc (by have := hfar c hc; omega)).2.2.1
      rw [e] at ea
      exact h2 a c ha hc (ea.symm.trans ec)
    have hmem : ∀ a, a ∈ (List.range m).erase f → ¬ a = f ∧ a < m := fun a ha => by
      obtain ⟨n1, n2⟩ := (hnd.mem_erase_iff).mp ha
      exact ⟨n1, List.mem_range.mp n2⟩
    refine ⟨i, ((List.range m).erase f).map nk, hb, Nat.lt_succ_self i, gs_nodup (hnd.erase f) (fun a ha c hc e => hinj a (hmem a ha).2 c (hmem c hc).2 e), ?_, fun e' he' => ?_⟩
    · rw [List.length_map, List.length_erase_of_mem (List.mem_range.mpr hf), List.length_range]
      omega
    · obtain ⟨j, hj, rfl⟩ := List.mem_map.mp he'
      obtain ⟨hjf, hjm⟩ := hmem j hj
      have hle2 := hfar j hjm
      obtain ⟨g1, g2, g3, g4⟩ := bJ_nge h0 hA hjm (by omega)
      have hne : ¬ nk j = nk f := fun z => hjf (hinj j hjm f hf z)
      have hni : ¬ nk j = i := fun z => hx j hjm (g3.symm.trans (by rw [z]))
      exact ⟨by omega, lk j, g4, mb_lt (h1 j hjm).1, by omega, fun z => by omega, fun _ => ⟨j, hjm, by rw [gu_o hjf]; exact g3.symm, gu_o hjf⟩⟩
  refine ⟨Nat.le_refl m, fun j hj => ?_, fun j j' hj hj' => ?_, fun k hk => ?_, fun y b ny hy hb hny hlt => ?_⟩
  · by_cases hje : j = f
    · subst hje
      rw [gu_s, gu_s, gu_s]
      exact ⟨gb_y rfl, hn⟩
    · rw [gu_o hje, gu_o hje, gu_o hje, gb_n (fun z => hx j hj z.symm)]
      exact h1 j hj
  · by_cases hje : j = f <;> by_cases hje' : j' = f
    · intro _; omega
    · rw [hje, gu_s, gu_o hje']
      intro z; exact absurd z.symm (hx j' hj')
    · rw [hje', gu_s, gu_o hje]
      intro z; exact absurd z (hx j hj)
    · rw [gu_o hje, gu_o hje']
      exact h2 j j' hj hj'
  · rw [gs_n hng]
    have hu := gc_upd (lk := lk) (lk' := gu lk f i) (k := k) (f := f) m hf (fun j _ hj => gu_o hj)
    rw [gu_s, if_neg (show ¬ i < k by omega)] at hu
    by_cases hki : k < i
    · have := h3 k hki
      omega
    · rw [gs_far i k (by omega)]
      have := gc_lt (lk := gu lk f i) (k := k) (f := f) m hf (by rw [gu_s]; omega)
      omega
  · have hyx : ¬ As.getD i 0 = y := by
      have := hy f hf
      rw [gu_s] at this
      exact this
    rw [gb_n hyx] at hb
    have hbl := mb_lt hb
    by_cases hyf : xk f = y
    · obtain ⟨m1, m2⟩ := h1 f hf
      rw [hyf, hb] at m1
      cases m1
      have := nX_fun hA m2 hny
      exact hw _ ny hbl (by omega) (by omega)
    · have hy' : ∀ j, j < m → ¬ xk j = y := fun j hj => by
        by_cases hjf : j = f
        · rw [hjf]; exact hyf
        · have := hy j hj
          rw [gu_o hjf] at this
          exact this
      obtain ⟨p, S, p1, p2, p3, p4, p5⟩ := h4 y b ny hy' hb hny hlt
      by_cases hout : ∃ e', e' ∈ S ∧ i ≤ e' ∧ nk f = e'
      · obtain ⟨e', he', hi', hfe⟩ := hout
        have := (p5 e' he').1
        exact hw b ny hbl (by omega) (by omega)
      · refine ⟨p, S, p1, by omega, p3, p4, fun e' he' => ?_⟩
        obtain ⟨q1, b', q2, q3, q4, q5, q6⟩ := p5 e' he'
        have hei : ¬ e' = i := fun z => by
          obtain ⟨j, j1, j2, j3⟩ := q6 (by omega)
          rw [z] at j2
          exact hx j j1 j2
        refine ⟨q1, b', q2, q3, q4, fun z => q5 (by omega), fun z => ?_⟩
        obtain ⟨j, j1, j2, j3⟩ := q6 (by omega)
        have hjf : ¬ j = f := fun w => hout ⟨e', he', by omega, by rw [← w]; exact j3⟩
        exact ⟨j, j1, by rw [gu_o hjf]; exact j2, by rw [gu_o hjf]; exact j3⟩
end BJ
theorem nI_sub9 {a b : Nat} (h : b ≤ a) : nI a - nI b = nI (a - b) := by
  have : nI a = nI (a - b) + nI b := by rw [nI_add, Nat.sub_add_cancel h]
  rw [this, Int32.add_sub_cancel]
end
section
/-! ===== no cache of a size misses less than the one that lets go the farthest ===== -/
def kc (p : Nat → Bool) : Nat → Nat
  | 0 => 0
  | a + 1 => kc p a + (if p a = true then 1 else 0)
theorem kc_mono {p q : Nat → Bool} : ∀ n, (∀ a, a < n → p a = true → q a = true) → kc p n ≤ kc q n := by
  intro n
  induction n with
  | zero => intro _; exact Nat.le_refl 0
  | succ n ih =>
    intro h
    show kc p n + (if p n = true then 1 else 0) ≤ kc q n + (if q n = true then 1 else 0)
    have h1 := ih (fun a ha => h a (by omega))
    by_cases hp : p n = true
    · rw [if_pos hp, if_pos (h n (Nat.lt_succ_self n) hp)]; omega
    · rw [if_neg hp]; omega
theorem kc_ext {p q : Nat → Bool} (n : Nat) (h : ∀ a, a < n → (p a = true ↔ q a = true)) : kc p n = kc q n :=
  Nat.le_antisymm (kc_mono n fun a ha => (h a ha).mp) (kc_mono n fun a ha => (h a ha).mpr)
theorem kc_zero {p : Nat → Bool} : ∀ n, (∀ a, a < n → ¬ p a = true) → kc p n = 0 := by
  intro n
  induction n with
  | zero => intro _; rfl
  | succ n ih =>
    intro h
    show kc p n + (if p n = true then 1 else 0) = 0
    rw [ih (fun a ha => h a (by omega)), if_neg (h n (Nat.lt_succ_self n))]
/-- all but x -/
def kx (p : Nat → Bool) (x a : Nat) : Bool := p a && !decide (a = x)
theorem kx_iff {p : Nat → Bool} {x a : Nat} : kx p x a = true ↔ p a = true ∧ ¬ a = x := by
  unfold kx
  rw [Bool.and_eq_true, Bool.not_eq_true', decide_eq_false_iff_not]
theorem kc_split {p : Nat → Bool} {x : Nat} : ∀ n, x < n → kc p n = kc (kx p x) n + (if p x = true then 1 else 0) := by
  intro n
  induction n with
  | zero => intro h; omega
  | succ n ih =>
    intro h
    show kc p n + (if p n = true then 1 else 0) = kc (kx p x) n + (if kx p x n = true then 1 else 0) + (if p x = true then 1 else 0)
    by_cases hx : x = n
    · subst hx
      rw [if_neg (show ¬ kx p x x = true from fun z => (kx_iff.mp z).2 rfl)]
      have : kc p x = kc (kx p x) x := kc_ext x (fun a ha => by
        rw [kx_iff]
        exact ⟨fun z => ⟨z, by omega⟩, fun z => z.1⟩)
      omega
    · have h1 := ih (by omega)
      have h2 : (kx p x n = true) ↔ p n = true := by
        rw [kx_iff]
        exact ⟨fun z => z.1, fun z => ⟨z, fun w => hx w.symm⟩⟩
      by_cases hp : p n = true
      · rw [if_pos hp, if_pos (h2.mpr hp)]; omega
      · rw [if_neg hp, if_neg (fun z => hp (h2.mp z))]; omega
/-- the next asking of a key, from an asking on; 60 -/
def nw (As : List Nat) (a : Nat) : Nat → Nat → Nat
  | 0, _ => 60
  | d + 1, i => if As.getD i 0 = a then i else nw As a d (i + 1)
def nxt (As : List Nat) (i a : Nat) : Nat := nw As a (As.length - i) i
section NW
variable {As : List Nat} {i a : Nat}
theorem nxt_hit (hi : i < As.length) (e : As.getD i 0 = a) : nxt As i a = i := by
  unfold nxt
  rw [show As.length - i = (As.length - (i + 1)) + 1 from by omega]
  exact if_pos e
theorem nxt_miss (hi : i < As.length) (e : ¬ As.getD i 0 = a) : nxt As i a = nxt As (i + 1) a := by
  unfold nxt
  rw [show As.length - i = (As.length - (i + 1)) + 1 from by omega]
  exact if_neg e
theorem nxt_spec : ∀ (d i : Nat), As.length - i = d → (i ≤ nxt As i a ∧ nxt As i a < As.length ∧ As.getD (nxt As i a) 0 = a ∧ ∀ z, i ≤ z → z < nxt As i a → ¬ As.getD z 0 = a) ∨ (nxt As i a = 60 ∧ ∀ z, i ≤ z → z < As.length → ¬ As.getD z 0 = a) := by
  intro d
  induction d with
  | zero =>
    intro i h
    refine Or.inr ⟨?_, fun z h1 h2 => by omega⟩
    unfold nxt
    rw [h]
    rfl
  | succ d ih =>
    intro i h
    by_cases e : As.getD i 0 = a
    · rw [nxt_hit (by omega) e]
      exact Or.inl ⟨Nat.le_refl i, by omega, e, fun z h1 h2 => by omega⟩
    · rw [nxt_miss (by omega) e]
      rcases ih (i + 1) (by omega) with ⟨h1, h2, h3, h4⟩ | ⟨h1, h2⟩
      · refine Or.inl ⟨by omega, h2, h3, fun z z1 z2 => ?_⟩
        by_cases hz : z = i
        · rw [hz]; exact e
        · exact h4 z (by omega) z2
      · refine Or.inr ⟨h1, fun z z1 z2 => ?_⟩
        by_cases hz : z = i
        · rw [hz]; exact e
        · exact h2 z (by omega) z2
theorem nxt_ge (hA : As.length ≤ 60) (hi : i ≤ As.length) : i ≤ nxt As i a := by
  rcases nxt_spec (As := As) (a := a) _ i rfl with ⟨h1, -⟩ | ⟨h1, -⟩ <;> omega
theorem nxt_X (hi : i < As.length) : nX As i (nxt As (i + 1) (As.getD i 0)) := by
  rcases nxt_spec (As := As) (a := As.getD i 0) _ (i + 1) rfl with ⟨h1, h2, h3, h4⟩ | ⟨h1, h2⟩
  · exact Or.inl ⟨by omega, h2, h3, fun z z1 z2 => h4 z (by omega) z2⟩
  · exact Or.inr ⟨h1, fun z z1 z2 => h2 z (by omega) z2⟩
theorem bJ_nk {m e : Nat} {xk lk nk : Nat → Nat} (h : bJ As m i e xk lk nk) (hA : As.length ≤ 60) {j : Nat} (hj : j < e) : nk j = nxt As i (xk j) := by
  have hJ := h
  obtain ⟨h1, h2⟩ := h.2.1 j hj
  have hl := mb_lt h1
  have ha := mb_at h1
  rcases h2 with ⟨a1, a2, a3, a4⟩ | ⟨a1, a2⟩
  · obtain ⟨-, b2, -, -⟩ := bJ_nge hJ hA hj a2
    rcases nxt_spec (As := As) (a := xk j) _ i rfl with ⟨c1, c2, c3, c4⟩ | ⟨c1, c2⟩
    · rcases Nat.lt_trichotomy (nk j) (nxt As i (xk j)) with z | z | z
      · exact absurd (a3.trans ha) (c4 _ b2 z)
      · exact z
      · exact absurd (c3.trans ha.symm) (a4 _ (by omega) z)
    · exact absurd (a3.trans ha) (c2 _ b2 a2)
  · rcases nxt_spec (As := As) (a := xk j) _ i rfl with ⟨c1, c2, c3, c4⟩ | ⟨c1, c2⟩
    · exact absurd (c3.trans ha.symm) (a2 _ (by omega) c2)
    · omega
end NW
/-- where a key is held, and which one is asked next the farthest -/
def fs (xk : Nat → Nat) (x : Nat) : Nat → Option Nat
  | 0 => none
  | j + 1 => match fs xk x j with
    | some f => some f
    | none => if xk j = x then some j else none
theorem fs_s {xk : Nat → Nat} {x f : Nat} : ∀ {e}, fs xk x e = some f → f < e ∧ xk f = x := by
  intro e
  induction e with
  | zero => intro h; cases h
  | succ e ih =>
    intro h
    unfold fs at h
    rcases hf : fs xk x e with _ | g
    · rw [hf] at h
      dsimp only at h
      split at h
      · rename_i hx
        cases h
        exact ⟨Nat.lt_succ_self _, hx⟩
      · cases h
    · rw [hf] at h
      cases h
      have := ih hf
      exact ⟨by omega, this.2⟩
theorem fs_n {xk : Nat → Nat} {x : Nat} : ∀ {e}, fs xk x e = none → ∀ j, j < e → ¬ xk j = x := by
  intro e
  induction e with
  | zero => intro _ j hj; omega
  | succ e ih =>
    intro h j hj
    unfold fs at h
    rcases hf : fs xk x e with _ | g
    · rw [hf] at h
      dsimp only at h
      split at h
      · cases h
      · by_cases hje : j = e
        · rw [hje]; assumption
        · exact ih hf j (by omega)
    · rw [hf] at h
      cases h
def fa (nk : Nat → Nat) : Nat → Nat
  | 0 => 0
  | j + 1 => if nk (fa nk j) < nk j then j else fa nk j
theorem fa_s {nk : Nat → Nat} : ∀ e, fa nk (e + 1) < e + 1 ∧ ∀ j, j < e + 1 → nk j ≤ nk (fa nk (e + 1)) := by
  intro e
  induction e with
  | zero =>
    have : fa nk 1 = 0 := by
      show (if nk 0 < nk 0 then 0 else 0) = 0
      split <;> rfl
    rw [this]
    exact ⟨by omega, fun j hj => by rw [show j = 0 from by omega]; exact Nat.le_refl _⟩
  | succ e ih =>
    have h0 : fa nk (e + 1 + 1) = if nk (fa nk (e + 1)) < nk (e + 1) then e + 1 else fa nk (e + 1) := rfl
    rw [h0]
    split
    · rename_i h
      refine ⟨by omega, fun j hj => ?_⟩
      by_cases hje : j = e + 1
      · rw [hje]; exact Nat.le_refl _
      · have := ih.2 j (by omega)
        omega
    · rename_i h
      refine ⟨by omega, fun j hj => ?_⟩
      by_cases hje : j = e + 1
      · rw [hje]; omega
      · exact ih.2 j (by omega)
/-- the run: how many are held, keys, last askings, next ones -/
def br (As : List Nat) (m : Nat) : Nat → Nat × (Nat → Nat) × (Nat → Nat) × (Nat → Nat)
  | 0 => (0, fun _ => 0, fun _ => 0, fun _ => 0)
  | i + 1 => match fs (br As m i).2.1 (As.getD i 0) (br As m i).1 with
    | some f => ((br As m i).1, (br As m i).2.1, gu (br As m i).2.2.1 f i, gu (br As m i).2.2.2 f (nxt As (i + 1) (As.getD i 0)))
    | none => if (br As m i).1 < m then ((br As m i).1 + 1, gu (br As m i).2.1 (br As m i).1 (As.getD i 0), gu (br As m i).2.2.1 (br As m i).1 i, gu (br As m i).2.2.2 (br As m i).1 (nxt As (i + 1) (As.getD i 0)))
      else (m, gu (br As m i).2.1 (fa (br As m i).2.2.2 m) (As.getD i 0), gu (br As m i).2.2.1 (fa (br As m i).2.2.2 m) i, gu (br As m i).2.2.2 (fa (br As m i).2.2.2 m) (nxt As (i + 1) (As.getD i 0)))
def bh (As : List Nat) (m i : Nat) : Prop := bJ As m i (br As m i).1 (br As m i).2.1 (br As m i).2.2.1 (br As m i).2.2.2
/-- is it held? -/
def bk (xk : Nat → Nat) (a : Nat) : Nat → Bool
  | 0 => false
  | j + 1 => bk xk a j || decide (xk j = a)
theorem bk_iff {xk : Nat → Nat} {a : Nat} : ∀ {e}, bk xk a e = true ↔ ∃ j, j < e ∧ xk j = a := by
  intro e
  induction e with
  | zero => exact ⟨fun h => (by cases h), fun ⟨j, hj, _⟩ => absurd hj (Nat.not_lt_zero j)⟩
  | succ e ih =>
    show (bk xk a e || decide (xk e = a)) = true ↔ _
    rw [Bool.or_eq_true, ih, decide_eq_true_iff]
    constructor
    · rintro (⟨j, hj, h⟩ | h)
      · exact ⟨j, by omega, h⟩
      · exact ⟨e, Nat.lt_succ_self e, h⟩
    · rintro ⟨j, hj, h⟩
      by_cases hje : j = e
      · exact Or.inr (hje ▸ h)
      · exact Or.inl ⟨j, by omega, h⟩
theorem kc_bk {xk : Nat → Nat} : ∀ e, (∀ j, j < e → xk j < 20) → (∀ j j', j < e → j' < e → xk j = xk j' → j = j') → kc (fun a => bk xk a e) 20 = e := by
  intro e
  induction e with
  | zero =>
    intro _ _
    exact kc_zero 20 (fun a _ h => by cases h)
  | succ e ih =>
    intro h1 h2
    have h3 := ih (fun j hj => h1 j (by omega)) (fun j j' hj hj' => h2 j j' (by omega) (by omega))
    have hx := h1 e (Nat.lt_succ_self e)
    have hn : ¬ bk xk (xk e) e = true := fun z => by
      obtain ⟨j, hj, e1⟩ := bk_iff.mp z
      have := h2 j e (by omega) (by omega) e1
      omega
    rw [kc_split 20 hx] at h3 ⊢
    rw [if_neg hn] at h3
    rw [if_pos (bk_iff.mpr ⟨e, Nat.lt_succ_self e, rfl⟩)]
    have : kc (kx (fun a => bk xk a (e + 1)) (xk e)) 20 = kc (kx (fun a => bk xk a e) (xk e)) 20 := kc_ext 20 (fun a _ => by
      rw [kx_iff, kx_iff, bk_iff, bk_iff]
      constructor
      · rintro ⟨⟨j, hj, e1⟩, hne⟩
        refine ⟨⟨j, Nat.lt_of_le_of_ne (by omega) (fun z => ?_), e1⟩, hne⟩
        rw [z] at e1
        exact hne e1.symm
      · rintro ⟨⟨j, hj, e1⟩, hne⟩
        exact ⟨⟨j, by omega, e1⟩, hne⟩)
    omega
section BR
variable {As : List Nat} {m : Nat}
/-- a step of the run: held (hit), one more, or the farthest let go -/
theorem br_step {i : Nat} (hm : 1 ≤ m) (hA : As.length ≤ 60) (hi : i < As.length) (h : bh As m i) : bh As m (i + 1) ∧
    ((∃ f, f < (br As m i).1 ∧ (br As m i).2.1 f = As.getD i 0 ∧ gk As m i ∧ (br As m (i + 1)).1 = (br As m i).1 ∧ (br As m (i + 1)).2.1 = (br As m i).2.1) ∨
     ((∀ j, j < (br As m i).1 → ¬ (br As m i).2.1 j = As.getD i 0) ∧ ¬ gk As m i ∧ (br As m i).1 < m ∧ (br As m (i + 1)).1 = (br As m i).1 + 1 ∧ (br As m (i + 1)).2.1 = gu (br As m i).2.1 (br As m i).1 (As.getD i 0)) ∨
     ((∀ j, j < (br As m i).1 → ¬ (br As m i).2.1 j = As.getD i 0) ∧ ¬ gk As m i ∧ (br As m i).1 = m ∧ (br As m (i + 1)).1 = m ∧ ∃ f, f < m ∧ (∀ j, j < m → (br As m i).2.2.2 j ≤ (br As m i).2.2.2 f) ∧ (br As m (i + 1)).2.1 = gu (br As m i).2.1 f (As.getD i 0))) := by
  unfold bh at h ⊢
  have hb : br As m (i + 1) = match fs (br As m i).2.1 (As.getD i 0) (br As m i).1 with
    | some f => ((br As m i).1, (br As m i).2.1, gu (br As m i).2.2.1 f i, gu (br As m i).2.2.2 f (nxt As (i + 1) (As.getD i 0)))
    | none => if (br As m i).1 < m then ((br As m i).1 + 1, gu (br As m i).2.1 (br As m i).1 (As.getD i 0), gu (br As m i).2.2.1 (br As m i).1 i, gu (br As m i).2.2.2 (br As m i).1 (nxt As (i + 1) (As.getD i 0)))
      else (m, gu (br As m i).2.1 (fa (br As m i).2.2.2 m) (As.getD i 0), gu (br As m i).2.2.1 (fa (br As m i).2.2.2 m) i, gu (br As m i).2.2.2 (fa (br As m i).2.2.2 m) (nxt As (i + 1) (As.getD i 0))) := rfl
  rw [hb]
  rcases hf : fs (br As m i).2.1 (As.getD i 0) (br As m i).1 with _ | f
  · have hno := fs_n hf
    have hng := bJ_not h hi hno
    dsimp only
    by_cases he : (br As m i).1 < m
    · rw [if_pos he]
      exact ⟨bJ_new h hi hA hno (nxt_X hi) he, Or.inr (Or.inl ⟨hno, hng, he, rfl, rfl⟩)⟩
    · rw [if_neg he]
      have hem : (br As m i).1 = m := Nat.le_antisymm h.1 (Nat.le_of_not_lt he)
      have hfa := fa_s (nk := (br As m i).2.2.2) (m - 1)
      rw [Nat.sub_add_cancel hm] at hfa
      have h' : bJ As m i m (br As m i).2.1 (br As m i).2.2.1 (br As m i).2.2.2 := by rw [hem] at h; exact h
      have hno' : ∀ j, j < m → ¬ (br As m i).2.1 j = As.getD i 0 := by rw [hem] at hno; exact hno
      exact ⟨bJ_out h' hi hA hfa.1 hno' (nxt_X hi) hfa.2, Or.inr (Or.inr ⟨hno, hng, hem, rfl, _, hfa.1, hfa.2, rfl⟩)⟩
  · obtain ⟨hfe, hfx⟩ := fs_s hf
    obtain ⟨hg, hJ⟩ := bJ_hit h hi hA hfe hfx (nxt_X hi)
    exact ⟨hJ, Or.inl ⟨f, hfe, hfx, hg, rfl, rfl⟩⟩
theorem br_all (hm : 1 ≤ m) (hA : As.length ≤ 60) : ∀ i, i ≤ As.length → bh As m i := by
  intro i
  induction i with
  | zero => intro _; exact bJ_0
  | succ i ih => intro hi; exact (br_step hm hA (by omega) (ih (by omega))).1
/-- a cache's misses -/
def ma (As : List Nat) (In : Nat → Nat → Bool) : Nat → Nat
  | 0 => 0
  | i + 1 => ma As In i + (if In i (As.getD i 0) = true then 0 else 1)
def bin (As : List Nat) (m i a : Nat) : Bool := bk (br As m i).2.1 a (br As m i).1
theorem br_xk (hk : ∀ i, i < As.length → As.getD i 0 < 20) {i : Nat} (hi : i ≤ As.length) (h : bh As m i) {j : Nat} (hj : j < (br As m i).1) : (br As m i).2.1 j < 20 := by
  have h1 := (h.2.1 j hj).1
  have h2 := mb_lt h1
  rw [← mb_at h1]
  exact hk _ (by omega)
theorem bin_gk (hm : 1 ≤ m) (hA : As.length ≤ 60) {i : Nat} (hi : i < As.length) : bin As m i (As.getD i 0) = true ↔ gk As m i := by
  have h := br_all (As := As) hm hA i (by omega)
  rcases (br_step hm hA hi h).2 with ⟨f, f1, f2, f3, -⟩ | ⟨f1, f2, -⟩ | ⟨f1, f2, -⟩
  · exact ⟨fun _ => f3, fun _ => bk_iff.mpr ⟨f, f1, f2⟩⟩
  · exact ⟨fun z => by obtain ⟨j, hj, e⟩ := bk_iff.mp z; exact absurd e (f1 j hj), fun z => absurd z f2⟩
  · exact ⟨fun z => by obtain ⟨j, hj, e⟩ := bk_iff.mp z; exact absurd e (f1 j hj), fun z => absurd z f2⟩
theorem ma_bin (hm : 1 ≤ m) (hA : As.length ≤ 60) : ∀ i, i ≤ As.length → ma As (bin As m) i = i - (gs As m i).2 := by
  intro i
  induction i with
  | zero => intro _; rfl
  | succ i ih =>
    intro hi
    have h1 := ih (by omega)
    have h2 := gs_le (As := As) (m := m) i
    show ma As (bin As m) i + (if bin As m i (As.getD i 0) = true then 0 else 1) = _
    by_cases hg : gk As m i
    · rw [if_pos ((bin_gk hm hA (by omega)).mpr hg)]
      obtain ⟨b, g1, g2⟩ := hg
      rw [gs_y g1 g2]
      show _ = i + 1 - ((gs As m i).2 + 1)
      omega
    · rw [if_neg (fun z => hg ((bin_gk hm hA (by omega)).mp z)), gs_n hg]
      omega
theorem opt (hm : 1 ≤ m) (hA : As.length ≤ 60) (hk : ∀ i, i < As.length → As.getD i 0 < 20) {In : Nat → Nat → Bool} (h0 : ∀ a, ¬ In 0 a = true) (h1 : ∀ i, i < As.length → ∀ a, In (i + 1) a = true → a = As.getD i 0 ∨ In i a = true) (h2 : ∀ i, i < As.length → In (i + 1) (As.getD i 0) = true) (h3 : ∀ i, i ≤ As.length → kc (In i) 20 ≤ m) :
    ∀ i, i ≤ As.length → ∀ T, ma As (bin As m) i + kc (fun a => In i a && decide (nxt As i a < T)) 20 ≤ ma As In i + kc (fun a => bin As m i a && decide (nxt As i a < T)) 20 := by
  intro i
  induction i with
  | zero =>
    intro _ T
    rw [kc_zero (p := fun a => In 0 a && decide (nxt As 0 a < T)) 20 (fun a _ z => h0 a (Bool.and_eq_true_iff.mp z).1)]
    exact Nat.zero_le _
  | succ i ih =>
    intro hi T
    have hI := ih (by omega)
    have hx20 := hk i (by omega)
    have hb := br_all (As := As) hm hA i (by omega)
    generalize hx : As.getD i 0 = x at hx20
    have hnx : ∀ a, ¬ a = x → nxt As i a = nxt As (i + 1) a := fun a ha => nxt_miss (by omega) (fun z => ha (z.symm.trans hx))
    have hge : ∀ a, ¬ a = x → i + 1 ≤ nxt As i a := fun a ha => by rw [hnx a ha]; exact nxt_ge hA hi
    have hxx : nxt As i x = i := nxt_hit (by omega) hx
    -- the two sums without x
    have sA : ∀ T, kc (fun a => In i a && decide (nxt As i a < T)) 20 = kc (kx (fun a => In i a && decide (nxt As i a < T)) x) 20 + (if In i x = true ∧ i < T then 1 else 0) := fun T => by
      rw [kc_split 20 hx20]
      congr 1
      have : ((In i x && decide (nxt As i x < T)) = true) = (In i x = true ∧ i < T) := by rw [Bool.and_eq_true, decide_eq_true_iff, hxx]
      simp only [this]
    have sB : ∀ T, kc (fun a => bin As m i a && decide (nxt As i a < T)) 20 = kc (kx (fun a => bin As m i a && decide (nxt As i a < T)) x) 20 + (if bin As m i x = true ∧ i < T then 1 else 0) := fun T => by
      rw [kc_split 20 hx20]
      congr 1
      have : ((bin As m i x && decide (nxt As i x < T)) = true) = (bin As m i x = true ∧ i < T) := by rw [Bool.and_eq_true, decide_eq_true_iff, hxx]
      simp only [this]
    have sA' : kc (fun a => In (i + 1) a && decide (nxt As (i + 1) a < T)) 20 ≤ kc (kx (fun a => In i a && decide (nxt As i a < T)) x) 20 + (if nxt As (i + 1) x < T then 1 else 0) := by
      rw [kc_split 20 hx20]
      refine Nat.add_le_add (kc_mono 20 fun a _ z => ?_) ?_
      · obtain ⟨z1, z2⟩ := kx_iff.mp z
        obtain ⟨z3, z4⟩ := Bool.and_eq_true_iff.mp z1
        rw [kx_iff, Bool.and_eq_true, hnx a z2]
        exact ⟨⟨(h1 i (by omega) a z3).resolve_left (fun w => z2 (w.trans hx)), z4⟩, z2⟩
      · by_cases hT : nxt As (i + 1) x < T
        · rw [if_pos hT]; split <;> omega
        · rw [if_neg hT, if_neg (fun z => hT (of_decide_eq_true (Bool.and_eq_true_iff.mp z).2))]; omega
    have sA2 : kc (fun a => In (i + 1) a && decide (nxt As (i + 1) a < T)) 20 + 1 ≤ m + (if nxt As (i + 1) x < T then 1 else 0) := by
      have g1 := h3 (i + 1) hi
      rw [kc_split 20 hx20, if_pos (by rw [← hx]; exact h2 i (by omega))] at g1
      rw [kc_split 20 hx20]
      have g2 : kc (kx (fun a => In (i + 1) a && decide (nxt As (i + 1) a < T)) x) 20 ≤ kc (kx (In (i + 1)) x) 20 := kc_mono 20 fun a _ z => by
        obtain ⟨z1, z2⟩ := kx_iff.mp z
        exact kx_iff.mpr ⟨(Bool.and_eq_true_iff.mp z1).1, z2⟩
      by_cases hT : nxt As (i + 1) x < T
      · rw [if_pos hT]; split <;> omega
      · rw [if_neg hT, if_neg (fun z => hT (of_decide_eq_true (Bool.and_eq_true_iff.mp z).2))]; omega
    -- at i + 1 and at 0 the sums without x are empty
    have eA : ∀ T, T ≤ i + 1 → kc (kx (fun a => In i a && decide (nxt As i a < T)) x) 20 = 0 := fun T hT => kc_zero 20 fun a _ z => by
      obtain ⟨z1, z2⟩ := kx_iff.mp z
      have := hge a z2
      have := of_decide_eq_true (Bool.and_eq_true_iff.mp z1).2
      omega
    have eB : ∀ T, T ≤ i + 1 → kc (kx (fun a => bin As m i a && decide (nxt As i a < T)) x) 20 = 0 := fun T hT => kc_zero 20 fun a _ z => by
      obtain ⟨z1, z2⟩ := kx_iff.mp z
      have := hge a z2
      have := of_decide_eq_true (Bool.and_eq_true_iff.mp z1).2
      omega
    have ite1 : ∀ (p : Bool) (T : Nat), i < T → (if p = true ∧ i < T then 1 else 0) = (if p = true then 1 else 0) := fun p T h => by
      by_cases hp : p = true
      · rw [if_pos ⟨hp, h⟩, if_pos hp]
      · rw [if_neg (fun z => hp z.1), if_neg hp]
    have itn : ∀ p : Bool, (if p = true then 0 else 1) = 1 - (if p = true then 1 else 0) := fun p => by cases p <;> rfl
    have hma : ma As In (i + 1) = ma As In i + (1 - (if In i x = true then 1 else 0)) := by rw [← itn, ← hx]; rfl
    have hmb : ma As (bin As m) (i + 1) = ma As (bin As m) i + (1 - (if bin As m i x = true then 1 else 0)) := by rw [← itn, ← hx]; rfl
    rw [hma, hmb]
    have HT : i < T → ma As (bin As m) i + (kc (kx (fun a => In i a && decide (nxt As i a < T)) x) 20 + (if In i x = true then 1 else 0)) ≤ ma As In i + (kc (kx (fun a => bin As m i a && decide (nxt As i a < T)) x) 20 + (if bin As m i x = true then 1 else 0)) := fun h => by
      have h9 := hI T
      rw [sA, sB, ite1 _ _ h, ite1 _ _ h] at h9
      exact h9
    have H1 : ma As (bin As m) i + (if In i x = true then 1 else 0) ≤ ma As In i + (if bin As m i x = true then 1 else 0) := by
      have h9 := hI (i + 1)
      rw [sA, sB, ite1 _ _ (Nat.lt_succ_self i), ite1 _ _ (Nat.lt_succ_self i), eA (i + 1) (Nat.le_refl _), eB (i + 1) (Nat.le_refl _), Nat.zero_add, Nat.zero_add] at h9
      exact h9
    have H0 : ma As (bin As m) i ≤ ma As In i := by
      have h9 := hI 0
      have hz : ∀ p : Bool, (if p = true ∧ i < 0 then 1 else 0) = 0 := fun p => if_neg (fun z => Nat.not_lt_zero _ z.2)
      rw [sA, sB, eA 0 (by omega), eB 0 (by omega), hz, hz] at h9
      exact h9
    have hα : (if In i x = true then 1 else 0) ≤ 1 := by split <;> omega
    generalize (if In i x = true then 1 else 0) = α at HT H1 hα ⊢
    -- the sum for what is held afterwards
    have sB' : ∀ q : Nat → Bool, (∀ a, ¬ a = x → (bin As m (i + 1) a = true ↔ bin As m i a = true ∧ q a = true)) → bin As m (i + 1) x = true → kc (fun a => bin As m (i + 1) a && decide (nxt As (i + 1) a < T)) 20 = kc (kx (fun a => (bin As m i a && q a) && decide (nxt As i a < T)) x) 20 + (if nxt As (i + 1) x < T then 1 else 0) := fun q hq hxb => by
      rw [kc_split 20 hx20]
      congr 1
      · refine kc_ext 20 fun a _ => ?_
        rw [kx_iff, kx_iff, Bool.and_eq_true, Bool.and_eq_true, Bool.and_eq_true]
        constructor
        · rintro ⟨⟨z1, z2⟩, z3⟩
          rw [hnx a z3]
          exact ⟨⟨(hq a z3).mp z1, z2⟩, z3⟩
        · rintro ⟨⟨z1, z2⟩, z3⟩
          rw [hnx a z3] at z2
          exact ⟨⟨(hq a z3).mpr z1, z2⟩, z3⟩
      · have : ((bin As m (i + 1) x && decide (nxt As (i + 1) x < T)) = true) = (nxt As (i + 1) x < T) := by rw [Bool.and_eq_true, decide_eq_true_iff, hxb]; exact propext ⟨fun z => z.2, fun z => ⟨rfl, z⟩⟩
        simp only [this]
    have ktrue : kc (kx (fun a => (bin As m i a && (fun _ : Nat => true) a) && decide (nxt As i a < T)) x) 20 = kc (kx (fun a => bin As m i a && decide (nxt As i a < T)) x) 20 := kc_ext 20 fun a _ => by
      rw [kx_iff, kx_iff, Bool.and_true]
    obtain ⟨hb', hcase⟩ := br_step hm hA (by omega) hb
    rcases hcase with ⟨f, f1, f2, f3, f4, f5⟩ | ⟨f1, f2, f3, f4, f5⟩ | ⟨f1, f2, f3, f4, f, f5, f6, f7⟩
    · rw [hx] at f2
      have hbx : bin As m i x = true := bk_iff.mpr ⟨f, f1, f2⟩
      have hbs : ∀ a, bin As m (i + 1) a = bin As m i a := fun a => by unfold bin; rw [f4, f5]
      rw [sB' (fun _ => true) (fun a _ => by rw [hbs a]; exact ⟨fun z => ⟨z, rfl⟩, fun z => z.1⟩) (by rw [hbs x]; exact hbx), ktrue]
      rw [if_pos hbx] at HT H1 ⊢
      by_cases hiT : i < T
      · have := HT hiT
        omega
      · rw [eA T (by omega)] at sA'
        omega
    · have hno : ¬ bin As m i x = true := fun z => by
        obtain ⟨j, hj, e⟩ := bk_iff.mp z
        exact f1 j hj (e.trans hx.symm)
      rw [hx] at f5
      rw [sB' (fun _ => true) (fun a hax => by
        unfold bin
        rw [f4, f5, bk_iff, bk_iff]
        constructor
        · rintro ⟨j, hj, e⟩
          have hje : ¬ j = (br As m i).1 := fun z => by rw [z, gu_s] at e; exact hax e.symm
          rw [gu_o hje] at e
          exact ⟨⟨j, by omega, e⟩, rfl⟩
        · rintro ⟨⟨j, hj, e⟩, -⟩
          exact ⟨j, by omega, by rw [gu_o (by omega)]; exact e⟩) (bk_iff.mpr ⟨(br As m i).1, by rw [f4]; omega, by rw [f5, gu_s]⟩), ktrue]
      rw [if_neg hno] at HT H1 ⊢
      by_cases hiT : i < T
      · have := HT hiT
        omega
      · rw [eA T (by omega)] at sA'
        omega
    · have hno : ¬ bin As m i x = true := fun z => by
        obtain ⟨j, hj, e⟩ := bk_iff.mp z
        exact f1 j hj (e.trans hx.symm)
      rw [hx] at f7
      rw [f3] at f1
      have hb2 := hb
      unfold bh at hb2
      rw [f3] at hb2
      have hinj := hb2.2.2.1
      obtain ⟨y, hqq⟩ : ∃ y, (br As m i).2.1 f = y := ⟨_, rfl⟩
      have hyx : ¬ y = x := fun z => f1 f f5 (hqq.trans (z.trans hx.symm))
      have hy20 : y < 20 := by rw [← hqq]; exact br_xk hk (by omega) hb (by rw [f3]; exact f5)
      have hby : bin As m i y = true := bk_iff.mpr ⟨f, by rw [f3]; exact f5, hqq⟩
      rw [sB' (fun a => !decide (a = y)) (fun a hax => by
        unfold bin
        rw [f4, f7, bk_iff, bk_iff, f3, Bool.not_eq_true', decide_eq_false_iff_not]
        constructor
        · rintro ⟨j, hj, e⟩
          have hje : ¬ j = f := fun z => by rw [z, gu_s] at e; exact hax e.symm
          rw [gu_o hje] at e
          exact ⟨⟨j, hj, e⟩, fun w => hje (hinj j f hj f5 (e.trans (w.trans hqq.symm)))⟩
        · rintro ⟨⟨j, hj, e⟩, hne⟩
          have hje : ¬ j = f := fun z => by rw [z] at e; exact hne (e.symm.trans hqq)
          exact ⟨j, hj, by rw [gu_o hje]; exact e⟩) (bk_iff.mpr ⟨f, by rw [f4]; exact f5, by rw [f7, gu_s]⟩)]
      rw [if_neg hno] at HT H1 ⊢
      have hsplit : kc (kx (fun a => bin As m i a && decide (nxt As i a < T)) x) 20 = kc (kx (fun a => (bin As m i a && !decide (a = y)) && decide (nxt As i a < T)) x) 20 + (if nxt As i y < T then 1 else 0) := by
        rw [kc_split 20 hy20]
        congr 1
        · refine kc_ext 20 fun a _ => ?_
          rw [kx_iff, kx_iff, kx_iff, Bool.and_eq_true, Bool.and_eq_true, Bool.and_eq_true, Bool.not_eq_true', decide_eq_false_iff_not]
          constructor
          · rintro ⟨⟨⟨z1, z2⟩, z3⟩, z4⟩
            exact ⟨⟨⟨z1, z4⟩, z2⟩, z3⟩
          · rintro ⟨⟨⟨z1, z4⟩, z2⟩, z3⟩
            exact ⟨⟨⟨z1, z2⟩, z3⟩, z4⟩
        · have : (kx (fun a => bin As m i a && decide (nxt As i a < T)) x y = true) = (nxt As i y < T) := by
            rw [kx_iff, Bool.and_eq_true, decide_eq_true_iff, hby]
            exact propext ⟨fun z => z.1.2, fun z => ⟨⟨rfl, z⟩, hyx⟩⟩
          simp only [this]
      by_cases hyT : nxt As i y < T
      · rw [if_pos hyT] at hsplit
        -- all that is held is asked next ahead of T
        have hall : m ≤ kc (kx (fun a => bin As m i a && decide (nxt As i a < T)) x) 20 := by
          have hc := kc_bk (xk := (br As m i).2.1) m (fun j hj => br_xk hk (by omega) hb (by rw [f3]; exact hj)) hinj
          refine Nat.le_trans (Nat.le_of_eq hc.symm) ?_
          refine kc_mono 20 fun a _ z => ?_
          obtain ⟨j, hj, e⟩ := bk_iff.mp z
          have hax : ¬ a = x := fun w => f1 j hj (e.trans (w.trans hx.symm))
          have hnj := bJ_nk hb2 hA hj
          have hnf := bJ_nk hb2 hA f5
          have hle := f6 j hj
          rw [hnj, hnf, e, hqq] at hle
          rw [kx_iff, Bool.and_eq_true, decide_eq_true_iff]
          exact ⟨⟨bk_iff.mpr ⟨j, by rw [f3]; exact hj, e⟩, by omega⟩, hax⟩
        omega
      · rw [if_neg hyT, Nat.add_zero] at hsplit
        rw [← hsplit]
        by_cases hiT : i < T
        · have := HT hiT
          omega
        · rw [eA T (by omega)] at sA'
          omega
/-- no cache of size m misses less -/
theorem opt_le (hm : 1 ≤ m) (hA : As.length ≤ 60) (hk : ∀ i, i < As.length → As.getD i 0 < 20) {In : Nat → Nat → Bool} (h0 : ∀ a, ¬ In 0 a = true) (h1 : ∀ i, i < As.length → ∀ a, In (i + 1) a = true → a = As.getD i 0 ∨ In i a = true) (h2 : ∀ i, i < As.length → In (i + 1) (As.getD i 0) = true) (h3 : ∀ i, i ≤ As.length → kc (In i) 20 ≤ m) :
    As.length - (gs As m As.length).2 ≤ ma As In As.length := by
  have h := opt hm hA hk h0 h1 h2 h3 As.length (Nat.le_refl _) 0
  rw [ma_bin hm hA _ (Nat.le_refl _)] at h
  have e1 : ∀ p : Nat → Bool, kc (fun a => p a && decide (nxt As As.length a < 0)) 20 = 0 := fun p => kc_zero 20 fun a _ z => Nat.not_lt_zero _ (of_decide_eq_true (Bool.and_eq_true_iff.mp z).2)
  rw [e1, e1] at h
  exact h
/-- and a greater size misses no more -/
theorem opt_grow (hm : 1 ≤ m) (hA : As.length ≤ 60) (hk : ∀ i, i < As.length → As.getD i 0 < 20) : As.length - (gs As (m + 1) As.length).2 ≤ As.length - (gs As m As.length).2 := by
  rw [← ma_bin hm hA _ (Nat.le_refl _)]
  refine opt_le (by omega) hA hk (fun a z => by cases z) (fun i hi a z => ?_) (fun i hi => ?_) (fun i hi => ?_)
  · have hb := br_all (As := As) hm hA i (by omega)
    obtain ⟨j, hj, e⟩ := bk_iff.mp z
    rcases (br_step hm hA hi hb).2 with ⟨f, f1, f2, f3, f4, f5⟩ | ⟨f1, f2, f3, f4, f5⟩ | ⟨f1, f2, f3, f4, f, f5, f6, f7⟩
    · rw [f4] at hj
      rw [f5] at e
      exact Or.inr (bk_iff.mpr ⟨j, hj, e⟩)
    · rw [f4] at hj
      rw [f5] at e
      by_cases hje : j = (br As m i).1
      · rw [hje, gu_s] at e
        exact Or.inl e.symm
      · rw [gu_o hje] at e
        exact Or.inr (bk_iff.mpr ⟨j, by omega, e⟩)
    · rw [f4] at hj
      rw [f7] at e
      by_cases hje : j = f
      · rw [hje, gu_s] at e
        exact Or.inl e.symm
      · rw [gu_o hje] at e
        exact Or.inr (bk_iff.mpr ⟨j, by rw [f3]; exact hj, e⟩)
  · have hb := br_all (As := As) hm hA i (by omega)
    rcases (br_step hm hA hi hb).2 with ⟨f, f1, f2, f3, f4, f5⟩ | ⟨f1, f2, f3, f4, f5⟩ | ⟨f1, f2, f3, f4, f, f5, f6, f7⟩
    · exact bk_iff.mpr ⟨f, by rw [f4]; exact f1, by rw [f5]; exact f2⟩
    · exact bk_iff.mpr ⟨(br As m i).1, by rw [f4]; omega, by rw [f5, gu_s]⟩
    · exact bk_iff.mpr ⟨f, by rw [f4]; exact f5, by rw [f7, gu_s]⟩
  · have hb := br_all (As := As) hm hA i hi
    have h9 : kc (bin As m i) 20 = (br As m i).1 := kc_bk _ (fun j hj => br_xk hk hi hb hj) hb.2.2.1
    have := hb.1
    omega
end BR
end
section
/-! ===== the fewest misses ===== -/
section FM
variable {X : ev_E} {h : ev_M} {a : Nat} {ka de ne hk hn : Nat → Int32} {c : Nat} {n q : Nat} {P : ev_O → ev_M → Nat → Nat → Prop}
theorem okN_X {As : List Nat} (hN : okN ka ne c) (hcl : As.length = c) (hka : ∀ j, j < c → ka j = nI (As.getD j 0) ∧ As.getD j 0 < 20) {i : Nat} (hi : i < c) : ∃ k, ne i = nI k ∧ k ≤ 60 ∧ nX As i k ∨ 60 < c := by
  by_cases hc : 60 < c
  · exact ⟨0, Or.inr hc⟩
  have hinj : ∀ z, z < c → ((ka z = ka i) ↔ As.getD z 0 = As.getD i 0) := fun z hz => by
    rw [(hka z hz).1, (hka i hi).1]
    have h1 := (hka z hz).2
    have h2 := (hka i hi).2
    exact nI_eq (by omega) (by omega)
  obtain ⟨k, hk, hh⟩ := hN i hi
  refine ⟨k, Or.inl ⟨hk, ?_, ?_⟩⟩
  · rcases hh with ⟨-, h2, -⟩ | ⟨h2, -⟩ <;> omega
  · rcases hh with ⟨b1, b2, b3, b4⟩ | ⟨b1, b2⟩
    · exact Or.inl ⟨b1, by omega, (hinj k b2).mp b3, fun z h1 h2 w => b4 z h1 h2 ((hinj z (by omega)).mpr w)⟩
    · exact Or.inr ⟨b1, fun z h1 h2 w => b2 z h1 (by omega) ((hinj z (by omega)).mpr w)⟩
theorem A_few {As : List Nat} (hc : c ≤ 60) (hcl : As.length = c) (hka : ∀ j, j < c → ka j = nI (As.getD j 0) ∧ As.getD j 0 < 20) (hN : okN ka ne c) {s : Nat} (hs : s < 6) (k : ∀ hk' hn', P (.inl (some (.int (nI (c - (gs As (s + 1) c).2))))) (ev_ask h a ka de ne hk' hn' c) n q) : ev_ok (ev_TT X) 89 0 [.ref a, .int (nI (s + 1)), ev_J, ev_J, ev_J, ev_J, ev_J] [] (ev_ask h a ka de ne hk hn c) n q P := by
  have key : ∀ d i e (miss : Int32) v (hk hn : Nat → Int32) (xk lk nk : Nat → Nat), i + d = c → bJ As (s + 1) i e xk lk nk → (∀ j, j < e → hk j = nI (xk j) ∧ xk j < 20 ∧ hn j = nI (nk j) ∧ nk j ≤ 60) → miss = nI (i - (gs As (s + 1) i).2) → ev_ok (ev_TT X) 89 15 [.ref a, .int (nI (s + 1)), .int (nI (s + 1)), .int (nI e), .int miss, .int (nI i), v] [] (ev_ask h a ka de ne hk hn c) n q P := by
    intro d
    induction d with
    | zero =>
      intro i e miss v hk hn xk lk nk hi hJ hS hm
      have hi2 : c ≤ i := by omega
      have hic : i = c := by omega
      rw [hic] at hm
      subst hm
      simp (disch := omega) only [t_X0_fewestMisses_15, t_X0_fewestMisses_17, t_X0_fewestMisses_18, t_X0_fewestMisses_21, t_X0_fewestMisses_106, t_X0_fewestMisses_108, ↓reduceIte, true_and, ev_fG_5, ev_isO_5, ev_ask_l0, nI_leI, hi2]
      exact k _ _
    | succ d ih =>
      intro i e miss v hk hn xk lk nk hi hJ hS hm
      have hi2 : ¬ c ≤ i := by omega
      have hp := nI_pos' (n := i) (by omega)
      have h60 : i < 60 := by omega
      have hic : i < As.length := by omega
      have hem := hJ.1
      have he : e ≤ 6 := by omega
      obtain ⟨hki, hx20⟩ := hka i (by omega)
      obtain ⟨ni, hni⟩ := okN_X hN hcl hka (i := i) (by omega)
      have hni := hni.elim id (fun z => absurd z (by omega))
      obtain ⟨n1, n2, n3⟩ := hni
      have hgl := gs_le (As := As) (m := s + 1) i
      rw [t_X0_fewestMisses_15]
      simp (disch := omega) only [t_X0_fewestMisses_17, t_X0_fewestMisses_18, t_X0_fewestMisses_21, t_X0_fewestMisses_24, t_X0_fewestMisses_25, t_X0_fewestMisses_26, t_X0_fewestMisses_29, t_X0_fewestMisses_31, t_X0_fewestMisses_32, t_X0_fewestMisses_33, ↓reduceIte, ev_isK_y, ev_aG_y, ev_inA_0, and_true, true_and, ev_fG_0, ev_fG_5, ev_isO_0, ev_isO_5, ev_ask_l0, ev_ask_l1, nI_leI, hi2, nI_clamp, hp, h60]
      refine A_held he (fun hno => ?_) fun j hj hjx => ?_
      · have hx : ∀ j, j < e → ¬ xk j = As.getD i 0 := fun j hj w => hno j hj (by rw [(hS j hj).1, hki, w])
        have hm1 : miss + 1 = nI (i + 1 - (gs As (s + 1) (i + 1)).2) := by
          rw [gs_n (bJ_not hJ hic hx), hm, ← nI_succ, show i + 1 - (gs As (s + 1) i).2 = i - (gs As (s + 1) i).2 + 1 from by omega]
        by_cases hlt : e < s + 1
        · have he6 : e < 6 := by omega
          have hmn : ¬ nI (s + 1) ≤ nI e := fun z => by
            have := (nI_leI (by omega) (by omega)).mp z
            omega
          have hpe := nI_pos' (n := e) (by omega)
          have hee : e < e + 1 := Nat.lt_succ_self e
          simp (disch := omega) only [t_X0_fewestMisses_36, t_X0_fewestMisses_38, t_X0_fewestMisses_40, t_X0_fewestMisses_41, t_X0_fewestMisses_44, t_X0_fewestMisses_47, t_X0_fewestMisses_48, t_X0_fewestMisses_49, t_X0_fewestMisses_52, t_X0_fewestMisses_53, t_X0_fewestMisses_61, t_X0_fewestMisses_63, t_X0_fewestMisses_64, t_X0_fewestMisses_66, t_X0_fewestMisses_67, t_X0_fewestMisses_68, t_X0_fewestMisses_71, t_X0_fewestMisses_72, t_X0_fewestMisses_73, t_X0_fewestMisses_76, t_X0_fewestMisses_78, t_X0_fewestMisses_79, t_X0_fewestMisses_82, t_X0_fewestMisses_84, t_X0_fewestMisses_85, t_X0_fewestMisses_86, t_X0_fewestMisses_87, t_X0_fewestMisses_90, t_X0_fewestMisses_92, t_X0_fewestMisses_93, t_X0_fewestMisses_96, t_X0_fewestMisses_98, t_X0_fewestMisses_99, t_X0_fewestMisses_100, t_X0_fewestMisses_103, ↓reduceIte, ev_k_i, ev_kr_1, ev_aG_y, ev_aS_y, ev_inA_0, and_true, true_and, not_true_eq_false, nI_1, ev_fG_0, ev_fG_2, ev_fG_3, ev_fG_4, ev_isO_0, ev_isO_2, ev_isO_3, ev_isO_4, ev_ask_4, ev_ask_5, ev_ask_l0, ev_ask_l1, ev_ask_l3, ev_ask_u4, ev_ask_u5, hmn, nI_clamp, hp, h60, hpe, he6, r_max, nI_ltI, hee]
          refine ih (i + 1) (e + 1) _ _ _ _ (gu xk e (As.getD i 0)) (gu lk e i) (gu nk e ni) (by omega) (bJ_new hJ hic (by omega) hx n3 hlt) (fun j hj => ?_) hm1
          by_cases hje : j = e
          · subst hje
            rw [gu_s, gu_s]
            exact ⟨(if_pos rfl).trans hki, hx20, (if_pos rfl).trans n1, n2⟩
          · rw [gu_o hje, gu_o hje]
            have hSj := hS j (by omega)
            exact ⟨(if_neg hje).trans hSj.1, hSj.2.1, (if_neg hje).trans hSj.2.2.1, hSj.2.2.2⟩
        · have hes : e = s + 1 := by omega
          have hmn : nI (s + 1) ≤ nI e := by rw [hes]; exact Int32.le_refl _
          simp (disch := omega) only [t_X0_fewestMisses_36, t_X0_fewestMisses_38, t_X0_fewestMisses_40, t_X0_fewestMisses_41, t_X0_fewestMisses_44, t_X0_fewestMisses_47, t_X0_fewestMisses_48, t_X0_fewestMisses_49, t_X0_fewestMisses_56, t_X0_fewestMisses_57, t_X0_fewestMisses_58, ↓reduceIte, ev_k_i, ev_kr_1, ev_isK_y, true_and, not_true_eq_false, ev_ask_l0, hmn]
          refine A_far he (by omega) fun j hj hfar => ?_
          have hpj := nI_pos' (n := j) (by omega)
          have hj6 : j < 6 := by omega
          have hej : ¬ e < j + 1 := by omega
          have hfar2 : ∀ z, z < s + 1 → nk z ≤ nk j := fun z hz => by
            have hSz := hS z (by omega)
            have hSj := hS j hj
            have h9 := hfar z (by omega)
            rw [hSz.2.2.1, hSj.2.2.1] at h9
            have b1 := hSz.2.2.2
            have b2 := hSj.2.2.2
            exact (nI_leI (by omega) (by omega)).mp h9
          simp (disch := omega) only [t_X0_fewestMisses_61, t_X0_fewestMisses_63, t_X0_fewestMisses_64, t_X0_fewestMisses_66, t_X0_fewestMisses_67, t_X0_fewestMisses_68, t_X0_fewestMisses_71, t_X0_fewestMisses_72, t_X0_fewestMisses_73, t_X0_fewestMisses_76, t_X0_fewestMisses_78, t_X0_fewestMisses_79, t_X0_fewestMisses_82, t_X0_fewestMisses_84, t_X0_fewestMisses_85, t_X0_fewestMisses_86, t_X0_fewestMisses_87, t_X0_fewestMisses_90, t_X0_fewestMisses_92, t_X0_fewestMisses_93, t_X0_fewestMisses_96, t_X0_fewestMisses_98, t_X0_fewestMisses_99, t_X0_fewestMisses_100, t_X0_fewestMisses_103, ↓reduceIte, ev_k_i, ev_kr_1, ev_aG_y, ev_aS_y, ev_inA_0, and_true, true_and, nI_1, ev_fG_0, ev_fG_2, ev_fG_3, ev_fG_4, ev_isO_0, ev_isO_2, ev_isO_3, ev_isO_4, ev_ask_4, ev_ask_5, ev_ask_l0, ev_ask_l1, ev_ask_l3, ev_ask_u4, ev_ask_u5, nI_clamp, hp, h60, hpj, hj6, r_max, nI_ltI, hej]
          subst hes
          refine ih (i + 1) (s + 1) _ _ _ _ (gu xk j (As.getD i 0)) (gu lk j i) (gu nk j ni) (by omega) (bJ_out hJ hic (by omega) hj hx n3 hfar2) (fun z hz => ?_) hm1
          by_cases hje : z = j
          · subst hje
            rw [gu_s, gu_s]
            exact ⟨(if_pos rfl).trans hki, hx20, (if_pos rfl).trans n1, n2⟩
          · rw [gu_o hje, gu_o hje]
            have hSj := hS z hz
            exact ⟨(if_neg hje).trans hSj.1, hSj.2.1, (if_neg hje).trans hSj.2.2.1, hSj.2.2.2⟩
      · have hpj := nI_pos' (n := j) (by omega)
        have hj6 : j < 6 := by omega
        have hxj : xk j = As.getD i 0 := by
          have h9 := (hS j hj).1.symm.trans (hjx.trans hki)
          have h8 := (hS j hj).2.1
          exact (nI_eq (by omega) (by omega)).mp h9
        obtain ⟨hg, hJ'⟩ := bJ_hit hJ hic (by omega) hj hxj n3
        have hm1 : miss = nI (i + 1 - (gs As (s + 1) (i + 1)).2) := by
          obtain ⟨b, g1, g2⟩ := hg
          rw [gs_y g1 g2, hm]
          exact congrArg nI (by show _ = i + 1 - ((gs As (s + 1) i).2 + 1); omega)
        simp (disch := omega) only [t_X0_fewestMisses_36, t_X0_fewestMisses_38, t_X0_fewestMisses_40, t_X0_fewestMisses_41, t_X0_fewestMisses_86, t_X0_fewestMisses_87, t_X0_fewestMisses_90, t_X0_fewestMisses_92, t_X0_fewestMisses_93, t_X0_fewestMisses_96, t_X0_fewestMisses_98, t_X0_fewestMisses_99, t_X0_fewestMisses_100, t_X0_fewestMisses_103, ↓reduceIte, ev_k_i, ev_kr_1, ev_aG_y, ev_aS_y, ev_inA_0, and_true, true_and, not_false_eq_true, nI_1, ev_fG_2, ev_fG_4, ev_isO_2, ev_isO_4, ev_ask_5, ev_ask_l0, ev_ask_l3, ev_ask_u5, ev_nm1, nI_clamp, hp, h60, hpj, hj6]
        refine ih (i + 1) e _ _ _ _ xk (gu lk j i) (gu nk j ni) (by omega) hJ' (fun z hz => ?_) hm1
        have hSj := hS z hz
        by_cases hje : z = j
        · subst hje
          rw [gu_s]
          exact ⟨hSj.1, hSj.2.1, (if_pos rfl).trans n1, n2⟩
        · rw [gu_o hje]
          exact ⟨hSj.1, hSj.2.1, (if_neg hje).trans hSj.2.2.1, hSj.2.2.2⟩
  have h0 := key c 0 0 0 ev_J hk hn (fun _ => 0) (fun _ => 0) (fun _ => 0) (by omega) bJ_0 (fun j hj => absurd hj (Nat.not_lt_zero j)) rfl
  rw [nI_0] at h0
  have hmin : (if (6 : Int32) < nI (s + 1) then (6 : Int32) else nI (s + 1)) = nI (s + 1) := if_neg (fun z => by
    have := (nI_ltI (by omega) (by omega)).mp (show nI 6 < nI (s + 1) from z)
    omega)
  simp (disch := omega) only [t_X0_fewestMisses_0, t_X0_fewestMisses_1, t_X0_fewestMisses_3, t_X0_fewestMisses_6, t_X0_fewestMisses_7, t_X0_fewestMisses_8, t_X0_fewestMisses_9, t_X0_fewestMisses_10, t_X0_fewestMisses_12, t_X0_fewestMisses_13, ev_k_i, ev_kr_1, r_min, hmin]
  exact h0
end FM
end
section
/-! ===== the whole of the class: its cells, from x on ===== -/
abbrev ev_TS : Type := ev_PL × (Int32 × Int32 × Int32 × Int32) × (Bool × Bool × Bool) × Int32 × Nat
abbrev ev_KS : Type := ev_PL × Int32 × Int32 × Int32 × Int32 × Int32
abbrev ev_CS : Type := (Nat → ev_TS) × (ev_PL × Int32 × Int32) × (Nat → ev_KS) × ((Nat → Int32) × (Nat → Int32) × Nat) × Int32 × Int32
def c_row (H : ev_M) (r : Nat) (L : ev_PL) (b m lm ll : Int32) : Prop := ev_rL H r L b m lm ll H
def c_wk (s : ev_TS) (r : Nat) : ev_C := ev_wkc r s.2.2.1.1 s.2.2.1.2.1 s.2.2.1.2.2 s.2.2.2.1 s.2.2.2.2
def c_tab (H : ev_M) (t r : Nat) (s : ev_TS) : Prop := H t = some (ev_tbc r) ∧ c_row H r s.1 s.2.1.1 s.2.1.2.1 s.2.1.2.2.1 s.2.1.2.2.2 ∧ H (r + 3) = some (c_wk s r)
def c_kee (H : ev_M) (w r : Nat) (s : ev_KS) : Prop := H w = some (ev_kec r s.2.2.2.2.1 s.2.2.2.2.2) ∧ c_row H r s.1 1 s.2.1 s.2.2.1 s.2.2.2.1
def c_ask (H : ev_M) (a : Nat) (s : (Nat → Int32) × (Nat → Int32) × Nat) : Prop := ∃ ne hk hn : Nat → Int32, H = ev_ask H a s.1 s.2.1 ne hk hn s.2.2 ∧ okN s.1 ne s.2.2
def c_top (x : Nat) (rf kn : Int32) : ev_C := .inr (10, [.ref (x + 1), .ref (x + 2), .ref (x + 8), .ref (x + 11), .ref (x + 12), .int rf, .int kn])
def c_all (x : Nat) (G : ev_CS) (H : ev_M) : Prop := H x = some (c_top x G.2.2.2.2.1 G.2.2.2.2.2) ∧ (∃ f : Nat → Value, H (x + 1) = some (.inl (3, 4, f)) ∧ ∀ i, i < 4 → f i = .ref (x + 13 + 5 * i)) ∧ c_ask H (x + 2) G.2.2.2.1 ∧
  c_row H (x + 8) G.2.1.1 1 (-1) G.2.1.2.1 G.2.1.2.2 ∧ (∃ f : Nat → Value, H (x + 11) = some (.inl (4, 6, f)) ∧ ∀ j, j < 6 → f j = .ref (x + 33 + 4 * j)) ∧ (∃ be : Nat → Int32, H (x + 12) = some (.inl (0, 6, fun i => .int (be i)))) ∧
  (∀ i, i < 4 → c_tab H (x + 13 + 5 * i) (x + 14 + 5 * i) (G.1 i)) ∧ ∀ j, j < 6 → c_kee H (x + 33 + 4 * j) (x + 34 + 4 * j) (G.2.2.1 j)
theorem c_row_of {h H : ev_M} {r : Nat} {L : ev_PL} {b m lm ll : Int32} (hH : ev_rL h r L b m lm ll H) : c_row H r L b m lm ll := ev_rL_self hH
theorem c_row_cg {H H1 : ev_M} {r : Nat} {L : ev_PL} {b m lm ll : Int32} (h : c_row H r L b m lm ll) (e : ∀ a, r ≤ a → a < r + 3 → H1 a = H a) : c_row H1 r L b m lm ll := by
  obtain ⟨kf, vf, hR, hH⟩ := h
  refine ⟨kf, vf, hR, (ev_row_t ?_ ?_ ?_).symm⟩
  · rw [e r (by omega) (by omega), hH]; exact ev_row_0
  · rw [e (r + 1) (by omega) (by omega), hH]; exact ev_row_1
  · rw [e (r + 2) (by omega) (by omega), hH]; exact ev_row_2
theorem c_ask_cg {H H1 : ev_M} {a : Nat} {s : (Nat → Int32) × (Nat → Int32) × Nat} (h : c_ask H a s) (e : ∀ x, a ≤ x → x < a + 6 → H1 x = H x) : c_ask H1 a s := by
  obtain ⟨ne, hk, hn, hH, hN⟩ := h
  refine ⟨ne, hk, hn, (ev_ask_t ?_ ?_ ?_ ?_ ?_ ?_).symm, hN⟩
  · rw [e a (by omega) (by omega), hH]; exact ev_ask_0
  · rw [e (a + 1) (by omega) (by omega), hH]; exact ev_ask_1
  · rw [e (a + 2) (by omega) (by omega), hH]; exact ev_ask_2
  · rw [e (a + 3) (by omega) (by omega), hH]; exact ev_ask_3
  · rw [e (a + 4) (by omega) (by omega), hH]; exact ev_ask_4
  · rw [e (a + 5) (by omega) (by omega), hH]; exact ev_ask_5
theorem c_tab_cg {H H1 : ev_M} {t : Nat} {s : ev_TS} (h : c_tab H t (t + 1) s) (e : ∀ a, t ≤ a → a < t + 5 → H1 a = H a) : c_tab H1 t (t + 1) s := by
  obtain ⟨h1, h2, h3⟩ := h
  exact ⟨(e t (by omega) (by omega)).trans h1, c_row_cg h2 (fun a ha hb => e a (by omega) (by omega)), (e (t + 1 + 3) (by omega) (by omega)).trans h3⟩
theorem c_kee_cg {H H1 : ev_M} {w : Nat} {s : ev_KS} (h : c_kee H w (w + 1) s) (e : ∀ a, w ≤ a → a < w + 4 → H1 a = H a) : c_kee H1 w (w + 1) s := by
  obtain ⟨h1, h2⟩ := h
  exact ⟨(e w (by omega) (by omega)).trans h1, c_row_cg h2 (fun a ha hb => e a (by omega) (by omega))⟩
section CA
variable {x : Nat} {G : ev_CS} {H H1 : ev_M}
theorem c_upT (h : c_all x G H) {i : Nat} (hi : i < 4) {s : ev_TS} (e : ∀ a, (a < x + 13 + 5 * i ∨ x + 18 + 5 * i ≤ a) → H1 a = H a) (hn : c_tab H1 (x + 13 + 5 * i) (x + 14 + 5 * i) s) : c_all x (fun i' => if i' = i then s else G.1 i', G.2) H1 := by
  obtain ⟨h0, ⟨f1, h1, h1b⟩, h2, h3, ⟨f4, h4, h4b⟩, ⟨be, h5⟩, h6, h7⟩ := h
  exact ⟨(e x (by omega)).trans h0, ⟨f1, (e (x + 1) (by omega)).trans h1, h1b⟩, c_ask_cg h2 (fun a ha hb => e a (by omega)), c_row_cg h3 (fun a ha hb => e a (by omega)), ⟨f4, (e (x + 11) (by omega)).trans h4, h4b⟩, ⟨be, (e (x + 12) (by omega)).trans h5⟩, fun i' hi' => by
    by_cases ei : i' = i
    · subst ei
      dsimp only
      rw [if_pos rfl]
      exact hn
    · dsimp only
      rw [if_neg ei, show x + 14 + 5 * i' = x + 13 + 5 * i' + 1 by omega]
      exact c_tab_cg (by rw [show x + 13 + 5 * i' + 1 = x + 14 + 5 * i' by omega]; exact h6 i' hi') (fun a ha hb => e a (by omega)), fun j' hj' => by rw [show x + 34 + 4 * j' = x + 33 + 4 * j' + 1 by omega]; exact c_kee_cg (by rw [show x + 33 + 4 * j' + 1 = x + 34 + 4 * j' by omega]; exact h7 j' hj') (fun a ha hb => e a (by omega))⟩
theorem c_upK (h : c_all x G H) {j : Nat} (hj : j < 6) {s : ev_KS} (e : ∀ a, (a < x + 33 + 4 * j ∨ x + 37 + 4 * j ≤ a) → H1 a = H a) (hn : c_kee H1 (x + 33 + 4 * j) (x + 34 + 4 * j) s) : c_all x (G.1, G.2.1, (fun j' => if j' = j then s else G.2.2.1 j'), G.2.2.2) H1 := by
  obtain ⟨h0, ⟨f1, h1, h1b⟩, h2, h3, ⟨f4, h4, h4b⟩, ⟨be, h5⟩, h6, h7⟩ := h
  exact ⟨(e x (by omega)).trans h0, ⟨f1, (e (x + 1) (by omega)).trans h1, h1b⟩, c_ask_cg h2 (fun a ha hb => e a (by omega)), c_row_cg h3 (fun a ha hb => e a (by omega)), ⟨f4, (e (x + 11) (by omega)).trans h4, h4b⟩, ⟨be, (e (x + 12) (by omega)).trans h5⟩, fun i' hi' => by rw [show x + 14 + 5 * i' = x + 13 + 5 * i' + 1 by omega]; exact c_tab_cg (by rw [show x + 13 + 5 * i' + 1 = x + 14 + 5 * i' by omega]; exact h6 i' hi') (fun a ha hb => e a (by omega)), fun j' hj' => by
    by_cases ej : j' = j
    · subst ej
      dsimp only
      rw [if_pos rfl]
      exact hn
    · dsimp only
      rw [if_neg ej, show x + 34 + 4 * j' = x + 33 + 4 * j' + 1 by omega]
      exact c_kee_cg (by rw [show x + 33 + 4 * j' + 1 = x + 34 + 4 * j' by omega]; exact h7 j' hj') (fun a ha hb => e a (by omega))⟩
theorem c_upS (h : c_all x G H) {L : ev_PL} {lm ll : Int32} (e : ∀ a, (a < x + 8 ∨ x + 11 ≤ a) → H1 a = H a) (hn : c_row H1 (x + 8) L 1 (-1) lm ll) : c_all x (G.1, (L, lm, ll), G.2.2) H1 := by
  obtain ⟨h0, ⟨f1, h1, h1b⟩, h2, h3, ⟨f4, h4, h4b⟩, ⟨be, h5⟩, h6, h7⟩ := h
  exact ⟨(e x (by omega)).trans h0, ⟨f1, (e (x + 1) (by omega)).trans h1, h1b⟩, c_ask_cg h2 (fun a ha hb => e a (by omega)), hn, ⟨f4, (e (x + 11) (by omega)).trans h4, h4b⟩, ⟨be, (e (x + 12) (by omega)).trans h5⟩, fun i' hi' => by rw [show x + 14 + 5 * i' = x + 13 + 5 * i' + 1 by omega]; exact c_tab_cg (by rw [show x + 13 + 5 * i' + 1 = x + 14 + 5 * i' by omega]; exact h6 i' hi') (fun a ha hb => e a (by omega)), fun j' hj' => by rw [show x + 34 + 4 * j' = x + 33 + 4 * j' + 1 by omega]; exact c_kee_cg (by rw [show x + 33 + 4 * j' + 1 = x + 34 + 4 * j' by omega]; exact h7 j' hj') (fun a ha hb => e a (by omega))⟩
theorem c_upA (h : c_all x G H) {s : (Nat → Int32) × (Nat → Int32) × Nat} (e : ∀ a, (a < x + 2 ∨ x + 8 ≤ a) → H1 a = H a) (hn : c_ask H1 (x + 2) s) : c_all x (G.1, G.2.1, G.2.2.1, s, G.2.2.2.2) H1 := by
  obtain ⟨h0, ⟨f1, h1, h1b⟩, h2, h3, ⟨f4, h4, h4b⟩, ⟨be, h5⟩, h6, h7⟩ := h
  exact ⟨(e x (by omega)).trans h0, ⟨f1, (e (x + 1) (by omega)).trans h1, h1b⟩, hn, c_row_cg h3 (fun a ha hb => e a (by omega)), ⟨f4, (e (x + 11) (by omega)).trans h4, h4b⟩, ⟨be, (e (x + 12) (by omega)).trans h5⟩, fun i' hi' => by rw [show x + 14 + 5 * i' = x + 13 + 5 * i' + 1 by omega]; exact c_tab_cg (by rw [show x + 13 + 5 * i' + 1 = x + 14 + 5 * i' by omega]; exact h6 i' hi') (fun a ha hb => e a (by omega)), fun j' hj' => by rw [show x + 34 + 4 * j' = x + 33 + 4 * j' + 1 by omega]; exact c_kee_cg (by rw [show x + 33 + 4 * j' + 1 = x + 34 + 4 * j' by omega]; exact h7 j' hj') (fun a ha hb => e a (by omega))⟩
theorem c_up0 (h : c_all x G H) {rf kn : Int32} (e : ∀ a, (a < x ∨ x + 1 ≤ a) → H1 a = H a) (hn : H1 x = some (c_top x rf kn)) : c_all x (G.1, G.2.1, G.2.2.1, G.2.2.2.1, rf, kn) H1 := by
  obtain ⟨h0, ⟨f1, h1, h1b⟩, h2, h3, ⟨f4, h4, h4b⟩, ⟨be, h5⟩, h6, h7⟩ := h
  exact ⟨hn, ⟨f1, (e (x + 1) (by omega)).trans h1, h1b⟩, c_ask_cg h2 (fun a ha hb => e a (by omega)), c_row_cg h3 (fun a ha hb => e a (by omega)), ⟨f4, (e (x + 11) (by omega)).trans h4, h4b⟩, ⟨be, (e (x + 12) (by omega)).trans h5⟩, fun i' hi' => by rw [show x + 14 + 5 * i' = x + 13 + 5 * i' + 1 by omega]; exact c_tab_cg (by rw [show x + 13 + 5 * i' + 1 = x + 14 + 5 * i' by omega]; exact h6 i' hi') (fun a ha hb => e a (by omega)), fun j' hj' => by rw [show x + 34 + 4 * j' = x + 33 + 4 * j' + 1 by omega]; exact c_kee_cg (by rw [show x + 33 + 4 * j' + 1 = x + 34 + 4 * j' by omega]; exact h7 j' hj') (fun a ha hb => e a (by omega))⟩
theorem c_upB (h : c_all x G H) {be' : Nat → Int32} (e : ∀ a, (a < x + 12 ∨ x + 13 ≤ a) → H1 a = H a) (hn : H1 (x + 12) = some (.inl (0, 6, fun i => .int (be' i)))) : c_all x G H1 := by
  obtain ⟨h0, ⟨f1, h1, h1b⟩, h2, h3, ⟨f4, h4, h4b⟩, ⟨be, h5⟩, h6, h7⟩ := h
  exact ⟨(e x (by omega)).trans h0, ⟨f1, (e (x + 1) (by omega)).trans h1, h1b⟩, c_ask_cg h2 (fun a ha hb => e a (by omega)), c_row_cg h3 (fun a ha hb => e a (by omega)), ⟨f4, (e (x + 11) (by omega)).trans h4, h4b⟩, ⟨be', hn⟩, fun i' hi' => by rw [show x + 14 + 5 * i' = x + 13 + 5 * i' + 1 by omega]; exact c_tab_cg (by rw [show x + 13 + 5 * i' + 1 = x + 14 + 5 * i' by omega]; exact h6 i' hi') (fun a ha hb => e a (by omega)), fun j' hj' => by rw [show x + 34 + 4 * j' = x + 33 + 4 * j' + 1 by omega]; exact c_kee_cg (by rw [show x + 33 + 4 * j' + 1 = x + 34 + 4 * j' by omega]; exact h7 j' hj') (fun a ha hb => e a (by omega))⟩
theorem c_cg (h : c_all x G H) (e : ∀ a, x ≤ a → a < x + 57 → H1 a = H a) : c_all x G H1 := by
  obtain ⟨h0, ⟨f1, h1, h1b⟩, h2, h3, ⟨f4, h4, h4b⟩, ⟨be, h5⟩, h6, h7⟩ := h
  exact ⟨(e x (by omega) (by omega)).trans h0, ⟨f1, (e (x + 1) (by omega) (by omega)).trans h1, h1b⟩, c_ask_cg h2 (fun a ha hb => e a (by omega) (by omega)), c_row_cg h3 (fun a ha hb => e a (by omega) (by omega)), ⟨f4, (e (x + 11) (by omega) (by omega)).trans h4, h4b⟩, ⟨be, (e (x + 12) (by omega) (by omega)).trans h5⟩,
    fun i' hi' => by rw [show x + 14 + 5 * i' = x + 13 + 5 * i' + 1 by omega]; exact c_tab_cg (by rw [show x + 13 + 5 * i' + 1 = x + 14 + 5 * i' by omega]; exact h6 i' hi') (fun a ha hb => e a (by omega) (by omega)),
    fun j' hj' => by rw [show x + 34 + 4 * j' = x + 33 + 4 * j' + 1 by omega]; exact c_kee_cg (by rw [show x + 33 + 4 * j' + 1 = x + 34 + 4 * j' by omega]; exact h7 j' hj') (fun a ha hb => e a (by omega) (by omega))⟩
end CA
end
section
/-! ===== rows whose keys are apart ===== -/
def okL (L : ev_PL) : Prop := (L.map Prod.fst).Nodup ∧ ∀ x ∈ L, x.1 ∈ (List.range 20).map nI
theorem okL_len {L : ev_PL} (h : okL L) : L.length ≤ 20 := by
  have h1 : L.map Prod.fst ⊆ (List.range 20).map nI := fun a ha => by
    obtain ⟨x, hx, rfl⟩ := List.mem_map.mp ha
    exact h.2 x hx
  have h2 := List.Nodup.length_le_of_subset h.1 h1
  rw [List.length_map, List.length_map, List.length_range] at h2
  exact h2
theorem okL_key {a : Nat} (h : a < 20) : nI a ∈ (List.range 20).map nI := List.mem_map.mpr ⟨a, List.mem_range.mpr h, rfl⟩
theorem okL_nil : okL [] := ⟨List.nodup_nil, fun x hx => absurd hx (List.not_mem_nil)⟩
theorem okL_app {L : ev_PL} (h : okL L) {k v : Int32} (hk : k ∈ (List.range 20).map nI) (hn : ∀ x ∈ L, ¬ x.1 = k) : okL (L ++ [(k, v)]) := by
  refine ⟨?_, fun x hx => ?_⟩
  · rw [List.map_append]
    refine List.nodup_append.mpr ⟨h.1, List.nodup_cons.mpr ⟨List.not_mem_nil, List.nodup_nil⟩, fun a ha b hb => ?_⟩
    obtain ⟨x, hx, rfl⟩ := List.mem_map.mp ha
    rw [List.mem_singleton.mp hb]
    exact hn x hx
  · rcases List.mem_append.mp hx with hx | hx
    · exact h.2 x hx
    · rw [List.mem_singleton.mp hx]
      exact hk
theorem okL_new {L : ev_PL} (h : okL L) {k : Int32} (hk : k ∈ (List.range 20).map nI) (e : pf_find L k = none) : (∀ v, okL (L ++ [(k, v)])) ∧ L.length < 20 := by
  have hn : ∀ x ∈ L, ¬ x.1 = k := fun x hx => by
    unfold pf_find at e
    rw [List.findIdx?_eq_none_iff] at e
    exact of_decide_eq_false (e x hx)
  have h1 := fun v => okL_app (v := v) h hk hn
  refine ⟨h1, ?_⟩
  have h2 := okL_len (h1 0)
  rw [List.length_append] at h2
  simp only [List.length_cons, List.length_nil] at h2
  omega
theorem okL_del {L : ev_PL} (h : okL L) (j : Nat) : okL (L.eraseIdx j) :=
  ⟨List.Nodup.sublist ((List.eraseIdx_sublist L j).map Prod.fst) h.1, fun x hx => h.2 x (List.mem_of_mem_eraseIdx hx)⟩
theorem okL_setm {L : ev_PL} {j : Nat} (hj : j < L.length) (v : Int32) : (L.set j ((pf_at L j).1, v)).map Prod.fst = L.map Prod.fst := by
  apply List.ext_getElem?
  intro i
  rw [List.getElem?_map, List.getElem?_map]
  by_cases e : i = j
  · subst e
    rw [List.getElem?_set_self hj]
    unfold pf_at
    rw [List.getD_eq_getElem?_getD, List.getElem?_eq_getElem hj]
    rfl
  · rw [List.getElem?_set_ne (Ne.symm e)]
theorem okL_set {L : ev_PL} (h : okL L) {j : Nat} (hj : j < L.length) (v : Int32) : okL (L.set j ((pf_at L j).1, v)) := by
  refine ⟨by rw [okL_setm hj]; exact h.1, fun x hx => ?_⟩
  have h1 : x.1 ∈ (L.set j ((pf_at L j).1, v)).map Prod.fst := List.mem_map.mpr ⟨x, hx, rfl⟩
  rw [okL_setm hj] at h1
  obtain ⟨y, hy, e⟩ := List.mem_map.mp h1
  rw [← e]
  exact h.2 y hy
theorem okL_mov {L : ev_PL} (h : okL L) {j : Nat} (hj : j < L.length) : okL (L.eraseIdx j ++ [pf_at L j]) := by
  have ea : pf_at L j = L[j] := by
    unfold pf_at
    rw [List.getD_eq_getElem?_getD, List.getElem?_eq_getElem hj]
    rfl
  have hs : L.map Prod.fst = (L.take j).map Prod.fst ++ (L[j].1 :: (L.drop (j + 1)).map Prod.fst) := by
    rw [← List.map_cons, ← List.drop_eq_getElem_cons hj, ← List.map_append, List.take_append_drop]
  have hN := h.1
  rw [hs] at hN
  obtain ⟨n1, n2, n3⟩ := List.nodup_append.mp hN
  have n4 := (List.nodup_cons.mp n2).1
  rw [ea]
  refine okL_app (okL_del h j) (h.2 _ (List.getElem_mem hj)) fun x hx => ?_
  rw [List.eraseIdx_eq_take_drop_succ] at hx
  rcases List.mem_append.mp hx with hx | hx
  · exact n3 _ (List.mem_map.mpr ⟨x, hx, rfl⟩) _ List.mem_cons_self
  · exact fun e => n4 (e ▸ List.mem_map.mpr ⟨x, hx, rfl⟩)
theorem okL_ask {L : ev_PL} (h : okL L) (b : Int32) {j : Nat} (hj : j < L.length) : okL (pr_ask L b j) := by
  unfold pr_ask
  split
  · exact h
  · exact okL_mov h hj
theorem okL_take {L : ev_PL} (h : okL L) {k : Int32} (hk : k ∈ (List.range 20).map nI) (e : pf_find L k = none) (m lm ll v : Int32) : okL (pr_take L m lm ll k v).1 := by
  unfold pr_take
  split
  · exact okL_del ((okL_new h hk e).1 v) 0
  · exact (okL_new h hk e).1 v
theorem okL_bring {L : ev_PL} (h : okL L) {k : Int32} (hk : k ∈ (List.range 20).map nI) (b m lm ll v : Int32) : okL (pr_bring L b m lm ll k v).2.1 := by
  unfold pr_bring
  rcases e : pf_find L k with _ | j
  · exact okL_take h hk e m lm ll v
  · have hj := (pf_find_s e).1
    exact okL_ask (okL_set h hj v) b (by rw [List.length_set]; exact hj)
theorem okL_fetch {L : ev_PL} (h : okL L) (b k o : Int32) : okL (pr_fetch L b k o).2 := by
  unfold pr_fetch
  rcases e : pf_find L k with _ | j
  · exact h
  · exact okL_ask h b (pf_find_s e).1
theorem okL_fetchIn {L : ev_PL} (h : okL L) {k : Int32} (hk : k ∈ (List.range 20).map nI) (b m lm ll v : Int32) : okL (pr_fetchIn L b m lm ll k v).2.1 := by
  unfold pr_fetchIn
  rcases e : pf_find L k with _ | j
  · exact okL_take h hk e m lm ll v
  · exact okL_ask h b (pf_find_s e).1
theorem okL_drop {L : ev_PL} (h : okL L) (k : Int32) : okL (pr_drop L k).2 := by
  unfold pr_drop
  rcases e : pf_find L k with _ | j
  · exact h
  · exact okL_del h j
end
section
/-! ===== the class: what is demanded, and the calls on its tables ===== -/
def okT (s : ev_TS) : Prop := okL s.1 ∧ ev_isB s.2.1.1 ∧ s.2.2.2.2 ≤ 20 ∧ (s.2.2.1.1 = true → s.2.2.1.2.1 = false → s.2.2.2.2 ≤ s.1.length ∧ (s.2.2.1.2.2 = true → 1 ≤ s.2.2.2.2))
def okG (G : ev_CS) : Prop := (∀ i, i < 4 → okT (G.1 i)) ∧ okL G.2.1.1 ∧ (∀ j, j < 6 → okL (G.2.2.1 j).1) ∧ G.2.2.2.1.2.2 ≤ 60
def c_fr (x : Nat) (H H1 : ev_M) : Prop := ∀ a, (a < x ∨ x + 57 ≤ a) → H1 a = H a
def pg_T (G : ev_CS) (i : Nat) (s : ev_TS) : ev_CS := (fun i' => if i' = i then s else G.1 i', G.2)
theorem okG_T {G : ev_CS} (h : okG G) {i : Nat} {s : ev_TS} (hs : okT s) : okG (pg_T G i s) := by
  refine ⟨fun i' hi' => ?_, h.2⟩
  show okT (if i' = i then s else G.1 i')
  split
  · exact hs
  · exact h.1 i' hi'
section CM
variable {X : ev_E} {x : Nat} {G : ev_CS} {H : ev_M} {n q : Nat} {P : ev_O → ev_M → Nat → Nat → Prop}
theorem c_all_k (hc : c_all x G H) : ev_isK (ev_lk X H x) 10 = True := by
  rw [ev_lk_s hc.1]
  exact ev_isK_y
theorem C_tableOf_y (hc : c_all x G H) {i : Nat} (hi : i < 4) : ev_ok (ev_TT X) 59 0 [.ref x, .int (nI i)] [] H n q P ↔ P (.inl (some (.ref (x + 13 + 5 * i)))) H n q := by
  obtain ⟨h0, ⟨f1, h1, h1b⟩, -⟩ := hc
  unfold c_top at h0
  have hA := nI_pos (n := i) (by omega)
  have hB : nI i < 4 := nI_lt (b := 4) hi (by omega)
  have hp := nI_pos' (n := i) (by omega)
  have hf := h1b i hi
  simp (disch := omega) only [t_X5_tableOf_0, t_X5_tableOf_1, t_X5_tableOf_4, t_X5_tableOf_5, t_X5_tableOf_6, t_X5_tableOf_20, t_X5_tableOf_21, t_X5_tableOf_24, t_X5_tableOf_25, t_X5_tableOf_26, ↓reduceIte, ev_aG_y, and_true, true_and, ev_fG_0, ev_isO_0, ev_lk_s h0, ev_lk_s h1, ev_inA_3, nI_clamp, hp, hi, hf, hA, hB]
theorem C_tableOf_n {t : Int32} (ht : t < 0 ∨ nI 4 ≤ t) : ev_ok (ev_TT X) 59 0 [.ref x, .int t] [] H n q P ↔ P (.inr 0) H (n + 1) (q + 6) := by
  by_cases h0 : t < 0
  · simp (disch := omega) only [t_X5_tableOf_0, t_X5_tableOf_1, t_X5_tableOf_9, ↓reduceIte, h0]
  · have hB : ¬ t < 4 := Int32.not_lt.mpr (ht.resolve_left h0)
    simp (disch := omega) only [t_X5_tableOf_0, t_X5_tableOf_1, t_X5_tableOf_4, t_X5_tableOf_5, t_X5_tableOf_6, t_X5_tableOf_9, ↓reduceIte, h0, hB]
theorem C_dKey_y {a : Nat} (ha : a < 20) : ev_ok (ev_TT X) 48 0 [.int (nI a)] [] H n q P ↔ P (.inl none) H n q := by
  have hA := nI_pos (n := a) (by omega)
  have hB : nI a < 20 := nI_lt (b := 20) ha (by omega)
  have hB2 : nI a ≤ 19 := nI_le (b := 19) (by omega) (by omega)
  have hB3 : ¬ (19 : Int32) < nI a := Int32.not_lt.mpr hB2
  simp (disch := omega) only [t_X5_demandKey_0, t_X5_demandKey_1, t_X5_demandKey_4, t_X5_demandKey_5, t_X5_demandKey_7, t_X5_demandKey_21, ↓reduceIte, hA, hB]
theorem C_dKey_n {v : Int32} (hv : v < 0 ∨ nI 20 ≤ v) : ev_ok (ev_TT X) 48 0 [.int v] [] H n q P ↔ P (.inr 1) H (n + 1) (q + 6) := by
  by_cases h0 : v < 0
  · simp (disch := omega) only [t_X5_demandKey_0, t_X5_demandKey_1, t_X5_demandKey_10, ↓reduceIte, h0]
  · have hB : ¬ v < 20 := Int32.not_lt.mpr (hv.resolve_left h0)
    have hB2 : ¬ v ≤ 19 := fun z => hB (Int32.lt_of_le_of_lt z (by decide))
    have hB3 : (19 : Int32) < v := Int32.not_le.mp hB2
    simp (disch := omega) only [t_X5_demandKey_0, t_X5_demandKey_1, t_X5_demandKey_4, t_X5_demandKey_5, t_X5_demandKey_7, t_X5_demandKey_10, ↓reduceIte, h0, hB]
theorem C_dVal_y {a : Nat} (ha : a < 100) : ev_ok (ev_TT X) 52 0 [.int (nI a)] [] H n q P ↔ P (.inl none) H n q := by
  have hA := nI_pos (n := a) (by omega)
  have hB : nI a < 100 := nI_lt (b := 100) ha (by omega)
  have hB2 : nI a ≤ 99 := nI_le (b := 99) (by omega) (by omega)
  have hB3 : ¬ (99 : Int32) < nI a := Int32.not_lt.mpr hB2
  simp (disch := omega) only [t_X5_demandValue_0, t_X5_demandValue_1, t_X5_demandValue_4, t_X5_demandValue_5, t_X5_demandValue_7, t_X5_demandValue_21, ↓reduceIte, hA, hB]
theorem C_dVal_n {v : Int32} (hv : v < 0 ∨ nI 100 ≤ v) : ev_ok (ev_TT X) 52 0 [.int v] [] H n q P ↔ P (.inr 1) H (n + 1) (q + 6) := by
  by_cases h0 : v < 0
  · simp (disch := omega) only [t_X5_demandValue_0, t_X5_demandValue_1, t_X5_demandValue_10, ↓reduceIte, h0]
  · have hB : ¬ v < 100 := Int32.not_lt.mpr (hv.resolve_left h0)
    have hB2 : ¬ v ≤ 99 := fun z => hB (Int32.lt_of_le_of_lt z (by decide))
    have hB3 : (99 : Int32) < v := Int32.not_le.mp hB2
    simp (disch := omega) only [t_X5_demandValue_0, t_X5_demandValue_1, t_X5_demandValue_4, t_X5_demandValue_5, t_X5_demandValue_7, t_X5_demandValue_10, ↓reduceIte, h0, hB]
theorem C_dWalk_y {a : Nat} (ha : a < 3) : ev_ok (ev_TT X) 49 0 [.int (nI a)] [] H n q P ↔ P (.inl none) H n q := by
  have hA := nI_pos (n := a) (by omega)
  have hB : nI a < 3 := nI_lt (b := 3) ha (by omega)
  have hB2 : nI a ≤ 2 := nI_le (b := 2) (by omega) (by omega)
  have hB3 : ¬ (2 : Int32) < nI a := Int32.not_lt.mpr hB2
  simp (disch := omega) only [t_X5_demandKindOfWalk_0, t_X5_demandKindOfWalk_1, t_X5_demandKindOfWalk_4, t_X5_demandKindOfWalk_5, t_X5_demandKindOfWalk_6, t_X5_demandKindOfWalk_20, ↓reduceIte, hA, hB2]
theorem C_dWalk_n {v : Int32} (hv : v < 0 ∨ nI 3 ≤ v) : ev_ok (ev_TT X) 49 0 [.int v] [] H n q P ↔ P (.inr 1) H (n + 1) (q + 6) := by
  by_cases h0 : v < 0
  · simp (disch := omega) only [t_X5_demandKindOfWalk_0, t_X5_demandKindOfWalk_1, t_X5_demandKindOfWalk_9, ↓reduceIte, h0]
  · have hB : ¬ v < 3 := Int32.not_lt.mpr (hv.resolve_left h0)
    have hB2 : ¬ v ≤ 2 := fun z => hB (Int32.lt_of_le_of_lt z (by decide))
    have hB3 : (2 : Int32) < v := Int32.not_le.mp hB2
    simp (disch := omega) only [t_X5_demandKindOfWalk_0, t_X5_demandKindOfWalk_1, t_X5_demandKindOfWalk_4, t_X5_demandKindOfWalk_5, t_X5_demandKindOfWalk_6, t_X5_demandKindOfWalk_9, ↓reduceIte, h0, hB2]
def ps_old (s : ev_TS) (L : ev_PL) (lm ll : Int32) : ev_TS := (L, (s.2.1.1, s.2.1.2.1, lm, ll), (s.2.2.1.1, true, s.2.2.1.2.2), s.2.2.2.1, s.2.2.2.2)
theorem okT_old {s : ev_TS} (h : okT s) {L : ev_PL} (hL : okL L) (lm ll : Int32) : okT (ps_old s L lm ll) := ⟨hL, h.2.1, h.2.2.1, fun _ z => by cases z⟩
/-- a table's row and walk after a change -/
theorem c_tab_old (hc : c_all x G H) {i : Nat} (hi : i < 4) {L : ev_PL} {lm ll : Int32} {H1 : ev_M}
    (hH : ev_rL (ev_up H (x + 14 + 5 * i + 3) (ev_wkc (x + 14 + 5 * i) (G.1 i).2.2.1.1 true (G.1 i).2.2.1.2.2 (G.1 i).2.2.2.1 (G.1 i).2.2.2.2)) (x + 14 + 5 * i) L (G.1 i).2.1.1 (G.1 i).2.1.2.1 lm ll H1) :
    c_all x (pg_T G i (ps_old (G.1 i) L lm ll)) H1 ∧ c_fr x H H1 := by
  have ho : ∀ a, (a < x + 13 + 5 * i ∨ x + 18 + 5 * i ≤ a) → H1 a = H a := fun a ha =>
    (ev_rL_o hH (by omega) (by omega) (by omega)).trans (ev_up_n (by omega))
  refine ⟨c_upT hc hi ho ⟨?_, c_row_of hH, ?_⟩, fun a ha => ho a (by omega)⟩
  · rw [ev_rL_o hH (by omega) (by omega) (by omega), ev_up_n (by omega)]
    exact (hc.2.2.2.2.2.2.1 i hi).1
  · rw [ev_rL_o hH (by omega) (by omega) (by omega), ev_up_s]
    rfl
theorem C_put (hc : c_all x G H) (hG : okG G) {t k v : Int32} (k0 : t < 0 ∨ nI 4 ≤ t → P (.inr 0) H (n + 1) (q + 6))
    (k1 : ∀ i, i < 4 → t = nI i → ((k < 0 ∨ nI 20 ≤ k) ∨ (v < 0 ∨ nI 100 ≤ v)) → P (.inr 1) H (n + 1) (q + 6))
    (k2 : ∀ i a b, i < 4 → t = nI i → a < 20 → k = nI a → b < 100 → v = nI b → ∀ H1, c_all x (pg_T G i (ps_old (G.1 i) (pr_bring (G.1 i).1 (G.1 i).2.1.1 (G.1 i).2.1.2.1 (G.1 i).2.1.2.2.1 (G.1 i).2.1.2.2.2 k v).2.1 (pr_bring (G.1 i).1 (G.1 i).2.1.1 (G.1 i).2.1.2.1 (G.1 i).2.1.2.2.1 (G.1 i).2.1.2.2.2 k v).2.2.1 (pr_bring (G.1 i).1 (G.1 i).2.1.1 (G.1 i).2.1.2.1 (G.1 i).2.1.2.2.1 (G.1 i).2.1.2.2.2 k v).2.2.2)) H1 → c_fr x H H1 →
      P (.inl (some (.int (pr_bring (G.1 i).1 (G.1 i).2.1.1 (G.1 i).2.1.2.1 (G.1 i).2.1.2.2.1 (G.1 i).2.1.2.2.2 k v).1))) H1 n q) : ev_ok (ev_TT X) 229 0 [.ref x, .int t, .int k, .int v, ev_J] [] H n q P := by
  have hk := c_all_k (X := X) hc
  rcases pk_ix t (n := 4) (by omega) with h | h | ⟨i, hi, rfl⟩
  · simp (disch := omega) only [t_X5_put_0, t_X5_put_1, t_X5_put_2, x_X5_put_2, true_and, hk, C_tableOf_n (Or.inl h)]
    exact k0 (Or.inl h)
  · simp (disch := omega) only [t_X5_put_0, t_X5_put_1, t_X5_put_2, x_X5_put_2, true_and, hk, C_tableOf_n (Or.inr h)]
    exact k0 (Or.inr h)
  · rcases pk_ix k (n := 20) (by omega) with h | h | ⟨a, ha, rfl⟩
    · simp (disch := omega) only [t_X5_put_0, t_X5_put_1, t_X5_put_2, t_X5_put_5, t_X5_put_7, t_X5_put_8, x_X5_put_8, ev_k_i, ev_kr_1, true_and, hk, C_tableOf_y hc hi, C_dKey_n (Or.inl h)]
      exact k1 i hi rfl (Or.inl (Or.inl h))
    · simp (disch := omega) only [t_X5_put_0, t_X5_put_1, t_X5_put_2, t_X5_put_5, t_X5_put_7, t_X5_put_8, x_X5_put_8, ev_k_i, ev_kr_1, true_and, hk, C_tableOf_y hc hi, C_dKey_n (Or.inr h)]
      exact k1 i hi rfl (Or.inl (Or.inr h))
    · rcases pk_ix v (n := 100) (by omega) with h | h | ⟨b, hb, rfl⟩
      · simp (disch := omega) only [t_X5_put_0, t_X5_put_1, t_X5_put_2, t_X5_put_5, t_X5_put_7, t_X5_put_8, t_X5_put_11, t_X5_put_12, x_X5_put_12, ev_k_i, ev_kr_1, ev_kr_0, true_and, hk, C_tableOf_y hc hi, C_dKey_y ha, C_dVal_n (Or.inl h)]
        exact k1 i hi rfl (Or.inr (Or.inl h))
      · simp (disch := omega) only [t_X5_put_0, t_X5_put_1, t_X5_put_2, t_X5_put_5, t_X5_put_7, t_X5_put_8, t_X5_put_11, t_X5_put_12, x_X5_put_12, ev_k_i, ev_kr_1, ev_kr_0, true_and, hk, C_tableOf_y hc hi, C_dKey_y ha, C_dVal_n (Or.inr h)]
        exact k1 i hi rfl (Or.inr (Or.inr h))
      · obtain ⟨h1, h2, h3⟩ := hc.2.2.2.2.2.2.1 i hi
        have hT := hG.1 i hi
        unfold ev_tbc at h1
        have h3k : ev_isK (ev_lk X H (x + 14 + 5 * i + 3)) 9 = True := by rw [ev_lk_s h3]; exact ev_isK_y
        simp (disch := omega) only [t_X5_put_0, t_X5_put_1, t_X5_put_2, t_X5_put_5, t_X5_put_7, t_X5_put_8, t_X5_put_11, t_X5_put_12, t_X5_put_15, t_X5_put_17, t_X5_put_20, ev_k_i, ev_kr_1, ev_kr_0, true_and, ev_fG_1, ev_isO_1, hk, C_tableOf_y hc hi, C_dKey_y ha, C_dVal_y hb, ev_lk_s h1, h3k]
        refine W_outdate h3 ?_
        have h1' := fun c => (ev_up_n (h := H) (a := x + 14 + 5 * i + 3) (b := x + 13 + 5 * i) (c := c) (by omega)).trans h1
        have h2' := ev_rL_up (a := x + 14 + 5 * i + 3) (c := ev_wkc (x + 14 + 5 * i) (G.1 i).2.2.1.1 true (G.1 i).2.2.1.2.2 (G.1 i).2.2.2.1 (G.1 i).2.2.2.2) h2 (by omega) (by omega) (by omega)
        have h2k := ev_rL_k (X := X) h2'
        simp (disch := omega) only [t_X5_put_23, t_X5_put_25, t_X5_put_28, t_X5_put_29, t_X5_put_30, ev_kr_0, true_and, ev_fG_0, ev_isO_0, ev_lk_s (h1' _), h2k]
        refine R_bring h2' hT.2.1 (okL_len hT.1) (fun z => (okL_new hT.1 (okL_key ha) z).2) fun H1 hH1 => ?_
        simp (disch := omega) only [t_X5_put_33, ev_kr_1]
        have hE := c_tab_old hc hi hH1
        exact k2 i a b hi rfl ha rfl hb rfl H1 hE.1 hE.2
end CM
end
section
/-! ===== the class: the other calls on its tables ===== -/
def ps_row (s : ev_TS) (L : ev_PL) (b m lm ll : Int32) : ev_TS := (L, (b, m, lm, ll), (s.2.2.1.1, true, s.2.2.1.2.2), s.2.2.2.1, s.2.2.2.2)
theorem okT_row {s : ev_TS} (h : okT s) {L : ev_PL} (hL : okL L) {b : Int32} (hb : ev_isB b) (m lm ll : Int32) : okT (ps_row s L b m lm ll) := ⟨hL, hb, h.2.2.1, fun _ z => by cases z⟩
section CN
variable {X : ev_E} {x : Nat} {G : ev_CS} {H : ev_M} {n q : Nat} {P : ev_O → ev_M → Nat → Nat → Prop}
theorem c_tab_row (hc : c_all x G H) {i : Nat} (hi : i < 4) {L : ev_PL} {b m lm ll : Int32} {H1 : ev_M}
    (hH : ev_rL (ev_up H (x + 14 + 5 * i + 3) (ev_wkc (x + 14 + 5 * i) (G.1 i).2.2.1.1 true (G.1 i).2.2.1.2.2 (G.1 i).2.2.2.1 (G.1 i).2.2.2.2)) (x + 14 + 5 * i) L b m lm ll H1) :
    c_all x (pg_T G i (ps_row (G.1 i) L b m lm ll)) H1 ∧ c_fr x H H1 := by
  have ho : ∀ a, (a < x + 13 + 5 * i ∨ x + 18 + 5 * i ≤ a) → H1 a = H a := fun a ha =>
    (ev_rL_o hH (by omega) (by omega) (by omega)).trans (ev_up_n (by omega))
  refine ⟨c_upT hc hi ho ⟨?_, c_row_of hH, ?_⟩, fun a ha => ho a (by omega)⟩
  · rw [ev_rL_o hH (by omega) (by omega) (by omega), ev_up_n (by omega)]
    exact (hc.2.2.2.2.2.2.1 i hi).1
  · rw [ev_rL_o hH (by omega) (by omega) (by omega), ev_up_s]
    rfl
theorem C_get (hc : c_all x G H) (hG : okG G) {t k : Int32} (k0 : t < 0 ∨ nI 4 ≤ t → P (.inr 0) H (n + 1) (q + 6))
    (k_k : ∀ i, i < 4 → t = nI i → (k < 0 ∨ nI 20 ≤ k) → P (.inr 1) H (n + 1) (q + 6))
    (k2 : ∀ i a_k, i < 4 → t = nI i → a_k < 20 → k = nI a_k → ∀ H1, c_all x (pg_T G i (ps_row (G.1 i) (pr_fetch (G.1 i).1 (G.1 i).2.1.1 k (-1)).2 (G.1 i).2.1.1 (G.1 i).2.1.2.1 (G.1 i).2.1.2.2.1 (G.1 i).2.1.2.2.2)) H1 → c_fr x H H1 → P (.inl (some (.int (pr_fetch (G.1 i).1 (G.1 i).2.1.1 k (-1)).1))) H1 n q) : ev_ok (ev_TT X) 227 0 [.ref x, .int t, .int k, ev_J] [] H n q P := by
  have hk := c_all_k (X := X) hc
  rcases pk_ix t (n := 4) (by omega) with h | h | ⟨i, hi, rfl⟩
  · simp (disch := omega) only [t_X5_get_0, t_X5_get_1, t_X5_get_2, x_X5_get_2, true_and, hk, C_tableOf_n (Or.inl h)]
    exact k0 (Or.inl h)
  · simp (disch := omega) only [t_X5_get_0, t_X5_get_1, t_X5_get_2, x_X5_get_2, true_and, hk, C_tableOf_n (Or.inr h)]
    exact k0 (Or.inr h)
  · rcases pk_ix k (n := 20) (by omega) with h | h | ⟨a_k, ha_k, rfl⟩
    · simp (disch := omega) only [t_X5_get_0, t_X5_get_1, t_X5_get_2, t_X5_get_5, t_X5_get_6, t_X5_get_7, x_X5_get_7, ev_k_i, ev_kr_1, true_and, hk, C_tableOf_y hc hi, C_dKey_n (Or.inl h)]
      exact k_k i hi rfl (Or.inl h)
    · simp (disch := omega) only [t_X5_get_0, t_X5_get_1, t_X5_get_2, t_X5_get_5, t_X5_get_6, t_X5_get_7, x_X5_get_7, ev_k_i, ev_kr_1, true_and, hk, C_tableOf_y hc hi, C_dKey_n (Or.inr h)]
      exact k_k i hi rfl (Or.inr h)
    · skip
      obtain ⟨h1, h2, h3⟩ := hc.2.2.2.2.2.2.1 i hi
      have hT := hG.1 i hi
      unfold ev_tbc at h1
      have h3k : ev_isK (ev_lk X H (x + 14 + 5 * i + 3)) 9 = True := by rw [ev_lk_s h3]; exact ev_isK_y
      have h2k := ev_rL_k (X := X) h2
      have h2b := ev_rL_b (X := X) h2
      simp (disch := omega) only [t_X5_get_0, t_X5_get_1, t_X5_get_2, t_X5_get_5, t_X5_get_6, t_X5_get_7, t_X5_get_10, t_X5_get_11, t_X5_get_14, ev_k_i, ev_kr_1, ev_kr_0, true_and, ev_fG_1, ev_isO_1, hk, C_tableOf_y hc hi, C_dKey_y ha_k, ev_lk_s h1, h3k]
      refine W_outdate h3 ?_
      have h1' := fun c => (ev_up_n (h := H) (a := x + 14 + 5 * i + 3) (b := x + 13 + 5 * i) (c := c) (by omega)).trans h1
      have h2' := ev_rL_up (a := x + 14 + 5 * i + 3) (c := ev_wkc (x + 14 + 5 * i) (G.1 i).2.2.1.1 true (G.1 i).2.2.1.2.2 (G.1 i).2.2.2.1 (G.1 i).2.2.2.2) h2 (by omega) (by omega) (by omega)
      have h2k' := ev_rL_k (X := X) h2'
      simp (disch := omega) only [t_X5_get_17, t_X5_get_18, t_X5_get_21, t_X5_get_22, t_X5_get_23, ev_kr_0, true_and, ev_fG_0, ev_isO_0, ev_lk_s (h1' _), h2k']
      refine R_fetch h2' hT.2.1 (okL_len hT.1) fun H1 hH1 => ?_
      simp (disch := omega) only [t_X5_get_26, ev_kr_1]
      have hE := c_tab_row hc hi hH1
      exact k2 i a_k hi rfl ha_k rfl H1 hE.1 hE.2
theorem C_getOr (hc : c_all x G H) (hG : okG G) {t k o : Int32} (k0 : t < 0 ∨ nI 4 ≤ t → P (.inr 0) H (n + 1) (q + 6))
    (k_k : ∀ i, i < 4 → t = nI i → (k < 0 ∨ nI 20 ≤ k) → P (.inr 1) H (n + 1) (q + 6))
    (k2 : ∀ i a_k, i < 4 → t = nI i → a_k < 20 → k = nI a_k → ∀ H1, c_all x (pg_T G i (ps_row (G.1 i) (pr_fetch (G.1 i).1 (G.1 i).2.1.1 k o).2 (G.1 i).2.1.1 (G.1 i).2.1.2.1 (G.1 i).2.1.2.2.1 (G.1 i).2.1.2.2.2)) H1 → c_fr x H H1 → P (.inl (some (.int (pr_fetch (G.1 i).1 (G.1 i).2.1.1 k o).1))) H1 n q) : ev_ok (ev_TT X) 228 0 [.ref x, .int t, .int k, .int o, ev_J] [] H n q P := by
  have hk := c_all_k (X := X) hc
  rcases pk_ix t (n := 4) (by omega) with h | h | ⟨i, hi, rfl⟩
  · simp (disch := omega) only [t_X5_getOr_0, t_X5_getOr_1, t_X5_getOr_2, x_X5_getOr_2, true_and, hk, C_tableOf_n (Or.inl h)]
    exact k0 (Or.inl h)
  · simp (disch := omega) only [t_X5_getOr_0, t_X5_getOr_1, t_X5_getOr_2, x_X5_getOr_2, true_and, hk, C_tableOf_n (Or.inr h)]
    exact k0 (Or.inr h)
  · rcases pk_ix k (n := 20) (by omega) with h | h | ⟨a_k, ha_k, rfl⟩
    · simp (disch := omega) only [t_X5_getOr_0, t_X5_getOr_1, t_X5_getOr_2, t_X5_getOr_5, t_X5_getOr_7, t_X5_getOr_8, x_X5_getOr_8, ev_k_i, ev_kr_1, true_and, hk, C_tableOf_y hc hi, C_dKey_n (Or.inl h)]
      exact k_k i hi rfl (Or.inl h)
    · simp (disch := omega) only [t_X5_getOr_0, t_X5_getOr_1, t_X5_getOr_2, t_X5_getOr_5, t_X5_getOr_7, t_X5_getOr_8, x_X5_getOr_8, ev_k_i, ev_kr_1, true_and, hk, C_tableOf_y hc hi, C_dKey_n (Or.inr h)]
      exact k_k i hi rfl (Or.inr h)
    · skip
      obtain ⟨h1, h2, h3⟩ := hc.2.2.2.2.2.2.1 i hi
      have hT := hG.1 i hi
      unfold ev_tbc at h1
      have h3k : ev_isK (ev_lk X H (x + 14 + 5 * i + 3)) 9 = True := by rw [ev_lk_s h3]; exact ev_isK_y
      have h2k := ev_rL_k (X := X) h2
      have h2b := ev_rL_b (X := X) h2
      simp (disch := omega) only [t_X5_getOr_0, t_X5_getOr_1, t_X5_getOr_2, t_X5_getOr_5, t_X5_getOr_7, t_X5_getOr_8, t_X5_getOr_11, t_X5_getOr_13, t_X5_getOr_16, ev_k_i, ev_kr_1, ev_kr_0, true_and, ev_fG_1, ev_isO_1, hk, C_tableOf_y hc hi, C_dKey_y ha_k, ev_lk_s h1, h3k]
      refine W_outdate h3 ?_
      have h1' := fun c => (ev_up_n (h := H) (a := x + 14 + 5 * i + 3) (b := x + 13 + 5 * i) (c := c) (by omega)).trans h1
      have h2' := ev_rL_up (a := x + 14 + 5 * i + 3) (c := ev_wkc (x + 14 + 5 * i) (G.1 i).2.2.1.1 true (G.1 i).2.2.1.2.2 (G.1 i).2.2.2.1 (G.1 i).2.2.2.2) h2 (by omega) (by omega) (by omega)
      have h2k' := ev_rL_k (X := X) h2'
      simp (disch := omega) only [t_X5_getOr_19, t_X5_getOr_21, t_X5_getOr_24, t_X5_getOr_25, t_X5_getOr_26, ev_kr_0, true_and, ev_fG_0, ev_isO_0, ev_lk_s (h1' _), h2k']
      refine R_fetch h2' hT.2.1 (okL_len hT.1) fun H1 hH1 => ?_
      simp (disch := omega) only [t_X5_getOr_29, ev_kr_1]
      have hE := c_tab_row hc hi hH1
      exact k2 i a_k hi rfl ha_k rfl H1 hE.1 hE.2
theorem C_remove (hc : c_all x G H) (hG : okG G) {t k : Int32} (k0 : t < 0 ∨ nI 4 ≤ t → P (.inr 0) H (n + 1) (q + 6))
    (k_k : ∀ i, i < 4 → t = nI i → (k < 0 ∨ nI 20 ≤ k) → P (.inr 1) H (n + 1) (q + 6))
    (k2 : ∀ i a_k, i < 4 → t = nI i → a_k < 20 → k = nI a_k → ∀ H1, c_all x (pg_T G i (ps_row (G.1 i) (pr_drop (G.1 i).1 k).2 (G.1 i).2.1.1 (G.1 i).2.1.2.1 (G.1 i).2.1.2.2.1 (G.1 i).2.1.2.2.2)) H1 → c_fr x H H1 → P (.inl (some (.int (pr_drop (G.1 i).1 k).1))) H1 n q) : ev_ok (ev_TT X) 204 0 [.ref x, .int t, .int k, ev_J] [] H n q P := by
  have hk := c_all_k (X := X) hc
  rcases pk_ix t (n := 4) (by omega) with h | h | ⟨i, hi, rfl⟩
  · simp (disch := omega) only [t_X5_remove_0, t_X5_remove_1, t_X5_remove_2, x_X5_remove_2, true_and, hk, C_tableOf_n (Or.inl h)]
    exact k0 (Or.inl h)
  · simp (disch := omega) only [t_X5_remove_0, t_X5_remove_1, t_X5_remove_2, x_X5_remove_2, true_and, hk, C_tableOf_n (Or.inr h)]
    exact k0 (Or.inr h)
  · rcases pk_ix k (n := 20) (by omega) with h | h | ⟨a_k, ha_k, rfl⟩
    · simp (disch := omega) only [t_X5_remove_0, t_X5_remove_1, t_X5_remove_2, t_X5_remove_5, t_X5_remove_6, t_X5_remove_7, x_X5_remove_7, ev_k_i, ev_kr_1, true_and, hk, C_tableOf_y hc hi, C_dKey_n (Or.inl h)]
      exact k_k i hi rfl (Or.inl h)
    · simp (disch := omega) only [t_X5_remove_0, t_X5_remove_1, t_X5_remove_2, t_X5_remove_5, t_X5_remove_6, t_X5_remove_7, x_X5_remove_7, ev_k_i, ev_kr_1, true_and, hk, C_tableOf_y hc hi, C_dKey_n (Or.inr h)]
      exact k_k i hi rfl (Or.inr h)
    · skip
      obtain ⟨h1, h2, h3⟩ := hc.2.2.2.2.2.2.1 i hi
      have hT := hG.1 i hi
      unfold ev_tbc at h1
      have h3k : ev_isK (ev_lk X H (x + 14 + 5 * i + 3)) 9 = True := by rw [ev_lk_s h3]; exact ev_isK_y
      have h2k := ev_rL_k (X := X) h2
      have h2b := ev_rL_b (X := X) h2
      simp (disch := omega) only [t_X5_remove_0, t_X5_remove_1, t_X5_remove_2, t_X5_remove_5, t_X5_remove_6, t_X5_remove_7, t_X5_remove_10, t_X5_remove_11, t_X5_remove_14, ev_k_i, ev_kr_1, ev_kr_0, true_and, ev_fG_1, ev_isO_1, hk, C_tableOf_y hc hi, C_dKey_y ha_k, ev_lk_s h1, h3k]
      refine W_outdate h3 ?_
      have h1' := fun c => (ev_up_n (h := H) (a := x + 14 + 5 * i + 3) (b := x + 13 + 5 * i) (c := c) (by omega)).trans h1
      have h2' := ev_rL_up (a := x + 14 + 5 * i + 3) (c := ev_wkc (x + 14 + 5 * i) (G.1 i).2.2.1.1 true (G.1 i).2.2.1.2.2 (G.1 i).2.2.2.1 (G.1 i).2.2.2.2) h2 (by omega) (by omega) (by omega)
      have h2k' := ev_rL_k (X := X) h2'
      simp (disch := omega) only [t_X5_remove_17, t_X5_remove_18, t_X5_remove_21, t_X5_remove_22, ev_kr_0, true_and, ev_fG_0, ev_isO_0, ev_lk_s (h1' _), h2k']
      refine R_dropKey h2' (okL_len hT.1) fun H1 hH1 => ?_
      simp (disch := omega) only [t_X5_remove_25, ev_kr_1]
      have hE := c_tab_row hc hi hH1
      exact k2 i a_k hi rfl ha_k rfl H1 hE.1 hE.2
theorem C_clear (hc : c_all x G H) (hG : okG G) {t : Int32} (k0 : t < 0 ∨ nI 4 ≤ t → P (.inr 0) H (n + 1) (q + 6))
    (k2 : ∀ i, i < 4 → t = nI i → ∀ H1, c_all x (pg_T G i (ps_row (G.1 i) [] (G.1 i).2.1.1 (G.1 i).2.1.2.1 (G.1 i).2.1.2.2.1 (G.1 i).2.1.2.2.2)) H1 → c_fr x H H1 → P (.inl (some (.int (nI (G.1 i).1.length)))) H1 n q) : ev_ok (ev_TT X) 101 0 [.ref x, .int t, ev_J] [] H n q P := by
  have hk := c_all_k (X := X) hc
  rcases pk_ix t (n := 4) (by omega) with h | h | ⟨i, hi, rfl⟩
  · simp (disch := omega) only [t_X5_clear_0, t_X5_clear_1, t_X5_clear_2, x_X5_clear_2, true_and, hk, C_tableOf_n (Or.inl h)]
    exact k0 (Or.inl h)
  · simp (disch := omega) only [t_X5_clear_0, t_X5_clear_1, t_X5_clear_2, x_X5_clear_2, true_and, hk, C_tableOf_n (Or.inr h)]
    exact k0 (Or.inr h)
  · skip
    obtain ⟨h1, h2, h3⟩ := hc.2.2.2.2.2.2.1 i hi
    have hT := hG.1 i hi
    unfold ev_tbc at h1
    have h3k : ev_isK (ev_lk X H (x + 14 + 5 * i + 3)) 9 = True := by rw [ev_lk_s h3]; exact ev_isK_y
    have h2k := ev_rL_k (X := X) h2
    have h2b := ev_rL_b (X := X) h2
    simp (disch := omega) only [t_X5_clear_0, t_X5_clear_1, t_X5_clear_2, t_X5_clear_5, t_X5_clear_6, t_X5_clear_7, t_X5_clear_10, ev_k_i, ev_kr_1, true_and, ev_fG_1, ev_isO_1, hk, C_tableOf_y hc hi, ev_lk_s h1, h3k]
    refine W_outdate h3 ?_
    have h1' := fun c => (ev_up_n (h := H) (a := x + 14 + 5 * i + 3) (b := x + 13 + 5 * i) (c := c) (by omega)).trans h1
    have h2' := ev_rL_up (a := x + 14 + 5 * i + 3) (c := ev_wkc (x + 14 + 5 * i) (G.1 i).2.2.1.1 true (G.1 i).2.2.1.2.2 (G.1 i).2.2.2.1 (G.1 i).2.2.2.2) h2 (by omega) (by omega) (by omega)
    have h2k' := ev_rL_k (X := X) h2'
    simp (disch := omega) only [t_X5_clear_13, t_X5_clear_14, t_X5_clear_17, ev_kr_0, true_and, ev_fG_0, ev_isO_0, ev_lk_s (h1' _), h2k']
    refine R_dropAll h2' fun H1 hH1 => ?_
    simp (disch := omega) only [t_X5_clear_20, ev_kr_1]
    have hE := c_tab_row hc hi hH1
    exact k2 i hi rfl H1 hE.1 hE.2
theorem C_keyAt (hc : c_all x G H) (hG : okG G) {t p : Int32} (k0 : t < 0 ∨ nI 4 ≤ t → P (.inr 0) H (n + 1) (q + 6))
    (k2 : ∀ i, i < 4 → t = nI i → P (.inl (some (.int (pr_told (G.1 i).1 p 0)))) H n q) : ev_ok (ev_TT X) 154 0 [.ref x, .int t, .int p] [] H n q P := by
  have hk := c_all_k (X := X) hc
  rcases pk_ix t (n := 4) (by omega) with h | h | ⟨i, hi, rfl⟩
  · simp (disch := omega) only [t_X5_keyAt_0, t_X5_keyAt_1, t_X5_keyAt_2, x_X5_keyAt_2, true_and, hk, C_tableOf_n (Or.inl h)]
    exact k0 (Or.inl h)
  · simp (disch := omega) only [t_X5_keyAt_0, t_X5_keyAt_1, t_X5_keyAt_2, x_X5_keyAt_2, true_and, hk, C_tableOf_n (Or.inr h)]
    exact k0 (Or.inr h)
  · skip
    obtain ⟨h1, h2, h3⟩ := hc.2.2.2.2.2.2.1 i hi
    have hT := hG.1 i hi
    unfold ev_tbc at h1
    have h3k : ev_isK (ev_lk X H (x + 14 + 5 * i + 3)) 9 = True := by rw [ev_lk_s h3]; exact ev_isK_y
    have h2k := ev_rL_k (X := X) h2
    have h2b := ev_rL_b (X := X) h2
    simp (disch := omega) only [t_X5_keyAt_0, t_X5_keyAt_1, t_X5_keyAt_2, t_X5_keyAt_5, t_X5_keyAt_8, t_X5_keyAt_9, t_X5_keyAt_10, ev_kr_1, true_and, ev_fG_0, ev_isO_0, hk, C_tableOf_y hc hi, ev_lk_s h1, h2k]
    refine R_told h2 (okL_len hT.1) ?_
    simp (disch := omega) only [t_X5_keyAt_13, ev_kr_1]
    exact k2 i hi rfl 
theorem C_valueAt (hc : c_all x G H) (hG : okG G) {t p : Int32} (k0 : t < 0 ∨ nI 4 ≤ t → P (.inr 0) H (n + 1) (q + 6))
    (k2 : ∀ i, i < 4 → t = nI i → P (.inl (some (.int (pr_told (G.1 i).1 p 1)))) H n q) : ev_ok (ev_TT X) 162 0 [.ref x, .int t, .int p] [] H n q P := by
  have hk := c_all_k (X := X) hc
  rcases pk_ix t (n := 4) (by omega) with h | h | ⟨i, hi, rfl⟩
  · simp (disch := omega) only [t_X5_valueAt_0, t_X5_valueAt_1, t_X5_valueAt_2, x_X5_valueAt_2, true_and, hk, C_tableOf_n (Or.inl h)]
    exact k0 (Or.inl h)
  · simp (disch := omega) only [t_X5_valueAt_0, t_X5_valueAt_1, t_X5_valueAt_2, x_X5_valueAt_2, true_and, hk, C_tableOf_n (Or.inr h)]
    exact k0 (Or.inr h)
  · skip
    obtain ⟨h1, h2, h3⟩ := hc.2.2.2.2.2.2.1 i hi
    have hT := hG.1 i hi
    unfold ev_tbc at h1
    have h3k : ev_isK (ev_lk X H (x + 14 + 5 * i + 3)) 9 = True := by rw [ev_lk_s h3]; exact ev_isK_y
    have h2k := ev_rL_k (X := X) h2
    have h2b := ev_rL_b (X := X) h2
    simp (disch := omega) only [t_X5_valueAt_0, t_X5_valueAt_1, t_X5_valueAt_2, t_X5_valueAt_5, t_X5_valueAt_8, t_X5_valueAt_9, t_X5_valueAt_10, ev_kr_1, true_and, ev_fG_0, ev_isO_0, hk, C_tableOf_y hc hi, ev_lk_s h1, h2k]
    refine R_told h2 (okL_len hT.1) ?_
    simp (disch := omega) only [t_X5_valueAt_13, ev_kr_1]
    exact k2 i hi rfl 
theorem C_pairAt (hc : c_all x G H) (hG : okG G) {t p : Int32} (k0 : t < 0 ∨ nI 4 ≤ t → P (.inr 0) H (n + 1) (q + 6))
    (k2 : ∀ i, i < 4 → t = nI i → P (.inl (some (.int (pr_told (G.1 i).1 p 2)))) H n q) : ev_ok (ev_TT X) 159 0 [.ref x, .int t, .int p] [] H n q P := by
  have hk := c_all_k (X := X) hc
  rcases pk_ix t (n := 4) (by omega) with h | h | ⟨i, hi, rfl⟩
  · simp (disch := omega) only [t_X5_pairAt_0, t_X5_pairAt_1, t_X5_pairAt_2, x_X5_pairAt_2, true_and, hk, C_tableOf_n (Or.inl h)]
    exact k0 (Or.inl h)
  · simp (disch := omega) only [t_X5_pairAt_0, t_X5_pairAt_1, t_X5_pairAt_2, x_X5_pairAt_2, true_and, hk, C_tableOf_n (Or.inr h)]
    exact k0 (Or.inr h)
  · skip
    obtain ⟨h1, h2, h3⟩ := hc.2.2.2.2.2.2.1 i hi
    have hT := hG.1 i hi
    unfold ev_tbc at h1
    have h3k : ev_isK (ev_lk X H (x + 14 + 5 * i + 3)) 9 = True := by rw [ev_lk_s h3]; exact ev_isK_y
    have h2k := ev_rL_k (X := X) h2
    have h2b := ev_rL_b (X := X) h2
    simp (disch := omega) only [t_X5_pairAt_0, t_X5_pairAt_1, t_X5_pairAt_2, t_X5_pairAt_5, t_X5_pairAt_8, t_X5_pairAt_9, t_X5_pairAt_10, ev_kr_1, true_and, ev_fG_0, ev_isO_0, hk, C_tableOf_y hc hi, ev_lk_s h1, h2k]
    refine R_told h2 (okL_len hT.1) ?_
    simp (disch := omega) only [t_X5_pairAt_13, ev_kr_1]
    exact k2 i hi rfl 
theorem C_eldest (hc : c_all x G H) (hG : okG G) {t : Int32} (k0 : t < 0 ∨ nI 4 ≤ t → P (.inr 0) H (n + 1) (q + 6))
    (k2 : ∀ i, i < 4 → t = nI i → P (.inl (some (.int (pr_told (G.1 i).1 0 0)))) H n q) : ev_ok (ev_TT X) 149 0 [.ref x, .int t] [] H n q P := by
  have hk := c_all_k (X := X) hc
  rcases pk_ix t (n := 4) (by omega) with h | h | ⟨i, hi, rfl⟩
  · simp (disch := omega) only [t_X5_eldest_0, t_X5_eldest_1, t_X5_eldest_2, x_X5_eldest_2, true_and, hk, C_tableOf_n (Or.inl h)]
    exact k0 (Or.inl h)
  · simp (disch := omega) only [t_X5_eldest_0, t_X5_eldest_1, t_X5_eldest_2, x_X5_eldest_2, true_and, hk, C_tableOf_n (Or.inr h)]
    exact k0 (Or.inr h)
  · skip
    obtain ⟨h1, h2, h3⟩ := hc.2.2.2.2.2.2.1 i hi
    have hT := hG.1 i hi
    unfold ev_tbc at h1
    have h3k : ev_isK (ev_lk X H (x + 14 + 5 * i + 3)) 9 = True := by rw [ev_lk_s h3]; exact ev_isK_y
    have h2k := ev_rL_k (X := X) h2
    have h2b := ev_rL_b (X := X) h2
    simp (disch := omega) only [t_X5_eldest_0, t_X5_eldest_1, t_X5_eldest_2, t_X5_eldest_5, t_X5_eldest_8, t_X5_eldest_9, t_X5_eldest_10, ev_kr_1, true_and, ev_fG_0, ev_isO_0, hk, C_tableOf_y hc hi, ev_lk_s h1, h2k]
    refine R_told h2 (okL_len hT.1) ?_
    simp (disch := omega) only [t_X5_eldest_13, ev_kr_1]
    exact k2 i hi rfl 
theorem C_latest (hc : c_all x G H) (hG : okG G) {t : Int32} (k0 : t < 0 ∨ nI 4 ≤ t → P (.inr 0) H (n + 1) (q + 6))
    (k2 : ∀ i, i < 4 → t = nI i → P (.inl (some (.int (pr_told (G.1 i).1 (nI (G.1 i).1.length - 1) 0)))) H n q) : ev_ok (ev_TT X) 155 0 [.ref x, .int t, ev_J] [] H n q P := by
  have hk := c_all_k (X := X) hc
  rcases pk_ix t (n := 4) (by omega) with h | h | ⟨i, hi, rfl⟩
  · simp (disch := omega) only [t_X5_latest_0, t_X5_latest_1, t_X5_latest_2, x_X5_latest_2, true_and, hk, C_tableOf_n (Or.inl h)]
    exact k0 (Or.inl h)
  · simp (disch := omega) only [t_X5_latest_0, t_X5_latest_1, t_X5_latest_2, x_X5_latest_2, true_and, hk, C_tableOf_n (Or.inr h)]
    exact k0 (Or.inr h)
  · skip
    obtain ⟨h1, h2, h3⟩ := hc.2.2.2.2.2.2.1 i hi
    have hT := hG.1 i hi
    unfold ev_tbc at h1
    have h3k : ev_isK (ev_lk X H (x + 14 + 5 * i + 3)) 9 = True := by rw [ev_lk_s h3]; exact ev_isK_y
    have h2k := ev_rL_k (X := X) h2
    have h2b := ev_rL_b (X := X) h2
    simp (disch := omega) only [t_X5_latest_0, t_X5_latest_1, t_X5_latest_2, t_X5_latest_5, t_X5_latest_6, t_X5_latest_7, t_X5_latest_10, t_X5_latest_11, t_X5_latest_14, t_X5_latest_17, t_X5_latest_18, t_X5_latest_19, t_X5_latest_20, ev_k_i, ev_kr_1, true_and, ev_fG_0, ev_isO_0, hk, C_tableOf_y hc hi, ev_lk_s h1, h2k, h2b.2.1.1, h2b.2.1.2]
    refine R_told h2 (okL_len hT.1) ?_
    simp (disch := omega) only [t_X5_latest_23, ev_kr_1]
    exact k2 i hi rfl 
theorem C_placeOf (hc : c_all x G H) (hG : okG G) {t k : Int32} (k0 : t < 0 ∨ nI 4 ≤ t → P (.inr 0) H (n + 1) (q + 6))
    (k_k : ∀ i, i < 4 → t = nI i → (k < 0 ∨ nI 20 ≤ k) → P (.inr 1) H (n + 1) (q + 6))
    (k2 : ∀ i a_k, i < 4 → t = nI i → a_k < 20 → k = nI a_k → P (.inl (some (.int (pf_place (G.1 i).1 k)))) H n q) : ev_ok (ev_TT X) 110 0 [.ref x, .int t, .int k, ev_J] [] H n q P := by
  have hk := c_all_k (X := X) hc
  rcases pk_ix t (n := 4) (by omega) with h | h | ⟨i, hi, rfl⟩
  · simp (disch := omega) only [t_X5_placeOf_0, t_X5_placeOf_1, t_X5_placeOf_2, x_X5_placeOf_2, true_and, hk, C_tableOf_n (Or.inl h)]
    exact k0 (Or.inl h)
  · simp (disch := omega) only [t_X5_placeOf_0, t_X5_placeOf_1, t_X5_placeOf_2, x_X5_placeOf_2, true_and, hk, C_tableOf_n (Or.inr h)]
    exact k0 (Or.inr h)
  · rcases pk_ix k (n := 20) (by omega) with h | h | ⟨a_k, ha_k, rfl⟩
    · simp (disch := omega) only [t_X5_placeOf_0, t_X5_placeOf_1, t_X5_placeOf_2, t_X5_placeOf_5, t_X5_placeOf_6, t_X5_placeOf_7, x_X5_placeOf_7, ev_k_i, ev_kr_1, true_and, hk, C_tableOf_y hc hi, C_dKey_n (Or.inl h)]
      exact k_k i hi rfl (Or.inl h)
    · simp (disch := omega) only [t_X5_placeOf_0, t_X5_placeOf_1, t_X5_placeOf_2, t_X5_placeOf_5, t_X5_placeOf_6, t_X5_placeOf_7, x_X5_placeOf_7, ev_k_i, ev_kr_1, true_and, hk, C_tableOf_y hc hi, C_dKey_n (Or.inr h)]
      exact k_k i hi rfl (Or.inr h)
    · skip
      obtain ⟨h1, h2, h3⟩ := hc.2.2.2.2.2.2.1 i hi
      have hT := hG.1 i hi
      unfold ev_tbc at h1
      have h3k : ev_isK (ev_lk X H (x + 14 + 5 * i + 3)) 9 = True := by rw [ev_lk_s h3]; exact ev_isK_y
      have h2k := ev_rL_k (X := X) h2
      have h2b := ev_rL_b (X := X) h2
      simp (disch := omega) only [t_X5_placeOf_0, t_X5_placeOf_1, t_X5_placeOf_2, t_X5_placeOf_5, t_X5_placeOf_6, t_X5_placeOf_7, t_X5_placeOf_10, t_X5_placeOf_11, t_X5_placeOf_14, t_X5_placeOf_15, ev_k_i, ev_kr_1, ev_kr_0, true_and, ev_fG_0, ev_isO_0, hk, C_tableOf_y hc hi, C_dKey_y ha_k, ev_lk_s h1, h2k]
      refine R_find h2 (okL_len hT.1) ?_
      simp (disch := omega) only [t_X5_placeOf_18, ev_kr_1]
      exact k2 i a_k hi rfl ha_k rfl 
theorem C_has (hc : c_all x G H) (hG : okG G) {t k : Int32} (k0 : t < 0 ∨ nI 4 ≤ t → P (.inr 0) H (n + 1) (q + 6))
    (k_k : ∀ i, i < 4 → t = nI i → (k < 0 ∨ nI 20 ≤ k) → P (.inr 1) H (n + 1) (q + 6))
    (k2 : ∀ i a_k, i < 4 → t = nI i → a_k < 20 → k = nI a_k → P (.inl (some (.int (ev_bb (pf_find (G.1 i).1 k).isSome)))) H n q) : ev_ok (ev_TT X) 104 0 [.ref x, .int t, .int k, ev_J] [] H n q P := by
  have hk := c_all_k (X := X) hc
  rcases pk_ix t (n := 4) (by omega) with h | h | ⟨i, hi, rfl⟩
  · simp (disch := omega) only [t_X5_has_0, t_X5_has_1, t_X5_has_2, x_X5_has_2, true_and, hk, C_tableOf_n (Or.inl h)]
    exact k0 (Or.inl h)
  · simp (disch := omega) only [t_X5_has_0, t_X5_has_1, t_X5_has_2, x_X5_has_2, true_and, hk, C_tableOf_n (Or.inr h)]
    exact k0 (Or.inr h)
  · rcases pk_ix k (n := 20) (by omega) with h | h | ⟨a_k, ha_k, rfl⟩
    · simp (disch := omega) only [t_X5_has_0, t_X5_has_1, t_X5_has_2, t_X5_has_5, t_X5_has_6, t_X5_has_7, x_X5_has_7, ev_k_i, ev_kr_1, true_and, hk, C_tableOf_y hc hi, C_dKey_n (Or.inl h)]
      exact k_k i hi rfl (Or.inl h)
    · simp (disch := omega) only [t_X5_has_0, t_X5_has_1, t_X5_has_2, t_X5_has_5, t_X5_has_6, t_X5_has_7, x_X5_has_7, ev_k_i, ev_kr_1, true_and, hk, C_tableOf_y hc hi, C_dKey_n (Or.inr h)]
      exact k_k i hi rfl (Or.inr h)
    · skip
      obtain ⟨h1, h2, h3⟩ := hc.2.2.2.2.2.2.1 i hi
      have hT := hG.1 i hi
      unfold ev_tbc at h1
      have h3k : ev_isK (ev_lk X H (x + 14 + 5 * i + 3)) 9 = True := by rw [ev_lk_s h3]; exact ev_isK_y
      have h2k := ev_rL_k (X := X) h2
      have h2b := ev_rL_b (X := X) h2
      simp (disch := omega) only [t_X5_has_0, t_X5_has_1, t_X5_has_2, t_X5_has_5, t_X5_has_6, t_X5_has_7, t_X5_has_10, t_X5_has_11, t_X5_has_14, t_X5_has_15, ev_k_i, ev_kr_1, ev_kr_0, true_and, ev_fG_0, ev_isO_0, hk, C_tableOf_y hc hi, C_dKey_y ha_k, ev_lk_s h1, h2k]
      refine R_find h2 (okL_len hT.1) ?_
      have hK := k2 i a_k hi rfl ha_k rfl
      unfold pf_place
      rcases e : pf_find (G.1 i).1 (nI a_k) with _ | j
      · rw [e] at hK
        simp (disch := omega) only [t_X5_has_18, t_X5_has_19, t_X5_has_26, t_X5_has_27, ↓reduceIte, ev_kr_1, ev_nb_0, true_and]
        exact hK
      · rw [e] at hK
        have hj := (pf_find_s e).1
        have hl := okL_len hT.1
        simp (disch := omega) only [t_X5_has_18, t_X5_has_19, t_X5_has_22, t_X5_has_23, t_X5_has_27, ↓reduceIte, ev_kr_1, ev_nb_1, true_and, ev_nm1]
        exact hK
theorem C_size (hc : c_all x G H) (hG : okG G) {t : Int32} (k0 : t < 0 ∨ nI 4 ≤ t → P (.inr 0) H (n + 1) (q + 6))
    (k2 : ∀ i, i < 4 → t = nI i → P (.inl (some (.int (nI (G.1 i).1.length)))) H n q) : ev_ok (ev_TT X) 111 0 [.ref x, .int t] [] H n q P := by
  have hk := c_all_k (X := X) hc
  rcases pk_ix t (n := 4) (by omega) with h | h | ⟨i, hi, rfl⟩
  · simp (disch := omega) only [t_X5_size_0, t_X5_size_1, t_X5_size_2, x_X5_size_2, true_and, hk, C_tableOf_n (Or.inl h)]
    exact k0 (Or.inl h)
  · simp (disch := omega) only [t_X5_size_0, t_X5_size_1, t_X5_size_2, x_X5_size_2, true_and, hk, C_tableOf_n (Or.inr h)]
    exact k0 (Or.inr h)
  · skip
    obtain ⟨h1, h2, h3⟩ := hc.2.2.2.2.2.2.1 i hi
    have hT := hG.1 i hi
    unfold ev_tbc at h1
    have h3k : ev_isK (ev_lk X H (x + 14 + 5 * i + 3)) 9 = True := by rw [ev_lk_s h3]; exact ev_isK_y
    have h2k := ev_rL_k (X := X) h2
    have h2b := ev_rL_b (X := X) h2
    simp (disch := omega) only [t_X5_size_0, t_X5_size_1, t_X5_size_2, t_X5_size_5, t_X5_size_8, t_X5_size_11, ev_kr_1, true_and, ev_fG_0, ev_isO_0, hk, C_tableOf_y hc hi, ev_lk_s h1, h2b.2.1.1, h2b.2.1.2]
    exact k2 i hi rfl 
end CN
end
section
/-! ===== the class: the calls on walks; refusals ===== -/
def ps_gen (L : ev_PL) (b m lm ll : Int32) (bg old cd : Bool) (kd : Int32) (k : Nat) : ev_TS := (L, (b, m, lm, ll), (bg, old, cd), kd, k)
def ps_wk (s : ev_TS) (bg old cd : Bool) (kd : Int32) (k : Nat) : ev_TS := (s.1, s.2.1, (bg, old, cd), kd, k)
def pg_rf (G : ev_CS) : ev_CS := (G.1, G.2.1, G.2.2.1, G.2.2.2.1, G.2.2.2.2.1 + 1, G.2.2.2.2.2)
theorem okG_rf {G : ev_CS} (h : okG G) : okG (pg_rf G) := h
section CW
variable {X : ev_E} {x : Nat} {G : ev_CS} {H : ev_M} {n q : Nat} {P : ev_O → ev_M → Nat → Nat → Prop}
theorem c_tab_gen (hc : c_all x G H) {i : Nat} (hi : i < 4) {L : ev_PL} {b m lm ll : Int32} {bg old cd : Bool} {kd : Int32} {k : Nat} {H1 : ev_M}
    (hH : ev_rL (ev_up H (x + 14 + 5 * i + 3) (ev_wkc (x + 14 + 5 * i) bg old cd kd k)) (x + 14 + 5 * i) L b m lm ll H1) :
    c_all x (pg_T G i (ps_gen L b m lm ll bg old cd kd k)) H1 ∧ c_fr x H H1 := by
  have ho : ∀ a, (a < x + 13 + 5 * i ∨ x + 18 + 5 * i ≤ a) → H1 a = H a := fun a ha =>
    (ev_rL_o hH (by omega) (by omega) (by omega)).trans (ev_up_n (by omega))
  refine ⟨c_upT hc hi ho ⟨?_, c_row_of hH, ?_⟩, fun a ha => ho a (by omega)⟩
  · rw [ev_rL_o hH (by omega) (by omega) (by omega), ev_up_n (by omega)]
    exact (hc.2.2.2.2.2.2.1 i hi).1
  · rw [ev_rL_o hH (by omega) (by omega) (by omega), ev_up_s]
    rfl
theorem C_refuse (hc : c_all x G H) (k : ∀ H1, c_all x (pg_rf G) H1 → c_fr x H H1 → P (.inl (some (.int (-9)))) H1 n q) : ev_ok (ev_TT X) 58 0 [.ref x] [] H n q P := by
  have h0 := hc.1
  unfold c_top at h0
  simp (disch := omega) only [t_X5_refuse_0, t_X5_refuse_1, t_X5_refuse_2, t_X5_refuse_5, t_X5_refuse_6, t_X5_refuse_7, t_X5_refuse_10, t_X5_refuse_12, ev_ft_I, and_true, true_and, ev_fG_5, ev_fS_5, ev_isO_5, ev_lk_s h0, h0]
  exact k _ (c_up0 hc (fun a ha => ev_up_n (by omega)) ev_up_s) (fun a ha => ev_up_n (by omega))
theorem C_walk (hc : c_all x G H) (hG : okG G) {t w : Int32} (k0 : t < 0 ∨ nI 4 ≤ t → P (.inr 0) H (n + 1) (q + 6))
    (k_w : ∀ i, i < 4 → t = nI i → (w < 0 ∨ nI 3 ≤ w) → P (.inr 1) H (n + 1) (q + 6))
    (k2 : ∀ i a_w, i < 4 → t = nI i → a_w < 3 → w = nI a_w → ∀ H1, c_all x (pg_T G i (ps_gen (G.1 i).1 (G.1 i).2.1.1 (G.1 i).2.1.2.1 (G.1 i).2.1.2.2.1 (G.1 i).2.1.2.2.2 true false false w 0)) H1 → c_fr x H H1 → P (.inl (some (.int (nI (G.1 i).1.length)))) H1 n q) : ev_ok (ev_TT X) 112 0 [.ref x, .int t, .int w, ev_J] [] H n q P := by
  have hk := c_all_k (X := X) hc
  rcases pk_ix t (n := 4) (by omega) with h | h | ⟨i, hi, rfl⟩
  · simp (disch := omega) only [t_X5_walk_0, t_X5_walk_1, t_X5_walk_2, x_X5_walk_2, true_and, hk, C_tableOf_n (Or.inl h)]
    exact k0 (Or.inl h)
  · simp (disch := omega) only [t_X5_walk_0, t_X5_walk_1, t_X5_walk_2, x_X5_walk_2, true_and, hk, C_tableOf_n (Or.inr h)]
    exact k0 (Or.inr h)
  · rcases pk_ix w (n := 3) (by omega) with h | h | ⟨a_w, ha_w, rfl⟩
    · simp (disch := omega) only [t_X5_walk_0, t_X5_walk_1, t_X5_walk_2, t_X5_walk_5, t_X5_walk_6, t_X5_walk_7, x_X5_walk_7, ev_k_i, ev_kr_1, true_and, hk, C_tableOf_y hc hi, C_dWalk_n (Or.inl h)]
      exact k_w i hi rfl (Or.inl h)
    · simp (disch := omega) only [t_X5_walk_0, t_X5_walk_1, t_X5_walk_2, t_X5_walk_5, t_X5_walk_6, t_X5_walk_7, x_X5_walk_7, ev_k_i, ev_kr_1, true_and, hk, C_tableOf_y hc hi, C_dWalk_n (Or.inr h)]
      exact k_w i hi rfl (Or.inr h)
    · skip
      obtain ⟨h1, h2, h3⟩ := hc.2.2.2.2.2.2.1 i hi
      have hT := hG.1 i hi
      unfold ev_tbc at h1
      have h3k : ev_isK (ev_lk X H (x + 14 + 5 * i + 3)) 9 = True := by rw [ev_lk_s h3]; exact ev_isK_y
      have h2k := ev_rL_k (X := X) h2
      have h2b := ev_rL_b (X := X) h2
      simp (disch := omega) only [t_X5_walk_0, t_X5_walk_1, t_X5_walk_2, t_X5_walk_5, t_X5_walk_6, t_X5_walk_7, t_X5_walk_10, t_X5_walk_11, t_X5_walk_14, t_X5_walk_15, ev_k_i, ev_kr_1, ev_kr_0, true_and, ev_fG_1, ev_isO_1, hk, C_tableOf_y hc hi, C_dWalk_y ha_w, ev_lk_s h1, h3k]
      refine W_begin h3 ?_
      have hH1 := ev_rL_up (a := x + 14 + 5 * i + 3) (c := ev_wkc (x + 14 + 5 * i) true false false (nI a_w) 0) h2 (by omega) (by omega) (by omega)
      have h1' := fun c => (ev_up_n (h := H) (a := x + 14 + 5 * i + 3) (b := x + 13 + 5 * i) (c := c) (by omega)).trans h1
      have hx := (ev_rL_b (X := X) hH1).2.1
      simp (disch := omega) only [t_X5_walk_18, t_X5_walk_19, t_X5_walk_22, t_X5_walk_25, ev_kr_0, true_and, ev_fG_0, ev_isO_0, ev_lk_s (h1' _), hx.1, hx.2]
      have hE := c_tab_gen hc hi hH1
      exact k2 i a_w hi rfl ha_w rfl _ hE.1 hE.2
theorem C_isStale (hc : c_all x G H) (hG : okG G) {t : Int32} (k0 : t < 0 ∨ nI 4 ≤ t → P (.inr 0) H (n + 1) (q + 6))
    (k2 : ∀ i, i < 4 → t = nI i → P (.inl (some (.int (ev_bb ((G.1 i).2.2.1.1 && (G.1 i).2.2.1.2.1))))) H n q) : ev_ok (ev_TT X) 107 0 [.ref x, .int t] [] H n q P := by
  have hk := c_all_k (X := X) hc
  rcases pk_ix t (n := 4) (by omega) with h | h | ⟨i, hi, rfl⟩
  · simp (disch := omega) only [t_X5_isStale_0, t_X5_isStale_1, t_X5_isStale_2, x_X5_isStale_2, true_and, hk, C_tableOf_n (Or.inl h)]
    exact k0 (Or.inl h)
  · simp (disch := omega) only [t_X5_isStale_0, t_X5_isStale_1, t_X5_isStale_2, x_X5_isStale_2, true_and, hk, C_tableOf_n (Or.inr h)]
    exact k0 (Or.inr h)
  · skip
    obtain ⟨h1, h2, h3⟩ := hc.2.2.2.2.2.2.1 i hi
    have hT := hG.1 i hi
    unfold ev_tbc at h1
    have h3k : ev_isK (ev_lk X H (x + 14 + 5 * i + 3)) 9 = True := by rw [ev_lk_s h3]; exact ev_isK_y
    have h2k := ev_rL_k (X := X) h2
    have h2b := ev_rL_b (X := X) h2
    simp (disch := omega) only [t_X5_isStale_0, t_X5_isStale_1, t_X5_isStale_2, t_X5_isStale_5, t_X5_isStale_8, ev_kr_1, true_and, ev_fG_1, ev_isO_1, hk, C_tableOf_y hc hi, ev_lk_s h1, h3k]
    refine W_isOutdated h3 ?_
    have hK := k2 i hi rfl
    rcases hb : ((G.1 i).2.2.1.1 && (G.1 i).2.2.1.2.1) <;> (
      rw [hb] at hK
      simp (disch := omega) only [t_X5_isStale_11, ev_kr_1, ev_nb_0, ev_nb_1, true_and, ev_bb_t, ev_bb_f]
      exact hK)
theorem C_hasMore (hc : c_all x G H) (hG : okG G) {t : Int32} (k0 : t < 0 ∨ nI 4 ≤ t → P (.inr 0) H (n + 1) (q + 6))
    (k2 : ∀ i, i < 4 → t = nI i → P (.inl (some (.int (ev_bb (((G.1 i).2.2.1.1 && !(G.1 i).2.2.1.2.1) && decide ((G.1 i).2.2.2.2 < (G.1 i).1.length)))))) H n q) : ev_ok (ev_TT X) 150 0 [.ref x, .int t] [] H n q P := by
  have hk := c_all_k (X := X) hc
  rcases pk_ix t (n := 4) (by omega) with h | h | ⟨i, hi, rfl⟩
  · simp (disch := omega) only [t_X5_hasMore_0, t_X5_hasMore_1, t_X5_hasMore_2, x_X5_hasMore_2, true_and, hk, C_tableOf_n (Or.inl h)]
    exact k0 (Or.inl h)
  · simp (disch := omega) only [t_X5_hasMore_0, t_X5_hasMore_1, t_X5_hasMore_2, x_X5_hasMore_2, true_and, hk, C_tableOf_n (Or.inr h)]
    exact k0 (Or.inr h)
  · skip
    obtain ⟨h1, h2, h3⟩ := hc.2.2.2.2.2.2.1 i hi
    have hT := hG.1 i hi
    unfold ev_tbc at h1
    have h3k : ev_isK (ev_lk X H (x + 14 + 5 * i + 3)) 9 = True := by rw [ev_lk_s h3]; exact ev_isK_y
    have h2k := ev_rL_k (X := X) h2
    have h2b := ev_rL_b (X := X) h2
    have hl := okL_len hT.1
    have hkn : (G.1 i).2.2.2.2 < 2 ^ 31 := by have := hT.2.2.1; omega
    simp (disch := omega) only [t_X5_hasMore_0, t_X5_hasMore_1, t_X5_hasMore_2, t_X5_hasMore_5, t_X5_hasMore_8, ev_kr_1, true_and, ev_fG_1, ev_isO_1, hk, C_tableOf_y hc hi, ev_lk_s h1, h3k]
    refine W_isAnyAhead h3 h2 hl hkn ?_
    have hK := k2 i hi rfl
    rcases hb : (((G.1 i).2.2.1.1 && !(G.1 i).2.2.1.2.1) && decide ((G.1 i).2.2.2.2 < (G.1 i).1.length)) <;> (
      rw [hb] at hK
      simp (disch := omega) only [t_X5_hasMore_11, ev_kr_1, ev_nb_0, ev_nb_1, true_and, ev_bb_t, ev_bb_f]
      exact hK)
theorem C_step (hc : c_all x G H) (hG : okG G) {t : Int32} (k0 : t < 0 ∨ nI 4 ≤ t → P (.inr 0) H (n + 1) (q + 6))
    (kR : ∀ i, i < 4 → t = nI i → ((G.1 i).2.2.1.1 && !(G.1 i).2.2.1.2.1) = false → ∀ H1, c_all x (pg_rf G) H1 → c_fr x H H1 → P (.inl (some (.int (-9)))) H1 n q)
    (kN : ∀ i, i < 4 → t = nI i → ((G.1 i).2.2.1.1 && !(G.1 i).2.2.1.2.1) = true → ¬ (G.1 i).2.2.2.2 < (G.1 i).1.length → P (.inl (some (.int (-8)))) H n q)
    (kA : ∀ i, i < 4 → t = nI i → ((G.1 i).2.2.1.1 && !(G.1 i).2.2.1.2.1) = true → (G.1 i).2.2.2.2 < (G.1 i).1.length → ∀ H1, c_all x (pg_T G i (ps_gen (G.1 i).1 (G.1 i).2.1.1 (G.1 i).2.1.2.1 (G.1 i).2.1.2.2.1 (G.1 i).2.1.2.2.2 (G.1 i).2.2.1.1 (G.1 i).2.2.1.2.1 true (G.1 i).2.2.2.1 ((G.1 i).2.2.2.2 + 1))) H1 → c_fr x H H1 → P (.inl (some (.int (pr_told (G.1 i).1 (nI (G.1 i).2.2.2.2) (G.1 i).2.2.2.1)))) H1 n q) : ev_ok (ev_TT X) 205 0 [.ref x, .int t, ev_J] [] H n q P := by
  have hk := c_all_k (X := X) hc
  rcases pk_ix t (n := 4) (by omega) with h | h | ⟨i, hi, rfl⟩
  · simp (disch := omega) only [t_X5_step_0, t_X5_step_1, t_X5_step_2, x_X5_step_2, true_and, hk, C_tableOf_n (Or.inl h)]
    exact k0 (Or.inl h)
  · simp (disch := omega) only [t_X5_step_0, t_X5_step_1, t_X5_step_2, x_X5_step_2, true_and, hk, C_tableOf_n (Or.inr h)]
    exact k0 (Or.inr h)
  · skip
    obtain ⟨h1, h2, h3⟩ := hc.2.2.2.2.2.2.1 i hi
    have hT := hG.1 i hi
    unfold ev_tbc at h1
    have h3k : ev_isK (ev_lk X H (x + 14 + 5 * i + 3)) 9 = True := by rw [ev_lk_s h3]; exact ev_isK_y
    have h2k := ev_rL_k (X := X) h2
    have h2b := ev_rL_b (X := X) h2
    have hl := okL_len hT.1
    have hkn : (G.1 i).2.2.2.2 < 2 ^ 31 := by have := hT.2.2.1; omega
    simp (disch := omega) only [t_X5_step_0, t_X5_step_1, t_X5_step_2, t_X5_step_5, t_X5_step_6, t_X5_step_7, t_X5_step_10, ev_k_i, ev_kr_1, true_and, ev_fG_1, ev_isO_1, hk, C_tableOf_y hc hi, ev_lk_s h1, h3k]
    refine W_isUsable h3 ?_
    rcases hu : ((G.1 i).2.2.1.1 && !(G.1 i).2.2.1.2.1) with _ | _
    · simp (disch := omega) only [t_X5_step_13, t_X5_step_16, t_X5_step_17, ↓reduceIte, ev_kr_1, true_and, not_true_eq_false, hk, ev_bb_f]
      refine C_refuse hc fun H1 hE1 hE2 => ?_
      simp (disch := omega) only [t_X5_step_20, ev_kr_1]
      exact kR i hi rfl hu H1 hE1 hE2
    · skip
      simp (disch := omega) only [t_X5_step_13, t_X5_step_21, t_X5_step_22, t_X5_step_25, ↓reduceIte, ev_kr_1, true_and, not_false_eq_true, ev_fG_1, ev_isO_1, ev_z2, ev_lk_s h1, h3k, ev_bb_t]
      refine W_isAnyAhead h3 h2 hl hkn ?_
      rw [hu]
      by_cases hv : (G.1 i).2.2.2.2 < (G.1 i).1.length
      · rw [decide_eq_true hv]
        simp (disch := omega) only [t_X5_step_28, t_X5_step_34, t_X5_step_35, t_X5_step_38, ↓reduceIte, ev_kr_1, true_and, not_false_eq_true, ev_fG_1, ev_isO_1, ev_z2, ev_lk_s h1, h3k, ev_bb_t, Bool.and_true]
        refine W_advance h3 h2 hl ?_
        simp (disch := omega) only [t_X5_step_41, ev_kr_1]
        have hE := c_tab_gen hc hi (ev_rL_up (a := x + 14 + 5 * i + 3) (c := ev_wkc (x + 14 + 5 * i) (G.1 i).2.2.1.1 (G.1 i).2.2.1.2.1 true (G.1 i).2.2.2.1 ((G.1 i).2.2.2.2 + 1)) h2 (by omega) (by omega) (by omega))
        exact kA i hi rfl hu hv _ hE.1 hE.2
      · rw [decide_eq_false hv]
        simp (disch := omega) only [t_X5_step_28, t_X5_step_31, t_X5_step_33, ↓reduceIte, ev_kr_1, not_true_eq_false, ev_bb_f, Bool.and_false]
        exact kN i hi rfl hu hv
theorem C_rest (hc : c_all x G H) (hG : okG G) {t : Int32} (k0 : t < 0 ∨ nI 4 ≤ t → P (.inr 0) H (n + 1) (q + 6))
    (kR : ∀ i, i < 4 → t = nI i → ((G.1 i).2.2.1.1 && !(G.1 i).2.2.1.2.1) = false → ∀ H1, c_all x (pg_rf G) H1 → c_fr x H H1 → P (.inl (some (.int (-9)))) H1 n q)
    (kA : ∀ i, i < 4 → t = nI i → ((G.1 i).2.2.1.1 && !(G.1 i).2.2.1.2.1) = true → ∀ H1, c_all x (pg_T G i (ps_gen (G.1 i).1 (G.1 i).2.1.1 (G.1 i).2.1.2.1 (G.1 i).2.1.2.2.1 (G.1 i).2.1.2.2.2 (G.1 i).2.2.1.1 (G.1 i).2.2.1.2.1 ((G.1 i).2.2.1.2.2 || decide (0 < (G.1 i).1.length - (G.1 i).2.2.2.2)) (G.1 i).2.2.2.1 (G.1 i).1.length)) H1 → c_fr x H H1 → P (.inl (some (.int (pr_acc (G.1 i).1 (G.1 i).2.2.2.1 ((G.1 i).1.length - (G.1 i).2.2.2.2) (G.1 i).2.2.2.2 0)))) H1 n q) : ev_ok (ev_TT X) 230 0 [.ref x, .int t, ev_J] [] H n q P := by
  have hk := c_all_k (X := X) hc
  rcases pk_ix t (n := 4) (by omega) with h | h | ⟨i, hi, rfl⟩
  · simp (disch := omega) only [t_X5_rest_0, t_X5_rest_1, t_X5_rest_2, x_X5_rest_2, true_and, hk, C_tableOf_n (Or.inl h)]
    exact k0 (Or.inl h)
  · simp (disch := omega) only [t_X5_rest_0, t_X5_rest_1, t_X5_rest_2, x_X5_rest_2, true_and, hk, C_tableOf_n (Or.inr h)]
    exact k0 (Or.inr h)
  · skip
    obtain ⟨h1, h2, h3⟩ := hc.2.2.2.2.2.2.1 i hi
    have hT := hG.1 i hi
    unfold ev_tbc at h1
    have h3k : ev_isK (ev_lk X H (x + 14 + 5 * i + 3)) 9 = True := by rw [ev_lk_s h3]; exact ev_isK_y
    have h2k := ev_rL_k (X := X) h2
    have h2b := ev_rL_b (X := X) h2
    have hl := okL_len hT.1
    have hkn : (G.1 i).2.2.2.2 < 2 ^ 31 := by have := hT.2.2.1; omega
    simp (disch := omega) only [t_X5_rest_0, t_X5_rest_1, t_X5_rest_2, t_X5_rest_5, t_X5_rest_6, t_X5_rest_7, t_X5_rest_10, ev_k_i, ev_kr_1, true_and, ev_fG_1, ev_isO_1, hk, C_tableOf_y hc hi, ev_lk_s h1, h3k]
    refine W_isUsable h3 ?_
    rcases hu : ((G.1 i).2.2.1.1 && !(G.1 i).2.2.1.2.1) with _ | _
    · simp (disch := omega) only [t_X5_rest_13, t_X5_rest_16, t_X5_rest_17, ↓reduceIte, ev_kr_1, true_and, not_true_eq_false, hk, ev_bb_f]
      refine C_refuse hc fun H1 hE1 hE2 => ?_
      simp (disch := omega) only [t_X5_rest_20, ev_kr_1]
      exact kR i hi rfl hu H1 hE1 hE2
    · skip
      have hub := Bool.and_eq_true_iff.mp hu
      have hkl := (hT.2.2.2 hub.1 (by have := hub.2; rcases ho : (G.1 i).2.2.1.2.1 with _ | _ <;> simp_all)).1
      simp (disch := omega) only [t_X5_rest_13, t_X5_rest_21, t_X5_rest_22, t_X5_rest_25, ↓reduceIte, ev_kr_1, true_and, not_false_eq_true, ev_fG_1, ev_isO_1, ev_z2, ev_lk_s h1, h3k, ev_bb_t]
      refine W_toEnd h3 h2 hl hkl (by omega) (by omega) (by omega) ?_
      simp (disch := omega) only [t_X5_rest_28, ev_kr_1]
      have hE := c_tab_gen hc hi (ev_rL_up (a := x + 14 + 5 * i + 3) (c := ev_wkc (x + 14 + 5 * i) (G.1 i).2.2.1.1 (G.1 i).2.2.1.2.1 ((G.1 i).2.2.1.2.2 || decide (0 < (G.1 i).1.length - (G.1 i).2.2.2.2)) (G.1 i).2.2.2.1 (G.1 i).1.length) h2 (by omega) (by omega) (by omega))
      exact kA i hi rfl hu _ hE.1 hE.2
theorem C_set (hc : c_all x G H) (hG : okG G) {t p v : Int32} (k0 : t < 0 ∨ nI 4 ≤ t → P (.inr 0) H (n + 1) (q + 6))
    (k_v : ∀ i, i < 4 → t = nI i → (v < 0 ∨ nI 100 ≤ v) → P (.inr 1) H (n + 1) (q + 6))
    (kR : ∀ i, i < 4 → t = nI i → ¬ (0 ≤ p ∧ p < nI (G.1 i).1.length) → ∀ H1, c_all x (pg_rf G) H1 → c_fr x H H1 → P (.inl (some (.int (-9)))) H1 n q)
    (k2 : ∀ i j a_v, i < 4 → t = nI i → j < (G.1 i).1.length → p = nI j → a_v < 100 → v = nI a_v → ∀ H1, c_all x (pg_T G i (ps_gen ((G.1 i).1.set j ((pf_at (G.1 i).1 j).1, v)) (G.1 i).2.1.1 (G.1 i).2.1.2.1 (G.1 i).2.1.2.2.1 (G.1 i).2.1.2.2.2 (G.1 i).2.2.1.1 (G.1 i).2.2.1.2.1 (G.1 i).2.2.1.2.2 (G.1 i).2.2.2.1 (G.1 i).2.2.2.2)) H1 → c_fr x H H1 → P (.inl (some (.int (pf_at (G.1 i).1 j).2))) H1 n q) : ev_ok (ev_TT X) 160 0 [.ref x, .int t, .int p, .int v, ev_J] [] H n q P := by
  have hk := c_all_k (X := X) hc
  rcases pk_ix t (n := 4) (by omega) with h | h | ⟨i, hi, rfl⟩
  · simp (disch := omega) only [t_X5_set_0, t_X5_set_1, t_X5_set_2, x_X5_set_2, true_and, hk, C_tableOf_n (Or.inl h)]
    exact k0 (Or.inl h)
  · simp (disch := omega) only [t_X5_set_0, t_X5_set_1, t_X5_set_2, x_X5_set_2, true_and, hk, C_tableOf_n (Or.inr h)]
    exact k0 (Or.inr h)
  · rcases pk_ix v (n := 100) (by omega) with h | h | ⟨a_v, ha_v, rfl⟩
    · simp (disch := omega) only [t_X5_set_0, t_X5_set_1, t_X5_set_2, t_X5_set_5, t_X5_set_7, t_X5_set_8, x_X5_set_8, ev_k_i, ev_kr_1, true_and, hk, C_tableOf_y hc hi, C_dVal_n (Or.inl h)]
      exact k_v i hi rfl (Or.inl h)
    · simp (disch := omega) only [t_X5_set_0, t_X5_set_1, t_X5_set_2, t_X5_set_5, t_X5_set_7, t_X5_set_8, x_X5_set_8, ev_k_i, ev_kr_1, true_and, hk, C_tableOf_y hc hi, C_dVal_n (Or.inr h)]
      exact k_v i hi rfl (Or.inr h)
    · skip
      obtain ⟨h1, h2, h3⟩ := hc.2.2.2.2.2.2.1 i hi
      have hT := hG.1 i hi
      unfold ev_tbc at h1
      have h3k : ev_isK (ev_lk X H (x + 14 + 5 * i + 3)) 9 = True := by rw [ev_lk_s h3]; exact ev_isK_y
      have h2k := ev_rL_k (X := X) h2
      have h2b := ev_rL_b (X := X) h2
      have hl := okL_len hT.1
      have hkn : (G.1 i).2.2.2.2 < 2 ^ 31 := by have := hT.2.2.1; omega
      simp (disch := omega) only [t_X5_set_0, t_X5_set_1, t_X5_set_2, t_X5_set_5, t_X5_set_7, t_X5_set_8, t_X5_set_11, t_X5_set_13, t_X5_set_16, t_X5_set_17, ev_k_i, ev_kr_1, ev_kr_0, true_and, ev_fG_0, ev_isO_0, hk, C_tableOf_y hc hi, C_dVal_y ha_v, ev_lk_s h1, h2k]
      refine R_isPlace h2 hl ?_
      unfold ev_b
      by_cases e : 0 ≤ p ∧ p < nI (G.1 i).1.length
      · rw [if_pos e]
        obtain ⟨j, hj, rfl⟩ := (ev_pl (by omega)).mp e
        simp (disch := omega) only [t_X5_set_20, t_X5_set_28, t_X5_set_30, t_X5_set_33, t_X5_set_34, t_X5_set_35, ↓reduceIte, ev_kr_1, true_and, not_false_eq_true, ev_fG_0, ev_isO_0, ev_z2, ev_lk_s h1, h2k]
        refine R_chg h2 hl hj fun H1 hH1 => ?_
        simp (disch := omega) only [t_X5_set_38, ev_kr_1]
        have hE := c_tab_gen (bg := (G.1 i).2.2.1.1) (old := (G.1 i).2.2.1.2.1) (cd := (G.1 i).2.2.1.2.2) (kd := (G.1 i).2.2.2.1) (k := (G.1 i).2.2.2.2) hc hi (by rw [ev_up_t (by exact h3)]; exact hH1)
        exact k2 i j a_v hi rfl hj rfl ha_v rfl H1 hE.1 hE.2
      · rw [if_neg e]
        simp (disch := omega) only [t_X5_set_20, t_X5_set_23, t_X5_set_24, ↓reduceIte, ev_kr_1, true_and, not_true_eq_false, hk]
        refine C_refuse hc fun H1 hE1 hE2 => ?_
        simp (disch := omega) only [t_X5_set_27, ev_kr_1]
        exact kR i hi rfl e H1 hE1 hE2
end CW
end
section
/-! ===== the class: cut, make, putIfAbsent ===== -/
section CX
variable {X : ev_E} {x : Nat} {G : ev_CS} {H : ev_M} {n q : Nat} {P : ev_O → ev_M → Nat → Nat → Prop}
theorem C_cut (hc : c_all x G H) (hG : okG G) {t : Int32} (k0 : t < 0 ∨ nI 4 ≤ t → P (.inr 0) H (n + 1) (q + 6))
    (kR : ∀ i, i < 4 → t = nI i → (((G.1 i).2.2.1.1 && !(G.1 i).2.2.1.2.1) && (G.1 i).2.2.1.2.2) = false → ∀ H1, c_all x (pg_rf G) H1 → c_fr x H H1 → P (.inl (some (.int (-9)))) H1 n q)
    (kA : ∀ i k, i < 4 → t = nI i → (((G.1 i).2.2.1.1 && !(G.1 i).2.2.1.2.1) && (G.1 i).2.2.1.2.2) = true → (G.1 i).2.2.2.2 = k + 1 → k < (G.1 i).1.length → ∀ H1, c_all x (pg_T G i (ps_gen ((G.1 i).1.eraseIdx k) (G.1 i).2.1.1 (G.1 i).2.1.2.1 (G.1 i).2.1.2.2.1 (G.1 i).2.1.2.2.2 (G.1 i).2.2.1.1 (G.1 i).2.2.1.2.1 false (G.1 i).2.2.2.1 k)) H1 → c_fr x H H1 → P (.inl (some (.int (nI ((G.1 i).1.eraseIdx k).length)))) H1 n q) : ev_ok (ev_TT X) 199 0 [.ref x, .int t, ev_J] [] H n q P := by
  have hk := c_all_k (X := X) hc
  rcases pk_ix t (n := 4) (by omega) with h | h | ⟨i, hi, rfl⟩
  · simp (disch := omega) only [t_X5_cut_0, t_X5_cut_1, t_X5_cut_2, x_X5_cut_2, true_and, hk, C_tableOf_n (Or.inl h)]
    exact k0 (Or.inl h)
  · simp (disch := omega) only [t_X5_cut_0, t_X5_cut_1, t_X5_cut_2, x_X5_cut_2, true_and, hk, C_tableOf_n (Or.inr h)]
    exact k0 (Or.inr h)
  · skip
    obtain ⟨h1, h2, h3⟩ := hc.2.2.2.2.2.2.1 i hi
    have hT := hG.1 i hi
    unfold ev_tbc at h1
    have h3k : ev_isK (ev_lk X H (x + 14 + 5 * i + 3)) 9 = True := by rw [ev_lk_s h3]; exact ev_isK_y
    have h2k := ev_rL_k (X := X) h2
    have h2b := ev_rL_b (X := X) h2
    have hl := okL_len hT.1
    have hkn : (G.1 i).2.2.2.2 < 2 ^ 31 := by have := hT.2.2.1; omega
    simp (disch := omega) only [t_X5_cut_0, t_X5_cut_1, t_X5_cut_2, t_X5_cut_5, t_X5_cut_6, t_X5_cut_7, t_X5_cut_10, ev_k_i, ev_kr_1, true_and, ev_fG_1, ev_isO_1, hk, C_tableOf_y hc hi, ev_lk_s h1, h3k]
    refine W_canCut h3 ?_
    rcases hu : (((G.1 i).2.2.1.1 && !(G.1 i).2.2.1.2.1) && (G.1 i).2.2.1.2.2) with _ | _
    · simp (disch := omega) only [t_X5_cut_13, t_X5_cut_16, t_X5_cut_17, ↓reduceIte, ev_kr_1, true_and, not_true_eq_false, hk, ev_bb_f]
      refine C_refuse hc fun H1 hE1 hE2 => ?_
      simp (disch := omega) only [t_X5_cut_20, ev_kr_1]
      exact kR i hi rfl hu H1 hE1 hE2
    · have hub := Bool.and_eq_true_iff.mp hu
      have hub2 := Bool.and_eq_true_iff.mp hub.1
      have hkl := hT.2.2.2 hub2.1 (by have := hub2.2; rcases ho : (G.1 i).2.2.1.2.1 with _ | _ <;> simp_all)
      have hk1 := hkl.2 hub.2
      have hk2 := hkl.1
      obtain ⟨k, hkk⟩ : ∃ k, (G.1 i).2.2.2.2 = k + 1 := ⟨(G.1 i).2.2.2.2 - 1, by omega⟩
      have hkL : k < (G.1 i).1.length := by omega
      have h3' : H (x + 14 + 5 * i + 3) = some (ev_wkc (x + 14 + 5 * i) (G.1 i).2.2.1.1 (G.1 i).2.2.1.2.1 (G.1 i).2.2.1.2.2 (G.1 i).2.2.2.1 (k + 1)) := by rw [← hkk]; exact h3
      simp (disch := omega) only [t_X5_cut_13, t_X5_cut_21, t_X5_cut_22, t_X5_cut_25, ↓reduceIte, ev_kr_1, true_and, not_false_eq_true, ev_fG_1, ev_isO_1, ev_z2, ev_lk_s h1, h3k, ev_bb_t]
      refine W_cutLast h3' h2 hl hkL (by omega) (by omega) (by omega) fun H1 hH1 => ?_
      have ht1 : H1 (x + 13 + 5 * i) = _ := ((ev_rL_o hH1 (by omega) (by omega) (by omega)).trans (ev_up_n (by omega))).trans h1
      have hx := (ev_rL_b (X := X) (ev_rL_self hH1)).2.1
      simp (disch := omega) only [t_X5_cut_28, t_X5_cut_29, t_X5_cut_32, t_X5_cut_35, ev_kr_0, true_and, ev_fG_0, ev_isO_0, ev_lk_s ht1, hx.1, hx.2]
      have hE := c_tab_gen hc hi hH1
      exact kA i k hi rfl hu hkk hkL H1 hE.1 hE.2
theorem C_make (hc : c_all x G H) (hG : okG G) {t b1 m1 : Int32} (hb : ev_isB b1) (k0 : t < 0 ∨ nI 4 ≤ t → P (.inr 0) H (n + 1) (q + 6))
    (k1 : ∀ i, i < 4 → t = nI i → ¬ m1 = -1 → (m1 < 1 ∨ 12 < m1) → P (.inr 1) H (n + 1) (q + 6))
    (k2 : ∀ i, i < 4 → t = nI i → (m1 = -1 ∨ (1 ≤ m1 ∧ m1 ≤ 12)) → ∀ H1, c_all x (pg_T G i (ps_row (G.1 i) [] b1 m1 0 (-1))) H1 → c_fr x H H1 → P (.inl (some (.int (nI (G.1 i).1.length)))) H1 n q) : ev_ok (ev_TT X) 157 0 [.ref x, .int t, .int b1, .int m1, ev_J] [] H n q P := by
  have hk := c_all_k (X := X) hc
  rcases pk_ix t (n := 4) (by omega) with h | h | ⟨i, hi, rfl⟩
  · simp (disch := omega) only [t_X5_make_0, t_X5_make_1, t_X5_make_2, x_X5_make_2, true_and, hk, C_tableOf_n (Or.inl h)]
    exact k0 (Or.inl h)
  · simp (disch := omega) only [t_X5_make_0, t_X5_make_1, t_X5_make_2, x_X5_make_2, true_and, hk, C_tableOf_n (Or.inr h)]
    exact k0 (Or.inr h)
  · obtain ⟨h1, h2, h3⟩ := hc.2.2.2.2.2.2.1 i hi
    have hT := hG.1 i hi
    unfold ev_tbc at h1
    have h3k : ev_isK (ev_lk X H (x + 14 + 5 * i + 3)) 9 = True := by rw [ev_lk_s h3]; exact ev_isK_y
    have h1' := fun c => (ev_up_n (h := H) (a := x + 14 + 5 * i + 3) (b := x + 13 + 5 * i) (c := c) (by omega)).trans h1
    have h2' := ev_rL_up (a := x + 14 + 5 * i + 3) (c := ev_wkc (x + 14 + 5 * i) (G.1 i).2.2.1.1 true (G.1 i).2.2.1.2.2 (G.1 i).2.2.2.1 (G.1 i).2.2.2.2) h2 (by omega) (by omega) (by omega)
    have h2k' := ev_rL_k (X := X) h2'
    have hgo : (m1 = -1 ∨ (1 ≤ m1 ∧ m1 ≤ 12)) → ev_ok (ev_TT X) 157 33 [.ref x, .int (nI i), .int b1, .int m1, .ref (x + 13 + 5 * i)] [] H n q P := by
      intro hm
      simp (disch := omega) only [t_X5_make_33, t_X5_make_35, t_X5_make_38, true_and, ev_fG_1, ev_isO_1, ev_lk_s h1, h3k]
      refine W_outdate h3 ?_
      simp (disch := omega) only [t_X5_make_41, t_X5_make_43, t_X5_make_46, t_X5_make_47, t_X5_make_48, ev_kr_0, true_and, ev_fG_0, ev_isO_0, ev_lk_s (h1' _), h2k']
      refine R_renew h2' hb fun H1 hH1 => ?_
      simp (disch := omega) only [t_X5_make_51, ev_kr_1]
      have hE := c_tab_row hc hi hH1
      exact k2 i hi rfl hm H1 hE.1 hE.2
    by_cases e1 : m1 = -1
    · subst e1
      have hg := hgo (Or.inl rfl)
      simp (disch := omega) only [t_X5_make_0, t_X5_make_1, t_X5_make_2, t_X5_make_5, t_X5_make_7, t_X5_make_8, t_X5_make_9, ↓reduceIte, ev_k_i, ev_kr_1, true_and, hk, C_tableOf_y hc hi]
      exact hg
    · by_cases e2 : m1 < 1
      · simp (disch := omega) only [t_X5_make_0, t_X5_make_1, t_X5_make_2, t_X5_make_5, t_X5_make_7, t_X5_make_8, t_X5_make_9, t_X5_make_12, t_X5_make_13, t_X5_make_14, t_X5_make_23, ↓reduceIte, ev_k_i, ev_kr_1, true_and, hk, C_tableOf_y hc hi, e1, e2]
        exact k1 i hi rfl e1 (Or.inl e2)
      · by_cases e3 : m1 ≤ 12
        · have hg := hgo (Or.inr ⟨Int32.not_lt.mp e2, e3⟩)
          simp (disch := omega) only [t_X5_make_0, t_X5_make_1, t_X5_make_2, t_X5_make_5, t_X5_make_7, t_X5_make_8, t_X5_make_9, t_X5_make_12, t_X5_make_13, t_X5_make_14, t_X5_make_17, t_X5_make_18, t_X5_make_20, ↓reduceIte, ev_k_i, ev_kr_1, true_and, hk, C_tableOf_y hc hi, e1, e2, e3]
          exact hg
        · simp (disch := omega) only [t_X5_make_0, t_X5_make_1, t_X5_make_2, t_X5_make_5, t_X5_make_7, t_X5_make_8, t_X5_make_9, t_X5_make_12, t_X5_make_13, t_X5_make_14, t_X5_make_17, t_X5_make_18, t_X5_make_20, t_X5_make_23, ↓reduceIte, ev_k_i, ev_kr_1, true_and, hk, C_tableOf_y hc hi, e1, e2, e3]
          exact k1 i hi rfl e1 (Or.inr (Int32.not_le.mp e3))
noncomputable def pr_bia (L : ev_PL) (b m lm ll x v : Int32) : Int32 × ev_PL × Int32 × Int32 := match pf_find L x with
  | none => (-1, pr_take L m lm ll x v)
  | some j => ((pf_at L j).2, pr_ask L b j, lm, ll)
theorem okL_bia {L : ev_PL} (h : okL L) {k : Int32} (hk : k ∈ (List.range 20).map nI) (b m lm ll v : Int32) : okL (pr_bia L b m lm ll k v).2.1 := by
  unfold pr_bia
  rcases e : pf_find L k with _ | j
  · exact okL_take h hk e m lm ll v
  · exact okL_ask h b (pf_find_s e).1
theorem R_bia {h : ev_M} {r : Nat} {L : ev_PL} {b m lm ll : Int32} (hH : ev_rL h r L b m lm ll H) (hb : ev_isB b) (hc : L.length ≤ 20) {x v : Int32} (hn : pf_find L x = none → L.length < 20) (k : ∀ H1, ev_rL h r (pr_bia L b m lm ll x v).2.1 b m (pr_bia L b m lm ll x v).2.2.1 (pr_bia L b m lm ll x v).2.2.2 H1 → P (.inl (some (.int (pr_bia L b m lm ll x v).1))) H1 n q) : ev_ok (ev_TT X) 225 0 [.ref r, .int x, .int v] [] H n q P := by
  unfold pr_bia at k
  simp (disch := omega) only [t_X2_bringIfAbsent_0, t_X2_bringIfAbsent_1, t_X2_bringIfAbsent_2, true_and, ev_rL_k hH]
  refine R_find hH hc ?_
  unfold pf_place
  rcases e : pf_find L x with _ | j
  · rw [e] at k
    simp (disch := omega) only [t_X2_bringIfAbsent_5, t_X2_bringIfAbsent_6, t_X2_bringIfAbsent_9, t_X2_bringIfAbsent_10, t_X2_bringIfAbsent_11, t_X2_bringIfAbsent_12, ↓reduceIte, ev_kr_1, true_and, not_true_eq_false, ev_rL_k hH]
    refine R_takeIn hH (hn e) fun H1 hH1 => ?_
    simp (disch := omega) only [t_X2_bringIfAbsent_15, t_X2_bringIfAbsent_16, ev_kr_0]
    exact k H1 hH1
  · rw [e] at k
    have hj := (pf_find_s e).1
    simp (disch := omega) only [t_X2_bringIfAbsent_5, t_X2_bringIfAbsent_6, t_X2_bringIfAbsent_17, t_X2_bringIfAbsent_18, t_X2_bringIfAbsent_19, t_X2_bringIfAbsent_20, ↓reduceIte, ev_kr_1, true_and, not_false_eq_true, ev_rL_k hH, ev_nm1]
    refine R_fetch hH hb hc fun H1 hH1 => ?_
    simp (disch := omega) only [t_X2_bringIfAbsent_23, ev_kr_1]
    unfold pr_fetch at hH1 ⊢
    rw [e] at hH1 ⊢
    exact k H1 hH1
theorem C_putIfAbsent (hc : c_all x G H) (hG : okG G) {t k v : Int32} (k0 : t < 0 ∨ nI 4 ≤ t → P (.inr 0) H (n + 1) (q + 6))
    (k_k : ∀ i, i < 4 → t = nI i → (k < 0 ∨ nI 20 ≤ k) → P (.inr 1) H (n + 1) (q + 6))
    (k_v : ∀ i, i < 4 → t = nI i → (v < 0 ∨ nI 100 ≤ v) → P (.inr 1) H (n + 1) (q + 6))
    (kS : ∀ i a_k a_v, i < 4 → t = nI i → a_k < 20 → k = nI a_k → a_v < 100 → v = nI a_v → ¬ (G.1 i).2.1.2.1 = -1 → P (.inr 2) H (n + 1) (q + 6))
    (k2 : ∀ i a_k a_v, i < 4 → t = nI i → a_k < 20 → k = nI a_k → a_v < 100 → v = nI a_v → (G.1 i).2.1.2.1 = -1 → ∀ H1, c_all x (pg_T G i (ps_row (G.1 i) (pr_bia (G.1 i).1 (G.1 i).2.1.1 (G.1 i).2.1.2.1 (G.1 i).2.1.2.2.1 (G.1 i).2.1.2.2.2 k v).2.1 (G.1 i).2.1.1 (G.1 i).2.1.2.1 (pr_bia (G.1 i).1 (G.1 i).2.1.1 (G.1 i).2.1.2.1 (G.1 i).2.1.2.2.1 (G.1 i).2.1.2.2.2 k v).2.2.1 (pr_bia (G.1 i).1 (G.1 i).2.1.1 (G.1 i).2.1.2.1 (G.1 i).2.1.2.2.1 (G.1 i).2.1.2.2.2 k v).2.2.2)) H1 → c_fr x H H1 → P (.inl (some (.int (pr_bia (G.1 i).1 (G.1 i).2.1.1 (G.1 i).2.1.2.1 (G.1 i).2.1.2.2.1 (G.1 i).2.1.2.2.2 k v).1))) H1 n q) : ev_ok (ev_TT X) 254 0 [.ref x, .int t, .int k, .int v, ev_J] [] H n q P := by
  have hk := c_all_k (X := X) hc
  rcases pk_ix t (n := 4) (by omega) with h | h | ⟨i, hi, rfl⟩
  · simp (disch := omega) only [t_X5_putIfAbsent_0, t_X5_putIfAbsent_1, t_X5_putIfAbsent_2, x_X5_putIfAbsent_2, true_and, hk, C_tableOf_n (Or.inl h)]
    exact k0 (Or.inl h)
  · simp (disch := omega) only [t_X5_putIfAbsent_0, t_X5_putIfAbsent_1, t_X5_putIfAbsent_2, x_X5_putIfAbsent_2, true_and, hk, C_tableOf_n (Or.inr h)]
    exact k0 (Or.inr h)
  · rcases pk_ix k (n := 20) (by omega) with h | h | ⟨a_k, ha_k, rfl⟩
    · simp (disch := omega) only [t_X5_putIfAbsent_0, t_X5_putIfAbsent_1, t_X5_putIfAbsent_2, t_X5_putIfAbsent_5, t_X5_putIfAbsent_7, t_X5_putIfAbsent_8, x_X5_putIfAbsent_8, ev_k_i, ev_kr_1, true_and, hk, C_tableOf_y hc hi, C_dKey_n (Or.inl h)]
      exact k_k i hi rfl (Or.inl h)
    · simp (disch := omega) only [t_X5_putIfAbsent_0, t_X5_putIfAbsent_1, t_X5_putIfAbsent_2, t_X5_putIfAbsent_5, t_X5_putIfAbsent_7, t_X5_putIfAbsent_8, x_X5_putIfAbsent_8, ev_k_i, ev_kr_1, true_and, hk, C_tableOf_y hc hi, C_dKey_n (Or.inr h)]
      exact k_k i hi rfl (Or.inr h)
    · skip
      rcases pk_ix v (n := 100) (by omega) with h | h | ⟨a_v, ha_v, rfl⟩
      · simp (disch := omega) only [t_X5_putIfAbsent_0, t_X5_putIfAbsent_1, t_X5_putIfAbsent_2, t_X5_putIfAbsent_5, t_X5_putIfAbsent_7, t_X5_putIfAbsent_8, t_X5_putIfAbsent_11, t_X5_putIfAbsent_12, x_X5_putIfAbsent_12, ev_k_i, ev_kr_1, ev_kr_0, true_and, hk, C_tableOf_y hc hi, C_dKey_y ha_k, C_dVal_n (Or.inl h)]
        exact k_v i hi rfl (Or.inl h)
      · simp (disch := omega) only [t_X5_putIfAbsent_0, t_X5_putIfAbsent_1, t_X5_putIfAbsent_2, t_X5_putIfAbsent_5, t_X5_putIfAbsent_7, t_X5_putIfAbsent_8, t_X5_putIfAbsent_11, t_X5_putIfAbsent_12, x_X5_putIfAbsent_12, ev_k_i, ev_kr_1, ev_kr_0, true_and, hk, C_tableOf_y hc hi, C_dKey_y ha_k, C_dVal_n (Or.inr h)]
        exact k_v i hi rfl (Or.inr h)
      · skip
        obtain ⟨h1, h2, h3⟩ := hc.2.2.2.2.2.2.1 i hi
        have hT := hG.1 i hi
        unfold ev_tbc at h1
        have h3k : ev_isK (ev_lk X H (x + 14 + 5 * i + 3)) 9 = True := by rw [ev_lk_s h3]; exact ev_isK_y
        have h2k := ev_rL_k (X := X) h2
        have h2b := ev_rL_b (X := X) h2
        by_cases e : (G.1 i).2.1.2.1 = -1
        · simp (disch := omega) only [t_X5_putIfAbsent_0, t_X5_putIfAbsent_1, t_X5_putIfAbsent_2, t_X5_putIfAbsent_5, t_X5_putIfAbsent_7, t_X5_putIfAbsent_8, t_X5_putIfAbsent_11, t_X5_putIfAbsent_12, t_X5_putIfAbsent_15, t_X5_putIfAbsent_17, t_X5_putIfAbsent_20, t_X5_putIfAbsent_23, t_X5_putIfAbsent_24, t_X5_putIfAbsent_37, t_X5_putIfAbsent_39, t_X5_putIfAbsent_42, ↓reduceIte, ev_k_i, ev_kr_1, ev_kr_0, true_and, ev_fG_0, ev_fG_1, ev_isO_0, ev_isO_1, hk, C_tableOf_y hc hi, C_dKey_y ha_k, C_dVal_y ha_v, ev_lk_s h1, h3k, h2b.2.2.1.1, h2b.2.2.1.2, e]
          refine W_outdate h3 ?_
          have h1' := fun c => (ev_up_n (h := H) (a := x + 14 + 5 * i + 3) (b := x + 13 + 5 * i) (c := c) (by omega)).trans h1
          have h2' := ev_rL_up (a := x + 14 + 5 * i + 3) (c := ev_wkc (x + 14 + 5 * i) (G.1 i).2.2.1.1 true (G.1 i).2.2.1.2.2 (G.1 i).2.2.2.1 (G.1 i).2.2.2.2) h2 (by omega) (by omega) (by omega)
          have h2k' := ev_rL_k (X := X) h2'
          simp (disch := omega) only [t_X5_putIfAbsent_45, t_X5_putIfAbsent_47, t_X5_putIfAbsent_50, t_X5_putIfAbsent_51, t_X5_putIfAbsent_52, ev_kr_0, true_and, ev_fG_0, ev_isO_0, ev_lk_s (h1' _), h2k']
          refine R_bia h2' hT.2.1 (okL_len hT.1) (fun z => (okL_new hT.1 (okL_key ha_k) z).2) fun H1 hH1 => ?_
          simp (disch := omega) only [t_X5_putIfAbsent_55, ev_kr_1]
          have hE := c_tab_row hc hi hH1
          exact k2 i a_k a_v hi rfl ha_k rfl ha_v rfl e H1 hE.1 hE.2
        · simp (disch := omega) only [t_X5_putIfAbsent_0, t_X5_putIfAbsent_1, t_X5_putIfAbsent_2, t_X5_putIfAbsent_5, t_X5_putIfAbsent_7, t_X5_putIfAbsent_8, t_X5_putIfAbsent_11, t_X5_putIfAbsent_12, t_X5_putIfAbsent_15, t_X5_putIfAbsent_17, t_X5_putIfAbsent_20, t_X5_putIfAbsent_23, t_X5_putIfAbsent_24, t_X5_putIfAbsent_27, ↓reduceIte, ev_k_i, ev_kr_1, ev_kr_0, true_and, ev_fG_0, ev_isO_0, hk, C_tableOf_y hc hi, C_dKey_y ha_k, C_dVal_y ha_v, ev_lk_s h1, h2b.2.2.1.1, h2b.2.2.1.2, e]
          exact kS i a_k a_v hi rfl ha_k rfl ha_v rfl e
end CX
end
section
/-! ===== the class: an asking ===== -/
noncomputable def pd_depth (L : ev_PL) (k : Int32) : Int32 := match pf_find L k with
  | none => 0
  | some j => nI (L.length - j)
/-- a keeper that meets a key -/
noncomputable def pk_meet (s : ev_KS) (k v : Int32) : ev_KS := ((pr_fetchIn s.1 1 s.2.1 s.2.2.1 s.2.2.2.1 k v).2.1, s.2.1, (pr_fetchIn s.1 1 s.2.1 s.2.2.1 s.2.2.2.1 k v).2.2.1, (pr_fetchIn s.1 1 s.2.1 s.2.2.1 s.2.2.2.1 k v).2.2.2,
  (if (pr_fetchIn s.1 1 s.2.1 s.2.2.1 s.2.2.2.1 k v).1 = 0 then s.2.2.2.2.1 + 1 else s.2.2.2.2.1), (if (pr_fetchIn s.1 1 s.2.1 s.2.2.1 s.2.2.2.1 k v).1 = 0 then s.2.2.2.2.2 else s.2.2.2.2.2 + 1))
noncomputable def pk_hits (K : Nat → ev_KS) (k v : Int32) : Nat → Nat → Int32 → Int32
  | 0, _, s => s
  | d + 1, j, s => pk_hits K k v d (j + 1) (if (pr_fetchIn (K j).1 1 (K j).2.1 (K j).2.2.1 (K j).2.2.2.1 k v).1 = 0 then s else s + 1)
noncomputable def pg_K (G : ev_CS) (i : Nat) (k v : Int32) : ev_CS := (G.1, G.2.1, (fun j => if j < i then pk_meet (G.2.2.1 j) k v else G.2.2.1 j), G.2.2.2)
section CK
variable {X : ev_E} {x : Nat} {G : ev_CS} {H : ev_M} {n q : Nat} {P : ev_O → ev_M → Nat → Nat → Prop}
theorem pg_K_s {i : Nat} {k v : Int32} : ((pg_K G i k v).1, (pg_K G i k v).2.1, (fun j' => if j' = i then pk_meet (G.2.2.1 i) k v else (pg_K G i k v).2.2.1 j'), (pg_K G i k v).2.2.2) = pg_K G (i + 1) k v := by
  have : (fun j' => if j' = i then pk_meet (G.2.2.1 i) k v else (pg_K G i k v).2.2.1 j') = (pg_K G (i + 1) k v).2.2.1 := by
    funext j'
    unfold pg_K
    dsimp only
    by_cases e : j' = i
    · subst e
      rw [if_pos rfl, if_pos (by omega)]
    · rw [if_neg e]
      by_cases e2 : j' < i
      · rw [if_pos e2, if_pos (by omega)]
      · rw [if_neg e2, if_neg (by omega)]
  rw [this]
  rfl
theorem C_depthNow (hc : c_all x G H) (hG : okG G) {k : Int32} (c : P (.inl (some (.int (pd_depth G.2.1.1 k)))) H n q) : ev_ok (ev_TT X) 103 0 [.ref x, .int k, ev_J] [] H n q P := by
  have h0 := hc.1
  have h3 := hc.2.2.2.1
  have hr := ev_rL_k (X := X) h3
  have hx := (ev_rL_b (X := X) h3).2.1
  have hl := okL_len hG.2.1
  unfold c_top at h0
  unfold pd_depth at c
  simp (disch := omega) only [t_X5_depthNow_0, t_X5_depthNow_1, t_X5_depthNow_4, t_X5_depthNow_5, true_and, ev_fG_2, ev_isO_2, ev_lk_s h0, hr]
  refine R_find h3 hl ?_
  unfold pf_place
  rcases e : pf_find G.2.1.1 k with _ | j
  · rw [e] at c
    simp (disch := omega) only [t_X5_depthNow_8, t_X5_depthNow_9, t_X5_depthNow_10, t_X5_depthNow_11, t_X5_depthNow_14, t_X5_depthNow_15, t_X5_depthNow_27, ↓reduceIte, ev_k_i, ev_kr_1, not_true_eq_false]
    exact c
  · rw [e] at c
    have hj := (pf_find_s e).1
    have hsub := pk_sub (a := G.2.1.1.length) (b := j) (by omega)
    simp (disch := omega) only [t_X5_depthNow_8, t_X5_depthNow_9, t_X5_depthNow_10, t_X5_depthNow_11, t_X5_depthNow_18, t_X5_depthNow_19, t_X5_depthNow_22, t_X5_depthNow_25, t_X5_depthNow_26, t_X5_depthNow_27, ↓reduceIte, ev_k_i, ev_kr_1, true_and, not_false_eq_true, ev_fG_2, ev_isO_2, ev_nm1, ev_lk_s h0, hx.1, hx.2, hsub]
    exact c
theorem C_askLoop {k v : Int32} (hkey : k ∈ (List.range 20).map nI) : ∀ (d j : Nat) (s : Int32) (w : Value) (H : ev_M), j + d = 6 → c_all x (pg_K G j k v) H → okG G →
    (∀ w' H1, c_all x (pg_K G 6 k v) H1 → c_fr x H H1 → ev_ok (ev_TT X) 253 70 [.ref x, .int k, .int v, .int (pk_hits G.2.2.1 k v d j s), .ref (x + 11), .int 6, .int 6, w'] [] H1 n q P) → ev_ok (ev_TT X) 253 37 [.ref x, .int k, .int v, .int s, .ref (x + 11), .int 6, .int (nI j), w] [] H n q P := by
  intro d
  induction d with
  | zero =>
    intro j s w H hj hc hG c
    have hj6 : j = 6 := by omega
    subst hj6
    simp (disch := omega) only [t_X5_askOne_37, t_X5_askOne_39, t_X5_askOne_41, ↓reduceIte, show nI 6 = 6 from rfl, Int32.le_refl]
    exact c w H hc (fun a _ => rfl)
  | succ d ih =>
    intro j s w H hj hc hG c
    have hj6 : j < 6 := by omega
    have hB : ¬ (6 : Int32) ≤ nI j := Int32.not_le.mpr (nI_lt (b := 6) hj6 (by omega))
    have hp := nI_pos' (n := j) (by omega)
    obtain ⟨f, h4, h4b⟩ := hc.2.2.2.2.1
    have hf := h4b j hj6
    obtain ⟨h7, h8⟩ := hc.2.2.2.2.2.2.2 j hj6
    have eK : (pg_K G j k v).2.2.1 j = G.2.2.1 j := by
      unfold pg_K
      dsimp only
      rw [if_neg (by omega)]
    rw [eK] at h7 h8
    have hL := hG.2.2.1 j hj6
    have h7k : ev_isK (ev_lk X H (x + 33 + 4 * j)) 6 = True := by rw [ev_lk_s h7]; exact ev_isK_y
    rw [t_X5_askOne_37]
    simp (disch := omega) only [t_X5_askOne_39, t_X5_askOne_41, t_X5_askOne_44, t_X5_askOne_46, t_X5_askOne_48, t_X5_askOne_49, t_X5_askOne_51, t_X5_askOne_53, t_X5_askOne_54, t_X5_askOne_55, ↓reduceIte, ev_k_i, ev_aG_y, and_true, true_and, hB, ev_lk_s h4, ev_inA_4, nI_clamp, hp, hj6, hf, h7k]
    refine C_meet h7 h8 (by omega) (by omega) (by omega) ev_isB_1 (okL_len hL) (fun z => (okL_new hL hkey z).2) fun H1 hH1 => ?_
    have ho : ∀ a, (a < x + 33 + 4 * j ∨ x + 37 + 4 * j ≤ a) → H1 a = H a := fun a ha =>
      (ev_rL_o hH1 (by omega) (by omega) (by omega)).trans (ev_up_n (by omega))
    have hc1 := c_upK hc hj6 (s := pk_meet (G.2.2.1 j) k v) ho ⟨(ev_rL_o hH1 (by omega) (by omega) (by omega)).trans ev_up_s, c_row_of hH1⟩
    rw [pg_K_s] at hc1
    have hfr : c_fr x H H1 := fun a ha => ho a (by omega)
    rw [pk_hits] at c
    rcases pr_fetchIn_01 (L := (G.2.2.1 j).1) (b := 1) (m := (G.2.2.1 j).2.1) (lm := (G.2.2.1 j).2.2.1) (ll := (G.2.2.1 j).2.2.2.1) (x := k) (v := v) with e | e
    · rw [e, if_pos rfl] at c
      rw [e]
      simp (disch := omega) only [t_X5_askOne_58, t_X5_askOne_64, t_X5_askOne_67, ↓reduceIte, ev_k_i, ev_kr_1, nI_1]
      exact ih (j + 1) _ _ H1 (by omega) hc1 hG (fun w' H2 g1 g2 => c w' H2 g1 (fun a ha => (g2 a ha).trans (hfr a ha)))
    · rw [e, if_neg (by decide)] at c
      rw [e]
      simp (disch := omega) only [t_X5_askOne_58, t_X5_askOne_61, t_X5_askOne_64, t_X5_askOne_67, ↓reduceIte, ev_k_i, ev_kr_1, nI_1, ev_z2]
      exact ih (j + 1) _ _ H1 (by omega) hc1 hG (fun w' H2 g1 g2 => c w' H2 g1 (fun a ha => (g2 a ha).trans (hfr a ha)))
end CK
end
section
/-! ===== the class: askings ===== -/
def pg_A (G : ev_CS) (s : (Nat → Int32) × (Nat → Int32) × Nat) : ev_CS := (G.1, G.2.1, G.2.2.1, s, G.2.2.2.2)
noncomputable def pg_ask1 (G : ev_CS) (k : Int32) : ev_CS := pg_K (pg_A G (ev_fu G.2.2.2.1.1 G.2.2.2.1.2.2 k, ev_fu G.2.2.2.1.2.1 G.2.2.2.1.2.2 (pd_depth G.2.1.1 k), G.2.2.2.1.2.2 + 1)) 6 k (nI G.2.2.2.1.2.2)
noncomputable def pg_ask (G : ev_CS) (k : Int32) : ev_CS := (G.1, ((pr_fetchIn G.2.1.1 1 (-1) G.2.1.2.1 G.2.1.2.2 k (nI G.2.2.2.1.2.2)).2.1, (pr_fetchIn G.2.1.1 1 (-1) G.2.1.2.1 G.2.1.2.2 k (nI G.2.2.2.1.2.2)).2.2), (pg_ask1 G k).2.2)
theorem pg_K_0 {G : ev_CS} {k v : Int32} : pg_K G 0 k v = G := by
  have : (fun j => if j < 0 then pk_meet (G.2.2.1 j) k v else G.2.2.1 j) = G.2.2.1 := by
    funext j
    rw [if_neg (by omega)]
  unfold pg_K
  rw [this]
theorem okG_ask {G : ev_CS} (h : okG G) {k : Int32} (hk : k ∈ (List.range 20).map nI) (hc : G.2.2.2.1.2.2 < 60) : okG (pg_ask G k) := by
  refine ⟨h.1, okL_fetchIn h.2.1 hk 1 (-1) G.2.1.2.1 G.2.1.2.2 (nI G.2.2.2.1.2.2), fun j hj => ?_, hc⟩
  show okL ((if j < 6 then pk_meet (G.2.2.1 j) k (nI G.2.2.2.1.2.2) else G.2.2.1 j)).1
  rw [if_pos hj]
  exact okL_fetchIn (h.2.2.1 j hj) hk _ _ _ _ _
section CQ
variable {X : ev_E} {x : Nat} {G : ev_CS} {H : ev_M} {n q : Nat} {P : ev_O → ev_M → Nat → Nat → Prop}
theorem C_askOne (hc : c_all x G H) (hG : okG G) {k : Int32} (hk : k ∈ (List.range 20).map nI) (h60 : G.2.2.2.1.2.2 < 60)
    (c : ∀ H1, c_all x (pg_ask G k) H1 → c_fr x H H1 → P (.inl (some (.int (pk_hits G.2.2.1 k (nI G.2.2.2.1.2.2) 6 0 0)))) H1 n q) : ev_ok (ev_TT X) 253 0 [.ref x, .int k, ev_J, ev_J, ev_J, ev_J, ev_J, ev_J] [] H n q P := by
  have hkk := c_all_k (X := X) hc
  have h0 := hc.1
  unfold c_top at h0
  obtain ⟨ne, hk1, hn1, hH, hN⟩ := hc.2.2.1
  have ha0 : H (x + 2) = _ := (congrFun hH (x + 2)).trans ev_ask_0
  have hak : ev_isK (ev_lk X H (x + 2)) 5 = True := by rw [ev_lk_s ha0]; exact ev_isK_y
  simp (disch := omega) only [t_X5_askOne_0, t_X5_askOne_1, t_X5_askOne_4, t_X5_askOne_7, t_X5_askOne_8, t_X5_askOne_9, t_X5_askOne_12, t_X5_askOne_13, t_X5_askOne_14, t_X5_askOne_15, ev_k_i, ev_isK_y, true_and, ev_fG_1, ev_fG_5, ev_isO_1, ev_isO_5, ev_lk_s h0, ev_lk_s ha0]
  refine C_depthNow hc hG ?_
  simp (disch := omega) only [t_X5_askOne_18, ev_kr_1, true_and, hak]
  rw [hH]
  refine A_add h60 ?_
  generalize hne : (ev_fu (nt G.2.2.2.1.1 ne k (nI G.2.2.2.1.2.2) G.2.2.2.1.2.2) G.2.2.2.1.2.2 (nI 60)) = ne'
  have ho : ∀ a, (a < x + 2 ∨ x + 8 ≤ a) → ev_ask H (x + 2) (ev_fu G.2.2.2.1.1 G.2.2.2.1.2.2 k) (ev_fu G.2.2.2.1.2.1 G.2.2.2.1.2.2 (pd_depth G.2.1.1 k)) ne' hk1 hn1 (G.2.2.2.1.2.2 + 1) a = H a := fun a ha => ev_ask_o (by omega)
  have hc1 := c_upA hc (s := (ev_fu G.2.2.2.1.1 G.2.2.2.1.2.2 k, ev_fu G.2.2.2.1.2.1 G.2.2.2.1.2.2 (pd_depth G.2.1.1 k), G.2.2.2.1.2.2 + 1)) ho ⟨ne', hk1, hn1, ev_ask_ask.symm, by rw [← hne]; exact okN_add hN h60⟩
  generalize hH1 : ev_ask H (x + 2) (ev_fu G.2.2.2.1.1 G.2.2.2.1.2.2 k) (ev_fu G.2.2.2.1.2.1 G.2.2.2.1.2.2 (pd_depth G.2.1.1 k)) ne' hk1 hn1 (G.2.2.2.1.2.2 + 1) = H1 at hc1 ho ⊢
  have h01 := hc1.1
  obtain ⟨f, h4, h4b⟩ := hc1.2.2.2.2.1
  unfold c_top at h01
  have hL := C_askLoop (X := X) (x := x) (G := pg_A G (ev_fu G.2.2.2.1.1 G.2.2.2.1.2.2 k, ev_fu G.2.2.2.1.2.1 G.2.2.2.1.2.2 (pd_depth G.2.1.1 k), G.2.2.2.1.2.2 + 1)) (n := n) (q := q) (P := P) (k := k) (v := nI G.2.2.2.1.2.2) hk 6 0 0 ev_J H1 (by omega) (by rw [pg_K_0]; exact hc1) ⟨hG.1, hG.2.1, hG.2.2.1, h60⟩ (fun w' H2 g1 g2 => by
    have h02 := g1.1
    have h32 := g1.2.2.2.1
    have hr := ev_rL_k (X := X) h32
    unfold c_top at h02
    simp (disch := omega) only [t_X5_askOne_70, t_X5_askOne_71, t_X5_askOne_74, t_X5_askOne_75, t_X5_askOne_76, true_and, ev_fG_2, ev_isO_2, ev_lk_s h02, hr]
    refine R_fetchIn h32 ev_isB_1 (okL_len hG.2.1) (fun z => (okL_new hG.2.1 hk z).2) fun H3 hH3 => ?_
    simp (disch := omega) only [t_X5_askOne_79_i, t_X5_askOne_80, t_X5_askOne_81, ev_kr_1]
    have ho3 : ∀ a, (a < x + 8 ∨ x + 11 ≤ a) → H3 a = H2 a := fun a ha => ev_rL_o hH3 (by omega) (by omega) (by omega)
    exact c H3 (c_upS g1 ho3 (c_row_of hH3)) (fun a ha => (ho3 a (by omega)).trans ((g2 a ha).trans (ho a (by omega)))))
  rw [nI_0] at hL
  simp (disch := omega) only [t_X5_askOne_21, t_X5_askOne_22, t_X5_askOne_23, t_X5_askOne_24, t_X5_askOne_27, t_X5_askOne_29, t_X5_askOne_31, t_X5_askOne_32, t_X5_askOne_34, t_X5_askOne_35, ev_k_i, ev_k_r, ev_kr_0, ev_aN_y, true_and, ev_fG_3, ev_isO_3, ev_ofN, ev_lk_s h01, ev_lk_s h4, ev_isA_4, show nI 6 = 6 from rfl]
  exact hL
end CQ
end
section
/-! ===== the class: calls on askings and keepers ===== -/
section CR
variable {X : ev_E} {x : Nat} {G : ev_CS} {H : ev_M} {n q : Nat} {P : ev_O → ev_M → Nat → Nat → Prop}
theorem c_ask0 (hc : c_all x G H) : H (x + 2) = some (.inr (5, [.ref (x + 2 + 1), .ref (x + 2 + 2), .ref (x + 2 + 3), .ref (x + 2 + 4), .ref (x + 2 + 5), .int (nI G.2.2.2.1.2.2)])) := by
  obtain ⟨ne, hk1, hn1, hH, hN⟩ := hc.2.2.1
  exact (congrFun hH (x + 2)).trans ev_ask_0
theorem c_ask1 (hc : c_all x G H) : H (x + 2 + 1) = some (.inl (0, 60, fun i => .int (G.2.2.2.1.1 i))) := by
  obtain ⟨ne, hk1, hn1, hH, hN⟩ := hc.2.2.1
  exact (congrFun hH (x + 2 + 1)).trans ev_ask_1
theorem c_ask2 (hc : c_all x G H) : H (x + 2 + 2) = some (.inl (0, 60, fun i => .int (G.2.2.2.1.2.1 i))) := by
  obtain ⟨ne, hk1, hn1, hH, hN⟩ := hc.2.2.1
  exact (congrFun hH (x + 2 + 2)).trans ev_ask_2
theorem nI_60' : (60 : Int32) = nI 60 := rfl
theorem C_room_y (hc : c_all x G H) {a : Nat} (ha : G.2.2.2.1.2.2 + a ≤ 60) : ev_ok (ev_TT X) 50 0 [.ref x, .int (nI a)] [] H n q P ↔ P (.inl none) H n q := by
  have h0 := hc.1
  have h1 := c_ask0 hc
  unfold c_top at h0
  have hB : nI (G.2.2.2.1.2.2 + a) ≤ 60 := nI_le (b := 60) ha (by omega)
  simp (disch := omega) only [t_X5_demandRoomFor_0, t_X5_demandRoomFor_1, t_X5_demandRoomFor_4, t_X5_demandRoomFor_7, t_X5_demandRoomFor_8, t_X5_demandRoomFor_9, t_X5_demandRoomFor_11, t_X5_demandRoomFor_25, ↓reduceIte, true_and, ev_fG_1, ev_fG_5, ev_isO_1, ev_isO_5, ev_lk_s h0, ev_lk_s h1, nI_add, hB]
theorem C_room_n (hc : c_all x G H) (hG : okG G) {a : Nat} (ha : 60 < G.2.2.2.1.2.2 + a) (ha2 : a ≤ 100) : ev_ok (ev_TT X) 50 0 [.ref x, .int (nI a)] [] H n q P ↔ P (.inr 2) H (n + 1) (q + 6) := by
  have h0 := hc.1
  have h1 := c_ask0 hc
  have h6 := hG.2.2.2
  unfold c_top at h0
  have hB : ¬ nI (G.2.2.2.1.2.2 + a) ≤ 60 := nI_ge (a := 60) ha (by omega)
  simp (disch := omega) only [t_X5_demandRoomFor_0, t_X5_demandRoomFor_1, t_X5_demandRoomFor_4, t_X5_demandRoomFor_7, t_X5_demandRoomFor_8, t_X5_demandRoomFor_9, t_X5_demandRoomFor_11, t_X5_demandRoomFor_14, ↓reduceIte, true_and, ev_fG_1, ev_fG_5, ev_isO_1, ev_isO_5, ev_lk_s h0, ev_lk_s h1, nI_add, hB]
theorem C_ask (hc : c_all x G H) (hG : okG G) {k : Int32} (k0 : k < 0 ∨ nI 20 ≤ k → P (.inr 1) H (n + 1) (q + 6))
    (k1 : ∀ a, a < 20 → k = nI a → G.2.2.2.1.2.2 = 60 → P (.inr 2) H (n + 1) (q + 6))
    (k2 : ∀ a, a < 20 → k = nI a → G.2.2.2.1.2.2 < 60 → ∀ H1, c_all x (pg_ask G k) H1 → c_fr x H H1 → P (.inl (some (.int (pk_hits G.2.2.1 k (nI G.2.2.2.1.2.2) 6 0 0)))) H1 n q) : ev_ok (ev_TT X) 263 0 [.ref x, .int k] [] H n q P := by
  have hk := c_all_k (X := X) hc
  rcases pk_ix k (n := 20) (by omega) with h | h | ⟨a, ha, rfl⟩
  · simp (disch := omega) only [t_X5_ask_0, t_X5_ask_1, x_X5_ask_1, C_dKey_n (Or.inl h)]
    exact k0 (Or.inl h)
  · simp (disch := omega) only [t_X5_ask_0, t_X5_ask_1, x_X5_ask_1, C_dKey_n (Or.inr h)]
    exact k0 (Or.inr h)
  · have h6 := hG.2.2.2
    by_cases hf : G.2.2.2.1.2.2 = 60
    · have hr := fun P n q => C_room_n (X := X) (P := P) (n := n) (q := q) hc hG (a := 1) (by omega) (by omega)
      rw [show nI 1 = 1 from rfl] at hr
      simp (disch := omega) only [t_X5_ask_0, t_X5_ask_1, t_X5_ask_4, t_X5_ask_5, t_X5_ask_6, x_X5_ask_6, ev_kr_0, true_and, hk, C_dKey_y ha, hr]
      exact k1 a ha rfl hf
    · have hr := fun P n q => C_room_y (X := X) (P := P) (n := n) (q := q) hc (a := 1) (by omega)
      rw [show nI 1 = 1 from rfl] at hr
      simp (disch := omega) only [t_X5_ask_0, t_X5_ask_1, t_X5_ask_4, t_X5_ask_5, t_X5_ask_6, t_X5_ask_9, t_X5_ask_10, t_X5_ask_11, ev_kr_0, true_and, hk, C_dKey_y ha, hr]
      refine C_askOne hc hG (okL_key ha) (by omega) fun H1 g1 g2 => ?_
      simp (disch := omega) only [t_X5_ask_14, ev_kr_1]
      exact k2 a ha rfl (by omega) H1 g1 g2
theorem C_asked (hc : c_all x G H) (k : P (.inl (some (.int (nI G.2.2.2.1.2.2)))) H n q) : ev_ok (ev_TT X) 47 0 [.ref x] [] H n q P := by
  have h0 := hc.1
  have h1 := c_ask0 hc
  unfold c_top at h0
  simp (disch := omega) only [t_X5_asked_0, t_X5_asked_1, t_X5_asked_4, t_X5_asked_7, true_and, ev_fG_1, ev_fG_5, ev_isO_1, ev_isO_5, ev_lk_s h0, ev_lk_s h1]
  exact k
theorem C_knock (hc : c_all x G H) (k : ∀ H1, c_all x (G.1, G.2.1, G.2.2.1, G.2.2.2.1, G.2.2.2.2.1, G.2.2.2.2.2 + 1) H1 → c_fr x H H1 → P (.inl (some (.int (G.2.2.2.2.2 + 1)))) H1 n q) : ev_ok (ev_TT X) 55 0 [.ref x] [] H n q P := by
  have h0 := hc.1
  unfold c_top at h0
  simp (disch := omega) only [t_X5_knock_0, t_X5_knock_1, t_X5_knock_2, t_X5_knock_5, t_X5_knock_6, t_X5_knock_7, t_X5_knock_10, t_X5_knock_11, t_X5_knock_14, ev_ft_I, and_true, true_and, ev_fG_6, ev_fS_6, ev_isO_6, ev_lk_s h0, h0, ev_lk_s ev_up_s]
  exact k _ (c_up0 hc (fun a ha => ev_up_n (by omega)) ev_up_s) (fun a ha => ev_up_n (by omega))
theorem C_depth (hc : c_all x G H) (hG : okG G) {k : Int32} (k0 : k < 0 ∨ nI 20 ≤ k → P (.inr 1) H (n + 1) (q + 6)) (k2 : ∀ a, a < 20 → k = nI a → P (.inl (some (.int (pd_depth G.2.1.1 k)))) H n q) : ev_ok (ev_TT X) 148 0 [.ref x, .int k] [] H n q P := by
  have hk := c_all_k (X := X) hc
  rcases pk_ix k (n := 20) (by omega) with h | h | ⟨a, ha, rfl⟩
  · simp (disch := omega) only [t_X5_depth_0, t_X5_depth_1, x_X5_depth_1, C_dKey_n (Or.inl h)]
    exact k0 (Or.inl h)
  · simp (disch := omega) only [t_X5_depth_0, t_X5_depth_1, x_X5_depth_1, C_dKey_n (Or.inr h)]
    exact k0 (Or.inr h)
  · simp (disch := omega) only [t_X5_depth_0, t_X5_depth_1, t_X5_depth_4, t_X5_depth_5, t_X5_depth_6, ev_kr_0, true_and, hk, C_dKey_y ha]
    refine C_depthNow hc hG ?_
    simp (disch := omega) only [t_X5_depth_9, ev_kr_1]
    exact k2 a ha rfl
theorem C_withDepth (hc : c_all x G H) (hG : okG G) {d : Int32} (k : P (.inl (some (.int (pr_cnt G.2.2.2.1.2.1 (fun y => decide (y = d)) G.2.2.2.1.2.2 0 0)))) H n q) : ev_ok (ev_TT X) 113 0 [.ref x, .int d] [] H n q P := by
  have h0 := hc.1
  unfold c_top at h0
  have ha0 := c_ask0 hc
  have hak : ev_isK (ev_lk X H (x + 2)) 5 = True := by rw [ev_lk_s ha0]; exact ev_isK_y
  obtain ⟨ne, hk1, hn1, hH, hN⟩ := hc.2.2.1
  simp (disch := omega) only [t_X5_withDepth_0, t_X5_withDepth_1, t_X5_withDepth_4, t_X5_withDepth_5, true_and, ev_fG_1, ev_isO_1, ev_lk_s h0, hak]
  rw [hH]
  refine A_cntD hG.2.2.2 ?_
  rw [← hH]
  simp (disch := omega) only [t_X5_withDepth_8, ev_kr_1]
  exact k
end CR
end
section
/-! ===== the class: calls on keepers ===== -/
section CS
variable {X : ev_E} {x : Nat} {G : ev_CS} {H : ev_M} {n q : Nat} {P : ev_O → ev_M → Nat → Nat → Prop}
theorem ev_sz (v : Int32) : (v < 1 ∨ 6 < v) ∨ ∃ j, j < 6 ∧ v = nI (j + 1) := by
  rcases pk_ix v (n := 7) (by omega) with h | h | ⟨j, hj, rfl⟩
  · exact Or.inl (Or.inl (Int32.lt_of_lt_of_le h (by decide)))
  · exact Or.inl (Or.inr (Int32.lt_of_lt_of_le (show (6 : Int32) < nI 7 by decide) h))
  · by_cases h0 : j = 0
    · subst h0
      exact Or.inl (Or.inl (by decide))
    · exact Or.inr ⟨j - 1, by omega, by rw [show j - 1 + 1 = j by omega]⟩
theorem C_dSize_y {j : Nat} (hj : j < 6) : ev_ok (ev_TT X) 51 0 [.int (nI (j + 1))] [] H n q P ↔ P (.inl none) H n q := by
  have hA : ¬ nI (j + 1) < 1 := nI_nlt (b := 1) (by omega) (by omega)
  have hB : nI (j + 1) ≤ 6 := nI_le (b := 6) (by omega) (by omega)
  have hC : ¬ (6 : Int32) < nI (j + 1) := Int32.not_lt.mpr hB
  simp (disch := omega) only [t_X5_demandSize_0, t_X5_demandSize_1, t_X5_demandSize_2, t_X5_demandSize_5, t_X5_demandSize_6, t_X5_demandSize_8, t_X5_demandSize_22, ↓reduceIte, hA, hB]
theorem C_dSize_n {v : Int32} (hv : v < 1 ∨ 6 < v) : ev_ok (ev_TT X) 51 0 [.int v] [] H n q P ↔ P (.inr 1) H (n + 1) (q + 6) := by
  by_cases h0 : v < 1
  · simp (disch := omega) only [t_X5_demandSize_0, t_X5_demandSize_1, t_X5_demandSize_2, t_X5_demandSize_11, ↓reduceIte, h0]
  · have hB := hv.resolve_left h0
    have hC : ¬ v ≤ 6 := Int32.not_le.mpr hB
    simp (disch := omega) only [t_X5_demandSize_0, t_X5_demandSize_1, t_X5_demandSize_2, t_X5_demandSize_5, t_X5_demandSize_6, t_X5_demandSize_8, t_X5_demandSize_11, ↓reduceIte, h0, hC]
theorem C_keeperOf_y (hc : c_all x G H) {j : Nat} (hj : j < 6) : ev_ok (ev_TT X) 108 0 [.ref x, .int (nI (j + 1))] [] H n q P ↔ P (.inl (some (.ref (x + 33 + 4 * j)))) H n q := by
  have h0 := hc.1
  unfold c_top at h0
  obtain ⟨f, h4, h4b⟩ := hc.2.2.2.2.1
  have hf := h4b j hj
  have hp := nI_pos' (n := j) (by omega)
  simp (disch := omega) only [t_X5_keeperOf_0, t_X5_keeperOf_1, t_X5_keeperOf_4, t_X5_keeperOf_5, t_X5_keeperOf_8, t_X5_keeperOf_9, t_X5_keeperOf_10, t_X5_keeperOf_11, t_X5_keeperOf_12, ev_kr_0, ev_aG_y, and_true, true_and, ev_fG_3, ev_isO_3, C_dSize_y hj, ev_lk_s h0, ev_lk_s h4, ev_inA_4, nI_pred, nI_clamp, hp, hj, hf]
theorem C_keeperOf_n {v : Int32} (hv : v < 1 ∨ 6 < v) : ev_ok (ev_TT X) 108 0 [.ref x, .int v] [] H n q P ↔ P (.inr 1) H (n + 1) (q + 6) := by
  simp (disch := omega) only [t_X5_keeperOf_0, t_X5_keeperOf_1, x_X5_keeperOf_1, C_dSize_n hv]
theorem C_misses (hc : c_all x G H) (hG : okG G) {s : Int32} (k0 : s < 1 ∨ 6 < s → P (.inr 1) H (n + 1) (q + 6)) (k2 : ∀ j, j < 6 → s = nI (j + 1) → P (.inl (some (.int (G.2.2.1 j).2.2.2.2.1))) H n q) : ev_ok (ev_TT X) 158 0 [.ref x, .int s] [] H n q P := by
  have hk := c_all_k (X := X) hc
  rcases ev_sz s with h | ⟨j, hj, rfl⟩
  · simp (disch := omega) only [t_X5_misses_0, t_X5_misses_1, t_X5_misses_2, x_X5_misses_2, true_and, hk, C_keeperOf_n h]
    exact k0 h
  · obtain ⟨h7, h8⟩ := hc.2.2.2.2.2.2.2 j hj
    unfold ev_kec at h7
    have hL := hG.2.2.1 j hj
    have hl := okL_len hL
    have hr := ev_rL_k (X := X) h8
    have hx := ev_rL_b (X := X) h8
    simp (disch := omega) only [t_X5_misses_0, t_X5_misses_1, t_X5_misses_2, t_X5_misses_5, t_X5_misses_8, ev_kr_1, true_and, ev_fG_1, ev_isO_1, hk, C_keeperOf_y hc hj, ev_lk_s h7]
    exact k2 j hj rfl
theorem C_hits (hc : c_all x G H) (hG : okG G) {s : Int32} (k0 : s < 1 ∨ 6 < s → P (.inr 1) H (n + 1) (q + 6)) (k2 : ∀ j, j < 6 → s = nI (j + 1) → P (.inl (some (.int (G.2.2.1 j).2.2.2.2.2))) H n q) : ev_ok (ev_TT X) 151 0 [.ref x, .int s] [] H n q P := by
  have hk := c_all_k (X := X) hc
  rcases ev_sz s with h | ⟨j, hj, rfl⟩
  · simp (disch := omega) only [t_X5_hits_0, t_X5_hits_1, t_X5_hits_2, x_X5_hits_2, true_and, hk, C_keeperOf_n h]
    exact k0 h
  · obtain ⟨h7, h8⟩ := hc.2.2.2.2.2.2.2 j hj
    unfold ev_kec at h7
    have hL := hG.2.2.1 j hj
    have hl := okL_len hL
    have hr := ev_rL_k (X := X) h8
    have hx := ev_rL_b (X := X) h8
    simp (disch := omega) only [t_X5_hits_0, t_X5_hits_1, t_X5_hits_2, t_X5_hits_5, t_X5_hits_8, ev_kr_1, true_and, ev_fG_2, ev_isO_2, hk, C_keeperOf_y hc hj, ev_lk_s h7]
    exact k2 j hj rfl
theorem C_lost (hc : c_all x G H) (hG : okG G) {s : Int32} (k0 : s < 1 ∨ 6 < s → P (.inr 1) H (n + 1) (q + 6)) (k2 : ∀ j, j < 6 → s = nI (j + 1) → P (.inl (some (.int (G.2.2.1 j).2.2.2.1))) H n q) : ev_ok (ev_TT X) 156 0 [.ref x, .int s] [] H n q P := by
  have hk := c_all_k (X := X) hc
  rcases ev_sz s with h | ⟨j, hj, rfl⟩
  · simp (disch := omega) only [t_X5_lost_0, t_X5_lost_1, t_X5_lost_2, x_X5_lost_2, true_and, hk, C_keeperOf_n h]
    exact k0 h
  · obtain ⟨h7, h8⟩ := hc.2.2.2.2.2.2.2 j hj
    unfold ev_kec at h7
    have hL := hG.2.2.1 j hj
    have hl := okL_len hL
    have hr := ev_rL_k (X := X) h8
    have hx := ev_rL_b (X := X) h8
    simp (disch := omega) only [t_X5_lost_0, t_X5_lost_1, t_X5_lost_2, t_X5_lost_5, t_X5_lost_8, t_X5_lost_11, ev_kr_1, true_and, ev_fG_0, ev_isO_0, hk, C_keeperOf_y hc hj, ev_lk_s h7, hx.2.2.2.2.1, hx.2.2.2.2.2]
    exact k2 j hj rfl
theorem C_keeps (hc : c_all x G H) (hG : okG G) {s k : Int32} (k0 : s < 1 ∨ 6 < s → P (.inr 1) H (n + 1) (q + 6)) (k1 : ∀ j, j < 6 → s = nI (j + 1) → (k < 0 ∨ nI 20 ≤ k) → P (.inr 1) H (n + 1) (q + 6)) (k2 : ∀ j a, j < 6 → s = nI (j + 1) → a < 20 → k = nI a → P (.inl (some (.int (ev_bb (pf_find (G.2.2.1 j).1 k).isSome)))) H n q) : ev_ok (ev_TT X) 153 0 [.ref x, .int s, .int k, ev_J] [] H n q P := by
  have hk := c_all_k (X := X) hc
  rcases ev_sz s with h | ⟨j, hj, rfl⟩
  · simp (disch := omega) only [t_X5_keeps_0, t_X5_keeps_1, t_X5_keeps_2, x_X5_keeps_2, true_and, hk, C_keeperOf_n h]
    exact k0 h
  · obtain ⟨h7, h8⟩ := hc.2.2.2.2.2.2.2 j hj
    unfold ev_kec at h7
    have hL := hG.2.2.1 j hj
    have hl := okL_len hL
    have hr := ev_rL_k (X := X) h8
    have hx := ev_rL_b (X := X) h8
    rcases pk_ix k (n := 20) (by omega) with h | h | ⟨a, ha, rfl⟩
    · simp (disch := omega) only [t_X5_keeps_0, t_X5_keeps_1, t_X5_keeps_2, t_X5_keeps_5, t_X5_keeps_6, t_X5_keeps_7, x_X5_keeps_7, ev_k_i, ev_kr_1, true_and, hk, C_keeperOf_y hc hj, C_dKey_n (Or.inl h)]
      exact k1 j hj rfl (Or.inl h)
    · simp (disch := omega) only [t_X5_keeps_0, t_X5_keeps_1, t_X5_keeps_2, t_X5_keeps_5, t_X5_keeps_6, t_X5_keeps_7, x_X5_keeps_7, ev_k_i, ev_kr_1, true_and, hk, C_keeperOf_y hc hj, C_dKey_n (Or.inr h)]
      exact k1 j hj rfl (Or.inr h)
    · skip
      simp (disch := omega) only [t_X5_keeps_0, t_X5_keeps_1, t_X5_keeps_2, t_X5_keeps_5, t_X5_keeps_6, t_X5_keeps_7, t_X5_keeps_10, t_X5_keeps_11, t_X5_keeps_14, t_X5_keeps_15, ev_k_i, ev_kr_1, ev_kr_0, true_and, ev_fG_0, ev_isO_0, hk, C_keeperOf_y hc hj, ev_lk_s h7, C_dKey_y ha, hr]
      refine R_find h8 hl ?_
      have hK := k2 j a hj rfl ha rfl
      unfold pf_place
      rcases e : pf_find (G.2.2.1 j).1 (nI a) with _ | i
      · rw [e] at hK
        simp (disch := omega) only [t_X5_keeps_18, t_X5_keeps_19, t_X5_keeps_26, t_X5_keeps_27, ↓reduceIte, ev_kr_1, ev_nb_0, true_and]
        exact hK
      · rw [e] at hK
        have hi := (pf_find_s e).1
        simp (disch := omega) only [t_X5_keeps_18, t_X5_keeps_19, t_X5_keeps_22, t_X5_keeps_23, t_X5_keeps_27, ↓reduceIte, ev_kr_1, ev_nb_1, true_and, ev_nm1]
        exact hK
theorem C_takenAt (hc : c_all x G H) (hG : okG G) {s k : Int32} (k0 : s < 1 ∨ 6 < s → P (.inr 1) H (n + 1) (q + 6)) (k1 : ∀ j, j < 6 → s = nI (j + 1) → (k < 0 ∨ nI 20 ≤ k) → P (.inr 1) H (n + 1) (q + 6)) (k2 : ∀ j a, j < 6 → s = nI (j + 1) → a < 20 → k = nI a → P (.inl (some (.int (pr_told (G.2.2.1 j).1 (pf_place (G.2.2.1 j).1 k) 1)))) H n q) : ev_ok (ev_TT X) 161 0 [.ref x, .int s, .int k, ev_J] [] H n q P := by
  have hk := c_all_k (X := X) hc
  rcases ev_sz s with h | ⟨j, hj, rfl⟩
  · simp (disch := omega) only [t_X5_takenAt_0, t_X5_takenAt_1, t_X5_takenAt_2, x_X5_takenAt_2, true_and, hk, C_keeperOf_n h]
    exact k0 h
  · obtain ⟨h7, h8⟩ := hc.2.2.2.2.2.2.2 j hj
    unfold ev_kec at h7
    have hL := hG.2.2.1 j hj
    have hl := okL_len hL
    have hr := ev_rL_k (X := X) h8
    have hx := ev_rL_b (X := X) h8
    rcases pk_ix k (n := 20) (by omega) with h | h | ⟨a, ha, rfl⟩
    · simp (disch := omega) only [t_X5_takenAt_0, t_X5_takenAt_1, t_X5_takenAt_2, t_X5_takenAt_5, t_X5_takenAt_6, t_X5_takenAt_7, x_X5_takenAt_7, ev_k_i, ev_kr_1, true_and, hk, C_keeperOf_y hc hj, C_dKey_n (Or.inl h)]
      exact k1 j hj rfl (Or.inl h)
    · simp (disch := omega) only [t_X5_takenAt_0, t_X5_takenAt_1, t_X5_takenAt_2, t_X5_takenAt_5, t_X5_takenAt_6, t_X5_takenAt_7, x_X5_takenAt_7, ev_k_i, ev_kr_1, true_and, hk, C_keeperOf_y hc hj, C_dKey_n (Or.inr h)]
      exact k1 j hj rfl (Or.inr h)
    · skip
      simp (disch := omega) only [t_X5_takenAt_0, t_X5_takenAt_1, t_X5_takenAt_2, t_X5_takenAt_5, t_X5_takenAt_6, t_X5_takenAt_7, t_X5_takenAt_10, t_X5_takenAt_11, t_X5_takenAt_14, t_X5_takenAt_15, t_X5_takenAt_18, t_X5_takenAt_19, ev_k_i, ev_kr_1, ev_kr_0, true_and, ev_fG_0, ev_isO_0, hk, C_keeperOf_y hc hj, ev_lk_s h7, C_dKey_y ha, hr]
      refine R_find h8 hl ?_
      simp (disch := omega) only [t_X5_takenAt_22, t_X5_takenAt_23, ev_kr_1, true_and, hr]
      refine R_told h8 hl ?_
      simp (disch := omega) only [t_X5_takenAt_26, ev_kr_1]
      exact k2 j a hj rfl ha rfl
/-- the askings' keys are those of As -/
def aR (G : ev_CS) (As : List Nat) : Prop := As.length = G.2.2.2.1.2.2 ∧ ∀ j, j < G.2.2.2.1.2.2 → G.2.2.2.1.1 j = nI (As.getD j 0) ∧ As.getD j 0 < 20
theorem C_best {As : List Nat} (hA : aR G As) (hc : c_all x G H) (hG : okG G) {s : Int32} (k0 : s < 1 ∨ 6 < s → P (.inr 1) H (n + 1) (q + 6)) (k2 : ∀ j, j < 6 → s = nI (j + 1) → ∀ H1, c_all x G H1 → c_fr x H H1 → P (.inl (some (.int (nI (G.2.2.2.1.2.2 - (gs As (j + 1) G.2.2.2.1.2.2).2))))) H1 n q) : ev_ok (ev_TT X) 147 0 [.ref x, .int s] [] H n q P := by
  have hk := c_all_k (X := X) hc
  have h0 := hc.1
  unfold c_top at h0
  rcases ev_sz s with h | ⟨j, hj, rfl⟩
  · simp (disch := omega) only [t_X5_best_0, t_X5_best_1, x_X5_best_1, C_dSize_n h]
    exact k0 h
  · have ha0 := c_ask0 hc
    have hak : ev_isK (ev_lk X H (x + 2)) 5 = True := by rw [ev_lk_s ha0]; exact ev_isK_y
    obtain ⟨ne, hk1, hn1, hH, hN⟩ := hc.2.2.1
    simp (disch := omega) only [t_X5_best_0, t_X5_best_1, t_X5_best_4, t_X5_best_5, t_X5_best_8, t_X5_best_9, ev_kr_0, true_and, ev_fG_1, ev_isO_1, C_dSize_y hj, ev_lk_s h0, hak]
    rw [hH]
    refine A_few (As := As) hG.2.2.2 hA.1 hA.2 hN hj fun hk' hn' => ?_
    simp (disch := omega) only [t_X5_best_12, ev_kr_1]
    have ho : ∀ a, (a < x + 2 ∨ x + 8 ≤ a) → ev_ask H (x + 2) G.2.2.2.1.1 G.2.2.2.1.2.1 ne hk' hn' G.2.2.2.1.2.2 a = H a := fun a ha => ev_ask_o (by omega)
    exact k2 j hj rfl _ (c_upA hc (s := G.2.2.2.1) ho ⟨ne, hk', hn', ev_ask_ask.symm, hN⟩) (fun a ha => ho a (by omega))
end CS
end
section
/-! ===== the class: forget ===== -/
def pk_anew (s : ev_KS) : ev_KS := ([], s.2.1, 0, -1, 0, 0)
def pg_F (G : ev_CS) (i : Nat) : ev_CS := (G.1, G.2.1, (fun j => if j < i then pk_anew (G.2.2.1 j) else G.2.2.1 j), G.2.2.2)
def pg_F0 (G : ev_CS) : ev_CS := (G.1, ([], 0, -1), G.2.2.1, (G.2.2.2.1.1, G.2.2.2.1.2.1, 0), G.2.2.2.2)
theorem pg_F_0 {G : ev_CS} : pg_F G 0 = G := by
  have : (fun j => if j < 0 then pk_anew (G.2.2.1 j) else G.2.2.1 j) = G.2.2.1 := by
    funext j
    rw [if_neg (by omega)]
  unfold pg_F
  rw [this]
theorem pg_F_s {G : ev_CS} {i : Nat} : ((pg_F G i).1, (pg_F G i).2.1, (fun j' => if j' = i then pk_anew (G.2.2.1 i) else (pg_F G i).2.2.1 j'), (pg_F G i).2.2.2) = pg_F G (i + 1) := by
  have : (fun j' => if j' = i then pk_anew (G.2.2.1 i) else (pg_F G i).2.2.1 j') = (pg_F G (i + 1)).2.2.1 := by
    funext j'
    unfold pg_F
    dsimp only
    by_cases e : j' = i
    · subst e
      rw [if_pos rfl, if_pos (by omega)]
    · rw [if_neg e]
      by_cases e2 : j' < i
      · rw [if_pos e2, if_pos (by omega)]
      · rw [if_neg e2, if_neg (by omega)]
  rw [this]
  rfl
theorem okG_F {G : ev_CS} (h : okG G) : okG (pg_F (pg_F0 G) 6) := by
  refine ⟨h.1, okL_nil, fun j hj => ?_, Nat.zero_le 60⟩
  show okL ((if j < 6 then pk_anew (G.2.2.1 j) else G.2.2.1 j)).1
  rw [if_pos hj]
  exact okL_nil
section CF
variable {X : ev_E} {x : Nat} {G : ev_CS} {H : ev_M} {n q : Nat} {P : ev_O → ev_M → Nat → Nat → Prop}
theorem C_fLoop {b : Int32} : ∀ (d j : Nat) (w : Value) (H : ev_M), j + d = 6 → c_all x (pg_F G j) H → (∀ j, j < 6 → (G.2.2.1 j).1.length ≤ 20) →
    (∀ H1, c_all x (pg_F G 6) H1 → c_fr x H H1 → P (.inl (some (.int b))) H1 n q) → ev_ok (ev_TT X) 200 37 [.ref x, .int b, .ref (x + 11), .int 6, .int (nI j), w] [] H n q P := by
  intro d
  induction d with
  | zero =>
    intro j w H hj hc hG c
    have hj6 : j = 6 := by omega
    subst hj6
    simp (disch := omega) only [t_X5_forget_37, t_X5_forget_39, t_X5_forget_40, t_X5_forget_60, t_X5_forget_61, ↓reduceIte, show nI 6 = 6 from rfl, Int32.le_refl]
    exact c H hc (fun a _ => rfl)
  | succ d ih =>
    intro j w H hj hc hG c
    have hj6 : j < 6 := by omega
    have hB : ¬ (6 : Int32) ≤ nI j := Int32.not_le.mpr (nI_lt (b := 6) hj6 (by omega))
    have hp := nI_pos' (n := j) (by omega)
    obtain ⟨f, h4, h4b⟩ := hc.2.2.2.2.1
    have hf := h4b j hj6
    obtain ⟨h7, h8⟩ := hc.2.2.2.2.2.2.2 j hj6
    have eK : (pg_F G j).2.2.1 j = G.2.2.1 j := by
      unfold pg_F
      dsimp only
      rw [if_neg (by omega)]
    rw [eK] at h7 h8
    have h7k : ev_isK (ev_lk X H (x + 33 + 4 * j)) 6 = True := by rw [ev_lk_s h7]; exact ev_isK_y
    rw [t_X5_forget_37]
    simp (disch := omega) only [t_X5_forget_39, t_X5_forget_40, t_X5_forget_43, t_X5_forget_44, t_X5_forget_46, t_X5_forget_47, t_X5_forget_49, t_X5_forget_51, ↓reduceIte, ev_k_i, ev_aG_y, and_true, true_and, hB, ev_lk_s h4, ev_inA_4, nI_clamp, hp, hj6, hf, h7k]
    refine C_anew h7 h8 (by omega) (by omega) (by omega) (hG j hj6) fun H1 hH1 => ?_
    have ho : ∀ a, (a < x + 33 + 4 * j ∨ x + 37 + 4 * j ≤ a) → H1 a = H a := fun a ha =>
      (ev_rL_o hH1 (by omega) (by omega) (by omega)).trans (ev_up_n (by omega))
    have hc1 := c_upK hc hj6 (s := pk_anew (G.2.2.1 j)) ho ⟨(ev_rL_o hH1 (by omega) (by omega) (by omega)).trans ev_up_s, c_row_of hH1⟩
    rw [pg_F_s] at hc1
    have hfr : c_fr x H H1 := fun a ha => ho a (by omega)
    simp (disch := omega) only [t_X5_forget_54, t_X5_forget_57, ev_k_i, ev_kr_0, nI_1]
    exact ih (j + 1) _ H1 (by omega) hc1 hG (fun H2 g1 g2 => c H2 g1 (fun a ha => (g2 a ha).trans (hfr a ha)))
theorem C_forget (hc : c_all x G H) (hG : okG G) (c : ∀ H1, c_all x (pg_F (pg_F0 G) 6) H1 → c_fr x H H1 → P (.inl (some (.int (nI G.2.2.2.1.2.2)))) H1 n q) : ev_ok (ev_TT X) 200 0 [.ref x, ev_J, ev_J, ev_J, ev_J, ev_J] [] H n q P := by
  have h0 := hc.1
  unfold c_top at h0
  have ha0 := c_ask0 hc
  obtain ⟨ne, hk1, hn1, hH, hN⟩ := hc.2.2.1
  have ho : ∀ cc a, (a < x + 2 ∨ x + 8 ≤ a) → ev_up H (x + 2) cc a = H a := fun cc a ha => ev_up_n (by omega)
  have e := ev_ask_u0 (h := H) (a := x + 2) (ka := G.2.2.2.1.1) (de := G.2.2.2.1.2.1) (ne := ne) (hk := hk1) (hn := hn1) (c := G.2.2.2.1.2.2) (c' := 0)
  rw [← hH, nI_0] at e
  have hc1 := c_upA hc (s := (G.2.2.2.1.1, G.2.2.2.1.2.1, 0)) (ho _) ⟨ne, hk1, hn1, by rw [e]; exact ev_ask_ask.symm, okN_0⟩
  rw [e] at hc1
  have ho' : ∀ a, (a < x + 2 ∨ x + 8 ≤ a) → ev_ask H (x + 2) G.2.2.2.1.1 G.2.2.2.1.2.1 ne hk1 hn1 0 a = H a := fun a ha => ev_ask_o (by omega)
  have h01 : H x = _ := h0
  have hx2 : ¬ x = x + 2 := by omega
  simp (disch := omega) only [t_X5_forget_0, t_X5_forget_1, t_X5_forget_4, t_X5_forget_7, t_X5_forget_8, t_X5_forget_9, t_X5_forget_12, t_X5_forget_13, ev_k_r, ev_ft_I, and_true, true_and, ev_fG_1, ev_fG_5, ev_fS_5, ev_isO_1, ev_isO_5, ev_lk_s h0, ev_lk_s ha0, ha0]
  rw [e]
  generalize hH1 : ev_ask H (x + 2) G.2.2.2.1.1 G.2.2.2.1.2.1 ne hk1 hn1 0 = H1 at hc1 ho' ⊢
  have h31 := hc1.2.2.2.1
  have hr := ev_rL_k (X := X) h31
  have h02 := hc1.1
  unfold c_top at h02
  simp (disch := omega) only [t_X5_forget_16, t_X5_forget_17, t_X5_forget_20, t_X5_forget_21, t_X5_forget_22, true_and, ev_fG_2, ev_isO_2, ev_lk_s h02, hr]
  refine R_renew h31 ev_isB_1 fun H2 hH2 => ?_
  have ho2 : ∀ a, (a < x + 8 ∨ x + 11 ≤ a) → H2 a = H1 a := fun a ha => ev_rL_o hH2 (by omega) (by omega) (by omega)
  have hc2 := c_upS hc1 ho2 (c_row_of hH2)
  have h03 := hc2.1
  obtain ⟨f, h4, h4b⟩ := hc2.2.2.2.2.1
  unfold c_top at h03
  have hL := C_fLoop (X := X) (x := x) (G := pg_F0 G) (n := n) (q := q) (P := P) (b := nI G.2.2.2.1.2.2) 6 0 ev_J H2 (by omega) (by rw [pg_F_0]; exact hc2) (fun j hj => okL_len (hG.2.2.1 j hj)) (fun H3 g1 g2 => c H3 g1 (fun a ha => (g2 a ha).trans ((ho2 a (by omega)).trans (ho' a (by omega)))))
  rw [nI_0] at hL
  simp (disch := omega) only [t_X5_forget_25_i, t_X5_forget_26, t_X5_forget_27, t_X5_forget_30, t_X5_forget_31, t_X5_forget_32, t_X5_forget_33, t_X5_forget_34, t_X5_forget_35, ev_k_i, ev_k_r, ev_kr_1, ev_aN_y, true_and, ev_fG_3, ev_isO_3, ev_ofN, ev_lk_s h03, ev_lk_s h4, ev_isA_4, show nI 6 = 6 from rfl]
  exact hL
end CF
end
section
/-! ===== the class: askRow ===== -/
noncomputable def pg_rowd (a st : Nat) : Nat → Nat → ev_CS → ev_CS
  | 0, _, G => G
  | d + 1, i, G => pg_rowd a st d (i + 1) (pg_ask G (nI ((a + i * st) % 20)))
noncomputable def pk_rowh (a st : Nat) : Nat → Nat → ev_CS → Int32 → Int32
  | 0, _, _, s => s
  | d + 1, i, G, s => pk_rowh a st d (i + 1) (pg_ask G (nI ((a + i * st) % 20))) (s + pk_hits G.2.2.1 (nI ((a + i * st) % 20)) (nI G.2.2.2.1.2.2) 6 0 0)
theorem okG_rowd {a st : Nat} : ∀ (d i : Nat) (G : ev_CS), okG G → G.2.2.2.1.2.2 + d ≤ 60 → okG (pg_rowd a st d i G) := by
  intro d
  induction d with
  | zero => intro i G h _; exact h
  | succ d ih =>
    intro i G h hc
    exact ih (i + 1) _ (okG_ask h (okL_key (Nat.mod_lt _ (by omega))) (by omega)) (by show G.2.2.2.1.2.2 + 1 + d ≤ 60; omega)
section CR2
variable {X : ev_E} {x : Nat} {n q : Nat} {P : ev_O → ev_M → Nat → Nat → Prop}
theorem C_rowLoop {a st mn : Nat} (ha : a < 20) (hs : st < 20) (hmn : mn ≤ 12) : ∀ (d i : Nat) (s : Int32) (G : ev_CS) (H : ev_M), i + d = mn → c_all x G H → okG G → G.2.2.2.1.2.2 + d ≤ 60 →
    (∀ H1, c_all x (pg_rowd a st d i G) H1 → c_fr x H H1 → P (.inl (some (.int (pk_rowh a st d i G s)))) H1 n q) → ev_ok (ev_TT X) 264 56 [.ref x, .int (nI a), .int (nI st), .int (nI mn), .int s, .int (nI i)] [] H n q P := by
  intro d
  induction d with
  | zero =>
    intro i s G H hi hc hG h60 c
    have hi2 : mn ≤ i := by omega
    simp (disch := omega) only [t_X5_askRow_56, t_X5_askRow_58, t_X5_askRow_59, t_X5_askRow_86, t_X5_askRow_88, ↓reduceIte, nI_leI, hi2]
    exact c H hc (fun a _ => rfl)
  | succ d ih =>
    intro i s G H hi hc hG h60 c
    have hi2 : ¬ mn ≤ i := by omega
    have hk := c_all_k (X := X) hc
    have hm : i * st ≤ 12 * 20 := Nat.mul_le_mul (by omega) (by omega)
    have hrem : nI (a + i * st) - nI (a + i * st) / 20 * 20 = nI ((a + i * st) % 20) := pk_rem (d := 20) (by omega) (by omega) (by omega)
    have h20 : ¬ (20 : Int32) = 0 := by decide
    rw [t_X5_askRow_56]
    simp (disch := omega) only [t_X5_askRow_58, t_X5_askRow_59, t_X5_askRow_62, t_X5_askRow_64, t_X5_askRow_65, t_X5_askRow_66, t_X5_askRow_68, t_X5_askRow_69, t_X5_askRow_70, t_X5_askRow_71, t_X5_askRow_73, t_X5_askRow_74, ↓reduceIte, true_and, not_false_eq_true, nI_leI, hi2, pk_mul, nI_add, hrem, h20, hk]
    refine C_askOne hc hG (okL_key (Nat.mod_lt _ (by omega))) (by omega) fun H1 g1 g2 => ?_
    simp (disch := omega) only [t_X5_askRow_77, t_X5_askRow_78, t_X5_askRow_80, t_X5_askRow_83, ev_k_i, ev_kr_1, nI_1]
    exact ih (i + 1) _ _ H1 (by omega) g1 (okG_ask hG (okL_key (Nat.mod_lt _ (by omega))) (by omega)) (by show G.2.2.2.1.2.2 + 1 + d ≤ 60; omega) (fun H2 h1 h2 => c H2 h1 (fun a ha => (h2 a ha).trans (g2 a ha)))
end CR2
end
section
/-! ===== the class: askRow whole ===== -/
section CR3
variable {X : ev_E} {x : Nat} {G : ev_CS} {H : ev_M} {n q : Nat} {P : ev_O → ev_M → Nat → Nat → Prop}
theorem ev_mn (v : Int32) : (v < 1 ∨ 12 < v) ∨ ∃ j, j < 12 ∧ v = nI (j + 1) := by
  rcases pk_ix v (n := 13) (by omega) with h | h | ⟨j, hj, rfl⟩
  · exact Or.inl (Or.inl (Int32.lt_of_lt_of_le h (by decide)))
  · exact Or.inl (Or.inr (Int32.lt_of_lt_of_le (show (12 : Int32) < nI 13 by decide) h))
  · by_cases h0 : j = 0
    · subst h0
      exact Or.inl (Or.inl (by decide))
    · exact Or.inr ⟨j - 1, by omega, by rw [show j - 1 + 1 = j by omega]⟩
theorem C_askRow (hc : c_all x G H) (hG : okG G) {f st mn : Int32} (k1 : ((f < 0 ∨ nI 20 ≤ f) ∨ (st < 0 ∨ nI 20 ≤ st) ∨ (mn < 1 ∨ 12 < mn)) → P (.inr 1) H (n + 1) (q + 6))
    (k2 : ∀ a b c, a < 20 → f = nI a → b < 20 → st = nI b → c < 12 → mn = nI (c + 1) → 60 < G.2.2.2.1.2.2 + (c + 1) → P (.inr 2) H (n + 1) (q + 6))
    (k3 : ∀ a b c, a < 20 → f = nI a → b < 20 → st = nI b → c < 12 → mn = nI (c + 1) → G.2.2.2.1.2.2 + (c + 1) ≤ 60 → ∀ H1, c_all x (pg_rowd a b (c + 1) 0 G) H1 → c_fr x H H1 → P (.inl (some (.int (pk_rowh a b (c + 1) 0 G 0)))) H1 n q) : ev_ok (ev_TT X) 264 0 [.ref x, .int f, .int st, .int mn, ev_J, ev_J] [] H n q P := by
  have hk := c_all_k (X := X) hc
  rcases pk_ix f (n := 20) (by omega) with h | h | ⟨a, ha, rfl⟩
  · simp (disch := omega) only [t_X5_askRow_0, t_X5_askRow_1, x_X5_askRow_1, C_dKey_n (Or.inl h)]
    exact k1 (Or.inl (Or.inl h))
  · simp (disch := omega) only [t_X5_askRow_0, t_X5_askRow_1, x_X5_askRow_1, C_dKey_n (Or.inr h)]
    exact k1 (Or.inl (Or.inr h))
  · rcases pk_ix st (n := 20) (by omega) with h | h | ⟨b, hb, rfl⟩
    · simp (disch := omega) only [t_X5_askRow_0, t_X5_askRow_1, t_X5_askRow_4, t_X5_askRow_5, t_X5_askRow_14, ↓reduceIte, ev_kr_0, C_dKey_y ha, h]
      exact k1 (Or.inr (Or.inl (Or.inl h)))
    · have h0 : ¬ st < 0 := fun z => Int32.not_le.mpr z (Int32.le_trans (by decide) h)
      have h1 : ¬ st < 20 := Int32.not_lt.mpr h
      simp (disch := omega) only [t_X5_askRow_0, t_X5_askRow_1, t_X5_askRow_4, t_X5_askRow_5, t_X5_askRow_8, t_X5_askRow_9, t_X5_askRow_11, t_X5_askRow_14, ↓reduceIte, ev_kr_0, C_dKey_y ha, h0, h1]
      exact k1 (Or.inr (Or.inl (Or.inr h)))
    · have hb0 := nI_pos (n := b) (by omega)
      have hb1 : nI b < 20 := nI_lt (b := 20) hb (by omega)
      rcases ev_mn mn with h | ⟨c, hc12, rfl⟩
      · by_cases h0 : mn < 1
        · simp (disch := omega) only [t_X5_askRow_0, t_X5_askRow_1, t_X5_askRow_4, t_X5_askRow_5, t_X5_askRow_8, t_X5_askRow_9, t_X5_askRow_11, t_X5_askRow_24, t_X5_askRow_25, t_X5_askRow_26, t_X5_askRow_35, ↓reduceIte, ev_kr_0, C_dKey_y ha, hb0, hb1, h0]
          exact k1 (Or.inr (Or.inr h))
        · have h1 : ¬ mn ≤ 12 := Int32.not_le.mpr (h.resolve_left h0)
          simp (disch := omega) only [t_X5_askRow_0, t_X5_askRow_1, t_X5_askRow_4, t_X5_askRow_5, t_X5_askRow_8, t_X5_askRow_9, t_X5_askRow_11, t_X5_askRow_24, t_X5_askRow_25, t_X5_askRow_26, t_X5_askRow_29, t_X5_askRow_30, t_X5_askRow_32, t_X5_askRow_35, ↓reduceIte, ev_kr_0, C_dKey_y ha, hb0, hb1, h0, h1]
          exact k1 (Or.inr (Or.inr h))
      · have hc0 : ¬ nI (c + 1) < 1 := nI_nlt (b := 1) (by omega) (by omega)
        have hc1 : nI (c + 1) ≤ 12 := nI_le (b := 12) (by omega) (by omega)
        by_cases hf : G.2.2.2.1.2.2 + (c + 1) ≤ 60
        · simp (disch := omega) only [t_X5_askRow_0, t_X5_askRow_1, t_X5_askRow_4, t_X5_askRow_5, t_X5_askRow_8, t_X5_askRow_9, t_X5_askRow_11, t_X5_askRow_24, t_X5_askRow_25, t_X5_askRow_26, t_X5_askRow_29, t_X5_askRow_30, t_X5_askRow_32, t_X5_askRow_45, t_X5_askRow_46, t_X5_askRow_47, t_X5_askRow_50, t_X5_askRow_51, t_X5_askRow_53, t_X5_askRow_54, ↓reduceIte, ev_k_i, ev_kr_0, true_and, hk, C_dKey_y ha, hb0, hb1, hc0, hc1, C_room_y hc hf]
          have hL := C_rowLoop (X := X) (x := x) (n := n) (q := q) (P := P) ha hb (show c + 1 ≤ 12 by omega) (c + 1) 0 0 G H (by omega) hc hG hf (k3 a b c ha rfl hb rfl hc12 rfl hf)
          rw [nI_0] at hL
          exact hL
        · simp (disch := omega) only [t_X5_askRow_0, t_X5_askRow_1, t_X5_askRow_4, t_X5_askRow_5, t_X5_askRow_8, t_X5_askRow_9, t_X5_askRow_11, t_X5_askRow_24, t_X5_askRow_25, t_X5_askRow_26, t_X5_askRow_29, t_X5_askRow_30, t_X5_askRow_32, t_X5_askRow_45, t_X5_askRow_46, t_X5_askRow_47, x_X5_askRow_47, ↓reduceIte, ev_kr_0, true_and, hk, C_dKey_y ha, hb0, hb1, hc0, hc1, C_room_n hc hG (show 60 < G.2.2.2.1.2.2 + (c + 1) by omega) (show c + 1 ≤ 100 by omega)]
          exact k2 a b c ha rfl hb rfl hc12 rfl (by omega)
end CR3
end
section
/-! ===== the class: askedAt, depthAt ===== -/
section CU
variable {X : ev_E} {x : Nat} {G : ev_CS} {H : ev_M} {n q : Nat} {P : ev_O → ev_M → Nat → Nat → Prop}
theorem C_askedAt (hc : c_all x G H) (hG : okG G) {p : Int32} (k0 : ¬ (0 ≤ p ∧ p < nI G.2.2.2.1.2.2) → P (.inl (some (.int (-1)))) H n q) (k1 : ∀ j, j < G.2.2.2.1.2.2 → p = nI j → P (.inl (some (.int (G.2.2.2.1.1 j)))) H n q) : ev_ok (ev_TT X) 100 0 [.ref x, .int p] [] H n q P := by
  have h0 := hc.1
  unfold c_top at h0
  have ha0 := c_ask0 hc
  have ha1 := c_ask1 hc
  have h6 := hG.2.2.2
  have hak : ev_isK (ev_lk X H (x + 2)) 5 = True := by rw [ev_lk_s ha0]; exact ev_isK_y
  obtain ⟨ne, hk1, hn1, hH, hN⟩ := hc.2.2.1
  simp (disch := omega) only [t_X5_askedAt_0, t_X5_askedAt_1, t_X5_askedAt_4, t_X5_askedAt_5, true_and, ev_fG_1, ev_isO_1, ev_lk_s h0, hak]
  rw [hH]
  refine A_isNum h6 ?_
  rw [← hH]
  unfold ev_b
  by_cases e : 0 ≤ p ∧ p < nI G.2.2.2.1.2.2
  · rw [if_pos e]
    obtain ⟨j, hj, rfl⟩ := (ev_pl (by omega)).mp e
    have hp := nI_pos' (n := j) (by omega)
    have h60 : j < 60 := by omega
    simp (disch := omega) only [t_X5_askedAt_8, t_X5_askedAt_11, t_X5_askedAt_12, t_X5_askedAt_15, t_X5_askedAt_18, t_X5_askedAt_19, t_X5_askedAt_20, t_X5_askedAt_24, ↓reduceIte, ev_kr_1, ev_aG_y, ev_inA_0, and_true, true_and, ev_fG_0, ev_fG_1, ev_isO_0, ev_isO_1, ev_z2, ev_lk_s h0, ev_lk_s ha0, ev_lk_s ha1, nI_clamp, hp, h60]
    exact k1 j hj rfl
  · rw [if_neg e]
    simp (disch := omega) only [t_X5_askedAt_8, t_X5_askedAt_23, t_X5_askedAt_24, ↓reduceIte, ev_kr_1]
    exact k0 e
theorem C_depthAt (hc : c_all x G H) (hG : okG G) {p : Int32} (k0 : ¬ (0 ≤ p ∧ p < nI G.2.2.2.1.2.2) → P (.inl (some (.int (-1)))) H n q) (k1 : ∀ j, j < G.2.2.2.1.2.2 → p = nI j → P (.inl (some (.int (G.2.2.2.1.2.1 j)))) H n q) : ev_ok (ev_TT X) 102 0 [.ref x, .int p] [] H n q P := by
  have h0 := hc.1
  unfold c_top at h0
  have ha0 := c_ask0 hc
  have ha1 := c_ask2 hc
  have h6 := hG.2.2.2
  have hak : ev_isK (ev_lk X H (x + 2)) 5 = True := by rw [ev_lk_s ha0]; exact ev_isK_y
  obtain ⟨ne, hk1, hn1, hH, hN⟩ := hc.2.2.1
  simp (disch := omega) only [t_X5_depthAt_0, t_X5_depthAt_1, t_X5_depthAt_4, t_X5_depthAt_5, true_and, ev_fG_1, ev_isO_1, ev_lk_s h0, hak]
  rw [hH]
  refine A_isNum h6 ?_
  rw [← hH]
  unfold ev_b
  by_cases e : 0 ≤ p ∧ p < nI G.2.2.2.1.2.2
  · rw [if_pos e]
    obtain ⟨j, hj, rfl⟩ := (ev_pl (by omega)).mp e
    have hp := nI_pos' (n := j) (by omega)
    have h60 : j < 60 := by omega
    simp (disch := omega) only [t_X5_depthAt_8, t_X5_depthAt_11, t_X5_depthAt_12, t_X5_depthAt_15, t_X5_depthAt_18, t_X5_depthAt_19, t_X5_depthAt_20, t_X5_depthAt_24, ↓reduceIte, ev_kr_1, ev_aG_y, ev_inA_0, and_true, true_and, ev_fG_1, ev_isO_1, ev_z2, ev_lk_s h0, ev_lk_s ha0, ev_lk_s ha1, nI_clamp, hp, h60]
    exact k1 j hj rfl
  · rw [if_neg e]
    simp (disch := omega) only [t_X5_depthAt_8, t_X5_depthAt_23, t_X5_depthAt_24, ↓reduceIte, ev_kr_1]
    exact k0 e
end CU
end
