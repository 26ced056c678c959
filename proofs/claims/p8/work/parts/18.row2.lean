/-! ===== a row as a list of pairs ===== -/
abbrev ev_PL : Type := List (Int32 × Int32)
def ev_RL (kf vf : Nat → Int32) (L : ev_PL) : Prop := ∀ (i : Nat) (x : Int32 × Int32), L[i]? = some x → kf i = x.1 ∧ vf i = x.2
/-- the heap h, with the row of these pairs at r -/
def ev_rL (h : ev_M) (r : Nat) (L : ev_PL) (b m lm ll : Int32) (H : ev_M) : Prop := ∃ kf vf : Nat → Int32, ev_RL kf vf L ∧ H = ev_row h r kf vf L.length b m lm ll
def pf_find (L : ev_PL) (k : Int32) : Option Nat := L.findIdx? (fun x => decide (x.1 = k))
def pf_place (L : ev_PL) (k : Int32) : Int32 := match pf_find L k with
  | none => -1
  | some j => nI j
def pf_at (L : ev_PL) (j : Nat) : Int32 × Int32 := L.getD j (0, 0)
def pr_above (m : Int32) (c : Nat) : Prop := ¬ (m = -1 ∨ nI c ≤ m)
def pr_ask (L : ev_PL) (b : Int32) (j : Nat) : ev_PL := if b = 0 then L else L.eraseIdx j ++ [pf_at L j]
theorem ev_RL_at {kf vf : Nat → Int32} {L : ev_PL} (h : ev_RL kf vf L) {j : Nat} (hj : j < L.length) : kf j = (pf_at L j).1 ∧ vf j = (pf_at L j).2 := by
  have e : L[j]? = some L[j] := List.getElem?_eq_getElem hj
  have := h j _ e
  unfold pf_at
  rw [List.getD_eq_getElem?_getD, e]
  exact this
theorem ev_RL_app {kf vf : Nat → Int32} {L : ev_PL} (h : ev_RL kf vf L) (k v : Int32) : ev_RL (ev_fu kf L.length k) (ev_fu vf L.length v) (L ++ [(k, v)]) := by
  intro i x hx
  unfold ev_fu
  by_cases e : i = L.length
  · subst e
    rw [List.getElem?_append_right (Nat.le_refl _), Nat.sub_self] at hx
    cases hx
    rw [if_pos rfl, if_pos rfl]
    exact ⟨rfl, rfl⟩
  · rw [if_neg e, if_neg e]
    by_cases e2 : i < L.length
    · rw [List.getElem?_append_left e2] at hx
      exact h i x hx
    · rw [List.getElem?_append_right (by omega)] at hx
      have := (List.getElem?_eq_some_iff.mp hx).1
      simp only [List.length_cons, List.length_nil] at this
      omega
theorem ev_RL_set {kf vf : Nat → Int32} {L : ev_PL} (h : ev_RL kf vf L) {j : Nat} (hj : j < L.length) (v : Int32) : ev_RL kf (ev_fu vf j v) (L.set j ((pf_at L j).1, v)) := by
  intro i x hx
  unfold ev_fu
  by_cases e : i = j
  · subst e
    rw [List.getElem?_set_self hj] at hx
    cases hx
    rw [if_pos rfl]
    exact ⟨(ev_RL_at h hj).1, rfl⟩
  · rw [if_neg e]
    rw [List.getElem?_set_ne (Ne.symm e)] at hx
    exact h i x hx
theorem ev_RL_del {kf vf : Nat → Int32} {L : ev_PL} (h : ev_RL kf vf L) {j c : Nat} (hc : L.length = c + 1) (hj : j ≤ c) : ev_RL (ev_dr kf j c) (ev_dr vf j c) (L.eraseIdx j) := by
  intro i x hx
  have hi := (List.getElem?_eq_some_iff.mp hx).1
  rw [List.length_eraseIdx, hc, if_pos (by omega)] at hi
  rw [List.getElem?_eraseIdx] at hx
  unfold ev_dr
  by_cases e : i < j
  · rw [if_pos e] at hx
    rw [if_neg (by omega), if_neg (by omega)]
    exact h i x hx
  · rw [if_neg e] at hx
    rw [if_pos (by omega), if_pos (by omega)]
    exact h (i + 1) x hx
theorem pf_find_n {L : ev_PL} {k : Int32} (e : pf_find L k = none) {kf vf : Nat → Int32} (h : ev_RL kf vf L) : ∀ i, i < L.length → ¬ kf i = k := by
  intro i hi
  unfold pf_find at e
  rw [List.findIdx?_eq_none_iff] at e
  have h1 := e L[i] (List.getElem_mem hi)
  rw [(h i _ (List.getElem?_eq_getElem hi)).1]
  exact of_decide_eq_false h1
theorem pf_find_s {L : ev_PL} {k : Int32} {j : Nat} (e : pf_find L k = some j) : ∃ hj : j < L.length, L[j].1 = k ∧ ∀ i, ∀ hi : i < j, ¬ (L[i]'(by omega)).1 = k := by
  unfold pf_find at e
  rw [List.findIdx?_eq_some_iff_getElem] at e
  obtain ⟨hj, h1, h2⟩ := e
  exact ⟨hj, of_decide_eq_true h1, fun i hi hk => h2 i hi (decide_eq_true hk)⟩
theorem pf_find_y {L : ev_PL} {k : Int32} {j : Nat} (e : pf_find L k = some j) {kf vf : Nat → Int32} (h : ev_RL kf vf L) : j < L.length ∧ kf j = k ∧ ∀ i, i < j → ¬ kf i = k := by
  obtain ⟨hj, h1, h2⟩ := pf_find_s e
  refine ⟨hj, (h j _ (List.getElem?_eq_getElem hj)).1.trans h1, fun i hi => ?_⟩
  rw [(h i _ (List.getElem?_eq_getElem (by omega))).1]
  exact h2 i hi
section RL
variable {X : ev_E} {h H : ev_M} {r : Nat} {L : ev_PL} {b m lm ll : Int32} {n q : Nat} {P : ev_O → ev_M → Nat → Nat → Prop}
theorem R_find (hH : ev_rL h r L b m lm ll H) (hc : L.length ≤ 20) {x : Int32} (k : P (.inl (some (.int (pf_place L x)))) H n q) : ev_ok (ev_TT X) 36 0 [.ref r, .int x, ev_J] [] H n q P := by
  obtain ⟨kf, vf, hR, rfl⟩ := hH
  unfold pf_place at k
  rcases e : pf_find L x with _ | j
  · rw [e] at k
    exact (r_find_n hc (pf_find_n e hR)).mpr k
  · rw [e] at k
    obtain ⟨h1, h2, h3⟩ := pf_find_y e hR
    exact (r_find_y hc h1 h2 h3).mpr k
theorem R_isPlace (hH : ev_rL h r L b m lm ll H) (hc : L.length ≤ 20) {x : Int32} (k : P (.inl (some (.int (ev_b (0 ≤ x ∧ x < nI L.length))))) H n q) : ev_ok (ev_TT X) 39 0 [.ref r, .int x] [] H n q P := by
  obtain ⟨kf, vf, hR, rfl⟩ := hH
  unfold ev_b at k
  by_cases e : 0 ≤ x ∧ x < nI L.length
  · rw [if_pos e] at k
    obtain ⟨j, hj, rfl⟩ := (ev_pl (by omega)).mp e
    exact (r_isPlace_y hc hj).mpr k
  · rw [if_neg e] at k
    exact (r_isPlace_n e).mpr k
theorem R_abm (hH : ev_rL h r L b m lm ll H) (k : P (.inl (some (.int (@ev_b (pr_above m L.length) (Classical.propDecidable _))))) H n q) : ev_ok (ev_TT X) 38 0 [.ref r] [] H n q P := by
  obtain ⟨kf, vf, hR, rfl⟩ := hH
  unfold ev_b pr_above at k
  by_cases e : m = -1 ∨ nI L.length ≤ m
  · rw [if_neg (fun z => z e)] at k
    exact (r_abm_n e).mpr k
  · rw [if_pos e] at k
    rw [not_or] at e
    exact (r_abm_y e.1 (Int32.not_le.mp e.2)).mpr k
theorem R_renew (hH : ev_rL h r L b m lm ll H) {b1 m1 : Int32} (hb : ev_isB b1) (k : ∀ H1, ev_rL h r [] b1 m1 0 (-1) H1 → P (.inl (some (.int (nI L.length)))) H1 n q) : ev_ok (ev_TT X) 95 0 [.ref r, .int b1, .int m1] [] H n q P := by
  obtain ⟨kf, vf, hR, rfl⟩ := hH
  exact (r_renew hb).mpr (k _ ⟨kf, vf, fun i x hx => by simp at hx, rfl⟩)
theorem R_dropAll (hH : ev_rL h r L b m lm ll H) (k : ∀ H1, ev_rL h r [] b m lm ll H1 → P (.inl (some (.int (nI L.length)))) H1 n q) : ev_ok (ev_TT X) 35 0 [.ref r, ev_J] [] H n q P := by
  obtain ⟨kf, vf, hR, rfl⟩ := hH
  exact r_dropAll.mpr (k _ ⟨kf, vf, fun i x hx => by simp at hx, rfl⟩)
theorem R_chg (hH : ev_rL h r L b m lm ll H) (hc : L.length ≤ 20) {j : Nat} (hj : j < L.length) {v : Int32} (k : ∀ H1, ev_rL h r (L.set j ((pf_at L j).1, v)) b m lm ll H1 → P (.inl (some (.int (pf_at L j).2))) H1 n q) : ev_ok (ev_TT X) 92 0 [.ref r, .int (nI j), .int v, ev_J] [] H n q P := by
  obtain ⟨kf, vf, hR, rfl⟩ := hH
  refine (r_chg hc hj).mpr ?_
  rw [(ev_RL_at hR hj).2]
  exact k _ ⟨kf, _, ev_RL_set hR hj v, by rw [List.length_set]⟩
theorem R_app (hH : ev_rL h r L b m lm ll H) (hc : L.length < 20) {x v : Int32} (k : ∀ H1, ev_rL h r (L ++ [(x, v)]) b m lm ll H1 → P (.inl none) H1 n q) : ev_ok (ev_TT X) 34 0 [.ref r, .int x, .int v] [] H n q P := by
  obtain ⟨kf, vf, hR, rfl⟩ := hH
  refine (r_app hc).mpr (k _ ⟨_, _, ev_RL_app hR x v, ?_⟩)
  rw [List.length_append]
  rfl
theorem R_dropAt (hH : ev_rL h r L b m lm ll H) (hc : L.length ≤ 20) {j : Nat} (hj : j < L.length) (k : ∀ H1, ev_rL h r (L.eraseIdx j) b m lm ll H1 → P (.inl none) H1 n q) : ev_ok (ev_TT X) 93 0 [.ref r, .int (nI j), ev_J] [] H n q P := by
  obtain ⟨kf, vf, hR, rfl⟩ := hH
  obtain ⟨c, hL⟩ : ∃ c, L.length = c + 1 := ⟨L.length - 1, by omega⟩
  rw [hL]
  refine (r_dropAt (show c < 20 by omega) (show j ≤ c by omega)).mpr (k _ ⟨_, _, ev_RL_del hR hL (by omega), ?_⟩)
  rw [List.length_eraseIdx, if_pos hj, hL]
  rfl
noncomputable def pr_take (L : ev_PL) (m lm ll x v : Int32) : ev_PL × Int32 × Int32 := @ite _ (pr_above m (L.length + 1)) (Classical.propDecidable _) ((L ++ [(x, v)]).eraseIdx 0, lm + 1, (pf_at (L ++ [(x, v)]) 0).1) (L ++ [(x, v)], lm, ll)
theorem ev_z0 : (0 : Int32).toNatClampNeg = 0 := rfl
theorem ev_z1 : ((0 : Int32) ≤ 0) = True := eq_true (by decide)
theorem ev_z2 : ((1 : Int32) = 0) = False := eq_false (by decide)
theorem ev_rL_k (hH : ev_rL h r L b m lm ll H) : ev_isK (ev_lk X H r) 7 = True := by
  obtain ⟨kf, vf, hR, rfl⟩ := hH
  rw [ev_row_l0]
  exact ev_isK_y
theorem ev_rL_b (hH : ev_rL h r L b m lm ll H) : (ev_isO (ev_lk X H r) 7 3 = True ∧ ev_fG (ev_lk X H r) 3 = .int b) ∧ (ev_isO (ev_lk X H r) 7 2 = True ∧ ev_fG (ev_lk X H r) 2 = .int (nI L.length)) ∧ (ev_isO (ev_lk X H r) 7 4 = True ∧ ev_fG (ev_lk X H r) 4 = .int m) ∧ (ev_isO (ev_lk X H r) 7 5 = True ∧ ev_fG (ev_lk X H r) 5 = .int lm) ∧ ev_isO (ev_lk X H r) 7 6 = True ∧ ev_fG (ev_lk X H r) 6 = .int ll := by
  obtain ⟨kf, vf, hR, rfl⟩ := hH
  rw [ev_row_l0]
  exact ⟨⟨ev_isO_3, rfl⟩, ⟨ev_isO_2, rfl⟩, ⟨ev_isO_4, rfl⟩, ⟨ev_isO_5, rfl⟩, ev_isO_6, rfl⟩
section RX
variable {kf vf : Nat → Int32} {c : Nat}
theorem r_takeIn_n {x v : Int32} (hc : c < 20) (hm : m = -1 ∨ nI (c + 1) ≤ m) : ev_ok (ev_TT X) 144 0 [.ref r, .int x, .int v] [] (ev_row h r kf vf c b m lm ll) n q P ↔ P (.inl none) (ev_row h r (ev_fu kf c x) (ev_fu vf c v) (c + 1) b m lm ll) n q := by
  simp (disch := omega) only [t_X2_takeIn_0, t_X2_takeIn_1, t_X2_takeIn_2, t_X2_takeIn_3, t_X2_takeIn_6, t_X2_takeIn_7, t_X2_takeIn_10, t_X2_takeIn_13, t_X2_takeIn_14, t_X2_takeIn_14_i, t_X2_takeIn_15, t_X2_takeIn_18, t_X2_takeIn_19, t_X2_takeIn_20, t_X2_takeIn_23, t_X2_takeIn_24, t_X2_takeIn_25, t_X2_takeIn_28, t_X2_takeIn_29, t_X2_takeIn_30, t_X2_takeIn_33, t_X2_takeIn_34, t_X2_takeIn_35, t_X2_takeIn_38, ↓reduceIte, ev_k_i, ev_k_r, ev_k_l, ev_k_J, ev_k_n, ev_kr_1, ev_kr_0, ev_isK_y, ev_aG_y, ev_aS_y, ev_aN_y, ev_inA_0, ev_isA_0, ev_ft_I, ev_ft_0, ev_ft_1, ev_ft_o, ev_ft_a, ev_nb_0, ev_nb_1, and_true, true_and, if_true, if_false, not_true_eq_false, not_false_eq_true, nI_1, ev_fG_0, ev_fG_1, ev_fG_2, ev_fG_3, ev_fG_4, ev_fG_5, ev_fG_6, ev_fG_7, ev_fG_8, ev_fS_0, ev_fS_1, ev_fS_2, ev_fS_3, ev_fS_4, ev_fS_5, ev_fS_6, ev_fS_7, ev_fS_8, ev_isO_0, ev_isO_1, ev_isO_2, ev_isO_3, ev_isO_4, ev_isO_5, ev_isO_6, ev_isO_7, ev_isO_8, ev_row_0, ev_row_1, ev_row_2, ev_row_l0, ev_row_l1, ev_row_l2, ev_row_u0, ev_row_u1, ev_row_u2, r_app hc, r_abm_n (c := c + 1) hm, ev_z0, ev_z1, ev_z2, eq_self]
theorem r_takeIn_y {x v : Int32} (hc : c < 20) (h1 : ¬ m = -1) (h2 : m < nI (c + 1)) : ev_ok (ev_TT X) 144 0 [.ref r, .int x, .int v] [] (ev_row h r kf vf c b m lm ll) n q P ↔ P (.inl none) (ev_row h r (ev_dr (ev_fu kf c x) 0 c) (ev_dr (ev_fu vf c v) 0 c) c b m (lm + 1) (ev_fu kf c x 0)) n q := by
  have hd : ∀ {kf vf : Nat → Int32} {b m lm ll : Int32} {P : ev_O → ev_M → Nat → Nat → Prop}, ev_ok (ev_TT X) 93 0 [.ref r, .int 0, ev_J] [] (ev_row h r kf vf (c + 1) b m lm ll) n q P ↔ P (.inl none) (ev_row h r (ev_dr kf 0 c) (ev_dr vf 0 c) c b m lm ll) n q := r_dropAt (j := 0) hc (Nat.zero_le c)
  simp (disch := omega) only [t_X2_takeIn_0, t_X2_takeIn_1, t_X2_takeIn_2, t_X2_takeIn_3, t_X2_takeIn_6, t_X2_takeIn_7, t_X2_takeIn_10, t_X2_takeIn_13, t_X2_takeIn_14, t_X2_takeIn_14_i, t_X2_takeIn_15, t_X2_takeIn_18, t_X2_takeIn_19, t_X2_takeIn_20, t_X2_takeIn_23, t_X2_takeIn_24, t_X2_takeIn_25, t_X2_takeIn_28, t_X2_takeIn_29, t_X2_takeIn_30, t_X2_takeIn_33, t_X2_takeIn_34, t_X2_takeIn_35, t_X2_takeIn_38, ↓reduceIte, ev_k_i, ev_k_r, ev_k_l, ev_k_J, ev_k_n, ev_kr_1, ev_kr_0, ev_isK_y, ev_aG_y, ev_aS_y, ev_aN_y, ev_inA_0, ev_isA_0, ev_ft_I, ev_ft_0, ev_ft_1, ev_ft_o, ev_ft_a, ev_nb_0, ev_nb_1, and_true, true_and, if_true, if_false, not_true_eq_false, not_false_eq_true, nI_1, ev_fG_0, ev_fG_1, ev_fG_2, ev_fG_3, ev_fG_4, ev_fG_5, ev_fG_6, ev_fG_7, ev_fG_8, ev_fS_0, ev_fS_1, ev_fS_2, ev_fS_3, ev_fS_4, ev_fS_5, ev_fS_6, ev_fS_7, ev_fS_8, ev_isO_0, ev_isO_1, ev_isO_2, ev_isO_3, ev_isO_4, ev_isO_5, ev_isO_6, ev_isO_7, ev_isO_8, ev_row_0, ev_row_1, ev_row_2, ev_row_l0, ev_row_l1, ev_row_l2, ev_row_u0, ev_row_u1, ev_row_u2, r_app hc, r_abm_y (c := c + 1) h1 h2, hd, show (0 : Nat) < 20 from by decide, ev_z0, ev_z1, ev_z2, eq_self]
theorem r_note_0 {x : Int32} : ev_ok (ev_TT X) 143 0 [.ref r, .int x, ev_J, ev_J] [] (ev_row h r kf vf c 0 m lm ll) n q P ↔ P (.inl none) (ev_row h r kf vf c 0 m lm ll) n q := by
  simp (disch := omega) only [t_X2_noteAsking_0, t_X2_noteAsking_1, t_X2_noteAsking_4, t_X2_noteAsking_7, t_X2_noteAsking_8, t_X2_noteAsking_9, t_X2_noteAsking_12, t_X2_noteAsking_15, t_X2_noteAsking_16, t_X2_noteAsking_17, t_X2_noteAsking_20, t_X2_noteAsking_21, t_X2_noteAsking_22, t_X2_noteAsking_23, t_X2_noteAsking_24, t_X2_noteAsking_27, t_X2_noteAsking_28, t_X2_noteAsking_29, t_X2_noteAsking_30, t_X2_noteAsking_31, t_X2_noteAsking_32, t_X2_noteAsking_35, t_X2_noteAsking_36, t_X2_noteAsking_37, t_X2_noteAsking_38, t_X2_noteAsking_41, ↓reduceIte, ev_k_i, ev_k_r, ev_k_l, ev_k_J, ev_k_n, ev_kr_1, ev_kr_0, ev_isK_y, ev_aG_y, ev_aS_y, ev_aN_y, ev_inA_0, ev_isA_0, ev_ft_I, ev_ft_0, ev_ft_1, ev_ft_o, ev_ft_a, ev_nb_0, ev_nb_1, and_true, true_and, if_true, if_false, not_true_eq_false, not_false_eq_true, nI_1, ev_fG_0, ev_fG_1, ev_fG_2, ev_fG_3, ev_fG_4, ev_fG_5, ev_fG_6, ev_fG_7, ev_fG_8, ev_fS_0, ev_fS_1, ev_fS_2, ev_fS_3, ev_fS_4, ev_fS_5, ev_fS_6, ev_fS_7, ev_fS_8, ev_isO_0, ev_isO_1, ev_isO_2, ev_isO_3, ev_isO_4, ev_isO_5, ev_isO_6, ev_isO_7, ev_isO_8, ev_row_0, ev_row_1, ev_row_2, ev_row_l0, ev_row_l1, ev_row_l2, ev_row_u0, ev_row_u1, ev_row_u2, ev_z0, ev_z1, ev_z2, eq_self]
theorem r_note_1 {j : Nat} (hc : c < 20) (hj : j ≤ c) : ev_ok (ev_TT X) 143 0 [.ref r, .int (nI j), ev_J, ev_J] [] (ev_row h r kf vf (c + 1) 1 m lm ll) n q P ↔ P (.inl none) (ev_row h r (ev_fu (ev_dr kf j c) c (kf j)) (ev_fu (ev_dr vf j c) c (vf j)) (c + 1) 1 m lm ll) n q := by
  have hp := nI_pos' (n := j) (by omega)
  have h20 : j < 20 := by omega
  simp (disch := omega) only [t_X2_noteAsking_0, t_X2_noteAsking_1, t_X2_noteAsking_4, t_X2_noteAsking_7, t_X2_noteAsking_8, t_X2_noteAsking_9, t_X2_noteAsking_12, t_X2_noteAsking_15, t_X2_noteAsking_16, t_X2_noteAsking_17, t_X2_noteAsking_20, t_X2_noteAsking_21, t_X2_noteAsking_22, t_X2_noteAsking_23, t_X2_noteAsking_24, t_X2_noteAsking_27, t_X2_noteAsking_28, t_X2_noteAsking_29, t_X2_noteAsking_30, t_X2_noteAsking_31, t_X2_noteAsking_32, t_X2_noteAsking_35, t_X2_noteAsking_36, t_X2_noteAsking_37, t_X2_noteAsking_38, t_X2_noteAsking_41, ↓reduceIte, ev_k_i, ev_k_r, ev_k_l, ev_k_J, ev_k_n, ev_kr_1, ev_kr_0, ev_isK_y, ev_aG_y, ev_aS_y, ev_aN_y, ev_inA_0, ev_isA_0, ev_ft_I, ev_ft_0, ev_ft_1, ev_ft_o, ev_ft_a, ev_nb_0, ev_nb_1, and_true, true_and, if_true, if_false, not_true_eq_false, not_false_eq_true, nI_1, ev_fG_0, ev_fG_1, ev_fG_2, ev_fG_3, ev_fG_4, ev_fG_5, ev_fG_6, ev_fG_7, ev_fG_8, ev_fS_0, ev_fS_1, ev_fS_2, ev_fS_3, ev_fS_4, ev_fS_5, ev_fS_6, ev_fS_7, ev_fS_8, ev_isO_0, ev_isO_1, ev_isO_2, ev_isO_3, ev_isO_4, ev_isO_5, ev_isO_6, ev_isO_7, ev_isO_8, ev_row_0, ev_row_1, ev_row_2, ev_row_l0, ev_row_l1, ev_row_l2, ev_row_u0, ev_row_u1, ev_row_u2, r_isPlace_y (c := c + 1) (show c + 1 ≤ 20 from by omega) (show j < c + 1 from by omega), r_dropAt hc hj, r_app hc, nI_clamp, hp, h20, ev_z0, ev_z1, ev_z2, eq_self]
end RX
theorem R_takeIn (hH : ev_rL h r L b m lm ll H) (hc : L.length < 20) {x v : Int32} (k : ∀ H1, ev_rL h r (pr_take L m lm ll x v).1 b m (pr_take L m lm ll x v).2.1 (pr_take L m lm ll x v).2.2 H1 → P (.inl none) H1 n q) : ev_ok (ev_TT X) 144 0 [.ref r, .int x, .int v] [] H n q P := by
  obtain ⟨kf, vf, hR, rfl⟩ := hH
  have hA := ev_RL_app hR x v
  have hl : (L ++ [(x, v)]).length = L.length + 1 := by rw [List.length_append]; rfl
  unfold pr_take at k
  by_cases e : pr_above m (L.length + 1)
  · rw [if_pos e] at k
    unfold pr_above at e
    rw [not_or] at e
    refine (r_takeIn_y hc e.1 (Int32.not_le.mp e.2)).mpr (k _ ⟨_, _, ev_RL_del hA hl (Nat.zero_le _), ?_⟩)
    dsimp only
    rw [List.length_eraseIdx, if_pos (by omega), hl, (ev_RL_at hA (j := 0) (by omega)).1]
    rfl
  · rw [if_neg e] at k
    refine (r_takeIn_n hc (Classical.not_not.mp e)).mpr (k _ ⟨_, _, hA, ?_⟩)
    dsimp only
    rw [hl]
theorem R_note (hH : ev_rL h r L b m lm ll H) (hb : ev_isB b) (hc : L.length ≤ 20) {j : Nat} (hj : j < L.length) (k : ∀ H1, ev_rL h r (pr_ask L b j) b m lm ll H1 → P (.inl none) H1 n q) : ev_ok (ev_TT X) 143 0 [.ref r, .int (nI j), ev_J, ev_J] [] H n q P := by
  obtain ⟨kf, vf, hR, rfl⟩ := hH
  unfold pr_ask at k
  rcases hb with rfl | rfl
  · rw [if_pos rfl] at k
    exact r_note_0.mpr (k _ ⟨kf, vf, hR, rfl⟩)
  · rw [if_neg (by decide)] at k
    obtain ⟨c, hL⟩ : ∃ c, L.length = c + 1 := ⟨L.length - 1, by omega⟩
    have hD := ev_RL_del hR hL (j := j) (by omega)
    have hl : (L.eraseIdx j).length = c := by rw [List.length_eraseIdx, if_pos hj, hL]; rfl
    have hA := ev_RL_app hD (pf_at L j).1 (pf_at L j).2
    rw [hl] at hA
    have h1 := ev_RL_at hR hj
    rw [hL]
    refine (r_note_1 (show c < 20 by omega) (show j ≤ c by omega)).mpr (k _ ⟨_, _, hA, ?_⟩)
    rw [List.length_append, hl, h1.1, h1.2]
    rfl
noncomputable def pr_bring (L : ev_PL) (b m lm ll x v : Int32) : Int32 × ev_PL × Int32 × Int32 := match pf_find L x with
  | none => (-1, pr_take L m lm ll x v)
  | some j => ((pf_at L j).2, pr_ask (L.set j ((pf_at L j).1, v)) b j, lm, ll)
def pr_fetch (L : ev_PL) (b x o : Int32) : Int32 × ev_PL := match pf_find L x with
  | none => (o, L)
  | some j => ((pf_at L j).2, pr_ask L b j)
noncomputable def pr_fetchIn (L : ev_PL) (b m lm ll x v : Int32) : Int32 × ev_PL × Int32 × Int32 := match pf_find L x with
  | none => (0, pr_take L m lm ll x v)
  | some j => (1, pr_ask L b j, lm, ll)
def pr_drop (L : ev_PL) (x : Int32) : Int32 × ev_PL := match pf_find L x with
  | none => (-1, L)
  | some j => ((pf_at L j).2, L.eraseIdx j)
theorem R_bring (hH : ev_rL h r L b m lm ll H) (hb : ev_isB b) (hc : L.length ≤ 20) {x v : Int32} (hn : pf_find L x = none → L.length < 20) (k : ∀ H1, ev_rL h r (pr_bring L b m lm ll x v).2.1 b m (pr_bring L b m lm ll x v).2.2.1 (pr_bring L b m lm ll x v).2.2.2 H1 → P (.inl (some (.int (pr_bring L b m lm ll x v).1))) H1 n q) : ev_ok (ev_TT X) 195 0 [.ref r, .int x, .int v, ev_J, ev_J] [] H n q P := by
  unfold pr_bring at k
  simp (disch := omega) only [t_X2_bring_0, t_X2_bring_1, t_X2_bring_2, t_X2_bring_5, t_X2_bring_6, t_X2_bring_7, t_X2_bring_8, t_X2_bring_11, t_X2_bring_12, t_X2_bring_13, t_X2_bring_14, t_X2_bring_17, t_X2_bring_18, t_X2_bring_19, t_X2_bring_20, t_X2_bring_21, t_X2_bring_22, t_X2_bring_25, t_X2_bring_27, t_X2_bring_28, t_X2_bring_29, t_X2_bring_32, t_X2_bring_34, ↓reduceIte, ev_k_i, ev_k_r, ev_k_l, ev_k_J, ev_k_n, ev_kr_1, ev_kr_0, ev_isK_y, ev_aG_y, ev_aS_y, ev_aN_y, ev_inA_0, ev_isA_0, ev_ft_I, ev_ft_0, ev_ft_1, ev_ft_o, ev_ft_a, ev_nb_0, ev_nb_1, and_true, true_and, if_true, if_false, not_true_eq_false, not_false_eq_true, nI_1, ev_fG_0, ev_fG_1, ev_fG_2, ev_fG_3, ev_fG_4, ev_fG_5, ev_fG_6, ev_fG_7, ev_fG_8, ev_fS_0, ev_fS_1, ev_fS_2, ev_fS_3, ev_fS_4, ev_fS_5, ev_fS_6, ev_fS_7, ev_fS_8, ev_isO_0, ev_isO_1, ev_isO_2, ev_isO_3, ev_isO_4, ev_isO_5, ev_isO_6, ev_isO_7, ev_isO_8, ev_z0, ev_z1, ev_z2, eq_self, ev_rL_k hH]
  refine R_find hH hc ?_
  unfold pf_place
  rcases e : pf_find L x with _ | j
  · rw [e] at k
    simp (disch := omega) only [t_X2_bring_0, t_X2_bring_1, t_X2_bring_2, t_X2_bring_5, t_X2_bring_6, t_X2_bring_7, t_X2_bring_8, t_X2_bring_11, t_X2_bring_12, t_X2_bring_13, t_X2_bring_14, t_X2_bring_17, t_X2_bring_18, t_X2_bring_19, t_X2_bring_20, t_X2_bring_21, t_X2_bring_22, t_X2_bring_25, t_X2_bring_27, t_X2_bring_28, t_X2_bring_29, t_X2_bring_32, t_X2_bring_34, ↓reduceIte, ev_k_i, ev_k_r, ev_k_l, ev_k_J, ev_k_n, ev_kr_1, ev_kr_0, ev_isK_y, ev_aG_y, ev_aS_y, ev_aN_y, ev_inA_0, ev_isA_0, ev_ft_I, ev_ft_0, ev_ft_1, ev_ft_o, ev_ft_a, ev_nb_0, ev_nb_1, and_true, true_and, if_true, if_false, not_true_eq_false, not_false_eq_true, nI_1, ev_fG_0, ev_fG_1, ev_fG_2, ev_fG_3, ev_fG_4, ev_fG_5, ev_fG_6, ev_fG_7, ev_fG_8, ev_fS_0, ev_fS_1, ev_fS_2, ev_fS_3, ev_fS_4, ev_fS_5, ev_fS_6, ev_fS_7, ev_fS_8, ev_isO_0, ev_isO_1, ev_isO_2, ev_isO_3, ev_isO_4, ev_isO_5, ev_isO_6, ev_isO_7, ev_isO_8, ev_z0, ev_z1, ev_z2, eq_self, ev_rL_k hH]
    refine R_takeIn hH (hn e) fun H1 hH1 => ?_
    simp (disch := omega) only [t_X2_bring_0, t_X2_bring_1, t_X2_bring_2, t_X2_bring_5, t_X2_bring_6, t_X2_bring_7, t_X2_bring_8, t_X2_bring_11, t_X2_bring_12, t_X2_bring_13, t_X2_bring_14, t_X2_bring_17, t_X2_bring_18, t_X2_bring_19, t_X2_bring_20, t_X2_bring_21, t_X2_bring_22, t_X2_bring_25, t_X2_bring_27, t_X2_bring_28, t_X2_bring_29, t_X2_bring_32, t_X2_bring_34, ↓reduceIte, ev_k_i, ev_k_r, ev_k_l, ev_k_J, ev_k_n, ev_kr_1, ev_kr_0, ev_isK_y, ev_aG_y, ev_aS_y, ev_aN_y, ev_inA_0, ev_isA_0, ev_ft_I, ev_ft_0, ev_ft_1, ev_ft_o, ev_ft_a, ev_nb_0, ev_nb_1, and_true, true_and, if_true, if_false, not_true_eq_false, not_false_eq_true, nI_1, ev_fG_0, ev_fG_1, ev_fG_2, ev_fG_3, ev_fG_4, ev_fG_5, ev_fG_6, ev_fG_7, ev_fG_8, ev_fS_0, ev_fS_1, ev_fS_2, ev_fS_3, ev_fS_4, ev_fS_5, ev_fS_6, ev_fS_7, ev_fS_8, ev_isO_0, ev_isO_1, ev_isO_2, ev_isO_3, ev_isO_4, ev_isO_5, ev_isO_6, ev_isO_7, ev_isO_8, ev_z0, ev_z1, ev_z2, eq_self, ev_rL_k hH]
    exact k H1 hH1
  · rw [e] at k
    have hj := (pf_find_s e).1
    simp (disch := omega) only [t_X2_bring_0, t_X2_bring_1, t_X2_bring_2, t_X2_bring_5, t_X2_bring_6, t_X2_bring_7, t_X2_bring_8, t_X2_bring_11, t_X2_bring_12, t_X2_bring_13, t_X2_bring_14, t_X2_bring_17, t_X2_bring_18, t_X2_bring_19, t_X2_bring_20, t_X2_bring_21, t_X2_bring_22, t_X2_bring_25, t_X2_bring_27, t_X2_bring_28, t_X2_bring_29, t_X2_bring_32, t_X2_bring_34, ↓reduceIte, ev_k_i, ev_k_r, ev_k_l, ev_k_J, ev_k_n, ev_kr_1, ev_kr_0, ev_isK_y, ev_aG_y, ev_aS_y, ev_aN_y, ev_inA_0, ev_isA_0, ev_ft_I, ev_ft_0, ev_ft_1, ev_ft_o, ev_ft_a, ev_nb_0, ev_nb_1, and_true, true_and, if_true, if_false, not_true_eq_false, not_false_eq_true, nI_1, ev_fG_0, ev_fG_1, ev_fG_2, ev_fG_3, ev_fG_4, ev_fG_5, ev_fG_6, ev_fG_7, ev_fG_8, ev_fS_0, ev_fS_1, ev_fS_2, ev_fS_3, ev_fS_4, ev_fS_5, ev_fS_6, ev_fS_7, ev_fS_8, ev_isO_0, ev_isO_1, ev_isO_2, ev_isO_3, ev_isO_4, ev_isO_5, ev_isO_6, ev_isO_7, ev_isO_8, ev_z0, ev_z1, ev_z2, eq_self, ev_rL_k hH, ev_nm1]
    refine R_chg hH hc hj fun H1 hH1 => ?_
    simp (disch := omega) only [t_X2_bring_0, t_X2_bring_1, t_X2_bring_2, t_X2_bring_5, t_X2_bring_6, t_X2_bring_7, t_X2_bring_8, t_X2_bring_11, t_X2_bring_12, t_X2_bring_13, t_X2_bring_14, t_X2_bring_17, t_X2_bring_18, t_X2_bring_19, t_X2_bring_20, t_X2_bring_21, t_X2_bring_22, t_X2_bring_25, t_X2_bring_27, t_X2_bring_28, t_X2_bring_29, t_X2_bring_32, t_X2_bring_34, ↓reduceIte, ev_k_i, ev_k_r, ev_k_l, ev_k_J, ev_k_n, ev_kr_1, ev_kr_0, ev_isK_y, ev_aG_y, ev_aS_y, ev_aN_y, ev_inA_0, ev_isA_0, ev_ft_I, ev_ft_0, ev_ft_1, ev_ft_o, ev_ft_a, ev_nb_0, ev_nb_1, and_true, true_and, if_true, if_false, not_true_eq_false, not_false_eq_true, nI_1, ev_fG_0, ev_fG_1, ev_fG_2, ev_fG_3, ev_fG_4, ev_fG_5, ev_fG_6, ev_fG_7, ev_fG_8, ev_fS_0, ev_fS_1, ev_fS_2, ev_fS_3, ev_fS_4, ev_fS_5, ev_fS_6, ev_fS_7, ev_fS_8, ev_isO_0, ev_isO_1, ev_isO_2, ev_isO_3, ev_isO_4, ev_isO_5, ev_isO_6, ev_isO_7, ev_isO_8, ev_z0, ev_z1, ev_z2, eq_self, ev_rL_k hH, ev_rL_k hH1]
    refine R_note hH1 hb (by rw [List.length_set]; exact hc) (by rw [List.length_set]; exact hj) fun H2 hH2 => ?_
    simp (disch := omega) only [t_X2_bring_0, t_X2_bring_1, t_X2_bring_2, t_X2_bring_5, t_X2_bring_6, t_X2_bring_7, t_X2_bring_8, t_X2_bring_11, t_X2_bring_12, t_X2_bring_13, t_X2_bring_14, t_X2_bring_17, t_X2_bring_18, t_X2_bring_19, t_X2_bring_20, t_X2_bring_21, t_X2_bring_22, t_X2_bring_25, t_X2_bring_27, t_X2_bring_28, t_X2_bring_29, t_X2_bring_32, t_X2_bring_34, ↓reduceIte, ev_k_i, ev_k_r, ev_k_l, ev_k_J, ev_k_n, ev_kr_1, ev_kr_0, ev_isK_y, ev_aG_y, ev_aS_y, ev_aN_y, ev_inA_0, ev_isA_0, ev_ft_I, ev_ft_0, ev_ft_1, ev_ft_o, ev_ft_a, ev_nb_0, ev_nb_1, and_true, true_and, if_true, if_false, not_true_eq_false, not_false_eq_true, nI_1, ev_fG_0, ev_fG_1, ev_fG_2, ev_fG_3, ev_fG_4, ev_fG_5, ev_fG_6, ev_fG_7, ev_fG_8, ev_fS_0, ev_fS_1, ev_fS_2, ev_fS_3, ev_fS_4, ev_fS_5, ev_fS_6, ev_fS_7, ev_fS_8, ev_isO_0, ev_isO_1, ev_isO_2, ev_isO_3, ev_isO_4, ev_isO_5, ev_isO_6, ev_isO_7, ev_isO_8, ev_z0, ev_z1, ev_z2, eq_self, ev_rL_k hH]
    exact k H2 hH2
theorem R_fetch (hH : ev_rL h r L b m lm ll H) (hb : ev_isB b) (hc : L.length ≤ 20) {x o : Int32} (k : ∀ H1, ev_rL h r (pr_fetch L b x o).2 b m lm ll H1 → P (.inl (some (.int (pr_fetch L b x o).1))) H1 n q) : ev_ok (ev_TT X) 196 0 [.ref r, .int x, .int o, ev_J, ev_J] [] H n q P := by
  unfold pr_fetch at k
  simp (disch := omega) only [t_X2_fetch_0, t_X2_fetch_1, t_X2_fetch_2, t_X2_fetch_5, t_X2_fetch_6, t_X2_fetch_7, t_X2_fetch_8, t_X2_fetch_11, t_X2_fetch_12, t_X2_fetch_13, t_X2_fetch_14, t_X2_fetch_17, t_X2_fetch_18, t_X2_fetch_19, t_X2_fetch_21, t_X2_fetch_22, t_X2_fetch_23, t_X2_fetch_26, t_X2_fetch_28, ↓reduceIte, ev_k_i, ev_k_r, ev_k_l, ev_k_J, ev_k_n, ev_kr_1, ev_kr_0, ev_isK_y, ev_aG_y, ev_aS_y, ev_aN_y, ev_inA_0, ev_isA_0, ev_ft_I, ev_ft_0, ev_ft_1, ev_ft_o, ev_ft_a, ev_nb_0, ev_nb_1, and_true, true_and, if_true, if_false, not_true_eq_false, not_false_eq_true, nI_1, ev_fG_0, ev_fG_1, ev_fG_2, ev_fG_3, ev_fG_4, ev_fG_5, ev_fG_6, ev_fG_7, ev_fG_8, ev_fS_0, ev_fS_1, ev_fS_2, ev_fS_3, ev_fS_4, ev_fS_5, ev_fS_6, ev_fS_7, ev_fS_8, ev_isO_0, ev_isO_1, ev_isO_2, ev_isO_3, ev_isO_4, ev_isO_5, ev_isO_6, ev_isO_7, ev_isO_8, ev_z0, ev_z1, ev_z2, eq_self, ev_rL_k hH]
  refine R_find hH hc ?_
  unfold pf_place
  rcases e : pf_find L x with _ | j
  · rw [e] at k
    simp (disch := omega) only [t_X2_fetch_0, t_X2_fetch_1, t_X2_fetch_2, t_X2_fetch_5, t_X2_fetch_6, t_X2_fetch_7, t_X2_fetch_8, t_X2_fetch_11, t_X2_fetch_12, t_X2_fetch_13, t_X2_fetch_14, t_X2_fetch_17, t_X2_fetch_18, t_X2_fetch_19, t_X2_fetch_21, t_X2_fetch_22, t_X2_fetch_23, t_X2_fetch_26, t_X2_fetch_28, ↓reduceIte, ev_k_i, ev_k_r, ev_k_l, ev_k_J, ev_k_n, ev_kr_1, ev_kr_0, ev_isK_y, ev_aG_y, ev_aS_y, ev_aN_y, ev_inA_0, ev_isA_0, ev_ft_I, ev_ft_0, ev_ft_1, ev_ft_o, ev_ft_a, ev_nb_0, ev_nb_1, and_true, true_and, if_true, if_false, not_true_eq_false, not_false_eq_true, nI_1, ev_fG_0, ev_fG_1, ev_fG_2, ev_fG_3, ev_fG_4, ev_fG_5, ev_fG_6, ev_fG_7, ev_fG_8, ev_fS_0, ev_fS_1, ev_fS_2, ev_fS_3, ev_fS_4, ev_fS_5, ev_fS_6, ev_fS_7, ev_fS_8, ev_isO_0, ev_isO_1, ev_isO_2, ev_isO_3, ev_isO_4, ev_isO_5, ev_isO_6, ev_isO_7, ev_isO_8, ev_z0, ev_z1, ev_z2, eq_self, ev_rL_k hH]
    exact k H hH
  · rw [e] at k
    have hj := (pf_find_s e).1
    have hp := nI_pos' (n := j) (by omega)
    have h20 : j < 20 := by omega
    obtain ⟨kf, vf, hR, rfl⟩ := hH
    have h2 := (ev_RL_at hR hj).2
    have hH : ev_rL h r L b m lm ll (ev_row h r kf vf L.length b m lm ll) := ⟨kf, vf, hR, rfl⟩
    simp (disch := omega) only [t_X2_fetch_0, t_X2_fetch_1, t_X2_fetch_2, t_X2_fetch_5, t_X2_fetch_6, t_X2_fetch_7, t_X2_fetch_8, t_X2_fetch_11, t_X2_fetch_12, t_X2_fetch_13, t_X2_fetch_14, t_X2_fetch_17, t_X2_fetch_18, t_X2_fetch_19, t_X2_fetch_21, t_X2_fetch_22, t_X2_fetch_23, t_X2_fetch_26, t_X2_fetch_28, ↓reduceIte, ev_k_i, ev_k_r, ev_k_l, ev_k_J, ev_k_n, ev_kr_1, ev_kr_0, ev_isK_y, ev_aG_y, ev_aS_y, ev_aN_y, ev_inA_0, ev_isA_0, ev_ft_I, ev_ft_0, ev_ft_1, ev_ft_o, ev_ft_a, ev_nb_0, ev_nb_1, and_true, true_and, if_true, if_false, not_true_eq_false, not_false_eq_true, nI_1, ev_fG_0, ev_fG_1, ev_fG_2, ev_fG_3, ev_fG_4, ev_fG_5, ev_fG_6, ev_fG_7, ev_fG_8, ev_fS_0, ev_fS_1, ev_fS_2, ev_fS_3, ev_fS_4, ev_fS_5, ev_fS_6, ev_fS_7, ev_fS_8, ev_isO_0, ev_isO_1, ev_isO_2, ev_isO_3, ev_isO_4, ev_isO_5, ev_isO_6, ev_isO_7, ev_isO_8, ev_z0, ev_z1, ev_z2, eq_self, ev_row_0, ev_row_1, ev_row_2, ev_row_l0, ev_row_l1, ev_row_l2, ev_row_u0, ev_row_u1, ev_row_u2, ev_nm1, nI_clamp, hp, h20, h2]
    refine R_note hH hb hc hj fun H2 hH2 => ?_
    simp (disch := omega) only [t_X2_fetch_0, t_X2_fetch_1, t_X2_fetch_2, t_X2_fetch_5, t_X2_fetch_6, t_X2_fetch_7, t_X2_fetch_8, t_X2_fetch_11, t_X2_fetch_12, t_X2_fetch_13, t_X2_fetch_14, t_X2_fetch_17, t_X2_fetch_18, t_X2_fetch_19, t_X2_fetch_21, t_X2_fetch_22, t_X2_fetch_23, t_X2_fetch_26, t_X2_fetch_28, ↓reduceIte, ev_k_i, ev_k_r, ev_k_l, ev_k_J, ev_k_n, ev_kr_1, ev_kr_0, ev_isK_y, ev_aG_y, ev_aS_y, ev_aN_y, ev_inA_0, ev_isA_0, ev_ft_I, ev_ft_0, ev_ft_1, ev_ft_o, ev_ft_a, ev_nb_0, ev_nb_1, and_true, true_and, if_true, if_false, not_true_eq_false, not_false_eq_true, nI_1, ev_fG_0, ev_fG_1, ev_fG_2, ev_fG_3, ev_fG_4, ev_fG_5, ev_fG_6, ev_fG_7, ev_fG_8, ev_fS_0, ev_fS_1, ev_fS_2, ev_fS_3, ev_fS_4, ev_fS_5, ev_fS_6, ev_fS_7, ev_fS_8, ev_isO_0, ev_isO_1, ev_isO_2, ev_isO_3, ev_isO_4, ev_isO_5, ev_isO_6, ev_isO_7, ev_isO_8, ev_z0, ev_z1, ev_z2, eq_self]
    exact k H2 hH2
theorem R_fetchIn (hH : ev_rL h r L b m lm ll H) (hb : ev_isB b) (hc : L.length ≤ 20) {x v : Int32} (hn : pf_find L x = none → L.length < 20) (k : ∀ H1, ev_rL h r (pr_fetchIn L b m lm ll x v).2.1 b m (pr_fetchIn L b m lm ll x v).2.2.1 (pr_fetchIn L b m lm ll x v).2.2.2 H1 → P (.inl (some (.int (pr_fetchIn L b m lm ll x v).1))) H1 n q) : ev_ok (ev_TT X) 197 0 [.ref r, .int x, .int v, ev_J] [] H n q P := by
  unfold pr_fetchIn at k
  simp (disch := omega) only [t_X2_fetchOrTakeIn_0, t_X2_fetchOrTakeIn_1, t_X2_fetchOrTakeIn_2, t_X2_fetchOrTakeIn_5, t_X2_fetchOrTakeIn_6, t_X2_fetchOrTakeIn_7, t_X2_fetchOrTakeIn_8, t_X2_fetchOrTakeIn_11, t_X2_fetchOrTakeIn_12, t_X2_fetchOrTakeIn_13, t_X2_fetchOrTakeIn_14, t_X2_fetchOrTakeIn_17, t_X2_fetchOrTakeIn_18, t_X2_fetchOrTakeIn_19, t_X2_fetchOrTakeIn_20, t_X2_fetchOrTakeIn_21, t_X2_fetchOrTakeIn_24, t_X2_fetchOrTakeIn_25, ↓reduceIte, ev_k_i, ev_k_r, ev_k_l, ev_k_J, ev_k_n, ev_kr_1, ev_kr_0, ev_isK_y, ev_aG_y, ev_aS_y, ev_aN_y, ev_inA_0, ev_isA_0, ev_ft_I, ev_ft_0, ev_ft_1, ev_ft_o, ev_ft_a, ev_nb_0, ev_nb_1, and_true, true_and, if_true, if_false, not_true_eq_false, not_false_eq_true, nI_1, ev_fG_0, ev_fG_1, ev_fG_2, ev_fG_3, ev_fG_4, ev_fG_5, ev_fG_6, ev_fG_7, ev_fG_8, ev_fS_0, ev_fS_1, ev_fS_2, ev_fS_3, ev_fS_4, ev_fS_5, ev_fS_6, ev_fS_7, ev_fS_8, ev_isO_0, ev_isO_1, ev_isO_2, ev_isO_3, ev_isO_4, ev_isO_5, ev_isO_6, ev_isO_7, ev_isO_8, ev_z0, ev_z1, ev_z2, eq_self, ev_rL_k hH]
  refine R_find hH hc ?_
  unfold pf_place
  rcases e : pf_find L x with _ | j
  · rw [e] at k
    simp (disch := omega) only [t_X2_fetchOrTakeIn_0, t_X2_fetchOrTakeIn_1, t_X2_fetchOrTakeIn_2, t_X2_fetchOrTakeIn_5, t_X2_fetchOrTakeIn_6, t_X2_fetchOrTakeIn_7, t_X2_fetchOrTakeIn_8, t_X2_fetchOrTakeIn_11, t_X2_fetchOrTakeIn_12, t_X2_fetchOrTakeIn_13, t_X2_fetchOrTakeIn_14, t_X2_fetchOrTakeIn_17, t_X2_fetchOrTakeIn_18, t_X2_fetchOrTakeIn_19, t_X2_fetchOrTakeIn_20, t_X2_fetchOrTakeIn_21, t_X2_fetchOrTakeIn_24, t_X2_fetchOrTakeIn_25, ↓reduceIte, ev_k_i, ev_k_r, ev_k_l, ev_k_J, ev_k_n, ev_kr_1, ev_kr_0, ev_isK_y, ev_aG_y, ev_aS_y, ev_aN_y, ev_inA_0, ev_isA_0, ev_ft_I, ev_ft_0, ev_ft_1, ev_ft_o, ev_ft_a, ev_nb_0, ev_nb_1, and_true, true_and, if_true, if_false, not_true_eq_false, not_false_eq_true, nI_1, ev_fG_0, ev_fG_1, ev_fG_2, ev_fG_3, ev_fG_4, ev_fG_5, ev_fG_6, ev_fG_7, ev_fG_8, ev_fS_0, ev_fS_1, ev_fS_2, ev_fS_3, ev_fS_4, ev_fS_5, ev_fS_6, ev_fS_7, ev_fS_8, ev_isO_0, ev_isO_1, ev_isO_2, ev_isO_3, ev_isO_4, ev_isO_5, ev_isO_6, ev_isO_7, ev_isO_8, ev_z0, ev_z1, ev_z2, eq_self, ev_rL_k hH]
    refine R_takeIn hH (hn e) fun H1 hH1 => ?_
    simp (disch := omega) only [t_X2_fetchOrTakeIn_0, t_X2_fetchOrTakeIn_1, t_X2_fetchOrTakeIn_2, t_X2_fetchOrTakeIn_5, t_X2_fetchOrTakeIn_6, t_X2_fetchOrTakeIn_7, t_X2_fetchOrTakeIn_8, t_X2_fetchOrTakeIn_11, t_X2_fetchOrTakeIn_12, t_X2_fetchOrTakeIn_13, t_X2_fetchOrTakeIn_14, t_X2_fetchOrTakeIn_17, t_X2_fetchOrTakeIn_18, t_X2_fetchOrTakeIn_19, t_X2_fetchOrTakeIn_20, t_X2_fetchOrTakeIn_21, t_X2_fetchOrTakeIn_24, t_X2_fetchOrTakeIn_25, ↓reduceIte, ev_k_i, ev_k_r, ev_k_l, ev_k_J, ev_k_n, ev_kr_1, ev_kr_0, ev_isK_y, ev_aG_y, ev_aS_y, ev_aN_y, ev_inA_0, ev_isA_0, ev_ft_I, ev_ft_0, ev_ft_1, ev_ft_o, ev_ft_a, ev_nb_0, ev_nb_1, and_true, true_and, if_true, if_false, not_true_eq_false, not_false_eq_true, nI_1, ev_fG_0, ev_fG_1, ev_fG_2, ev_fG_3, ev_fG_4, ev_fG_5, ev_fG_6, ev_fG_7, ev_fG_8, ev_fS_0, ev_fS_1, ev_fS_2, ev_fS_3, ev_fS_4, ev_fS_5, ev_fS_6, ev_fS_7, ev_fS_8, ev_isO_0, ev_isO_1, ev_isO_2, ev_isO_3, ev_isO_4, ev_isO_5, ev_isO_6, ev_isO_7, ev_isO_8, ev_z0, ev_z1, ev_z2, eq_self, ev_rL_k hH]
    exact k H1 hH1
  · rw [e] at k
    have hj := (pf_find_s e).1
    simp (disch := omega) only [t_X2_fetchOrTakeIn_0, t_X2_fetchOrTakeIn_1, t_X2_fetchOrTakeIn_2, t_X2_fetchOrTakeIn_5, t_X2_fetchOrTakeIn_6, t_X2_fetchOrTakeIn_7, t_X2_fetchOrTakeIn_8, t_X2_fetchOrTakeIn_11, t_X2_fetchOrTakeIn_12, t_X2_fetchOrTakeIn_13, t_X2_fetchOrTakeIn_14, t_X2_fetchOrTakeIn_17, t_X2_fetchOrTakeIn_18, t_X2_fetchOrTakeIn_19, t_X2_fetchOrTakeIn_20, t_X2_fetchOrTakeIn_21, t_X2_fetchOrTakeIn_24, t_X2_fetchOrTakeIn_25, ↓reduceIte, ev_k_i, ev_k_r, ev_k_l, ev_k_J, ev_k_n, ev_kr_1, ev_kr_0, ev_isK_y, ev_aG_y, ev_aS_y, ev_aN_y, ev_inA_0, ev_isA_0, ev_ft_I, ev_ft_0, ev_ft_1, ev_ft_o, ev_ft_a, ev_nb_0, ev_nb_1, and_true, true_and, if_true, if_false, not_true_eq_false, not_false_eq_true, nI_1, ev_fG_0, ev_fG_1, ev_fG_2, ev_fG_3, ev_fG_4, ev_fG_5, ev_fG_6, ev_fG_7, ev_fG_8, ev_fS_0, ev_fS_1, ev_fS_2, ev_fS_3, ev_fS_4, ev_fS_5, ev_fS_6, ev_fS_7, ev_fS_8, ev_isO_0, ev_isO_1, ev_isO_2, ev_isO_3, ev_isO_4, ev_isO_5, ev_isO_6, ev_isO_7, ev_isO_8, ev_z0, ev_z1, ev_z2, eq_self, ev_rL_k hH, ev_nm1]
    refine R_note hH hb hc hj fun H2 hH2 => ?_
    simp (disch := omega) only [t_X2_fetchOrTakeIn_0, t_X2_fetchOrTakeIn_1, t_X2_fetchOrTakeIn_2, t_X2_fetchOrTakeIn_5, t_X2_fetchOrTakeIn_6, t_X2_fetchOrTakeIn_7, t_X2_fetchOrTakeIn_8, t_X2_fetchOrTakeIn_11, t_X2_fetchOrTakeIn_12, t_X2_fetchOrTakeIn_13, t_X2_fetchOrTakeIn_14, t_X2_fetchOrTakeIn_17, t_X2_fetchOrTakeIn_18, t_X2_fetchOrTakeIn_19, t_X2_fetchOrTakeIn_20, t_X2_fetchOrTakeIn_21, t_X2_fetchOrTakeIn_24, t_X2_fetchOrTakeIn_25, ↓reduceIte, ev_k_i, ev_k_r, ev_k_l, ev_k_J, ev_k_n, ev_kr_1, ev_kr_0, ev_isK_y, ev_aG_y, ev_aS_y, ev_aN_y, ev_inA_0, ev_isA_0, ev_ft_I, ev_ft_0, ev_ft_1, ev_ft_o, ev_ft_a, ev_nb_0, ev_nb_1, and_true, true_and, if_true, if_false, not_true_eq_false, not_false_eq_true, nI_1, ev_fG_0, ev_fG_1, ev_fG_2, ev_fG_3, ev_fG_4, ev_fG_5, ev_fG_6, ev_fG_7, ev_fG_8, ev_fS_0, ev_fS_1, ev_fS_2, ev_fS_3, ev_fS_4, ev_fS_5, ev_fS_6, ev_fS_7, ev_fS_8, ev_isO_0, ev_isO_1, ev_isO_2, ev_isO_3, ev_isO_4, ev_isO_5, ev_isO_6, ev_isO_7, ev_isO_8, ev_z0, ev_z1, ev_z2, eq_self, ev_rL_k hH]
    exact k H2 hH2
theorem R_dropKey (hH : ev_rL h r L b m lm ll H) (hc : L.length ≤ 20) {x : Int32} (k : ∀ H1, ev_rL h r (pr_drop L x).2 b m lm ll H1 → P (.inl (some (.int (pr_drop L x).1))) H1 n q) : ev_ok (ev_TT X) 142 0 [.ref r, .int x, ev_J, ev_J] [] H n q P := by
  unfold pr_drop at k
  simp (disch := omega) only [t_X2_dropKey_0, t_X2_dropKey_1, t_X2_dropKey_2, t_X2_dropKey_5, t_X2_dropKey_6, t_X2_dropKey_7, t_X2_dropKey_8, t_X2_dropKey_11, t_X2_dropKey_12, t_X2_dropKey_13, t_X2_dropKey_14, t_X2_dropKey_17, t_X2_dropKey_18, t_X2_dropKey_19, t_X2_dropKey_20, t_X2_dropKey_21, t_X2_dropKey_22, t_X2_dropKey_25, t_X2_dropKey_26, ↓reduceIte, ev_k_i, ev_k_r, ev_k_l, ev_k_J, ev_k_n, ev_kr_1, ev_kr_0, ev_isK_y, ev_aG_y, ev_aS_y, ev_aN_y, ev_inA_0, ev_isA_0, ev_ft_I, ev_ft_0, ev_ft_1, ev_ft_o, ev_ft_a, ev_nb_0, ev_nb_1, and_true, true_and, if_true, if_false, not_true_eq_false, not_false_eq_true, nI_1, ev_fG_0, ev_fG_1, ev_fG_2, ev_fG_3, ev_fG_4, ev_fG_5, ev_fG_6, ev_fG_7, ev_fG_8, ev_fS_0, ev_fS_1, ev_fS_2, ev_fS_3, ev_fS_4, ev_fS_5, ev_fS_6, ev_fS_7, ev_fS_8, ev_isO_0, ev_isO_1, ev_isO_2, ev_isO_3, ev_isO_4, ev_isO_5, ev_isO_6, ev_isO_7, ev_isO_8, ev_z0, ev_z1, ev_z2, eq_self, ev_rL_k hH]
  refine R_find hH hc ?_
  unfold pf_place
  rcases e : pf_find L x with _ | j
  · rw [e] at k
    simp (disch := omega) only [t_X2_dropKey_0, t_X2_dropKey_1, t_X2_dropKey_2, t_X2_dropKey_5, t_X2_dropKey_6, t_X2_dropKey_7, t_X2_dropKey_8, t_X2_dropKey_11, t_X2_dropKey_12, t_X2_dropKey_13, t_X2_dropKey_14, t_X2_dropKey_17, t_X2_dropKey_18, t_X2_dropKey_19, t_X2_dropKey_20, t_X2_dropKey_21, t_X2_dropKey_22, t_X2_dropKey_25, t_X2_dropKey_26, ↓reduceIte, ev_k_i, ev_k_r, ev_k_l, ev_k_J, ev_k_n, ev_kr_1, ev_kr_0, ev_isK_y, ev_aG_y, ev_aS_y, ev_aN_y, ev_inA_0, ev_isA_0, ev_ft_I, ev_ft_0, ev_ft_1, ev_ft_o, ev_ft_a, ev_nb_0, ev_nb_1, and_true, true_and, if_true, if_false, not_true_eq_false, not_false_eq_true, nI_1, ev_fG_0, ev_fG_1, ev_fG_2, ev_fG_3, ev_fG_4, ev_fG_5, ev_fG_6, ev_fG_7, ev_fG_8, ev_fS_0, ev_fS_1, ev_fS_2, ev_fS_3, ev_fS_4, ev_fS_5, ev_fS_6, ev_fS_7, ev_fS_8, ev_isO_0, ev_isO_1, ev_isO_2, ev_isO_3, ev_isO_4, ev_isO_5, ev_isO_6, ev_isO_7, ev_isO_8, ev_z0, ev_z1, ev_z2, eq_self, ev_rL_k hH]
    exact k H hH
  · rw [e] at k
    have hj := (pf_find_s e).1
    have hp := nI_pos' (n := j) (by omega)
    have h20 : j < 20 := by omega
    obtain ⟨kf, vf, hR, rfl⟩ := hH
    have h2 := (ev_RL_at hR hj).2
    have hH : ev_rL h r L b m lm ll (ev_row h r kf vf L.length b m lm ll) := ⟨kf, vf, hR, rfl⟩
    simp (disch := omega) only [t_X2_dropKey_0, t_X2_dropKey_1, t_X2_dropKey_2, t_X2_dropKey_5, t_X2_dropKey_6, t_X2_dropKey_7, t_X2_dropKey_8, t_X2_dropKey_11, t_X2_dropKey_12, t_X2_dropKey_13, t_X2_dropKey_14, t_X2_dropKey_17, t_X2_dropKey_18, t_X2_dropKey_19, t_X2_dropKey_20, t_X2_dropKey_21, t_X2_dropKey_22, t_X2_dropKey_25, t_X2_dropKey_26, ↓reduceIte, ev_k_i, ev_k_r, ev_k_l, ev_k_J, ev_k_n, ev_kr_1, ev_kr_0, ev_isK_y, ev_aG_y, ev_aS_y, ev_aN_y, ev_inA_0, ev_isA_0, ev_ft_I, ev_ft_0, ev_ft_1, ev_ft_o, ev_ft_a, ev_nb_0, ev_nb_1, and_true, true_and, if_true, if_false, not_true_eq_false, not_false_eq_true, nI_1, ev_fG_0, ev_fG_1, ev_fG_2, ev_fG_3, ev_fG_4, ev_fG_5, ev_fG_6, ev_fG_7, ev_fG_8, ev_fS_0, ev_fS_1, ev_fS_2, ev_fS_3, ev_fS_4, ev_fS_5, ev_fS_6, ev_fS_7, ev_fS_8, ev_isO_0, ev_isO_1, ev_isO_2, ev_isO_3, ev_isO_4, ev_isO_5, ev_isO_6, ev_isO_7, ev_isO_8, ev_z0, ev_z1, ev_z2, eq_self, ev_row_0, ev_row_1, ev_row_2, ev_row_l0, ev_row_l1, ev_row_l2, ev_row_u0, ev_row_u1, ev_row_u2, ev_nm1, nI_clamp, hp, h20, h2]
    refine R_dropAt hH hc hj fun H2 hH2 => ?_
    simp (disch := omega) only [t_X2_dropKey_0, t_X2_dropKey_1, t_X2_dropKey_2, t_X2_dropKey_5, t_X2_dropKey_6, t_X2_dropKey_7, t_X2_dropKey_8, t_X2_dropKey_11, t_X2_dropKey_12, t_X2_dropKey_13, t_X2_dropKey_14, t_X2_dropKey_17, t_X2_dropKey_18, t_X2_dropKey_19, t_X2_dropKey_20, t_X2_dropKey_21, t_X2_dropKey_22, t_X2_dropKey_25, t_X2_dropKey_26, ↓reduceIte, ev_k_i, ev_k_r, ev_k_l, ev_k_J, ev_k_n, ev_kr_1, ev_kr_0, ev_isK_y, ev_aG_y, ev_aS_y, ev_aN_y, ev_inA_0, ev_isA_0, ev_ft_I, ev_ft_0, ev_ft_1, ev_ft_o, ev_ft_a, ev_nb_0, ev_nb_1, and_true, true_and, if_true, if_false, not_true_eq_false, not_false_eq_true, nI_1, ev_fG_0, ev_fG_1, ev_fG_2, ev_fG_3, ev_fG_4, ev_fG_5, ev_fG_6, ev_fG_7, ev_fG_8, ev_fS_0, ev_fS_1, ev_fS_2, ev_fS_3, ev_fS_4, ev_fS_5, ev_fS_6, ev_fS_7, ev_fS_8, ev_isO_0, ev_isO_1, ev_isO_2, ev_isO_3, ev_isO_4, ev_isO_5, ev_isO_6, ev_isO_7, ev_isO_8, ev_z0, ev_z1, ev_z2, eq_self]
    exact k H2 hH2
noncomputable def pr_told (L : ev_PL) (p w : Int32) : Int32 := @ite _ (0 ≤ p ∧ p < nI L.length) (Classical.propDecidable _) (if w = 0 then (pf_at L p.toNatClampNeg).1 else if w = 1 then (pf_at L p.toNatClampNeg).2 else (pf_at L p.toNatClampNeg).1 * 100 + (pf_at L p.toNatClampNeg).2) (-1)
theorem R_told (hH : ev_rL h r L b m lm ll H) (hc : L.length ≤ 20) {p w : Int32} (k : P (.inl (some (.int (pr_told L p w)))) H n q) : ev_ok (ev_TT X) 96 0 [.ref r, .int p, .int w] [] H n q P := by
  unfold pr_told at k
  simp (disch := omega) only [t_X2_told_0, t_X2_told_1, t_X2_told_2, t_X2_told_5, t_X2_told_8, t_X2_told_9, t_X2_told_10, t_X2_told_11, t_X2_told_14, t_X2_told_15, t_X2_told_18, t_X2_told_19, t_X2_told_20, t_X2_told_21, t_X2_told_22, t_X2_told_23, t_X2_told_26, t_X2_told_27, t_X2_told_30, t_X2_told_31, t_X2_told_32, t_X2_told_33, t_X2_told_34, t_X2_told_37, t_X2_told_38, t_X2_told_39, t_X2_told_41, t_X2_told_42, t_X2_told_43, t_X2_told_46, t_X2_told_47, t_X2_told_48, t_X2_told_49, ↓reduceIte, ev_k_i, ev_k_r, ev_k_l, ev_k_J, ev_k_n, ev_kr_1, ev_kr_0, ev_isK_y, ev_aG_y, ev_aS_y, ev_aN_y, ev_inA_0, ev_isA_0, ev_ft_I, ev_ft_0, ev_ft_1, ev_ft_o, ev_ft_a, ev_nb_0, ev_nb_1, and_true, true_and, if_true, if_false, not_true_eq_false, not_false_eq_true, nI_1, ev_fG_0, ev_fG_1, ev_fG_2, ev_fG_3, ev_fG_4, ev_fG_5, ev_fG_6, ev_fG_7, ev_fG_8, ev_fS_0, ev_fS_1, ev_fS_2, ev_fS_3, ev_fS_4, ev_fS_5, ev_fS_6, ev_fS_7, ev_fS_8, ev_isO_0, ev_isO_1, ev_isO_2, ev_isO_3, ev_isO_4, ev_isO_5, ev_isO_6, ev_isO_7, ev_isO_8, ev_z0, ev_z1, ev_z2, eq_self, ev_rL_k hH]
  refine R_isPlace hH hc ?_
  unfold ev_b
  by_cases e : 0 ≤ p ∧ p < nI L.length
  · rw [if_pos e] at k
    obtain ⟨j, hj, rfl⟩ := (ev_pl (by omega)).mp e
    rw [if_pos e]
    have hp := nI_pos' (n := j) (by omega)
    have h20 : j < 20 := by omega
    rw [nI_clamp (n := j) (by omega)] at k
    obtain ⟨kf, vf, hR, rfl⟩ := hH
    have h1 := (ev_RL_at hR hj).1
    have h2 := (ev_RL_at hR hj).2
    by_cases w0 : w = 0
    · rw [if_pos w0] at k
      simp (disch := omega) only [t_X2_told_0, t_X2_told_1, t_X2_told_2, t_X2_told_5, t_X2_told_8, t_X2_told_9, t_X2_told_10, t_X2_told_11, t_X2_told_14, t_X2_told_15, t_X2_told_18, t_X2_told_19, t_X2_told_20, t_X2_told_21, t_X2_told_22, t_X2_told_23, t_X2_told_26, t_X2_told_27, t_X2_told_30, t_X2_told_31, t_X2_told_32, t_X2_told_33, t_X2_told_34, t_X2_told_37, t_X2_told_38, t_X2_told_39, t_X2_told_41, t_X2_told_42, t_X2_told_43, t_X2_told_46, t_X2_told_47, t_X2_told_48, t_X2_told_49, ↓reduceIte, ev_k_i, ev_k_r, ev_k_l, ev_k_J, ev_k_n, ev_kr_1, ev_kr_0, ev_isK_y, ev_aG_y, ev_aS_y, ev_aN_y, ev_inA_0, ev_isA_0, ev_ft_I, ev_ft_0, ev_ft_1, ev_ft_o, ev_ft_a, ev_nb_0, ev_nb_1, and_true, true_and, if_true, if_false, not_true_eq_false, not_false_eq_true, nI_1, ev_fG_0, ev_fG_1, ev_fG_2, ev_fG_3, ev_fG_4, ev_fG_5, ev_fG_6, ev_fG_7, ev_fG_8, ev_fS_0, ev_fS_1, ev_fS_2, ev_fS_3, ev_fS_4, ev_fS_5, ev_fS_6, ev_fS_7, ev_fS_8, ev_isO_0, ev_isO_1, ev_isO_2, ev_isO_3, ev_isO_4, ev_isO_5, ev_isO_6, ev_isO_7, ev_isO_8, ev_z0, ev_z1, ev_z2, eq_self, ev_row_0, ev_row_1, ev_row_2, ev_row_l0, ev_row_l1, ev_row_l2, ev_row_u0, ev_row_u1, ev_row_u2, nI_clamp, hp, h20, h1, h2, w0]
      exact k
    · rw [if_neg w0] at k
      by_cases w1 : w = 1
      · rw [if_pos w1] at k
        simp (disch := omega) only [t_X2_told_0, t_X2_told_1, t_X2_told_2, t_X2_told_5, t_X2_told_8, t_X2_told_9, t_X2_told_10, t_X2_told_11, t_X2_told_14, t_X2_told_15, t_X2_told_18, t_X2_told_19, t_X2_told_20, t_X2_told_21, t_X2_told_22, t_X2_told_23, t_X2_told_26, t_X2_told_27, t_X2_told_30, t_X2_told_31, t_X2_told_32, t_X2_told_33, t_X2_told_34, t_X2_told_37, t_X2_told_38, t_X2_told_39, t_X2_told_41, t_X2_told_42, t_X2_told_43, t_X2_told_46, t_X2_told_47, t_X2_told_48, t_X2_told_49, ↓reduceIte, ev_k_i, ev_k_r, ev_k_l, ev_k_J, ev_k_n, ev_kr_1, ev_kr_0, ev_isK_y, ev_aG_y, ev_aS_y, ev_aN_y, ev_inA_0, ev_isA_0, ev_ft_I, ev_ft_0, ev_ft_1, ev_ft_o, ev_ft_a, ev_nb_0, ev_nb_1, and_true, true_and, if_true, if_false, not_true_eq_false, not_false_eq_true, nI_1, ev_fG_0, ev_fG_1, ev_fG_2, ev_fG_3, ev_fG_4, ev_fG_5, ev_fG_6, ev_fG_7, ev_fG_8, ev_fS_0, ev_fS_1, ev_fS_2, ev_fS_3, ev_fS_4, ev_fS_5, ev_fS_6, ev_fS_7, ev_fS_8, ev_isO_0, ev_isO_1, ev_isO_2, ev_isO_3, ev_isO_4, ev_isO_5, ev_isO_6, ev_isO_7, ev_isO_8, ev_z0, ev_z1, ev_z2, eq_self, ev_row_0, ev_row_1, ev_row_2, ev_row_l0, ev_row_l1, ev_row_l2, ev_row_u0, ev_row_u1, ev_row_u2, nI_clamp, hp, h20, h1, h2, w1, w0]
        exact k
      · rw [if_neg w1] at k
        simp (disch := omega) only [t_X2_told_0, t_X2_told_1, t_X2_told_2, t_X2_told_5, t_X2_told_8, t_X2_told_9, t_X2_told_10, t_X2_told_11, t_X2_told_14, t_X2_told_15, t_X2_told_18, t_X2_told_19, t_X2_told_20, t_X2_told_21, t_X2_told_22, t_X2_told_23, t_X2_told_26, t_X2_told_27, t_X2_told_30, t_X2_told_31, t_X2_told_32, t_X2_told_33, t_X2_told_34, t_X2_told_37, t_X2_told_38, t_X2_told_39, t_X2_told_41, t_X2_told_42, t_X2_told_43, t_X2_told_46, t_X2_told_47, t_X2_told_48, t_X2_told_49, ↓reduceIte, ev_k_i, ev_k_r, ev_k_l, ev_k_J, ev_k_n, ev_kr_1, ev_kr_0, ev_isK_y, ev_aG_y, ev_aS_y, ev_aN_y, ev_inA_0, ev_isA_0, ev_ft_I, ev_ft_0, ev_ft_1, ev_ft_o, ev_ft_a, ev_nb_0, ev_nb_1, and_true, true_and, if_true, if_false, not_true_eq_false, not_false_eq_true, nI_1, ev_fG_0, ev_fG_1, ev_fG_2, ev_fG_3, ev_fG_4, ev_fG_5, ev_fG_6, ev_fG_7, ev_fG_8, ev_fS_0, ev_fS_1, ev_fS_2, ev_fS_3, ev_fS_4, ev_fS_5, ev_fS_6, ev_fS_7, ev_fS_8, ev_isO_0, ev_isO_1, ev_isO_2, ev_isO_3, ev_isO_4, ev_isO_5, ev_isO_6, ev_isO_7, ev_isO_8, ev_z0, ev_z1, ev_z2, eq_self, ev_row_0, ev_row_1, ev_row_2, ev_row_l0, ev_row_l1, ev_row_l2, ev_row_u0, ev_row_u1, ev_row_u2, nI_clamp, hp, h20, h1, h2, w0, w1]
        exact k
  · rw [if_neg e] at k
    rw [if_neg e]
    simp (disch := omega) only [t_X2_told_0, t_X2_told_1, t_X2_told_2, t_X2_told_5, t_X2_told_8, t_X2_told_9, t_X2_told_10, t_X2_told_11, t_X2_told_14, t_X2_told_15, t_X2_told_18, t_X2_told_19, t_X2_told_20, t_X2_told_21, t_X2_told_22, t_X2_told_23, t_X2_told_26, t_X2_told_27, t_X2_told_30, t_X2_told_31, t_X2_told_32, t_X2_told_33, t_X2_told_34, t_X2_told_37, t_X2_told_38, t_X2_told_39, t_X2_told_41, t_X2_told_42, t_X2_told_43, t_X2_told_46, t_X2_told_47, t_X2_told_48, t_X2_told_49, ↓reduceIte, ev_k_i, ev_k_r, ev_k_l, ev_k_J, ev_k_n, ev_kr_1, ev_kr_0, ev_isK_y, ev_aG_y, ev_aS_y, ev_aN_y, ev_inA_0, ev_isA_0, ev_ft_I, ev_ft_0, ev_ft_1, ev_ft_o, ev_ft_a, ev_nb_0, ev_nb_1, and_true, true_and, if_true, if_false, not_true_eq_false, not_false_eq_true, nI_1, ev_fG_0, ev_fG_1, ev_fG_2, ev_fG_3, ev_fG_4, ev_fG_5, ev_fG_6, ev_fG_7, ev_fG_8, ev_fS_0, ev_fS_1, ev_fS_2, ev_fS_3, ev_fS_4, ev_fS_5, ev_fS_6, ev_fS_7, ev_fS_8, ev_isO_0, ev_isO_1, ev_isO_2, ev_isO_3, ev_isO_4, ev_isO_5, ev_isO_6, ev_isO_7, ev_isO_8, ev_z0, ev_z1, ev_z2, eq_self, ev_rL_k hH]
    exact k
end RL
