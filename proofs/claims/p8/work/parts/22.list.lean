/-! ===== the list of the JDK ===== -/
def ev_alc (mc : Int32) (e k : Nat) : ev_C := .inr (4, [.int mc, .ref e, .int (nI k)])
def ev_LF (f : Nat → Value) (L : List Value) : Prop := ∀ (i : Nat) (v : Value), L[i]? = some v → f i = v
theorem ev_ofN {k : Nat} : Int32.ofNat k = nI k := rfl
theorem ev_aC_y {kd N : Nat} {f g : Nat → Value} : ev_aC (some (.inl (kd, N, f))) g = .inl (kd, N, g) := rfl
theorem ev_aF_y {kd N : Nat} {f : Nat → Value} : ev_aF (some (.inl (kd, N, f))) = f := rfl
/-- what a list's array holds: the empty one of the JDK, or one of its own -/
def ev_AE (X : ev_E) (H : ev_M) (e : Nat) (L : List Value) : Prop := (∀ v ∈ L, ev_el X H v) ∧ ((H e = none ∧ e = X.2.2.2.2.2 1 ∧ (∃ g, X.2.2.2.2.1 e = some (.inl (10, 0, g))) ∧ L = []) ∨ ∃ (N : Nat) (f : Nat → Value), H e = some (.inl (2, N, f)) ∧ L.length ≤ N ∧ 10 ≤ N ∧ N ≤ 90 ∧ ev_LF f L)
def ev_AL (X : ev_E) (H : ev_M) (l : Nat) (L : List Value) : Prop := ∃ (mc : Int32) (e : Nat), H l = some (ev_alc mc e L.length) ∧ ev_AE X H e L
theorem ev_LF_app {f : Nat → Value} {L : List Value} (h : ev_LF f L) (v : Value) : ev_LF (updV f L.length v) (L ++ [v]) := by
  intro i x hx
  unfold updV
  by_cases e : i = L.length
  · subst e
    rw [List.getElem?_append_right (Nat.le_refl _), Nat.sub_self] at hx
    cases hx
    rw [if_pos rfl]
  · rw [if_neg e]
    by_cases e2 : i < L.length
    · rw [List.getElem?_append_left e2] at hx
      exact h i x hx
    · rw [List.getElem?_append_right (by omega)] at hx
      have := (List.getElem?_eq_some_iff.mp hx).1
      simp only [List.length_cons, List.length_nil] at this
      omega
theorem ev_LF_del {f : Nat → Value} {L : List Value} (h : ev_LF f L) {j : Nat} (hj : j < L.length) (v : Value) : ev_LF (updV (va_cpy f f (j + 1) j (L.length - 1 - j)) (L.length - 1) v) (L.eraseIdx j) := by
  intro i x hx
  have hi := (List.getElem?_eq_some_iff.mp hx).1
  rw [List.length_eraseIdx, if_pos hj] at hi
  rw [List.getElem?_eraseIdx] at hx
  unfold updV va_cpy
  rw [if_neg (by omega)]
  by_cases e : i < j
  · rw [if_pos e] at hx
    rw [if_neg (by omega)]
    exact h i x hx
  · rw [if_neg e] at hx
    rw [if_pos (by omega), show j + 1 + (i - j) = i + 1 by omega]
    exact h (i + 1) x hx
theorem ev_LF_last {f : Nat → Value} {L : List Value} (h : ev_LF f L) {j : Nat} (hj : j + 1 = L.length) (v : Value) : ev_LF (updV f j v) (L.eraseIdx j) := by
  intro i x hx
  have hi := (List.getElem?_eq_some_iff.mp hx).1
  rw [List.length_eraseIdx, if_pos (by omega)] at hi
  rw [List.getElem?_eraseIdx, if_pos (by omega)] at hx
  unfold updV
  rw [if_neg (by omega)]
  exact h i x hx
theorem ev_LF_cpy {f g : Nat → Value} {L : List Value} (h : ev_LF f L) : ev_LF (va_cpy f g 0 0 L.length) L := by
  intro i x hx
  have hi := (List.getElem?_eq_some_iff.mp hx).1
  unfold va_cpy
  rw [if_pos (by omega), show 0 + (i - 0) = i by omega]
  exact h i x hx
section LS
variable {X : ev_E} {H : ev_M} {l e : Nat} {L : List Value} {mc : Int32} {n q : Nat} {P : ev_O → ev_M → Nat → Nat → Prop}
theorem r_chk {i : Int32} {k : Nat} (h0 : ¬ i < 0) (h1 : i < nI k) : ev_ok (ev_TT X) 76 0 [.int i, .int (nI k)] [] H n q P ↔ P (.inl (some (.int i))) H n q := by
  simp (disch := omega) only [t_J15_checkIndex_7cf53_0, t_J15_checkIndex_7cf53_1, t_J15_checkIndex_7cf53_2, t_J15_checkIndex_7cf53_3, t_J15_checkIndex_7cf53_6, t_J3_checkIndex_8e157_0, t_J3_checkIndex_8e157_1, t_J3_checkIndex_8e157_4, t_J3_checkIndex_8e157_5, t_J3_checkIndex_8e157_6, t_J3_checkIndex_8e157_9, t_J3_checkIndex_8e157_10, t_J3_checkIndex_8e157_11, t_J3_checkIndex_8e157_16, t_J3_checkIndex_8e157_17, ↓reduceIte, ev_k_i, ev_k_r, ev_k_l, ev_k_J, ev_k_n, ev_kr_1, ev_kr_0, ev_isK_y, ev_aG_y, ev_aS_y, ev_aN_y, ev_inA_0, ev_isA_0, ev_ft_I, ev_ft_0, ev_ft_1, ev_ft_o, ev_ft_a, ev_nb_0, ev_nb_1, and_true, true_and, if_true, if_false, not_true_eq_false, not_false_eq_true, nI_1, ev_fG_0, ev_fG_1, ev_fG_2, ev_fG_3, ev_fG_4, ev_fG_5, ev_fG_6, ev_fG_7, ev_fG_8, ev_fS_0, ev_fS_1, ev_fS_2, ev_fS_3, ev_fS_4, ev_fS_5, ev_fS_6, ev_fS_7, ev_fS_8, ev_isO_0, ev_isO_1, ev_isO_2, ev_isO_3, ev_isO_4, ev_isO_5, ev_isO_6, ev_isO_7, ev_isO_8, ev_z0, ev_z1, ev_z2, eq_self, ev_ofN, t_J15_checkIndex_7cf53_3_n, h0, h1]
theorem L_size (hl : H l = some (ev_alc mc e L.length)) (k : P (.inl (some (.int (nI L.length)))) H n q) : ev_ok (ev_TT X) 24 0 [.ref l] [] H n q P := by
  unfold ev_alc at hl
  simp (disch := omega) only [t_Jx4a65c_size_8abf5_0, t_Jx4a65c_size_8abf5_1, t_Jx4a65c_size_8abf5_4, ↓reduceIte, ev_k_i, ev_k_r, ev_k_l, ev_k_J, ev_k_n, ev_kr_1, ev_kr_0, ev_isK_y, ev_aG_y, ev_aS_y, ev_aN_y, ev_inA_0, ev_isA_0, ev_ft_I, ev_ft_0, ev_ft_1, ev_ft_o, ev_ft_a, ev_nb_0, ev_nb_1, and_true, true_and, if_true, if_false, not_true_eq_false, not_false_eq_true, nI_1, ev_fG_0, ev_fG_1, ev_fG_2, ev_fG_3, ev_fG_4, ev_fG_5, ev_fG_6, ev_fG_7, ev_fG_8, ev_fS_0, ev_fS_1, ev_fS_2, ev_fS_3, ev_fS_4, ev_fS_5, ev_fS_6, ev_fS_7, ev_fS_8, ev_isO_0, ev_isO_1, ev_isO_2, ev_isO_3, ev_isO_4, ev_isO_5, ev_isO_6, ev_isO_7, ev_isO_8, ev_z0, ev_z1, ev_z2, eq_self, ev_ofN, ev_lk_s hl]
  exact k
theorem L_get (hl : H l = some (ev_alc mc e L.length)) (hA : ev_AE X H e L) (hL : L.length < 100) {j y : Nat} (hj : L[j]? = some (.ref y)) (k : P (.inl (some (.ref y))) H n q) : ev_ok (ev_TT X) 129 0 [.ref l, .int (nI j)] [] H n q P := by
  unfold ev_alc at hl
  have hj2 := (List.getElem?_eq_some_iff.mp hj).1
  have h0 := nI_pos (n := j) (by omega)
  have h1 : nI j < nI L.length := nI_lt hj2 (by omega)
  rcases hA.2 with ⟨-, -, -, rfl⟩ | ⟨N, f, he, hN, -, -, hf⟩
  · simp at hj2
  · have hp := nI_pos' (n := j) (by omega)
    have hfj := hf j _ hj
    have hjN : j < N := by omega
    simp (disch := omega) only [t_Jx4a65c_get_915e3_0, t_Jx4a65c_get_915e3_1, t_Jx4a65c_get_915e3_2, t_Jx4a65c_get_915e3_5, t_Jx4a65c_get_915e3_8, t_Jx4a65c_get_915e3_8_i, t_Jx4a65c_get_915e3_9, t_Jx4a65c_get_915e3_10, t_Jx4a65c_get_915e3_11, t_Jx4a65c_get_915e3_14, t_Jx4a65c_elementData_915e3_0, t_Jx4a65c_elementData_915e3_1, t_Jx4a65c_elementData_915e3_4, t_Jx4a65c_elementData_915e3_5, t_Jx4a65c_elementData_915e3_6, ↓reduceIte, ev_k_i, ev_k_r, ev_k_l, ev_k_J, ev_k_n, ev_kr_1, ev_kr_0, ev_isK_y, ev_aG_y, ev_aS_y, ev_aN_y, ev_inA_0, ev_isA_0, ev_ft_I, ev_ft_0, ev_ft_1, ev_ft_o, ev_ft_a, ev_nb_0, ev_nb_1, and_true, true_and, if_true, if_false, not_true_eq_false, not_false_eq_true, nI_1, ev_fG_0, ev_fG_1, ev_fG_2, ev_fG_3, ev_fG_4, ev_fG_5, ev_fG_6, ev_fG_7, ev_fG_8, ev_fS_0, ev_fS_1, ev_fS_2, ev_fS_3, ev_fS_4, ev_fS_5, ev_fS_6, ev_fS_7, ev_fS_8, ev_isO_0, ev_isO_1, ev_isO_2, ev_isO_3, ev_isO_4, ev_isO_5, ev_isO_6, ev_isO_7, ev_isO_8, ev_z0, ev_z1, ev_z2, eq_self, ev_ofN, ev_lk_s hl, r_chk h0 h1, ev_lk_s he, ev_inA_2, nI_clamp, hp, hfj, hjN]
    exact k
theorem L_init {f0 f1 f2 : Value} (hl : H l = some (.inr (4, [f0, f1, f2]))) (k : P (.inl none) (ev_up H l (.inr (4, [.int 0, .ref (X.2.2.2.2.2 1), f2]))) n q) : ev_ok (ev_TT X) 130 0 [.ref l] [] H n q P := by
  simp (disch := omega) only [t_Jx4a65c_init_da8c8_0, t_Jx4a65c_init_da8c8_1, t_Jx4a65c_init_da8c8_4, t_Jx4a65c_init_da8c8_5, t_Jx4a65c_init_da8c8_8, t_Jx4a65c_init_da8c8_11, t_Jxc12de_init_da8c8_0, t_Jxc12de_init_da8c8_1, t_Jxc12de_init_da8c8_4, t_Jxc12de_init_da8c8_5, t_Jxc12de_init_da8c8_6, t_Jxc12de_init_da8c8_9, t_Jxa1e45_init_da8c8_0, t_Jxa1e45_init_da8c8_1, t_Jxa1e45_init_da8c8_4, ↓reduceIte, ev_k_i, ev_k_r, ev_k_l, ev_k_J, ev_k_n, ev_kr_1, ev_kr_0, ev_isK_y, ev_aG_y, ev_aS_y, ev_aN_y, ev_inA_0, ev_isA_0, ev_ft_I, ev_ft_0, ev_ft_1, ev_ft_o, ev_ft_a, ev_nb_0, ev_nb_1, and_true, true_and, if_true, if_false, not_true_eq_false, not_false_eq_true, nI_1, ev_fG_0, ev_fG_1, ev_fG_2, ev_fG_3, ev_fG_4, ev_fG_5, ev_fG_6, ev_fG_7, ev_fG_8, ev_fS_0, ev_fS_1, ev_fS_2, ev_fS_3, ev_fS_4, ev_fS_5, ev_fS_6, ev_fS_7, ev_fS_8, ev_isO_0, ev_isO_1, ev_isO_2, ev_isO_3, ev_isO_4, ev_isO_5, ev_isO_6, ev_isO_7, ev_isO_8, ev_z0, ev_z1, ev_z2, eq_self, ev_ofN, ev_lk_s hl, hl, ev_up_s, ev_up_up]
  exact k
theorem ev_el_up {h : ev_M} {a kd N : Nat} {f g : Nat → Value} {v : Value} (hk : h a = some (.inl (kd, N, f))) (he : ev_el X h v) : ev_el X (ev_up h a (.inl (kd, N, g))) v := by
  rcases he with rfl | ⟨y, rfl, ⟨M, F, hy⟩ | ⟨ci, r, h1, h2, fs, h3⟩⟩
  · exact Or.inl rfl
  · refine Or.inr ⟨y, rfl, Or.inl ?_⟩
    unfold ev_up
    by_cases e1 : y = a
    · rw [if_pos e1]
      rw [e1, hk] at hy
      cases hy
      exact ⟨N, g, rfl⟩
    · rw [if_neg e1]
      exact ⟨M, F, hy⟩
  · refine Or.inr ⟨y, rfl, Or.inr ⟨ci, r, h1, h2, fs, ?_⟩⟩
    unfold ev_lk ev_up at *
    by_cases e1 : y = a
    · rw [e1, hk] at h3
      cases h3
    · rw [if_neg e1]
      exact h3
theorem ev_el_upO {h : ev_M} {a ci : Nat} {fs gs : List Value} {v : Value} (hk : h a = some (.inr (ci, fs))) (he : ev_el X h v) : ev_el X (ev_up h a (.inr (ci, gs))) v := by
  rcases he with rfl | ⟨y, rfl, ⟨M, F, hy⟩ | ⟨cj, r, h1, h2, fs', h3⟩⟩
  · exact Or.inl rfl
  · refine Or.inr ⟨y, rfl, Or.inl ?_⟩
    unfold ev_up
    by_cases e1 : y = a
    · rw [e1, hk] at hy
      cases hy
    · rw [if_neg e1]
      exact ⟨M, F, hy⟩
  · refine Or.inr ⟨y, rfl, Or.inr ⟨cj, r, h1, h2, ?_⟩⟩
    unfold ev_lk ev_up at *
    by_cases e1 : y = a
    · rw [e1, hk] at h3
      cases h3
      rw [if_pos e1]
      exact ⟨gs, rfl⟩
    · rw [if_neg e1]
      exact ⟨fs', h3⟩
theorem L_fastRemove (hl : H l = some (ev_alc mc e L.length)) {N : Nat} {f : Nat → Value} (he : H e = some (.inl (2, N, f))) (hle : ¬ l = e) (hN : L.length ≤ N) (hN9 : N ≤ 90) (hf : ev_LF f L) (hel : ∀ v ∈ L, ev_el X H v) {j : Nat} (hj : j < L.length)
    (k : ∀ mc' g, ev_LF g (L.eraseIdx j) → P (.inl none) (ev_up (ev_up H l (ev_alc mc' e (L.eraseIdx j).length)) e (.inl (2, N, g))) n q) : ev_ok (ev_TT X) 23 0 [.ref l, .ref e, .int (nI j), ev_J] [] H n q P := by
  have hlen : (L.eraseIdx j).length = L.length - 1 := by rw [List.length_eraseIdx, if_pos hj]
  obtain ⟨c, hc⟩ : ∃ c, L.length = c + 1 := ⟨L.length - 1, by omega⟩
  unfold ev_alc at hl k
  rw [hc] at hl
  have hp1 := nI_pos' (n := j) (by omega)
  have hp2 := nI_pos' (n := j + 1) (by omega)
  have hle' : ¬ e = l := fun z => hle z.symm
  have hpc := nI_pos' (n := c) (by omega)
  by_cases hlast : c ≤ j
  · have hnul : ev_el X (ev_up (ev_up H l (.inr (4, [.int (mc + 1), .ref e, .int (nI c)]))) e (.inl (2, N, f))) .null := Or.inl rfl
    have hjc : j = c := by omega
    have hG := ev_LF_last hf (j := j) (by omega) .null
    have hk := k (mc + 1) _ hG
    rw [hlen, hc, hjc, show c + 1 - 1 = c by omega] at hk
    simp (disch := omega) only [t_Jx4a65c_fastRemove_b59b0_0, t_Jx4a65c_fastRemove_b59b0_1, t_Jx4a65c_fastRemove_b59b0_1_i, t_Jx4a65c_fastRemove_b59b0_2, t_Jx4a65c_fastRemove_b59b0_5, t_Jx4a65c_fastRemove_b59b0_6, t_Jx4a65c_fastRemove_b59b0_7, t_Jx4a65c_fastRemove_b59b0_10, t_Jx4a65c_fastRemove_b59b0_11, t_Jx4a65c_fastRemove_b59b0_14, t_Jx4a65c_fastRemove_b59b0_15, t_Jx4a65c_fastRemove_b59b0_16, t_Jx4a65c_fastRemove_b59b0_16_i, t_Jx4a65c_fastRemove_b59b0_17, t_Jx4a65c_fastRemove_b59b0_18, t_Jx4a65c_fastRemove_b59b0_19, t_Jx4a65c_fastRemove_b59b0_22, t_Jx4a65c_fastRemove_b59b0_23, t_Jx4a65c_fastRemove_b59b0_24, t_Jx4a65c_fastRemove_b59b0_25, t_Jx4a65c_fastRemove_b59b0_26, t_Jx4a65c_fastRemove_b59b0_27, t_Jx4a65c_fastRemove_b59b0_28, t_Jx4a65c_fastRemove_b59b0_29, t_Jx4a65c_fastRemove_b59b0_30, t_Jx4a65c_fastRemove_b59b0_34, t_Jx4a65c_fastRemove_b59b0_35, t_Jx4a65c_fastRemove_b59b0_36, t_Jx4a65c_fastRemove_b59b0_37, t_Jx4a65c_fastRemove_b59b0_37_r, t_Jx4a65c_fastRemove_b59b0_38, t_Jx4a65c_fastRemove_b59b0_41, t_Jx4a65c_fastRemove_b59b0_42, t_Jx4a65c_fastRemove_b59b0_43, ↓reduceIte, ev_k_i, ev_k_r, ev_k_l, ev_k_J, ev_k_n, ev_kr_1, ev_kr_0, ev_isK_y, ev_aG_y, ev_aS_y, ev_aN_y, ev_inA_0, ev_isA_0, ev_ft_I, ev_ft_0, ev_ft_1, ev_ft_o, ev_ft_a, ev_nb_0, ev_nb_1, and_true, true_and, if_true, if_false, not_true_eq_false, not_false_eq_true, nI_1, ev_fG_0, ev_fG_1, ev_fG_2, ev_fG_3, ev_fG_4, ev_fG_5, ev_fG_6, ev_fG_7, ev_fG_8, ev_fS_0, ev_fS_1, ev_fS_2, ev_fS_3, ev_fS_4, ev_fS_5, ev_fS_6, ev_fS_7, ev_fS_8, ev_isO_0, ev_isO_1, ev_isO_2, ev_isO_3, ev_isO_4, ev_isO_5, ev_isO_6, ev_isO_7, ev_isO_8, ev_z0, ev_z1, ev_z2, eq_self, ev_ofN, ev_lk_s hl, hl, ev_up_s, ev_up_up, ev_lk_s ev_up_s, nI_pred, nI_leI, ev_up_n hle, ev_up_n hle', ev_lk_s he, he, ev_aC_y, ev_aF_y, nI_clamp, hp1, hp2, pk_sub, hlast]
    exact ⟨⟨⟨N, f, rfl, fun z => z.elim (nI_pos (by omega)) (fun z => by omega)⟩, Or.inl rfl⟩, hk⟩
  · have hpd : c - j < 2 ^ 31 := by omega
    have hkk := k (mc + 1) _ (ev_LF_del hf hj .null)
    rw [hlen, hc, show c + 1 - 1 = c by omega] at hkk
    have hcl1 := nI_clamp (n := c - j) (by omega)
    have hcl2 := nI_clamp (n := j) (by omega)
    have hcl3 := nI_clamp (n := j + 1) (by omega)
    simp (disch := omega) only [t_Jx4a65c_fastRemove_b59b0_0, t_Jx4a65c_fastRemove_b59b0_1, t_Jx4a65c_fastRemove_b59b0_1_i, t_Jx4a65c_fastRemove_b59b0_2, t_Jx4a65c_fastRemove_b59b0_5, t_Jx4a65c_fastRemove_b59b0_6, t_Jx4a65c_fastRemove_b59b0_7, t_Jx4a65c_fastRemove_b59b0_10, t_Jx4a65c_fastRemove_b59b0_11, t_Jx4a65c_fastRemove_b59b0_14, t_Jx4a65c_fastRemove_b59b0_15, t_Jx4a65c_fastRemove_b59b0_16, t_Jx4a65c_fastRemove_b59b0_16_i, t_Jx4a65c_fastRemove_b59b0_17, t_Jx4a65c_fastRemove_b59b0_18, t_Jx4a65c_fastRemove_b59b0_19, t_Jx4a65c_fastRemove_b59b0_22, t_Jx4a65c_fastRemove_b59b0_23, t_Jx4a65c_fastRemove_b59b0_24, t_Jx4a65c_fastRemove_b59b0_25, t_Jx4a65c_fastRemove_b59b0_26, t_Jx4a65c_fastRemove_b59b0_27, t_Jx4a65c_fastRemove_b59b0_28, t_Jx4a65c_fastRemove_b59b0_29, t_Jx4a65c_fastRemove_b59b0_30, t_Jx4a65c_fastRemove_b59b0_34, t_Jx4a65c_fastRemove_b59b0_35, t_Jx4a65c_fastRemove_b59b0_36, t_Jx4a65c_fastRemove_b59b0_37, t_Jx4a65c_fastRemove_b59b0_37_r, t_Jx4a65c_fastRemove_b59b0_38, t_Jx4a65c_fastRemove_b59b0_41, t_Jx4a65c_fastRemove_b59b0_42, t_Jx4a65c_fastRemove_b59b0_43, ↓reduceIte, ev_k_i, ev_k_r, ev_k_l, ev_k_J, ev_k_n, ev_kr_1, ev_kr_0, ev_isK_y, ev_aG_y, ev_aS_y, ev_aN_y, ev_inA_0, ev_isA_0, ev_ft_I, ev_ft_0, ev_ft_1, ev_ft_o, ev_ft_a, ev_nb_0, ev_nb_1, and_true, true_and, if_true, if_false, not_true_eq_false, not_false_eq_true, nI_1, ev_fG_0, ev_fG_1, ev_fG_2, ev_fG_3, ev_fG_4, ev_fG_5, ev_fG_6, ev_fG_7, ev_fG_8, ev_fS_0, ev_fS_1, ev_fS_2, ev_fS_3, ev_fS_4, ev_fS_5, ev_fS_6, ev_fS_7, ev_fS_8, ev_isO_0, ev_isO_1, ev_isO_2, ev_isO_3, ev_isO_4, ev_isO_5, ev_isO_6, ev_isO_7, ev_isO_8, ev_z0, ev_z1, ev_z2, eq_self, ev_ofN, ev_lk_s hl, hl, ev_up_s, ev_up_up, ev_lk_s ev_up_s, nI_pred, nI_leI, ev_up_n hle, ev_up_n hle', ev_lk_s he, he, ev_aC_y, ev_aF_y, nI_clamp, hp1, hp2, pk_sub, hlast]
    refine t_Jx4a65c_fastRemove_b59b0_31.mpr ⟨⟨nI_pos' (by omega), hp1, hp2, by decide, ⟨2, N, f, ev_lk_s ((ev_up_n hle').trans he), by decide, rfl, by rw [hcl1, hcl3]; omega, fun i hi => ?_⟩, 2, N, f, (ev_up_n hle').trans he, by decide, rfl, by rw [hcl1, hcl2]; omega⟩, ?_⟩
    · rw [hcl1] at hi
      rw [hcl3]
      have hx : L[j + 1 + i]? = some (L[j + 1 + i]'(by omega)) := List.getElem?_eq_getElem (by omega)
      rw [hf _ _ hx]
      exact ev_el_upO hl (hel _ (List.getElem_mem _))
    rw [hcl1, hcl2, hcl3, ev_lk_s ((ev_up_n hle').trans he), (ev_up_n hle').trans he]
    simp (disch := omega) only [t_Jx4a65c_fastRemove_b59b0_0, t_Jx4a65c_fastRemove_b59b0_1, t_Jx4a65c_fastRemove_b59b0_1_i, t_Jx4a65c_fastRemove_b59b0_2, t_Jx4a65c_fastRemove_b59b0_5, t_Jx4a65c_fastRemove_b59b0_6, t_Jx4a65c_fastRemove_b59b0_7, t_Jx4a65c_fastRemove_b59b0_10, t_Jx4a65c_fastRemove_b59b0_11, t_Jx4a65c_fastRemove_b59b0_14, t_Jx4a65c_fastRemove_b59b0_15, t_Jx4a65c_fastRemove_b59b0_16, t_Jx4a65c_fastRemove_b59b0_16_i, t_Jx4a65c_fastRemove_b59b0_17, t_Jx4a65c_fastRemove_b59b0_18, t_Jx4a65c_fastRemove_b59b0_19, t_Jx4a65c_fastRemove_b59b0_22, t_Jx4a65c_fastRemove_b59b0_23, t_Jx4a65c_fastRemove_b59b0_24, t_Jx4a65c_fastRemove_b59b0_25, t_Jx4a65c_fastRemove_b59b0_26, t_Jx4a65c_fastRemove_b59b0_27, t_Jx4a65c_fastRemove_b59b0_28, t_Jx4a65c_fastRemove_b59b0_29, t_Jx4a65c_fastRemove_b59b0_30, t_Jx4a65c_fastRemove_b59b0_34, t_Jx4a65c_fastRemove_b59b0_35, t_Jx4a65c_fastRemove_b59b0_36, t_Jx4a65c_fastRemove_b59b0_37, t_Jx4a65c_fastRemove_b59b0_37_r, t_Jx4a65c_fastRemove_b59b0_38, t_Jx4a65c_fastRemove_b59b0_41, t_Jx4a65c_fastRemove_b59b0_42, t_Jx4a65c_fastRemove_b59b0_43, ↓reduceIte, ev_k_i, ev_k_r, ev_k_l, ev_k_J, ev_k_n, ev_kr_1, ev_kr_0, ev_isK_y, ev_aG_y, ev_aS_y, ev_aN_y, ev_inA_0, ev_isA_0, ev_ft_I, ev_ft_0, ev_ft_1, ev_ft_o, ev_ft_a, ev_nb_0, ev_nb_1, and_true, true_and, if_true, if_false, not_true_eq_false, not_false_eq_true, nI_1, ev_fG_0, ev_fG_1, ev_fG_2, ev_fG_3, ev_fG_4, ev_fG_5, ev_fG_6, ev_fG_7, ev_fG_8, ev_fS_0, ev_fS_1, ev_fS_2, ev_fS_3, ev_fS_4, ev_fS_5, ev_fS_6, ev_fS_7, ev_fS_8, ev_isO_0, ev_isO_1, ev_isO_2, ev_isO_3, ev_isO_4, ev_isO_5, ev_isO_6, ev_isO_7, ev_isO_8, ev_z0, ev_z1, ev_z2, eq_self, ev_ofN, ev_lk_s hl, hl, ev_up_s, ev_up_up, ev_lk_s ev_up_s, nI_pred, nI_leI, ev_up_n hle, ev_up_n hle', ev_lk_s he, he, ev_aC_y, ev_aF_y, nI_clamp, hp1, hp2, pk_sub, hlast, ev_up_c hle]
    exact ⟨⟨⟨N, _, rfl, fun z => z.elim (nI_pos (by omega)) (fun z => by omega)⟩, Or.inl rfl⟩, hkk⟩
end LS
