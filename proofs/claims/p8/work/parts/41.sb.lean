/-! ===== text that is built: safety of StringBuilder, room ===== -/
theorem ev_lku_s {X : ev_E} {h : ev_M} {a : Nat} {c : ev_C} : ev_lk X (ev_up h a c) a = some c := ev_lk_s ev_up_s
theorem ev_lku_n {X : ev_E} {h : ev_M} {a b : Nat} {c : ev_C} (e : ¬ b = a) : ev_lk X (ev_up h a c) b = ev_lk X h b := by
  unfold ev_lk
  rw [ev_up_n e]
theorem ev_sl0 (x : Int32) : x <<< ((0 : Int32) &&& 31) = x := by
  apply Int32.toBitVec_inj.mp
  show x.toBitVec <<< _ = _
  simp
theorem ev_sr0 (x : Int32) : x >>> ((0 : Int32) &&& 31) = x := by
  have h := pk_shr x ((0 : Int32) &&& 31) 0 (by decide)
  exact Int32.toInt_inj.mp (by rw [h]; simp)
theorem ev_sub_le {m N : Nat} (h : m ≤ N) (hN : N < 2 ^ 30) : nI m - nI N ≤ 0 := by
  apply Int32.le_iff_toInt_le.mpr
  rw [pk_sub_toInt (by omega) hN]
  show (m : Int) - N ≤ 0
  omega
theorem ev_narB (v : Int32) : vp_nar .byte v = v.toInt8.toInt32 := rfl
theorem ev_fitU {N : Nat} {f : Nat → Value} (h : ∀ i, i < N → fits .byte (f i) = true) (j : Nat) (v : Int32) : ∀ i, i < N → fits .byte (updV f j (.int (vp_nar .byte v)) i) = true := by
  intro i hi
  unfold updV
  split
  · exact pk_fb v
  · exact h i hi
def ev_bu (b k : Nat) (ml : Value) : ev_C := .inr (1, [.ref b, .int 0, ml, .int (nI k)])
/-- a builder at n0, made in the heap H0, of k letters, with room for N; nothing lies at n or above -/
def ev_SB (H0 : ev_M) (n0 k N : Nat) (H : ev_M) (n : Nat) : Prop := ∃ (b : Nat) (ml : Value) (f : Nat → Value), n0 < b ∧ b < n ∧ H n0 = some (.inr (1, [.ref b, .int 0, ml, .int (nI k)])) ∧ H b = some (.inl (1, N, f)) ∧ (∀ i, i < N → fits .byte (f i) = true) ∧ k ≤ N ∧ N ≤ 1000 ∧ (∀ z, (z < n0 ∨ (¬ z = n0 ∧ ∃ c, H0 z = some (.inr c))) → H z = H0 z) ∧ ∀ z, n ≤ z → H z = none
def ev_gr (N n q N1 n1 q1 m : Nat) : Prop := n ≤ n1 ∧ n1 ≤ n + 1 ∧ (q ≤ q1 ∧ q1 + 2 * N ≤ q + 2 * N1) ∧ N ≤ N1 ∧ (N1 ≤ N ∨ N1 ≤ 2 * m)
theorem ev_SB_mk {H0 H : ev_M} {n0 k N n b N' : Nat} {ml : Value} {f f0 : Nat → Value} (h1 : n0 < b) (h2 : b < n) (h4 : H b = some (.inl (1, N', f0))) (hf : ∀ i, i < N → fits .byte (f i) = true) (hk : k ≤ N) (hN : N ≤ 1000) (hz : ∀ z, (z < n0 ∨ (¬ z = n0 ∧ ∃ c, H0 z = some (.inr c))) → H z = H0 z) (hn : ∀ z, n ≤ z → H z = none) :
    ev_SB H0 n0 k N (ev_up (ev_up H n0 (.inr (1, [.ref b, .int 0, ml, .int (nI k)]))) b (.inl (1, N, f))) n := by
  refine ⟨b, ml, f, h1, h2, ?_, ev_up_s, hf, hk, hN, fun z hz' => ?_, fun z hz' => ?_⟩
  · rw [ev_up_n (by omega), ev_up_s]
  · have e1 : ¬ z = n0 := by
      rcases hz' with h | ⟨h, -⟩
      · omega
      · exact h
    have e2 : ¬ z = b := by
      rcases hz' with h | ⟨h, c, hc⟩
      · omega
      · intro e
        have := hz z (Or.inr ⟨h, c, hc⟩)
        rw [hc, e, h4] at this
        cases this
    rw [ev_up_n e2, ev_up_n e1]; exact hz z hz'
  · rw [ev_up_n (by omega), ev_up_n (by omega)]; exact hn z hz'
section S41
variable {X : ev_E} {H0 H : ev_M} {n0 k N a b : Nat} {f : Nat → Value} {n q : Nat} {P : ev_O → ev_M → Nat → Nat → Prop}
theorem r_newLen2 {g : Nat} (hN : N ≤ 2000) (hg : g ≤ 2000) : ev_ok (ev_TT X) 85 0 [.int (nI N), .int (nI g), .int (nI (N + 2)), ev_J] [] H n q P ↔ P (.inl (some (.int (nI (N + max g (N + 2)))))) H n q := by
  have hC : ¬ (2147483639 : Int32) < nI (N + max g (N + 2)) := nI_nlt (b := N + max g (N + 2)) (a := 2147483639) (by omega) (by omega)
  have hB : ¬ nI (N + max g (N + 2)) ≤ 0 := nI_nle (by omega) (by omega)
  by_cases h : g < N + 2
  · have hA : nI g < nI (N + 2) := nI_lt h (by omega)
    have e : max g (N + 2) = N + 2 := by omega
    rw [e] at hB hC ⊢
    simp (disch := omega) only [t_J8_newLength_cabcc_0, t_J8_newLength_cabcc_1, t_J8_newLength_cabcc_2, t_J8_newLength_cabcc_3, t_J8_newLength_cabcc_6, t_J8_newLength_cabcc_7, t_J8_newLength_cabcc_8, t_J8_newLength_cabcc_9, t_J8_newLength_cabcc_10, t_J8_newLength_cabcc_13, t_J8_newLength_cabcc_14, t_J8_newLength_cabcc_16, t_J8_newLength_cabcc_19, t_J8_newLength_cabcc_20, t_J8_newLength_cabcc_21, t_J8_newLength_cabcc_22, t_J8_newLength_cabcc_23, t_J8_newLength_cabcc_26, x_J8_newLength_cabcc_3, x_J8_newLength_cabcc_23, t_J9_max_7cf53_0, t_J9_max_7cf53_1, t_J9_max_7cf53_2, t_J9_max_7cf53_5, t_J9_max_7cf53_6, t_J9_max_7cf53_9, t_J9_max_7cf53_10, ↓reduceIte, ev_k_i, ev_k_r, ev_k_l, ev_k_J, ev_k_n, ev_kr_1, ev_kr_0, ev_isK_y, ev_aG_y, ev_aS_y, ev_aN_y, ev_inA_0, ev_isA_0, ev_ft_I, ev_ft_0, ev_ft_1, ev_ft_o, ev_ft_a, ev_nb_0, ev_nb_1, and_true, true_and, if_true, if_false, not_true_eq_false, not_false_eq_true, nI_1, ev_fG_0, ev_fG_1, ev_fG_2, ev_fG_3, ev_fG_4, ev_fG_5, ev_fG_6, ev_fG_7, ev_fG_8, ev_fS_0, ev_fS_1, ev_fS_2, ev_fS_3, ev_fS_4, ev_fS_5, ev_fS_6, ev_fS_7, ev_fS_8, ev_isO_0, ev_isO_1, ev_isO_2, ev_isO_3, ev_isO_4, ev_isO_5, ev_isO_6, ev_isO_7, ev_isO_8, ev_z0, ev_z1, ev_z2, eq_self, ev_ofN, hA, hB, hC, nI_add]
  · have hA : ¬ nI g < nI (N + 2) := nI_nlt (by omega) (by omega)
    have e : max g (N + 2) = g := by omega
    rw [e] at hB hC ⊢
    simp (disch := omega) only [t_J8_newLength_cabcc_0, t_J8_newLength_cabcc_1, t_J8_newLength_cabcc_2, t_J8_newLength_cabcc_3, t_J8_newLength_cabcc_6, t_J8_newLength_cabcc_7, t_J8_newLength_cabcc_8, t_J8_newLength_cabcc_9, t_J8_newLength_cabcc_10, t_J8_newLength_cabcc_13, t_J8_newLength_cabcc_14, t_J8_newLength_cabcc_16, t_J8_newLength_cabcc_19, t_J8_newLength_cabcc_20, t_J8_newLength_cabcc_21, t_J8_newLength_cabcc_22, t_J8_newLength_cabcc_23, t_J8_newLength_cabcc_26, x_J8_newLength_cabcc_3, x_J8_newLength_cabcc_23, t_J9_max_7cf53_0, t_J9_max_7cf53_1, t_J9_max_7cf53_2, t_J9_max_7cf53_5, t_J9_max_7cf53_6, t_J9_max_7cf53_9, t_J9_max_7cf53_10, ↓reduceIte, ev_k_i, ev_k_r, ev_k_l, ev_k_J, ev_k_n, ev_kr_1, ev_kr_0, ev_isK_y, ev_aG_y, ev_aS_y, ev_aN_y, ev_inA_0, ev_isA_0, ev_ft_I, ev_ft_0, ev_ft_1, ev_ft_o, ev_ft_a, ev_nb_0, ev_nb_1, and_true, true_and, if_true, if_false, not_true_eq_false, not_false_eq_true, nI_1, ev_fG_0, ev_fG_1, ev_fG_2, ev_fG_3, ev_fG_4, ev_fG_5, ev_fG_6, ev_fG_7, ev_fG_8, ev_fS_0, ev_fS_1, ev_fS_2, ev_fS_3, ev_fS_4, ev_fS_5, ev_fS_6, ev_fS_7, ev_fS_8, ev_isO_0, ev_isO_1, ev_isO_2, ev_isO_3, ev_isO_4, ev_isO_5, ev_isO_6, ev_isO_7, ev_isO_8, ev_z0, ev_z1, ev_z2, eq_self, ev_ofN, hA, hB, hC, nI_add]
theorem S_newcap {ml c : Value} (h0 : H a = some (.inr (1, [.ref b, .int 0, ml, c]))) (hb : H b = some (.inl (1, N, f))) {m : Nat} (hN : N ≤ 1000) (hm : N < m) (hm4 : m ≤ 1000) : ev_ok (ev_TT X) 125 0 [.ref a, .int (nI m), ev_J, ev_J, ev_J, ev_J] [] H n q P ↔ P (.inl (some (.int (nI (N + max (m - N) (N + 2)))))) H n q := by
  have hE : ¬ nI (N + max (m - N) (N + 2)) = 2147483647 := fun e => by
    rw [show (2147483647 : Int32) = nI 2147483647 from rfl, nI_eq (by omega) (by omega)] at e
    omega
  have hs : nI m - nI N = nI (m - N) := pk_sub (by omega)
  have h2 : (2 : Int32) = nI 2 := rfl
  have hr := fun P n q => r_newLen2 (X := X) (H := H) (P := P) (n := n) (q := q) (N := N) (g := m - N) (by omega) (by omega)
  simp (disch := omega) only [t_J5_newCapacity_0f7a4_0, t_J5_newCapacity_0f7a4_1, t_J5_newCapacity_0f7a4_4, t_J5_newCapacity_0f7a4_5, t_J5_newCapacity_0f7a4_6, t_J5_newCapacity_0f7a4_7, t_J5_newCapacity_0f7a4_8, t_J5_newCapacity_0f7a4_11, t_J5_newCapacity_0f7a4_12, t_J5_newCapacity_0f7a4_13, t_J5_newCapacity_0f7a4_14, t_J5_newCapacity_0f7a4_15, t_J5_newCapacity_0f7a4_16, t_J5_newCapacity_0f7a4_18, t_J5_newCapacity_0f7a4_19, t_J5_newCapacity_0f7a4_21, t_J5_newCapacity_0f7a4_22, t_J5_newCapacity_0f7a4_23, t_J5_newCapacity_0f7a4_24, t_J5_newCapacity_0f7a4_27, t_J5_newCapacity_0f7a4_28, t_J5_newCapacity_0f7a4_29, t_J5_newCapacity_0f7a4_32, t_J5_newCapacity_0f7a4_34, t_J5_newCapacity_0f7a4_36, t_J5_newCapacity_0f7a4_38, t_J5_newCapacity_0f7a4_51, t_J5_newCapacity_0f7a4_53, t_J5_newCapacity_0f7a4_54, t_J5_newCapacity_0f7a4_57, t_J5_newCapacity_0f7a4_58, x_J5_newCapacity_0f7a4_29, ↓reduceIte, ev_k_i, ev_k_r, ev_k_l, ev_k_J, ev_k_n, ev_kr_1, ev_kr_0, ev_isK_y, ev_aG_y, ev_aS_y, ev_aN_y, ev_inA_0, ev_isA_0, ev_ft_I, ev_ft_0, ev_ft_1, ev_ft_o, ev_ft_a, ev_nb_0, ev_nb_1, and_true, true_and, if_true, if_false, not_true_eq_false, not_false_eq_true, nI_1, ev_fG_0, ev_fG_1, ev_fG_2, ev_fG_3, ev_fG_4, ev_fG_5, ev_fG_6, ev_fG_7, ev_fG_8, ev_fS_0, ev_fS_1, ev_fS_2, ev_fS_3, ev_fS_4, ev_fS_5, ev_fS_6, ev_fS_7, ev_fS_8, ev_isO_0, ev_isO_1, ev_isO_2, ev_isO_3, ev_isO_4, ev_isO_5, ev_isO_6, ev_isO_7, ev_isO_8, ev_z0, ev_z1, ev_z2, eq_self, ev_ofN, ev_lku_s, ev_lku_n, ev_up_s, ev_up_n, ev_sl0, ev_sr0, ev_lk_s h0, ev_lk_s hb, hs, h2, nI_add, hr, hE, ev_ofN, ev_isA_1]
theorem S_copy (hb : H b = some (.inl (1, N, f))) (hbn : ¬ b = n) {M : Nat} (hN : N < M) (hM : M ≤ 3000) (hf : ∀ i, i < N → fits .byte (f i) = true)
    (c : P (.inl (some (.ref n))) (ev_up H n (.inl (1, M, va_cpy f (fun _ => .int 0) 0 0 N))) (n + 1) (q + M)) : ev_ok (ev_TT X) 84 0 [.ref b, .int (nI M), ev_J] [] H n q P := by
  have hp := nI_pos' (n := M) (by omega)
  have hcl := nI_clamp (n := M) (by omega)
  have hck := nI_clamp (n := N) (by omega)
  have hN2 : M ≤ 100000 := by omega
  have hlt : ¬ nI M < nI N := nI_nlt (by omega) (by omega)
  have hne : ¬ nI M = nI N := fun e => by rw [nI_eq (by omega) (by omega)] at e; omega
  simp (disch := omega) only [t_J7_copyOf_9075b_0, t_J7_copyOf_9075b_1, t_J7_copyOf_9075b_2, t_J7_copyOf_9075b_3, t_J7_copyOf_9075b_6, t_J7_copyOf_9075b_10, t_J7_copyOf_9075b_13, t_J7_copyOf_9075b_14, t_J7_copyOf_9075b_15, t_J7_copyOf_9075b_17, t_J7_copyOf_9075b_18, t_J7_copyOf_9075b_19, t_J7_copyOf_9075b_20, t_J7_copyOf_9075b_21, t_J7_copyOf_9075b_22, t_J7_copyOf_9075b_23, t_J7_copyOf_9075b_24, t_J7_copyOf_9075b_25, t_J7_copyOf_9075b_31, t_J7_copyOf_9075b_32, x_J7_copyOf_9075b_25, t_J9_min_7cf53_0, t_J9_min_7cf53_1, t_J9_min_7cf53_2, t_J9_min_7cf53_5, t_J9_min_7cf53_6, t_J9_min_7cf53_9, t_J9_min_7cf53_10, ↓reduceIte, ev_k_i, ev_k_r, ev_k_l, ev_k_J, ev_k_n, ev_kr_1, ev_kr_0, ev_isK_y, ev_aG_y, ev_aS_y, ev_aN_y, ev_inA_0, ev_isA_0, ev_ft_I, ev_ft_0, ev_ft_1, ev_ft_o, ev_ft_a, ev_nb_0, ev_nb_1, and_true, true_and, if_true, if_false, not_true_eq_false, not_false_eq_true, nI_1, ev_fG_0, ev_fG_1, ev_fG_2, ev_fG_3, ev_fG_4, ev_fG_5, ev_fG_6, ev_fG_7, ev_fG_8, ev_fS_0, ev_fS_1, ev_fS_2, ev_fS_3, ev_fS_4, ev_fS_5, ev_fS_6, ev_fS_7, ev_fS_8, ev_isO_0, ev_isO_1, ev_isO_2, ev_isO_3, ev_isO_4, ev_isO_5, ev_isO_6, ev_isO_7, ev_isO_8, ev_z0, ev_z1, ev_z2, eq_self, ev_ofN, ev_lku_s, ev_lku_n, ev_up_s, ev_up_n, ev_sl0, ev_sr0, ev_lk_s hb, hne, hp, hcl, hN2, hlt, ev_isA_1, ne_eq, nI_leI, hbn, eq_self, ev_ofN]
  refine t_J7_copyOf_9075b_28.mpr ⟨⟨nI_pos' (by omega), Int32.le_refl 0, Int32.le_refl 0, Nat.le_of_ble_eq_true rfl, ⟨1, N, f, ev_lk_s ((ev_up_n hbn).trans hb), by decide, rfl, by rw [hck, ev_z0]; omega, fun i hi => ?_⟩, 1, M, _, ev_up_s, by decide, rfl, by rw [hck, ev_z0]; omega⟩, ?_⟩
  · rw [hck] at hi
    rw [ev_z0, Nat.zero_add]
    exact hf i hi
  rw [hck, ev_z0, ev_lk_s ((ev_up_n hbn).trans hb), ev_up_s]
  simp (disch := omega) only [t_J7_copyOf_9075b_0, t_J7_copyOf_9075b_1, t_J7_copyOf_9075b_2, t_J7_copyOf_9075b_3, t_J7_copyOf_9075b_6, t_J7_copyOf_9075b_10, t_J7_copyOf_9075b_13, t_J7_copyOf_9075b_14, t_J7_copyOf_9075b_15, t_J7_copyOf_9075b_17, t_J7_copyOf_9075b_18, t_J7_copyOf_9075b_19, t_J7_copyOf_9075b_20, t_J7_copyOf_9075b_21, t_J7_copyOf_9075b_22, t_J7_copyOf_9075b_23, t_J7_copyOf_9075b_24, t_J7_copyOf_9075b_25, t_J7_copyOf_9075b_31, t_J7_copyOf_9075b_32, x_J7_copyOf_9075b_25, ↓reduceIte, ev_k_i, ev_k_r, ev_k_l, ev_k_J, ev_k_n, ev_kr_1, ev_kr_0, ev_isK_y, ev_aG_y, ev_aS_y, ev_aN_y, ev_inA_0, ev_isA_0, ev_ft_I, ev_ft_0, ev_ft_1, ev_ft_o, ev_ft_a, ev_nb_0, ev_nb_1, and_true, true_and, if_true, if_false, not_true_eq_false, not_false_eq_true, nI_1, ev_fG_0, ev_fG_1, ev_fG_2, ev_fG_3, ev_fG_4, ev_fG_5, ev_fG_6, ev_fG_7, ev_fG_8, ev_fS_0, ev_fS_1, ev_fS_2, ev_fS_3, ev_fS_4, ev_fS_5, ev_fS_6, ev_fS_7, ev_fS_8, ev_isO_0, ev_isO_1, ev_isO_2, ev_isO_3, ev_isO_4, ev_isO_5, ev_isO_6, ev_isO_7, ev_isO_8, ev_z0, ev_z1, ev_z2, eq_self, ev_ofN, ev_up_up, ev_aC_y, ev_aF_y]
  exact c
theorem S_cap (hS : ev_SB H0 n0 k N H n) {m : Nat} (hm : m ≤ 500)
    (c : ∀ N1 H1 n1 q1, ev_SB H0 n0 k N1 H1 n1 → m ≤ N1 → ev_gr N n q N1 n1 q1 m → P (.inl none) H1 n1 q1) : ev_ok (ev_TT X) 178 0 [.ref n0, .int (nI m), ev_J] [] H n q P := by
  have hS0 := hS
  obtain ⟨b, ml, f, h1, h2, h3, h4, h5, h6, h7, h8, h9⟩ := hS
  have hk1 : ev_isK (ev_lk X H n0) 1 = True := by rw [ev_lk_s h3]; exact ev_isK_y
  by_cases hmN : m ≤ N
  · have hs := ev_sub_le hmN (by omega)
    simp (disch := omega) only [t_J5_ensureCapacityInternal_d00df_0, t_J5_ensureCapacityInternal_d00df_1, t_J5_ensureCapacityInternal_d00df_4, t_J5_ensureCapacityInternal_d00df_5, t_J5_ensureCapacityInternal_d00df_6, t_J5_ensureCapacityInternal_d00df_9, t_J5_ensureCapacityInternal_d00df_10, t_J5_ensureCapacityInternal_d00df_11, t_J5_ensureCapacityInternal_d00df_12, t_J5_ensureCapacityInternal_d00df_13, t_J5_ensureCapacityInternal_d00df_14, t_J5_ensureCapacityInternal_d00df_17, t_J5_ensureCapacityInternal_d00df_18, t_J5_ensureCapacityInternal_d00df_19, t_J5_ensureCapacityInternal_d00df_22, t_J5_ensureCapacityInternal_d00df_23, t_J5_ensureCapacityInternal_d00df_24, t_J5_ensureCapacityInternal_d00df_27, t_J5_ensureCapacityInternal_d00df_28, t_J5_ensureCapacityInternal_d00df_31, t_J5_ensureCapacityInternal_d00df_32, t_J5_ensureCapacityInternal_d00df_35, t_J5_ensureCapacityInternal_d00df_38, x_J5_ensureCapacityInternal_d00df_24, x_J5_ensureCapacityInternal_d00df_32, ↓reduceIte, ev_k_i, ev_k_r, ev_k_l, ev_k_J, ev_k_n, ev_kr_1, ev_kr_0, ev_isK_y, ev_aG_y, ev_aS_y, ev_aN_y, ev_inA_0, ev_isA_0, ev_ft_I, ev_ft_0, ev_ft_1, ev_ft_o, ev_ft_a, ev_nb_0, ev_nb_1, and_true, true_and, if_true, if_false, not_true_eq_false, not_false_eq_true, nI_1, ev_fG_0, ev_fG_1, ev_fG_2, ev_fG_3, ev_fG_4, ev_fG_5, ev_fG_6, ev_fG_7, ev_fG_8, ev_fS_0, ev_fS_1, ev_fS_2, ev_fS_3, ev_fS_4, ev_fS_5, ev_fS_6, ev_fS_7, ev_fS_8, ev_isO_0, ev_isO_1, ev_isO_2, ev_isO_3, ev_isO_4, ev_isO_5, ev_isO_6, ev_isO_7, ev_isO_8, ev_z0, ev_z1, ev_z2, eq_self, ev_ofN, ev_lku_s, ev_lku_n, ev_up_s, ev_up_n, ev_sl0, ev_sr0, ev_lk_s h3, ev_lk_s h4, hs, ev_isA_1, hk1]
    exact c N H n q hS0 hmN ⟨Nat.le_refl _, by omega, by omega, Nat.le_refl _, Or.inl (Nat.le_refl _)⟩
  · have hs : ¬ nI m - nI N ≤ 0 := by rw [pk_sub (by omega)]; exact nI_nle (by omega) (by omega)
    have hr := fun P n q => S_newcap (X := X) (P := P) (n := n) (q := q) (m := m) h3 h4 (by omega) (by omega) (by omega)
    simp (disch := omega) only [t_J5_ensureCapacityInternal_d00df_0, t_J5_ensureCapacityInternal_d00df_1, t_J5_ensureCapacityInternal_d00df_4, t_J5_ensureCapacityInternal_d00df_5, t_J5_ensureCapacityInternal_d00df_6, t_J5_ensureCapacityInternal_d00df_9, t_J5_ensureCapacityInternal_d00df_10, t_J5_ensureCapacityInternal_d00df_11, t_J5_ensureCapacityInternal_d00df_12, t_J5_ensureCapacityInternal_d00df_13, t_J5_ensureCapacityInternal_d00df_14, t_J5_ensureCapacityInternal_d00df_17, t_J5_ensureCapacityInternal_d00df_18, t_J5_ensureCapacityInternal_d00df_19, t_J5_ensureCapacityInternal_d00df_22, t_J5_ensureCapacityInternal_d00df_23, t_J5_ensureCapacityInternal_d00df_24, t_J5_ensureCapacityInternal_d00df_27, t_J5_ensureCapacityInternal_d00df_28, t_J5_ensureCapacityInternal_d00df_31, t_J5_ensureCapacityInternal_d00df_32, t_J5_ensureCapacityInternal_d00df_35, t_J5_ensureCapacityInternal_d00df_38, x_J5_ensureCapacityInternal_d00df_24, x_J5_ensureCapacityInternal_d00df_32, ↓reduceIte, ev_k_i, ev_k_r, ev_k_l, ev_k_J, ev_k_n, ev_kr_1, ev_kr_0, ev_isK_y, ev_aG_y, ev_aS_y, ev_aN_y, ev_inA_0, ev_isA_0, ev_ft_I, ev_ft_0, ev_ft_1, ev_ft_o, ev_ft_a, ev_nb_0, ev_nb_1, and_true, true_and, if_true, if_false, not_true_eq_false, not_false_eq_true, nI_1, ev_fG_0, ev_fG_1, ev_fG_2, ev_fG_3, ev_fG_4, ev_fG_5, ev_fG_6, ev_fG_7, ev_fG_8, ev_fS_0, ev_fS_1, ev_fS_2, ev_fS_3, ev_fS_4, ev_fS_5, ev_fS_6, ev_fS_7, ev_fS_8, ev_isO_0, ev_isO_1, ev_isO_2, ev_isO_3, ev_isO_4, ev_isO_5, ev_isO_6, ev_isO_7, ev_isO_8, ev_z0, ev_z1, ev_z2, eq_self, ev_ofN, ev_lku_s, ev_lku_n, ev_up_s, ev_up_n, ev_sl0, ev_sr0, ev_lk_s h3, ev_lk_s h4, hs, ev_isA_1, hr, hk1]
    refine S_copy h4 (by omega) (M := N + max (m - N) (N + 2)) (by omega) (by omega) h5 ?_
    simp (disch := omega) only [t_J5_ensureCapacityInternal_d00df_0, t_J5_ensureCapacityInternal_d00df_1, t_J5_ensureCapacityInternal_d00df_4, t_J5_ensureCapacityInternal_d00df_5, t_J5_ensureCapacityInternal_d00df_6, t_J5_ensureCapacityInternal_d00df_9, t_J5_ensureCapacityInternal_d00df_10, t_J5_ensureCapacityInternal_d00df_11, t_J5_ensureCapacityInternal_d00df_12, t_J5_ensureCapacityInternal_d00df_13, t_J5_ensureCapacityInternal_d00df_14, t_J5_ensureCapacityInternal_d00df_17, t_J5_ensureCapacityInternal_d00df_18, t_J5_ensureCapacityInternal_d00df_19, t_J5_ensureCapacityInternal_d00df_22, t_J5_ensureCapacityInternal_d00df_23, t_J5_ensureCapacityInternal_d00df_24, t_J5_ensureCapacityInternal_d00df_27, t_J5_ensureCapacityInternal_d00df_28, t_J5_ensureCapacityInternal_d00df_31, t_J5_ensureCapacityInternal_d00df_32, t_J5_ensureCapacityInternal_d00df_35, t_J5_ensureCapacityInternal_d00df_38, x_J5_ensureCapacityInternal_d00df_24, x_J5_ensureCapacityInternal_d00df_32, ↓reduceIte, ev_k_i, ev_k_r, ev_k_l, ev_k_J, ev_k_n, ev_kr_1, ev_kr_0, ev_isK_y, ev_aG_y, ev_aS_y, ev_aN_y, ev_inA_0, ev_isA_0, ev_ft_I, ev_ft_0, ev_ft_1, ev_ft_o, ev_ft_a, ev_nb_0, ev_nb_1, and_true, true_and, if_true, if_false, not_true_eq_false, not_false_eq_true, nI_1, ev_fG_0, ev_fG_1, ev_fG_2, ev_fG_3, ev_fG_4, ev_fG_5, ev_fG_6, ev_fG_7, ev_fG_8, ev_fS_0, ev_fS_1, ev_fS_2, ev_fS_3, ev_fS_4, ev_fS_5, ev_fS_6, ev_fS_7, ev_fS_8, ev_isO_0, ev_isO_1, ev_isO_2, ev_isO_3, ev_isO_4, ev_isO_5, ev_isO_6, ev_isO_7, ev_isO_8, ev_z0, ev_z1, ev_z2, eq_self, ev_ofN, ev_lku_s, ev_lku_n, ev_up_s, ev_up_n, ev_sl0, ev_sr0, ev_lk_s h3, h3, ev_lk_s h4, hs, ev_isA_1]
    have hmx : max m (2 * N + 2) ≤ N + max (m - N) (N + 2) := by omega
    refine c (N + max (m - N) (N + 2)) _ (n + 1) (q + (N + max (m - N) (N + 2))) ⟨n, ml, va_cpy f (fun _ => .int 0) 0 0 N, by omega, by omega, ev_up_s, ?_, fun i hi => ?_, by omega, by omega, fun z hz => ?_, fun z hz => ?_⟩ (by omega) ⟨by omega, by omega, by omega, by omega, Or.inr (by omega)⟩
    · rw [ev_up_n (by omega), ev_up_s]
    · unfold va_cpy
      split
      · exact h5 _ (by omega)
      · rfl
    · have e1 : ¬ z = n0 := by
        rcases hz with h | ⟨h, -⟩
        · omega
        · exact h
      have e2 : ¬ z = n := by
        rcases hz with h | ⟨h, c, hc⟩
        · omega
        · intro e
          have := h8 z (Or.inr ⟨h, c, hc⟩)
          rw [hc, e, h9 n (Nat.le_refl n)] at this
          cases this
      rw [ev_up_n e1, ev_up_n e2]; exact h8 z hz
    · rw [ev_up_n (by omega), ev_up_n (by omega)]; exact h9 z (by omega)
end S41
