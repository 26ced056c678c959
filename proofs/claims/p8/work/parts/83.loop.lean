/-! ===== the law: call after call ===== -/
theorem ev_nrw_b1 : (narrow .boolean (.int 1) = (.int 1 : Value)) = True := eq_true (by decide)
section L83
variable {X : ev_E} {zf : Nat → Nat} {x S i : Nat} {G : ev_CS} {As : List Nat} {H : ev_M} {n q : Nat} {P : ev_O → ev_M → Nat → Nat → Prop} {v0 v1 v2 v3 : Int32}
theorem LP_all (hEM : ev_EM X) (hD : ev_DG X) (hK : ev_KK X) (hS : jS X S i v0 v1 v2 v3) (h : jM X zf x G G As H n) {a5 a6 : Value} (c : jC X zf x S i n q P) : ∀ m, m < 45 → ev_ok (ev_TT X) 310 (([236, 304, 356, 408, 448, 500, 540, 597, 649, 689, 729, 757, 797, 837, 877, 917, 945, 973, 1013, 1053, 1093, 1121, 1149, 1177, 1205, 1233, 1261, 1313, 1326, 1339, 1364, 1389, 1417, 1430, 1458, 1498, 1538, 1566, 1594, 1622, 1647, 1675, 1703, 1716, 1729] : List Nat).getD m 1742) [.ref S, .ref x, .ref (x + 57), .ref (x + 68), .int (nI i), a5, a6] [] H n q P
  | 0, _ => by exact LP_make hS h c
  | 1, _ => by exact LP_put hS h c
  | 2, _ => by exact LP_putIfAbsent hS h c
  | 3, _ => by exact LP_get hS h c
  | 4, _ => by exact LP_getOr hS h c
  | 5, _ => by exact LP_remove hS h c
  | 6, _ => by exact LP_clear hS h c
  | 7, _ => by exact LP_set hS h c
  | 8, _ => by exact LP_copy hS h hEM c
  | 9, _ => by exact LP_has hS h c
  | 10, _ => by exact LP_size hS h c
  | 11, _ => by exact LP_keyAt hS h c
  | 12, _ => by exact LP_valueAt hS h c
  | 13, _ => by exact LP_pairAt hS h c
  | 14, _ => by exact LP_placeOf hS h c
  | 15, _ => by exact LP_eldest hS h c
  | 16, _ => by exact LP_latest hS h c
  | 17, _ => by exact LP_text hS h hD c
  | 18, _ => by exact LP_ofTable hS h c
  | 19, _ => by exact LP_walk hS h c
  | 20, _ => by exact LP_step hS h c
  | 21, _ => by exact LP_cut hS h c
  | 22, _ => by exact LP_hasMore hS h c
  | 23, _ => by exact LP_isStale hS h c
  | 24, _ => by exact LP_rest hS h c
  | 25, _ => by exact LP_ask hS h c
  | 26, _ => by exact LP_askRow hS h c
  | 27, _ => by exact LP_forget hS h c
  | 28, _ => by exact LP_asked hS h c
  | 29, _ => by exact LP_askedAt hS h c
  | 30, _ => by exact LP_depthAt hS h c
  | 31, _ => by exact LP_depth hS h c
  | 32, _ => by exact LP_stack hS h hD hK c
  | 33, _ => by exact LP_kept hS h hD hK c
  | 34, _ => by exact LP_keeps hS h c
  | 35, _ => by exact LP_takenAt hS h c
  | 36, _ => by exact LP_misses hS h c
  | 37, _ => by exact LP_hits hS h c
  | 38, _ => by exact LP_lost hS h c
  | 39, _ => by exact LP_withDepth hS h c
  | 40, _ => by exact LP_best hS h c
  | 41, _ => by exact LP_house hS h c
  | 42, _ => by exact LP_knock hS h c
  | 43, _ => by exact LP_isSound hS h c
  | 44, _ => by exact LP_digest hS h c
  | m + 45, hm => absurd hm (by omega)
/-- what the script is -/
def jA (X : ev_E) (S N : Nat) : Prop := S < X.1.heap.size ∧ ∃ f : Nat → Value, X.2.2.2.2.1 S = some (.inl (6, N, f)) ∧ ∀ j, j < N → ∃ v, f j = .int v
theorem jS_of {N : Nat} (hA : jA X S N) (hN : N < 2 ^ 30) (hi : i + 4 ≤ N) : ∃ v0 v1 v2 v3, jS X S i v0 v1 v2 v3 := by
  obtain ⟨h1, f, h2, h3⟩ := hA
  obtain ⟨w0, e0⟩ := h3 i (by omega)
  obtain ⟨w1, e1⟩ := h3 (i + 1) (by omega)
  obtain ⟨w2, e2⟩ := h3 (i + 2) (by omega)
  obtain ⟨w3, e3⟩ := h3 (i + 3) (by omega)
  have key : ∀ j w, j < N → f j = .int w → ∀ H, ev_low X H → ev_inA (ev_lk X H S) (nI j) ev_tI = True ∧ ev_aG (ev_lk X H S) (nI j) = .int w := fun j w hj e H hw => by
    rw [ev_lk_o (hw _ h1) h2, ev_inA_6, ev_aG_y, nI_clamp (n := j) (by omega)]
    exact ⟨eq_true ⟨nI_pos' (by omega), hj⟩, e⟩
  refine ⟨w0, w1, w2, w3, fun H hw => ⟨key i w0 (by omega) e0 H hw, key (i + 1) w1 (by omega) e1 H hw, ?_, ?_⟩⟩
  · rw [show nI i + 2 = nI (i + 2) from nI_add i 2]
    exact key (i + 2) w2 (by omega) e2 H hw
  · rw [show nI i + 3 = nI (i + 3) from nI_add i 3]
    exact key (i + 3) w3 (by omega) e3 H hw
theorem j_end {N i : Nat} (hN : N < 2 ^ 30) (hi : i < 2 ^ 30) : (nI N - 4 < nI i) = (N < i + 4) := by
  have e1 : (nI N - 4).toInt = (N : Int) - 4 := pk_sub_toInt (a := N) (b := 4) (by omega) (by omega)
  have e2 : (nI i).toInt = (i : Int) := by
    have := pk_sub_toInt (a := i) (b := 0) (by omega) (by omega)
    rw [show nI 0 = 0 from rfl, Int32.sub_zero] at this
    omega
  rw [Int32.lt_iff_toInt_lt, e1, e2]
  exact propext ⟨fun h => by omega, fun h => by omega⟩
theorem LAW_loop (hEM : ev_EM X) (hD : ev_DG X) (hK : ev_KK X) {N : Nat} (hA : jA X S N) (hN : N < 2 ^ 29) : ∀ (d i : Nat) (G : ev_CS) (As : List Nat) (H : ev_M) (n q : Nat) (a5 a6 : Value), i ≤ N → N < i + 4 + 4 * d → jM X zf x G G As H n → (∀ H1 n1 q1, n ≤ n1 → n1 ≤ n + 1000 * d → q ≤ q1 → q1 ≤ q + 12900 * d → P (.inl (some (.int 1))) H1 n1 q1) → ev_ok (ev_TT X) 310 27 [.ref S, .ref x, .ref (x + 57), .ref (x + 68), .int (nI i), a5, a6] [] H n q P := by
  intro d
  induction d with
  | zero =>
    intro i G As H n q a5 a6 hi hd h c
    obtain ⟨h1, f, h2, h3⟩ := id hA
    have hl : ev_lk X H S = some (.inl (6, N, f)) := ev_lk_o (jM_low h _ h1) h2
    have he : Int32.ofNat N - 4 < nI i := by rw [show Int32.ofNat N = nI N from rfl, j_end (by omega) (by omega)]; omega
    simp (disch := omega) only [t_L_law_27, t_L_law_29, t_L_law_30, t_L_law_31, t_L_law_32, t_L_law_33, t_L_law_1748, t_L_law_1749, ↓reduceIte, ev_k_i, ev_k_r, ev_k_l, ev_k_J, ev_k_n, ev_kr_1, ev_kr_0, ev_isK_y, ev_aG_y, ev_aS_y, ev_aN_y, ev_inA_0, ev_isA_0, ev_ft_I, ev_ft_0, ev_ft_1, ev_ft_o, ev_ft_a, ev_nb_0, ev_nb_1, and_true, true_and, if_true, if_false, not_true_eq_false, not_false_eq_true, nI_1, ev_fG_0, ev_fG_1, ev_fG_2, ev_fG_3, ev_fG_4, ev_fG_5, ev_fG_6, ev_fG_7, ev_fG_8, ev_fS_0, ev_fS_1, ev_fS_2, ev_fS_3, ev_fS_4, ev_fS_5, ev_fS_6, ev_fS_7, ev_fS_8, ev_isO_0, ev_isO_1, ev_isO_2, ev_isO_3, ev_isO_4, ev_isO_5, ev_isO_6, ev_isO_7, ev_isO_8, ev_z0, ev_z1, ev_z2, eq_self, show ¬ (1 : Int32) = 0 from by decide, show ¬ (2 : Int32) = 0 from by decide, show ¬ (2 : Int32) = 1 from by decide, show ¬ (0 : Int32) = 1 from by decide, show ¬ (0 : Int32) = 2 from by decide, show ¬ (1 : Int32) = 2 from by decide, show ¬ (0 : Int32) = -1 from by decide, show (0 : Int32) ≤ 1 from by decide, show (1 : Int32).toNatClampNeg = 1 from rfl, show (0 : Nat) < 2 from by omega, show (1 : Nat) < 2 from by omega, not_true_eq_false, ne_eq, not_false_eq_true, hl, ev_isA_6, he, ev_nrw_b1]
    exact c H n q (Nat.le_refl n) (Nat.le_refl n) (Nat.le_refl q) (Nat.le_refl q)
  | succ d ih =>
    intro i G As H n q a5 a6 hi hd h c
    obtain ⟨h1, f, h2, h3⟩ := id hA
    have hl : ev_lk X H S = some (.inl (6, N, f)) := ev_lk_o (jM_low h _ h1) h2
    rcases Nat.lt_or_ge N (i + 4) with hlt | hge
    · have he : Int32.ofNat N - 4 < nI i := by rw [show Int32.ofNat N = nI N from rfl, j_end (by omega) (by omega)]; exact hlt
      simp (disch := omega) only [t_L_law_27, t_L_law_29, t_L_law_30, t_L_law_31, t_L_law_32, t_L_law_33, t_L_law_1748, t_L_law_1749, ↓reduceIte, ev_k_i, ev_k_r, ev_k_l, ev_k_J, ev_k_n, ev_kr_1, ev_kr_0, ev_isK_y, ev_aG_y, ev_aS_y, ev_aN_y, ev_inA_0, ev_isA_0, ev_ft_I, ev_ft_0, ev_ft_1, ev_ft_o, ev_ft_a, ev_nb_0, ev_nb_1, and_true, true_and, if_true, if_false, not_true_eq_false, not_false_eq_true, nI_1, ev_fG_0, ev_fG_1, ev_fG_2, ev_fG_3, ev_fG_4, ev_fG_5, ev_fG_6, ev_fG_7, ev_fG_8, ev_fS_0, ev_fS_1, ev_fS_2, ev_fS_3, ev_fS_4, ev_fS_5, ev_fS_6, ev_fS_7, ev_fS_8, ev_isO_0, ev_isO_1, ev_isO_2, ev_isO_3, ev_isO_4, ev_isO_5, ev_isO_6, ev_isO_7, ev_isO_8, ev_z0, ev_z1, ev_z2, eq_self, show ¬ (1 : Int32) = 0 from by decide, show ¬ (2 : Int32) = 0 from by decide, show ¬ (2 : Int32) = 1 from by decide, show ¬ (0 : Int32) = 1 from by decide, show ¬ (0 : Int32) = 2 from by decide, show ¬ (1 : Int32) = 2 from by decide, show ¬ (0 : Int32) = -1 from by decide, show (0 : Int32) ≤ 1 from by decide, show (1 : Int32).toNatClampNeg = 1 from rfl, show (0 : Nat) < 2 from by omega, show (1 : Nat) < 2 from by omega, not_true_eq_false, ne_eq, not_false_eq_true, hl, ev_isA_6, he, ev_nrw_b1]
      exact c H n q (Nat.le_refl n) (by omega) (Nat.le_refl q) (by omega)
    · have he : ¬ Int32.ofNat N - 4 < nI i := by rw [show Int32.ofNat N = nI N from rfl, j_end (by omega) (by omega)]; omega
      obtain ⟨v0, v1, v2, v3, hS⟩ := jS_of (i := i) hA (by omega) hge
      have hs := hS H (jM_low h)
      simp (disch := omega) only [t_L_law_27, t_L_law_29, t_L_law_30, t_L_law_31, t_L_law_32, t_L_law_33, ↓reduceIte, ev_k_i, ev_k_r, ev_k_l, ev_k_J, ev_k_n, ev_kr_1, ev_kr_0, ev_isK_y, ev_aG_y, ev_aS_y, ev_aN_y, ev_inA_0, ev_isA_0, ev_ft_I, ev_ft_0, ev_ft_1, ev_ft_o, ev_ft_a, ev_nb_0, ev_nb_1, and_true, true_and, if_true, if_false, not_true_eq_false, not_false_eq_true, nI_1, ev_fG_0, ev_fG_1, ev_fG_2, ev_fG_3, ev_fG_4, ev_fG_5, ev_fG_6, ev_fG_7, ev_fG_8, ev_fS_0, ev_fS_1, ev_fS_2, ev_fS_3, ev_fS_4, ev_fS_5, ev_fS_6, ev_fS_7, ev_fS_8, ev_isO_0, ev_isO_1, ev_isO_2, ev_isO_3, ev_isO_4, ev_isO_5, ev_isO_6, ev_isO_7, ev_isO_8, ev_z0, ev_z1, ev_z2, eq_self, show ¬ (1 : Int32) = 0 from by decide, show ¬ (2 : Int32) = 0 from by decide, show ¬ (2 : Int32) = 1 from by decide, show ¬ (0 : Int32) = 1 from by decide, show ¬ (0 : Int32) = 2 from by decide, show ¬ (1 : Int32) = 2 from by decide, show ¬ (0 : Int32) = -1 from by decide, show (0 : Int32) ≤ 1 from by decide, show (1 : Int32).toNatClampNeg = 1 from rfl, show (0 : Nat) < 2 from by omega, show (1 : Nat) < 2 from by omega, not_true_eq_false, ne_eq, not_false_eq_true, hl, ev_isA_6, he]
      simp (disch := omega) only [t_L_law_36, t_L_law_37, t_L_law_39, t_L_law_40, t_L_law_42, ↓reduceIte, ev_k_i, ev_k_r, ev_k_l, ev_k_J, ev_k_n, ev_kr_1, ev_kr_0, ev_isK_y, ev_aG_y, ev_aS_y, ev_aN_y, ev_inA_0, ev_isA_0, ev_ft_I, ev_ft_0, ev_ft_1, ev_ft_o, ev_ft_a, ev_nb_0, ev_nb_1, and_true, true_and, if_true, if_false, not_true_eq_false, not_false_eq_true, nI_1, ev_fG_0, ev_fG_1, ev_fG_2, ev_fG_3, ev_fG_4, ev_fG_5, ev_fG_6, ev_fG_7, ev_fG_8, ev_fS_0, ev_fS_1, ev_fS_2, ev_fS_3, ev_fS_4, ev_fS_5, ev_fS_6, ev_fS_7, ev_fS_8, ev_isO_0, ev_isO_1, ev_isO_2, ev_isO_3, ev_isO_4, ev_isO_5, ev_isO_6, ev_isO_7, ev_isO_8, ev_z0, ev_z1, ev_z2, eq_self, show ¬ (1 : Int32) = 0 from by decide, show ¬ (2 : Int32) = 0 from by decide, show ¬ (2 : Int32) = 1 from by decide, show ¬ (0 : Int32) = 1 from by decide, show ¬ (0 : Int32) = 2 from by decide, show ¬ (1 : Int32) = 2 from by decide, show ¬ (0 : Int32) = -1 from by decide, show (0 : Int32) ≤ 1 from by decide, show (1 : Int32).toNatClampNeg = 1 from rfl, show (0 : Nat) < 2 from by omega, show (1 : Nat) < 2 from by omega, not_true_eq_false, ne_eq, not_false_eq_true, hs.1.1, hs.1.2]
      have cc : jC X zf x S i n q P := fun G1 As1 H1 n1 q1 b5 b6 hM g1 g2 g3 g4 => by
        simp (disch := omega) only [t_L_law_1742, t_L_law_1745, ↓reduceIte, ev_k_i, ev_k_r, ev_k_l, ev_k_J, ev_k_n, ev_kr_1, ev_kr_0, ev_isK_y, ev_aG_y, ev_aS_y, ev_aN_y, ev_inA_0, ev_isA_0, ev_ft_I, ev_ft_0, ev_ft_1, ev_ft_o, ev_ft_a, ev_nb_0, ev_nb_1, and_true, true_and, if_true, if_false, not_true_eq_false, not_false_eq_true, nI_1, ev_fG_0, ev_fG_1, ev_fG_2, ev_fG_3, ev_fG_4, ev_fG_5, ev_fG_6, ev_fG_7, ev_fG_8, ev_fS_0, ev_fS_1, ev_fS_2, ev_fS_3, ev_fS_4, ev_fS_5, ev_fS_6, ev_fS_7, ev_fS_8, ev_isO_0, ev_isO_1, ev_isO_2, ev_isO_3, ev_isO_4, ev_isO_5, ev_isO_6, ev_isO_7, ev_isO_8, ev_z0, ev_z1, ev_z2, eq_self, show ¬ (1 : Int32) = 0 from by decide, show ¬ (2 : Int32) = 0 from by decide, show ¬ (2 : Int32) = 1 from by decide, show ¬ (0 : Int32) = 1 from by decide, show ¬ (0 : Int32) = 2 from by decide, show ¬ (1 : Int32) = 2 from by decide, show ¬ (0 : Int32) = -1 from by decide, show (0 : Int32) ≤ 1 from by decide, show (1 : Int32).toNatClampNeg = 1 from rfl, show (0 : Nat) < 2 from by omega, show (1 : Nat) < 2 from by omega, not_true_eq_false, ne_eq, not_false_eq_true]
        rw [show nI i + 4 = nI (i + 4) from nI_add i 4]
        exact ih (i + 4) G1 As1 H1 n1 q1 b5 b6 (by omega) (by omega) hM (fun H2 n2 q2 f1 f2 f3 f4 => c H2 n2 q2 (by omega) (by omega) (by omega) (by omega))
      rw [t_L_law_43]
      by_cases hr : (v0 &&& 63).toInt < (0) ∨ (0) + ([236, 304, 356, 408, 448, 500, 540, 597, 649, 689, 729, 757, 797, 837, 877, 917, 945, 973, 1013, 1053, 1093, 1121, 1149, 1177, 1205, 1233, 1261, 1313, 1326, 1339, 1364, 1389, 1417, 1430, 1458, 1498, 1538, 1566, 1594, 1622, 1647, 1675, 1703, 1716, 1729] : List Nat).length ≤ (v0 &&& 63).toInt
      · rw [if_pos hr]
        exact cc G As H n q _ _ h (Nat.le_refl n) (by omega) (Nat.le_refl q) (by omega)
      · rw [if_neg hr]
        have hr2 : ¬ ((v0 &&& 63).toInt < 0 ∨ 0 + 45 ≤ (v0 &&& 63).toInt) := hr
        exact LP_all hEM hD hK hS h cc _ (by omega)
end L83
