/-! ===== joined: 83.loop, 84.start, 85.read, 86.tags ===== -/
section
/-! ===== the law: call after call ===== -/
theorem ev_nrw_b1 : (narrow .boolean (.int 1) = (.int 1 : Value)) = True := eq_true (by decide)
section L83
variable {X : ev_E} {zf : Nat → Nat} {x S i : Nat} {G : ev_CS} {As : List Nat} {H : ev_M} {n q : Nat} {P : ev_O → ev_M → Nat → Nat → Prop} {v0 v1 v2 v3 : Int32}
theorem LP_all (hEM : ev_EM X) (hD : ev_DG X) (hK : ev_KK X) (hS : jS X S i v0 v1 v2 v3) (h : jM X zf x G G As H n) {a5 a6 : Value} (c : jC X zf x S i n q P) : ∀ m, m < 45 → ev_ok (ev_TT X) 310 (([236, 304, 356, 408, 448, 500, 540, 568, 620, 660, 700, 728, 768, 837, 877, 917, 945, 973, 1013, 1053, 1093, 1121, 1149, 1177, 1205, 1233, 1261, 1313, 1326, 1339, 1364, 1389, 1417, 1430, 1458, 1498, 1538, 1566, 1594, 1622, 1647, 1675, 1703, 1716, 1729] : List Nat).getD m 1742) [.ref S, .ref x, .ref (x + 57), .ref (x + 68), .int (nI i), a5, a6] [] H n q P
  | 0, _ => by exact LP_make hS h c
  | 1, _ => by exact LP_put hS h c
  | 2, _ => by exact LP_putIfAbsent hS h c
  | 3, _ => by exact LP_get hS h c
  | 4, _ => by exact LP_getOr hS h c
  | 5, _ => by exact LP_remove hS h c
  | 6, _ => by exact LP_clear hS h c
  | 7, _ => by exact LP_set hS h c
  | 8, _ => by exact LP_copy hS h hEM c
  | 9, _ => by exact LP_has hS h c
  | 10, _ => by exact LP_size hS h c
  | 11, _ => by exact LP_keyAt hS h c
  | 12, _ => by exact LP_valueAt hS h c
  | 13, _ => by exact LP_pairAt hS h c
  | 14, _ => by exact LP_placeOf hS h c
  | 15, _ => by exact LP_eldest hS h c
  | 16, _ => by exact LP_latest hS h c
  | 17, _ => by exact LP_text hS h hD c
  | 18, _ => by exact LP_ofTable hS h c
  | 19, _ => by exact LP_walk hS h c
  | 20, _ => by exact LP_step hS h c
  | 21, _ => by exact LP_cut hS h c
  | 22, _ => by exact LP_hasMore hS h c
  | 23, _ => by exact LP_isStale hS h c
  | 24, _ => by exact LP_rest hS h c
  | 25, _ => by exact LP_ask hS h c
  | 26, _ => by exact LP_askRow hS h c
  | 27, _ => by exact LP_forget hS h c
  | 28, _ => by exact LP_asked hS h c
  | 29, _ => by exact LP_askedAt hS h c
  | 30, _ => by exact LP_depthAt hS h c
  | 31, _ => by exact LP_depth hS h c
  | 32, _ => by exact LP_stack hS h hD hK c
  | 33, _ => by exact LP_kept hS h hD hK c
  | 34, _ => by exact LP_keeps hS h c
  | 35, _ => by exact LP_takenAt hS h c
  | 36, _ => by exact LP_misses hS h c
  | 37, _ => by exact LP_hits hS h c
  | 38, _ => by exact LP_lost hS h c
  | 39, _ => by exact LP_withDepth hS h c
  | 40, _ => by exact LP_best hS h c
  | 41, _ => by exact LP_house hS h c
  | 42, _ => by exact LP_knock hS h c
  | 43, _ => by exact LP_isSound hS h c
  | 44, _ => by exact LP_digest hS h c
  | m + 45, hm => absurd hm (by omega)
/-- what the script is -/
def jA (X : ev_E) (S N : Nat) : Prop := S < X.1.heap.size ∧ ∃ f : Nat → Value, X.2.2.2.2.1 S = some (.inl (6, N, f)) ∧ ∀ j, j < N → ∃ v, f j = .int v
theorem jS_of {N : Nat} (hA : jA X S N) (hN : N < 2 ^ 30) (hi : i + 4 ≤ N) : ∃ v0 v1 v2 v3, jS X S i v0 v1 v2 v3 := by
  obtain ⟨h1, f, h2, h3⟩ := hA
  obtain ⟨w0, e0⟩ := h3 i (by omega)
  obtain ⟨w1, e1⟩ := h3 (i + 1) (by omega)
  obtain ⟨w2, e2⟩ := h3 (i + 2) (by omega)
  obtain ⟨w3, e3⟩ := h3 (i + 3) (by omega)
  have key : ∀ j w, j < N → f j = .int w → ∀ H, ev_low X H → ev_inA (ev_lk X H S) (nI j) ev_tI = True ∧ ev_aG (ev_lk X H S) (nI j) = .int w := fun j w hj e H hw => by
    rw [ev_lk_o (hw _ h1) h2, ev_inA_6, ev_aG_y, nI_clamp (n := j) (by omega)]
    exact ⟨eq_true ⟨nI_pos' (by omega), hj⟩, e⟩
  refine ⟨w0, w1, w2, w3, fun H hw => ⟨key i w0 (by omega) e0 H hw, key (i + 1) w1 (by omega) e1 H hw, ?_, ?_⟩⟩
  · rw [show nI i + 2 = nI (i + 2) from nI_add i 2]
    exact key (i + 2) w2 (by omega) e2 H hw
  · rw [show nI i + 3 = nI (i + 3) from nI_add i 3]
    exact key (i + 3) w3 (by omega) e3 H hw
theorem j_end {N i : Nat} (hN : N < 2 ^ 30) (hi : i < 2 ^ 30) : (nI N - 4 < nI i) = (N < i + 4) := by
  have e1 : (nI N - 4).toInt = (N : Int) - 4 := pk_sub_toInt (a := N) (b := 4) (by omega) (by omega)
  have e2 : (nI i).toInt = (i : Int) := by
    have := pk_sub_toInt (a := i) (b := 0) (by omega) (by omega)
    rw [show nI 0 = 0 from rfl, Int32.sub_zero] at this
    omega
  rw [Int32.lt_iff_toInt_lt, e1, e2]
  exact propext ⟨fun h => by omega, fun h => by omega⟩
theorem LAW_loop (hEM : ev_EM X) (hD : ev_DG X) (hK : ev_KK X) {N : Nat} (hA : jA X S N) (hN : N < 2 ^ 29) : ∀ (d i : Nat) (G : ev_CS) (As : List Nat) (H : ev_M) (n q : Nat) (a5 a6 : Value), i ≤ N → N < i + 4 + 4 * d → jM X zf x G G As H n → (∀ H1 n1 q1, n ≤ n1 → n1 ≤ n + 1000 * d → q ≤ q1 → q1 ≤ q + 12900 * d → P (.inl (some (.int 1))) H1 n1 q1) → ev_ok (ev_TT X) 310 27 [.ref S, .ref x, .ref (x + 57), .ref (x + 68), .int (nI i), a5, a6] [] H n q P := by
  intro d
  induction d with
  | zero =>
    intro i G As H n q a5 a6 hi hd h c
    obtain ⟨h1, f, h2, h3⟩ := id hA
    have hl : ev_lk X H S = some (.inl (6, N, f)) := ev_lk_o (jM_low h _ h1) h2
    have he : Int32.ofNat N - 4 < nI i := by rw [show Int32.ofNat N = nI N from rfl, j_end (by omega) (by omega)]; omega
    simp (disch := omega) only [t_L_law_27, t_L_law_29, t_L_law_30, t_L_law_31, t_L_law_32, t_L_law_33, t_L_law_1748, t_L_law_1749, ↓reduceIte, ev_k_i, ev_k_r, ev_k_l, ev_k_J, ev_k_n, ev_kr_1, ev_kr_0, ev_isK_y, ev_aG_y, ev_aS_y, ev_aN_y, ev_inA_0, ev_isA_0, ev_ft_I, ev_ft_0, ev_ft_1, ev_ft_o, ev_ft_a, ev_nb_0, ev_nb_1, and_true, true_and, if_true, if_false, not_true_eq_false, not_false_eq_true, nI_1, ev_fG_0, ev_fG_1, ev_fG_2, ev_fG_3, ev_fG_4, ev_fG_5, ev_fG_6, ev_fG_7, ev_fG_8, ev_fS_0, ev_fS_1, ev_fS_2, ev_fS_3, ev_fS_4, ev_fS_5, ev_fS_6, ev_fS_7, ev_fS_8, ev_isO_0, ev_isO_1, ev_isO_2, ev_isO_3, ev_isO_4, ev_isO_5, ev_isO_6, ev_isO_7, ev_isO_8, ev_z0, ev_z1, ev_z2, eq_self, show ¬ (1 : Int32) = 0 from by decide, show ¬ (2 : Int32) = 0 from by decide, show ¬ (2 : Int32) = 1 from by decide, show ¬ (0 : Int32) = 1 from by decide, show ¬ (0 : Int32) = 2 from by decide, show ¬ (1 : Int32) = 2 from by decide, show ¬ (0 : Int32) = -1 from by decide, show (0 : Int32) ≤ 1 from by decide, show (1 : Int32).toNatClampNeg = 1 from rfl, show (0 : Nat) < 2 from by omega, show (1 : Nat) < 2 from by omega, not_true_eq_false, ne_eq, not_false_eq_true, hl, ev_isA_6, he, ev_nrw_b1]
    exact c H n q (Nat.le_refl n) (Nat.le_refl n) (Nat.le_refl q) (Nat.le_refl q)
  | succ d ih =>
    intro i G As H n q a5 a6 hi hd h c
    obtain ⟨h1, f, h2, h3⟩ := id hA
    have hl : ev_lk X H S = some (.inl (6, N, f)) := ev_lk_o (jM_low h _ h1) h2
    rcases Nat.lt_or_ge N (i + 4) with hlt | hge
    · have he : Int32.ofNat N - 4 < nI i := by rw [show Int32.ofNat N = nI N from rfl, j_end (by omega) (by omega)]; exact hlt
      simp (disch := omega) only [t_L_law_27, t_L_law_29, t_L_law_30, t_L_law_31, t_L_law_32, t_L_law_33, t_L_law_1748, t_L_law_1749, ↓reduceIte, ev_k_i, ev_k_r, ev_k_l, ev_k_J, ev_k_n, ev_kr_1, ev_kr_0, ev_isK_y, ev_aG_y, ev_aS_y, ev_aN_y, ev_inA_0, ev_isA_0, ev_ft_I, ev_ft_0, ev_ft_1, ev_ft_o, ev_ft_a, ev_nb_0, ev_nb_1, and_true, true_and, if_true, if_false, not_true_eq_false, not_false_eq_true, nI_1, ev_fG_0, ev_fG_1, ev_fG_2, ev_fG_3, ev_fG_4, ev_fG_5, ev_fG_6, ev_fG_7, ev_fG_8, ev_fS_0, ev_fS_1, ev_fS_2, ev_fS_3, ev_fS_4, ev_fS_5, ev_fS_6, ev_fS_7, ev_fS_8, ev_isO_0, ev_isO_1, ev_isO_2, ev_isO_3, ev_isO_4, ev_isO_5, ev_isO_6, ev_isO_7, ev_isO_8, ev_z0, ev_z1, ev_z2, eq_self, show ¬ (1 : Int32) = 0 from by decide, show ¬ (2 : Int32) = 0 from by decide, show ¬ (2 : Int32) = 1 from by decide, show ¬ (0 : Int32) = 1 from by decide, show ¬ (0 : Int32) = 2 from by decide, show ¬ (1 : Int32) = 2 from by decide, show ¬ (0 : Int32) = -1 from by decide, show (0 : Int32) ≤ 1 from by decide, show (1 : Int32).toNatClampNeg = 1 from rfl, show (0 : Nat) < 2 from by omega, show (1 : Nat) < 2 from by omega, not_true_eq_false, ne_eq, not_false_eq_true, hl, ev_isA_6, he, ev_nrw_b1]
      exact c H n q (Nat.le_refl n) (by omega) (Nat.le_refl q) (by omega)
    · have he : ¬ Int32.ofNat N - 4 < nI i := by rw [show Int32.ofNat N = nI N from rfl, j_end (by omega) (by omega)]; omega
      obtain ⟨v0, v1, v2, v3, hS⟩ := jS_of (i := i) hA (by omega) hge
      have hs := hS H (jM_low h)
      simp (disch := omega) only [t_L_law_27, t_L_law_29, t_L_law_30, t_L_law_31, t_L_law_32, t_L_law_33, ↓reduceIte, ev_k_i, ev_k_r, ev_k_l, ev_k_J, ev_k_n, ev_kr_1, ev_kr_0, ev_isK_y, ev_aG_y, ev_aS_y, ev_aN_y, ev_inA_0, ev_isA_0, ev_ft_I, ev_ft_0, ev_ft_1, ev_ft_o, ev_ft_a, ev_nb_0, ev_nb_1, and_true, true_and, if_true, if_false, not_true_eq_false, not_false_eq_true, nI_1, ev_fG_0, ev_fG_1, ev_fG_2, ev_fG_3, ev_fG_4, ev_fG_5, ev_fG_6, ev_fG_7, ev_fG_8, ev_fS_0, ev_fS_1, ev_fS_2, ev_fS_3, ev_fS_4, ev_fS_5, ev_fS_6, ev_fS_7, ev_fS_8, ev_isO_0, ev_isO_1, ev_isO_2, ev_isO_3, ev_isO_4, ev_isO_5, ev_isO_6, ev_isO_7, ev_isO_8, ev_z0, ev_z1, ev_z2, eq_self, show ¬ (1 : Int32) = 0 from by decide, show ¬ (2 : Int32) = 0 from by decide, show ¬ (2 : Int32) = 1 from by decide, show ¬ (0 : Int32) = 1 from by decide, show ¬ (0 : Int32) = 2 from by decide, show ¬ (1 : Int32) = 2 from by decide, show ¬ (0 : Int32) = -1 from by decide, show (0 : Int32) ≤ 1 from by decide, show (1 : Int32).toNatClampNeg = 1 from rfl, show (0 : Nat) < 2 from by omega, show (1 : Nat) < 2 from by omega, not_true_eq_false, ne_eq, not_false_eq_true, hl, ev_isA_6, he]
      simp (disch := omega) only [t_L_law_36, t_L_law_37, t_L_law_39, t_L_law_40, t_L_law_42, ↓reduceIte, ev_k_i, ev_k_r, ev_k_l, ev_k_J, ev_k_n, ev_kr_1, ev_kr_0, ev_isK_y, ev_aG_y, ev_aS_y, ev_aN_y, ev_inA_0, ev_isA_0, ev_ft_I, ev_ft_0, ev_ft_1, ev_ft_o, ev_ft_a, ev_nb_0, ev_nb_1, and_true, true_and, if_true, if_false, not_true_eq_false, not_false_eq_true, nI_1, ev_fG_0, ev_fG_1, ev_fG_2, ev_fG_3, ev_fG_4, ev_fG_5, ev_fG_6, ev_fG_7, ev_fG_8, ev_fS_0, ev_fS_1, ev_fS_2, ev_fS_3, ev_fS_4, ev_fS_5, ev_fS_6, ev_fS_7, ev_fS_8, ev_isO_0, ev_isO_1, ev_isO_2, ev_isO_3, ev_isO_4, ev_isO_5, ev_isO_6, ev_isO_7, ev_isO_8, ev_z0, ev_z1, ev_z2, eq_self, show ¬ (1 : Int32) = 0 from by decide, show ¬ (2 : Int32) = 0 from by decide, show ¬ (2 : Int32) = 1 from by decide, show ¬ (0 : Int32) = 1 from by decide, show ¬ (0 : Int32) = 2 from by decide, show ¬ (1 : Int32) = 2 from by decide, show ¬ (0 : Int32) = -1 from by decide, show (0 : Int32) ≤ 1 from by decide, show (1 : Int32).toNatClampNeg = 1 from rfl, show (0 : Nat) < 2 from by omega, show (1 : Nat) < 2 from by omega, not_true_eq_false, ne_eq, not_false_eq_true, hs.1.1, hs.1.2]
      have cc : jC X zf x S i n q P := fun G1 As1 H1 n1 q1 b5 b6 hM g1 g2 g3 g4 => by
        simp (disch := omega) only [t_L_law_1742, t_L_law_1745, ↓reduceIte, ev_k_i, ev_k_r, ev_k_l, ev_k_J, ev_k_n, ev_kr_1, ev_kr_0, ev_isK_y, ev_aG_y, ev_aS_y, ev_aN_y, ev_inA_0, ev_isA_0, ev_ft_I, ev_ft_0, ev_ft_1, ev_ft_o, ev_ft_a, ev_nb_0, ev_nb_1, and_true, true_and, if_true, if_false, not_true_eq_false, not_false_eq_true, nI_1, ev_fG_0, ev_fG_1, ev_fG_2, ev_fG_3, ev_fG_4, ev_fG_5, ev_fG_6, ev_fG_7, ev_fG_8, ev_fS_0, ev_fS_1, ev_fS_2, ev_fS_3, ev_fS_4, ev_fS_5, ev_fS_6, ev_fS_7, ev_fS_8, ev_isO_0, ev_isO_1, ev_isO_2, ev_isO_3, ev_isO_4, ev_isO_5, ev_isO_6, ev_isO_7, ev_isO_8, ev_z0, ev_z1, ev_z2, eq_self, show ¬ (1 : Int32) = 0 from by decide, show ¬ (2 : Int32) = 0 from by decide, show ¬ (2 : Int32) = 1 from by decide, show ¬ (0 : Int32) = 1 from by decide, show ¬ (0 : Int32) = 2 from by decide, show ¬ (1 : Int32) = 2 from by decide, show ¬ (0 : Int32) = -1 from by decide, show (0 : Int32) ≤ 1 from by decide, show (1 : Int32).toNatClampNeg = 1 from rfl, show (0 : Nat) < 2 from by omega, show (1 : Nat) < 2 from by omega, not_true_eq_false, ne_eq, not_false_eq_true]
        rw [show nI i + 4 = nI (i + 4) from nI_add i 4]
        exact ih (i + 4) G1 As1 H1 n1 q1 b5 b6 (by omega) (by omega) hM (fun H2 n2 q2 f1 f2 f3 f4 => c H2 n2 q2 (by omega) (by omega) (by omega) (by omega))
      rw [t_L_law_43]
      by_cases hr : (v0 &&& 63).toInt < (0) ∨ (0) + ([236, 304, 356, 408, 448, 500, 540, 568, 620, 660, 700, 728, 768, 837, 877, 917, 945, 973, 1013, 1053, 1093, 1121, 1149, 1177, 1205, 1233, 1261, 1313, 1326, 1339, 1364, 1389, 1417, 1430, 1458, 1498, 1538, 1566, 1594, 1622, 1647, 1675, 1703, 1716, 1729] : List Nat).length ≤ (v0 &&& 63).toInt
      · rw [if_pos hr]
        exact cc G As H n q _ _ h (Nat.le_refl n) (by omega) (Nat.le_refl q) (by omega)
      · rw [if_neg hr]
        have hr2 : ¬ ((v0 &&& 63).toInt < 0 ∨ 0 + 45 ≤ (v0 &&& 63).toInt) := hr
        exact LP_all hEM hD hK hS h cc _ (by omega)
end L83
end
section
/-! ===== the law from its start ===== -/
theorem okT_0 : okT t_0 := ⟨okL_nil, Or.inl rfl, Nat.zero_le 20, fun z => by cases z⟩
theorem jG_0 : jG g_0 := ⟨⟨fun i _ => okT_0, okL_nil, fun j _ => okL_nil, Nat.zero_le 60⟩, fun i _ => okV_nil, fun i _ => ⟨Or.inl rfl, fun z => z (Or.inl rfl)⟩⟩
section L84
variable {X : ev_E} {zf : Nat → Nat} {S : Nat} {q : Nat} {P : ev_O → ev_M → Nat → Nat → Prop}
theorem LAW_start (hEM : ev_EM X) (hD : ev_DG X) (hK : ev_KK X) (hI : ev_IC X zf) (hro : ∀ a, X.1.heap.size ≤ a → X.2.2.2.2.1 a = none) (hE1 : X.2.2.2.2.2 1 < X.1.heap.size) {N : Nat} (hA : jA X S N) (hN : N ≤ 2048) (c : ∀ H1 n1 q1, X.1.heap.size ≤ n1 → n1 ≤ X.1.heap.size + 601024 → q ≤ q1 → q1 ≤ q + 7293033 → P (.inl (some (.int 1))) H1 n1 q1) : ev_ok (ev_TT X) 310 0 [.ref S, ev_J, ev_J, ev_J, ev_J, ev_J, ev_J] [] (fun _ => none) X.1.heap.size q P := by
  generalize hx : X.1.heap.size = x
  rw [hx] at c
  simp (disch := omega) only [t_L_law_0, t_L_law_3, t_L_law_3_i, t_L_law_4, ↓reduceIte, ev_k_i, ev_k_r, ev_k_l, ev_k_J, ev_k_n, ev_kr_1, ev_kr_0, ev_isK_y, ev_aG_y, ev_aS_y, ev_aN_y, ev_inA_0, ev_isA_0, ev_ft_I, ev_ft_0, ev_ft_1, ev_ft_o, ev_ft_a, ev_nb_0, ev_nb_1, and_true, true_and, if_true, if_false, not_true_eq_false, not_false_eq_true, nI_1, ev_fG_0, ev_fG_1, ev_fG_2, ev_fG_3, ev_fG_4, ev_fG_5, ev_fG_6, ev_fG_7, ev_fG_8, ev_fS_0, ev_fS_1, ev_fS_2, ev_fS_3, ev_fS_4, ev_fS_5, ev_fS_6, ev_fS_7, ev_fS_8, ev_isO_0, ev_isO_1, ev_isO_2, ev_isO_3, ev_isO_4, ev_isO_5, ev_isO_6, ev_isO_7, ev_isO_8, ev_z0, ev_z1, ev_z2, eq_self, show ¬ (1 : Int32) = 0 from by decide, show ¬ (2 : Int32) = 0 from by decide, show ¬ (2 : Int32) = 1 from by decide, show ¬ (0 : Int32) = 1 from by decide, show ¬ (0 : Int32) = 2 from by decide, show ¬ (1 : Int32) = 2 from by decide, show ¬ (0 : Int32) = -1 from by decide, show (0 : Int32) ≤ 1 from by decide, show (1 : Int32).toNatClampNeg = 1 from rfl, show (0 : Nat) < 2 from by omega, show (1 : Nat) < 2 from by omega, not_true_eq_false, ne_eq, not_false_eq_true]
  refine C_new ev_up_s fun H1 q1 h1 h2 h3 h4 => ?_
  simp (disch := omega) only [t_L_law_7, t_L_law_8, t_L_law_11, t_L_law_11_i, t_L_law_12, ↓reduceIte, ev_k_i, ev_k_r, ev_k_l, ev_k_J, ev_k_n, ev_kr_1, ev_kr_0, ev_isK_y, ev_aG_y, ev_aS_y, ev_aN_y, ev_inA_0, ev_isA_0, ev_ft_I, ev_ft_0, ev_ft_1, ev_ft_o, ev_ft_a, ev_nb_0, ev_nb_1, and_true, true_and, if_true, if_false, not_true_eq_false, not_false_eq_true, nI_1, ev_fG_0, ev_fG_1, ev_fG_2, ev_fG_3, ev_fG_4, ev_fG_5, ev_fG_6, ev_fG_7, ev_fG_8, ev_fS_0, ev_fS_1, ev_fS_2, ev_fS_3, ev_fS_4, ev_fS_5, ev_fS_6, ev_fS_7, ev_fS_8, ev_isO_0, ev_isO_1, ev_isO_2, ev_isO_3, ev_isO_4, ev_isO_5, ev_isO_6, ev_isO_7, ev_isO_8, ev_z0, ev_z1, ev_z2, eq_self, show ¬ (1 : Int32) = 0 from by decide, show ¬ (2 : Int32) = 0 from by decide, show ¬ (2 : Int32) = 1 from by decide, show ¬ (0 : Int32) = 1 from by decide, show ¬ (0 : Int32) = 2 from by decide, show ¬ (1 : Int32) = 2 from by decide, show ¬ (0 : Int32) = -1 from by decide, show (0 : Int32) ≤ 1 from by decide, show (1 : Int32).toNatClampNeg = 1 from rfl, show (0 : Nat) < 2 from by omega, show (1 : Nat) < 2 from by omega, not_true_eq_false, ne_eq, not_false_eq_true]
  have hw1 : ∀ a, ¬ (x ≤ a ∧ a < x + 57) → H1 a = none := fun a ha => (h2 a (by omega)).trans (ev_up_n (by omega))
  refine M_new (zf := zf) hEM ⟨by omega, hro, hE1⟩ (fun a ha => (ev_up_n (by omega)).trans (hw1 a (by omega))) ev_up_s fun H2 q2 g1 g2 g3 g4 => ?_
  simp (disch := omega) only [t_L_law_15, t_L_law_16, t_L_law_19, t_L_law_19_i, t_L_law_20, t_L_law_23, t_L_law_24, t_L_law_25, t_X6_init_0, t_X6_init_1, t_X6_init_4, ↓reduceIte, ev_k_i, ev_k_r, ev_k_l, ev_k_J, ev_k_n, ev_kr_1, ev_kr_0, ev_isK_y, ev_aG_y, ev_aS_y, ev_aN_y, ev_inA_0, ev_isA_0, ev_ft_I, ev_ft_0, ev_ft_1, ev_ft_o, ev_ft_a, ev_nb_0, ev_nb_1, and_true, true_and, if_true, if_false, not_true_eq_false, not_false_eq_true, nI_1, ev_fG_0, ev_fG_1, ev_fG_2, ev_fG_3, ev_fG_4, ev_fG_5, ev_fG_6, ev_fG_7, ev_fG_8, ev_fS_0, ev_fS_1, ev_fS_2, ev_fS_3, ev_fS_4, ev_fS_5, ev_fS_6, ev_fS_7, ev_fS_8, ev_isO_0, ev_isO_1, ev_isO_2, ev_isO_3, ev_isO_4, ev_isO_5, ev_isO_6, ev_isO_7, ev_isO_8, ev_z0, ev_z1, ev_z2, eq_self, show ¬ (1 : Int32) = 0 from by decide, show ¬ (2 : Int32) = 0 from by decide, show ¬ (2 : Int32) = 1 from by decide, show ¬ (0 : Int32) = 1 from by decide, show ¬ (0 : Int32) = 2 from by decide, show ¬ (1 : Int32) = 2 from by decide, show ¬ (0 : Int32) = -1 from by decide, show (0 : Int32) ≤ 1 from by decide, show (1 : Int32).toNatClampNeg = 1 from rfl, show (0 : Nat) < 2 from by omega, show (1 : Nat) < 2 from by omega, not_true_eq_false, ne_eq, not_false_eq_true, ev_lku_s, ev_lku_n, ev_up_s, ev_up_n]
  have hw2 : ∀ a, ¬ (x ≤ a ∧ a < x + 68) → H2 a = none := fun a ha => (g2 a (by omega)).trans ((ev_up_n (by omega)).trans (hw1 a (by omega)))
  have hA0 : m_ax X zf [] := ⟨hI, fun k hk => absurd hk List.not_mem_nil, Nat.zero_le 60⟩
  have hX2 : m_cx X zf (x + 57) (fun _ => t_0) [] H2 (x + 57 + 12) := ⟨m_zok_of hA0, fun a ha => hw2 a (by omega), ⟨by omega, hro, hE1⟩, Nat.le_refl _, fun a ha => hw2 a (by omega), fun i _ => okT_0, fun i _ => Or.inl rfl⟩
  have hl3 : ev_low X (ev_up H2 (x + 57 + 11) (.inr (11, [.long 0, .null]))) := fun a ha => (ev_up_n (by omega)).trans (hw2 a (by omega))
  have hM : jM X zf x g_0 g_0 [] (ev_up H2 (x + 57 + 11) (.inr (11, [.long 0, .null]))) (x + 57 + 12) := ⟨c_cg h1 (fun a ha hb => (ev_up_n (by omega)).trans ((g2 a (by omega)).trans (ev_up_n (by omega)))), jG_0, jG_0,
    ⟨(0, 0, 0), fun _ => 0, rfl, m_aw_cl g1 hX2 (by omega) hl3 (fun a ha hb hc => ev_up_n (by omega)) (Nat.le_refl _)⟩,
    ⟨m_zok_of hA0, hl3, ⟨by omega, hro, hE1⟩, Nat.le_refl _, fun a ha => (ev_up_n (by omega)).trans (hw2 a (by omega)), fun i _ => okT_0, fun i _ => Or.inl rfl⟩, hA0, jR_0, ⟨0, .null, ev_up_s⟩, by omega⟩
  exact LAW_loop (x := x) hEM hD hK hA (by omega) 512 0 g_0 [] _ _ _ _ _ (Nat.zero_le N) (by omega) hM (fun H3 n3 q3 f1 f2 f3 f4 => c H3 n3 q3 (by omega) (by omega) (by omega) (by omega))
end L84
end
section
/-! ===== what the start holds, read off the conditions ===== -/
section L85
variable {args : Array Value} {s : State}
theorem rd_arr {tm : Term} {ty : FieldType} {N : Nat} (harr : (Cond.arrayOf tm ty).before args s = true) (hlen : (Cond.eq (.length tm) (.int (Int32.ofNat N))).before args s = true) (hN : N < 2 ^ 31) : ∃ (a : Nat) (cell : Cell), tm.eval args s none [] s = some (.ref a) ∧ s.arrayAt? a = some cell ∧ s.heap[a]? = some cell ∧ s.isArrayOf cell ty ∧ cell.vm ≠ .unknown ∧ cell.slots.size = N := by
  have hv := va_eqt hlen
  obtain ⟨a, cell, ht, hat, e⟩ := Term.length_spec hv
  obtain ⟨hcell, hkn, -, -⟩ := State.arrayAt?_spec hat
  have hsz : cell.slots.size < 2 ^ 31 := by
    simp only [Term.eval, ht, hat, Option.bind_eq_bind, Option.bind_some] at hv
    by_cases hlt : cell.slots.size < 2147483648
    · exact hlt
    · simp [hlt] at hv
  exact ⟨a, cell, ht, hat, hcell, (Cond.arrayOf_spec harr ht hcell).1, hkn, nI_inj hsz hN (Value.int.inj e).symm⟩
theorem rd_elv {tm : Term} {a : Nat} {cell : Cell} (ht : tm.eval args s none [] s = some (.ref a)) (hat : s.arrayAt? a = some cell) {j : Nat} {v : Value} (hj : j < 2 ^ 31) (h : (Term.elem tm (.int (Int32.ofNat j))).eval args s none [] s = some v) : cell.slots[j]? = some v := by
  obtain ⟨a2, i, cell2, h1, h2, h3, h4, h5⟩ := Term.elem_spec h
  cases ht.symm.trans h1
  cases hat.symm.trans h3
  have hi : i = Int32.ofNat j := by
    have e : (Term.int (Int32.ofNat j)).eval args s none [] s = some (.int (Int32.ofNat j)) := rfl
    cases h2.symm.trans e
    rfl
  have hc : i.toNatClampNeg = j := by rw [hi]; exact Int32.toNatClampNeg_ofNat_of_lt hj
  rw [hc] at h5
  exact h5
theorem rd_el {tm : Term} {a : Nat} {cell : Cell} (ht : tm.eval args s none [] s = some (.ref a)) (hat : s.arrayAt? a = some cell) {j : Nat} {v : Int32} (hj : j < 2 ^ 31) (h : (Cond.eq (.elem tm (.int (Int32.ofNat j))) (.int v)).before args s = true) : cell.slots[j]? = some (.int v) := rd_elv ht hat hj (va_eqt h)
theorem rd_at {X : ev_E} {a k N : Nat} {cell : Cell} {ty : FieldType} {f : Nat → Value} (hcell : X.1.heap[a]? = some cell) (hof : X.1.isArrayOf cell ty) (hkn : cell.vm ≠ .unknown) (hk : X.2.2.2.1 k = cell.cls) (hN : cell.slots.size = N) (hf : ∀ j, j < N → cell.slots[j]? = some (f j)) : ev_atR X a (.inl (k, N, f)) X.1.heap := ⟨cell, hcell, hk.symm, hof.1, hkn, hN, hf⟩
theorem rd_ty {cell : Cell} {ty : FieldType} (hof : s.isArrayOf cell ty) : ArrOfT s cell.cls ty := fun n z => ⟨(fun k h => by cases h), hof.2⟩
theorem rd_cls {tm : Term} {C : String} {a : Nat} {cC : ClassId} (hex : (Cond.exactly tm C).before args s = true) (ht : tm.eval args s none [] s = some (.ref a)) (hC : s.vm.findClass C = some cC) : ∃ (cell : Cell) (k : Class), s.heap[a]? = some cell ∧ cell.cls = cC ∧ cell.vm.isStatics = false ∧ s.vm.classes[cC]? = some k ∧ (k.kind = .ordinary → cell.slots.size = k.instanceTypes.size) := by
  obtain ⟨a2, c, cell, k, q1, q2, q3, q4, q5, q6, q7⟩ := Cond.exactly_spec (args := args) (first := s) (o := none) (s := s) (idx := []) (t := tm) (cls := C) hex
  cases ht.symm.trans q1
  cases hC.symm.trans q2
  exact ⟨cell, k, q3, q6, q5, q4, q7⟩
theorem rd_fld {tm : Term} {o n d : String} {v : Value} {a i : Nat} {cell : Cell} (ht : tm.eval args s none [] s = some (.ref a)) (hv : (Term.field tm o n d).eval args s none [] s = some v) (hS : SlotIs s o n d i) (hcell : s.heap[a]? = some cell) : cell.vm ≠ .unknown ∧ cell.slots[i]? = some v := by
  obtain ⟨cf, k, fi, f, cell2, h1, h2, h3, h4, h5, -⟩ := vk_OFof (A := fun _ => False) ht hv (fun _ _ h => h)
  obtain ⟨cf', kf, fi', fd, g1, g2⟩ := hS
  cases h1.symm.trans g1
  cases hcell.symm.trans h3
  rw [g2] at h5
  exact ⟨h4, h5⟩
theorem rd_slot {ws : List Cond} {C : String} {T : u_T} {N : Nat} {cC : ClassId} {iS : Nat → Nat} (hts : ∀ w ∈ ws, w.before args s = true) (hin : ∀ w ∈ u_ws C T N, w ∈ ws) (hK : u_Kn s C T N cC iS) {k : Nat} (hk : k < N) {kC : Class} (hc : s.vm.classes[cC]? = some kC) : iS k < kC.instanceTypes.size := by
  obtain ⟨cf, kf, fi, fd, g1, g2⟩ := hK.1 k hk
  rcases u_lays hts hin hk with h | h
  · obtain ⟨c, kk, c', k', i, f, h1, h2, h3, h4, h5, h6, h7, -⟩ := Cond.lays_spec h
    cases h1.symm.trans hK.2.1
    cases h2.symm.trans hc
    cases h3.symm.trans g1
    rw [← g2]
    exact (Array.getElem?_eq_some_iff.mp h7).1
  · obtain ⟨c, kk, c', k', i, f, h1, h2, h3, h4, h5, h6, h6b, h7, -⟩ := Cond.laysFinal_spec h
    cases h1.symm.trans hK.2.1
    cases h2.symm.trans hc
    cases h3.symm.trans g1
    rw [← g2]
    exact (Array.getElem?_eq_some_iff.mp h7).1
/-- a text constant: its cell, its letters' cell -/
theorem rd_str {ws : List Cond} {tm : Term} {cS : ClassId} {iS : Nat → Nat} {N : Nat} (hts : ∀ w ∈ ws, w.before args s = true) (hin : ∀ w ∈ u_ws RJ0 TJ0 4, w ∈ ws) (hK : u_Kn s RJ0 TJ0 4 cS iS) (hex : (Cond.exactly tm "java/lang/String").before args s = true) (hco : (Cond.eq (.field tm "java/lang/String" "coder" "B") (.int 0)).before args s = true)
    (harr : (Cond.arrayOf (.field tm "java/lang/String" "value" "[B") .byte).before args s = true) (hlen : (Cond.eq (.length (.field tm "java/lang/String" "value" "[B")) (.int (Int32.ofNat N))).before args s = true) (hN : N < 2 ^ 31) :
    ∃ (a b : Nat) (cell cb : Cell) (r2 r3 : Value), tm.eval args s none [] s = some (.ref a) ∧ s.heap[a]? = some cell ∧ cell.cls = cS ∧ cell.vm.isStatics = false ∧ cell.vm ≠ .unknown ∧ (∀ j : Nat, j < 4 → cell.slots[iS j]? = some (vp_V [.ref b, .int 0, r2, r3] j)) ∧
      (Term.field tm "java/lang/String" "value" "[B").eval args s none [] s = some (.ref b) ∧ s.arrayAt? b = some cb ∧ s.heap[b]? = some cb ∧ s.isArrayOf cb .byte ∧ cb.vm ≠ .unknown ∧ cb.slots.size = N := by
  obtain ⟨b, cb, e1, e2, e3, e4, e5, e6⟩ := rd_arr harr hlen hN
  obtain ⟨a, c, cell0, k0, q1, -⟩ := Cond.exactly_spec (args := args) (first := s) (o := none) (s := s) (idx := []) (t := tm) (cls := "java/lang/String") hex
  obtain ⟨cell, k, f1, f2, f3, f4, f5⟩ := rd_cls hex q1 hK.2.1
  obtain ⟨g1, g2⟩ := rd_fld q1 e1 (hK.1 0 (by omega)) f1
  obtain ⟨-, g3⟩ := rd_fld q1 (va_eqt hco) (hK.1 1 (by omega)) f1
  obtain ⟨kC, hk1, hk2⟩ := hK.2.2
  cases f4.symm.trans hk1
  have hs := f5 hk2
  have g4 : ∃ v, cell.slots[iS 2]? = some v := ⟨_, Array.getElem?_eq_getElem (by rw [hs]; exact rd_slot hts hin hK (by omega) hk1)⟩
  have g5 : ∃ v, cell.slots[iS 3]? = some v := ⟨_, Array.getElem?_eq_getElem (by rw [hs]; exact rd_slot hts hin hK (by omega) hk1)⟩
  obtain ⟨r2, g4⟩ := g4
  obtain ⟨r3, g5⟩ := g5
  refine ⟨a, b, cell, cb, r2, r3, q1, f1, f2, f3, g1, fun j hj => ?_, e1, e2, e3, e4, e5, e6⟩
  have : j = 0 ∨ j = 1 ∨ j = 2 ∨ j = 3 := by omega
  rcases this with rfl | rfl | rfl | rfl
  · exact g2
  · exact g3
  · exact g4
  · exact g5
theorem rd_ra {ty : FieldType} (h : (Cond.arrayClass ty).before args s = true) : ∃ cA, ArrOfT s cA ty ∧ s.vm.findClass ("[" ++ ty.toString) = some cA := by
  obtain ⟨c, k, comp, h1, h2, h3⟩ := Cond.arrayClass_spec (args := args) (first := s) (o := none) (s := s) (idx := []) h
  exact ⟨c, fun n z => ⟨(fun k h => by cases h), k, h2, comp, h3⟩, h1⟩
theorem rd_ro {C : String} (h : (Cond.arrayOver (.object C)).before args s = true) : ∃ cA, ArrOfT s cA (.object C) ∧ va_RA s cA (.object C) := by
  obtain ⟨comp, c, k, h1, h2, h3, h4, h5⟩ := Cond.arrayOver_spec (args := args) (first := s) (o := none) (s := s) (idx := []) h
  exact ⟨c, fun n z => ⟨(fun k h => by cases h), k, h3, comp, h4⟩, k, comp, h3, h4, h1, h5⟩
end L85
end
section
/-! ===== the cells that are only read: no two are one ===== -/
section L86
variable {s : State}
/-- which of the cells that are only read a may be -/
noncomputable def rd_tag (s : State) (a : Nat) : Nat := match s.heap[a]? with
  | none => 0
  | some cl0 => match s.vm.classes[cl0.cls]? with
    | none => 0
    | some k => match k.kind with
      | .array _ .int => 6
      | .array _ .byte => @ite _ (cl0.slots.size = 100) (Classical.propDecidable _) (@ite _ (cl0.slots[10]? = some (.int 48)) (Classical.propDecidable _) 7 8) (20 + cl0.slots.size)
      | .array _ _ => 1000 + cl0.slots.size
      | _ => @ite _ (k.instanceTypes.size = 4) (Classical.propDecidable _) 4 3
theorem rd_tag_i {a : Nat} {cell : Cell} (h : s.heap[a]? = some cell) (hof : s.isArrayOf cell .int) : rd_tag s a = 6 := by
  obtain ⟨-, k, hk, comp, hkind⟩ := hof
  unfold rd_tag
  simp only [h, hk, hkind]
theorem rd_tag_b {a : Nat} {cell : Cell} (h : s.heap[a]? = some cell) (hof : s.isArrayOf cell .byte) : rd_tag s a = @ite _ (cell.slots.size = 100) (Classical.propDecidable _) (@ite _ (cell.slots[10]? = some (.int 48)) (Classical.propDecidable _) 7 8) (20 + cell.slots.size) := by
  obtain ⟨-, k, hk, comp, hkind⟩ := hof
  unfold rd_tag
  simp only [h, hk, hkind]
theorem rd_tag_o {a : Nat} {cell : Cell} {C : String} (h : s.heap[a]? = some cell) (hof : s.isArrayOf cell (.object C)) : rd_tag s a = 1000 + cell.slots.size := by
  obtain ⟨-, k, hk, comp, hkind⟩ := hof
  unfold rd_tag
  simp only [h, hk, hkind]
theorem rd_tag_c {a : Nat} {cell : Cell} {k : Class} (h : s.heap[a]? = some cell) (hk : s.vm.classes[cell.cls]? = some k) (hkind : k.kind = .ordinary) : rd_tag s a = @ite _ (k.instanceTypes.size = 4) (Classical.propDecidable _) 4 3 := by
  unfold rd_tag
  simp only [h, hk, hkind]
theorem rd_tag_ne {a b m n : Nat} (h1 : rd_tag s a = m) (h2 : rd_tag s b = n) (h : ¬ m = n) : ¬ a = b := fun e => h (h1.symm.trans ((congrArg (rd_tag s) e).trans h2))
/-- the map of what is only read -/
noncomputable def rd_map (R : Nat → ev_C → Prop) : ev_M := fun a => @dite _ (∃ c, R a c) (Classical.propDecidable _) (fun h => some (Classical.choose h)) (fun _ => none)
theorem rd_map_y {R : Nat → ev_C → Prop} (hR : ∀ a c c', R a c → R a c' → c = c') {a : Nat} {c : ev_C} (h : R a c) : rd_map R a = some c := by
  unfold rd_map
  rw [dif_pos ⟨c, h⟩]
  exact congrArg some (hR a _ _ (Classical.choose_spec (⟨c, h⟩ : ∃ c, R a c)) h)
theorem rd_map_i {R : Nat → ev_C → Prop} {a : Nat} {c : ev_C} (h : rd_map R a = some c) : R a c := by
  unfold rd_map at h
  by_cases e : ∃ c, R a c
  · rw [dif_pos e] at h
    cases h
    exact Classical.choose_spec e
  · rw [dif_neg e] at h
    cases h
end L86
end
