/-! ===== the class: askRow ===== -/
noncomputable def pg_rowd (a st : Nat) : Nat → Nat → ev_CS → ev_CS
  | 0, _, G => G
  | d + 1, i, G => pg_rowd a st d (i + 1) (pg_ask G (nI ((a + i * st) % 20)))
noncomputable def pk_rowh (a st : Nat) : Nat → Nat → ev_CS → Int32 → Int32
  | 0, _, _, s => s
  | d + 1, i, G, s => pk_rowh a st d (i + 1) (pg_ask G (nI ((a + i * st) % 20))) (s + pk_hits G.2.2.1 (nI ((a + i * st) % 20)) (nI G.2.2.2.1.2.2) 6 0 0)
theorem okG_rowd {a st : Nat} : ∀ (d i : Nat) (G : ev_CS), okG G → G.2.2.2.1.2.2 + d ≤ 60 → okG (pg_rowd a st d i G) := by
  intro d
  induction d with
  | zero => intro i G h _; exact h
  | succ d ih =>
    intro i G h hc
    exact ih (i + 1) _ (okG_ask h (okL_key (Nat.mod_lt _ (by omega))) (by omega)) (by show G.2.2.2.1.2.2 + 1 + d ≤ 60; omega)
section CR2
variable {X : ev_E} {x : Nat} {n q : Nat} {P : ev_O → ev_M → Nat → Nat → Prop}
theorem C_rowLoop {a st mn : Nat} (ha : a < 20) (hs : st < 20) (hmn : mn ≤ 12) : ∀ (d i : Nat) (s : Int32) (G : ev_CS) (H : ev_M), i + d = mn → c_all x G H → okG G → G.2.2.2.1.2.2 + d ≤ 60 →
    (∀ H1, c_all x (pg_rowd a st d i G) H1 → c_fr x H H1 → P (.inl (some (.int (pk_rowh a st d i G s)))) H1 n q) → ev_ok (ev_TT X) 265 56 [.ref x, .int (nI a), .int (nI st), .int (nI mn), .int s, .int (nI i)] [] H n q P := by
  intro d
  induction d with
  | zero =>
    intro i s G H hi hc hG h60 c
    have hi2 : mn ≤ i := by omega
    simp (disch := omega) only [t_X5_askRow_0, t_X5_askRow_1, t_X5_askRow_4, t_X5_askRow_5, t_X5_askRow_8, t_X5_askRow_9, t_X5_askRow_11, t_X5_askRow_14, t_X5_askRow_24, t_X5_askRow_25, t_X5_askRow_26, t_X5_askRow_29, t_X5_askRow_30, t_X5_askRow_32, t_X5_askRow_35, t_X5_askRow_45, t_X5_askRow_46, t_X5_askRow_47, t_X5_askRow_50, t_X5_askRow_51, t_X5_askRow_53, t_X5_askRow_54, t_X5_askRow_56, t_X5_askRow_58, t_X5_askRow_59, t_X5_askRow_62, t_X5_askRow_64, t_X5_askRow_65, t_X5_askRow_66, t_X5_askRow_68, t_X5_askRow_69, t_X5_askRow_70, t_X5_askRow_71, t_X5_askRow_73, t_X5_askRow_74, t_X5_askRow_77, t_X5_askRow_78, t_X5_askRow_80, t_X5_askRow_83, t_X5_askRow_86, t_X5_askRow_88, x_X5_askRow_1, x_X5_askRow_47, x_X5_askRow_74, ↓reduceIte, ev_k_i, ev_k_r, ev_k_l, ev_k_J, ev_k_n, ev_kr_1, ev_kr_0, ev_isK_y, ev_aG_y, ev_aS_y, ev_aN_y, ev_inA_0, ev_isA_0, ev_ft_I, ev_ft_0, ev_ft_1, ev_ft_o, ev_ft_a, ev_nb_0, ev_nb_1, and_true, true_and, if_true, if_false, not_true_eq_false, not_false_eq_true, nI_1, ev_fG_0, ev_fG_1, ev_fG_2, ev_fG_3, ev_fG_4, ev_fG_5, ev_fG_6, ev_fG_7, ev_fG_8, ev_fS_0, ev_fS_1, ev_fS_2, ev_fS_3, ev_fS_4, ev_fS_5, ev_fS_6, ev_fS_7, ev_fS_8, ev_isO_0, ev_isO_1, ev_isO_2, ev_isO_3, ev_isO_4, ev_isO_5, ev_isO_6, ev_isO_7, ev_isO_8, ev_z0, ev_z1, ev_z2, eq_self, ev_ofN, nI_leI, hi2]
    exact c H hc (fun a _ => rfl)
  | succ d ih =>
    intro i s G H hi hc hG h60 c
    have hi2 : ¬ mn ≤ i := by omega
    have hk := c_all_k (X := X) hc
    have hm : i * st ≤ 12 * 20 := Nat.mul_le_mul (by omega) (by omega)
    have hrem : nI (a + i * st) - nI (a + i * st) / 20 * 20 = nI ((a + i * st) % 20) := pk_rem (d := 20) (by omega) (by omega) (by omega)
    have h20 : ¬ (20 : Int32) = 0 := by decide
    rw [t_X5_askRow_56]
    simp (disch := omega) only [t_X5_askRow_0, t_X5_askRow_1, t_X5_askRow_4, t_X5_askRow_5, t_X5_askRow_8, t_X5_askRow_9, t_X5_askRow_11, t_X5_askRow_14, t_X5_askRow_24, t_X5_askRow_25, t_X5_askRow_26, t_X5_askRow_29, t_X5_askRow_30, t_X5_askRow_32, t_X5_askRow_35, t_X5_askRow_45, t_X5_askRow_46, t_X5_askRow_47, t_X5_askRow_50, t_X5_askRow_51, t_X5_askRow_53, t_X5_askRow_54, t_X5_askRow_58, t_X5_askRow_59, t_X5_askRow_62, t_X5_askRow_64, t_X5_askRow_65, t_X5_askRow_66, t_X5_askRow_68, t_X5_askRow_69, t_X5_askRow_70, t_X5_askRow_71, t_X5_askRow_73, t_X5_askRow_74, t_X5_askRow_77, t_X5_askRow_78, t_X5_askRow_80, t_X5_askRow_83, t_X5_askRow_86, t_X5_askRow_88, x_X5_askRow_1, x_X5_askRow_47, x_X5_askRow_74, ↓reduceIte, ev_k_i, ev_k_r, ev_k_l, ev_k_J, ev_k_n, ev_kr_1, ev_kr_0, ev_isK_y, ev_aG_y, ev_aS_y, ev_aN_y, ev_inA_0, ev_isA_0, ev_ft_I, ev_ft_0, ev_ft_1, ev_ft_o, ev_ft_a, ev_nb_0, ev_nb_1, and_true, true_and, if_true, if_false, not_true_eq_false, not_false_eq_true, nI_1, ev_fG_0, ev_fG_1, ev_fG_2, ev_fG_3, ev_fG_4, ev_fG_5, ev_fG_6, ev_fG_7, ev_fG_8, ev_fS_0, ev_fS_1, ev_fS_2, ev_fS_3, ev_fS_4, ev_fS_5, ev_fS_6, ev_fS_7, ev_fS_8, ev_isO_0, ev_isO_1, ev_isO_2, ev_isO_3, ev_isO_4, ev_isO_5, ev_isO_6, ev_isO_7, ev_isO_8, ev_z0, ev_z1, ev_z2, eq_self, ev_ofN, nI_leI, hi2, pk_mul, nI_add, hrem, h20, hk]
    refine C_askOne hc hG (okL_key (Nat.mod_lt _ (by omega))) (by omega) fun H1 g1 g2 => ?_
    simp (disch := omega) only [t_X5_askRow_0, t_X5_askRow_1, t_X5_askRow_4, t_X5_askRow_5, t_X5_askRow_8, t_X5_askRow_9, t_X5_askRow_11, t_X5_askRow_14, t_X5_askRow_24, t_X5_askRow_25, t_X5_askRow_26, t_X5_askRow_29, t_X5_askRow_30, t_X5_askRow_32, t_X5_askRow_35, t_X5_askRow_45, t_X5_askRow_46, t_X5_askRow_47, t_X5_askRow_50, t_X5_askRow_51, t_X5_askRow_53, t_X5_askRow_54, t_X5_askRow_58, t_X5_askRow_59, t_X5_askRow_62, t_X5_askRow_64, t_X5_askRow_65, t_X5_askRow_66, t_X5_askRow_68, t_X5_askRow_69, t_X5_askRow_70, t_X5_askRow_71, t_X5_askRow_73, t_X5_askRow_74, t_X5_askRow_77, t_X5_askRow_78, t_X5_askRow_80, t_X5_askRow_83, t_X5_askRow_86, t_X5_askRow_88, x_X5_askRow_1, x_X5_askRow_47, x_X5_askRow_74, ↓reduceIte, ev_k_i, ev_k_r, ev_k_l, ev_k_J, ev_k_n, ev_kr_1, ev_kr_0, ev_isK_y, ev_aG_y, ev_aS_y, ev_aN_y, ev_inA_0, ev_isA_0, ev_ft_I, ev_ft_0, ev_ft_1, ev_ft_o, ev_ft_a, ev_nb_0, ev_nb_1, and_true, true_and, if_true, if_false, not_true_eq_false, not_false_eq_true, nI_1, ev_fG_0, ev_fG_1, ev_fG_2, ev_fG_3, ev_fG_4, ev_fG_5, ev_fG_6, ev_fG_7, ev_fG_8, ev_fS_0, ev_fS_1, ev_fS_2, ev_fS_3, ev_fS_4, ev_fS_5, ev_fS_6, ev_fS_7, ev_fS_8, ev_isO_0, ev_isO_1, ev_isO_2, ev_isO_3, ev_isO_4, ev_isO_5, ev_isO_6, ev_isO_7, ev_isO_8, ev_z0, ev_z1, ev_z2, eq_self, ev_ofN]
    exact ih (i + 1) _ _ H1 (by omega) g1 (okG_ask hG (okL_key (Nat.mod_lt _ (by omega))) (by omega)) (by show G.2.2.2.1.2.2 + 1 + d ≤ 60; omega) (fun H2 h1 h2 => c H2 h1 (fun a ha => (h2 a ha).trans (g2 a ha)))
end CR2
