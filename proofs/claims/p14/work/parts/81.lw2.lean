/-! ===== the class' other calls under the law's handlers ===== -/
theorem no_mn {j : Nat} (h : j < 12) : ¬ (nI (j + 1) < 1 ∨ (12 : Int32) < nI (j + 1)) := by
  intro e
  rcases e with e | e
  · exact nI_nlt (a := j + 1) (b := 1) (by omega) (by omega) e
  · exact nI_nlt (a := 12) (b := j + 1) (by omega) (by omega) e
def pA (G : ev_CS) : List Nat := (List.range G.2.2.2.1.2.2).map fun j => (G.2.2.2.1.1 j).toNatClampNeg
theorem pA_eq {G : ev_CS} {As : List Nat} (h : aR G As) : pA G = As := by
  refine List.ext_getElem? fun i => ?_
  unfold pA
  rw [List.getElem?_map]
  by_cases hi : i < G.2.2.2.1.2.2
  · obtain ⟨e, hl⟩ := h.2 i hi
    have h2 : i < As.length := by have := h.1; omega
    have hg : As.getD i 0 = As[i] := by rw [List.getD_eq_getElem?_getD, List.getElem?_eq_getElem h2]; rfl
    rw [List.getElem?_range hi, List.getElem?_eq_getElem h2]
    show some (G.2.2.2.1.1 i).toNatClampNeg = some As[i]
    rw [e, nI_clamp (by omega), hg]
  · rw [List.getElem?_eq_none (by rw [List.length_range]; omega), List.getElem?_eq_none (by have := h.1; omega)]
    rfl
noncomputable def k_copy (G : ev_CS) (t u : Int32) : Nat × Int32 × ev_CS := if (t < 0 ∨ nI 4 ≤ t) then (1, 0, G) else if (u < 0 ∨ nI 4 ≤ u) then (1, 0, G) else (0, (nI (G.1 t.toNatClampNeg).1.length), (pg_T G u.toNatClampNeg (ps_row (G.1 u.toNatClampNeg) (G.1 t.toNatClampNeg).1 0 (-1) 0 (-1))))
noncomputable def k_text (G : ev_CS) (t w : Int32) : Nat × Int32 × ev_CS := if (t < 0 ∨ nI 4 ≤ t) then (1, 0, G) else if (w < 0 ∨ nI 3 ≤ w) then (2, 0, G) else (0, 0, G)
noncomputable def k_ask (G : ev_CS) (k : Int32) : Nat × Int32 × ev_CS := if (k < 0 ∨ nI 20 ≤ k) then (1, 0, G) else if G.2.2.2.1.2.2 = 60 then (2, 0, G) else (0, (pk_hits G.2.2.1 k (nI G.2.2.2.1.2.2) 6 0 0), (pg_ask G k))
noncomputable def k_askRow (G : ev_CS) (f st mn : Int32) : Nat × Int32 × ev_CS := if ((f < 0 ∨ nI 20 ≤ f) ∨ (st < 0 ∨ nI 20 ≤ st) ∨ (mn < 1 ∨ 12 < mn)) then (1, 0, G) else if 60 < G.2.2.2.1.2.2 + mn.toNatClampNeg then (2, 0, G) else (0, (pk_rowh f.toNatClampNeg st.toNatClampNeg mn.toNatClampNeg 0 G 0), (pg_rowd f.toNatClampNeg st.toNatClampNeg mn.toNatClampNeg 0 G))
noncomputable def k_depth (G : ev_CS) (k : Int32) : Nat × Int32 × ev_CS := if (k < 0 ∨ nI 20 ≤ k) then (1, 0, G) else (0, (pd_depth G.2.1.1 k), G)
noncomputable def k_kept (G : ev_CS) (s : Int32) : Nat × Int32 × ev_CS := if (s < 1 ∨ 6 < s) then (1, 0, G) else (0, 0, G)
noncomputable def k_keeps (G : ev_CS) (s k : Int32) : Nat × Int32 × ev_CS := if (s < 1 ∨ 6 < s) then (1, 0, G) else if (k < 0 ∨ nI 20 ≤ k) then (1, 0, G) else (0, (ev_bb (pf_find (G.2.2.1 (s.toNatClampNeg - 1)).1 k).isSome), G)
noncomputable def k_takenAt (G : ev_CS) (s k : Int32) : Nat × Int32 × ev_CS := if (s < 1 ∨ 6 < s) then (1, 0, G) else if (k < 0 ∨ nI 20 ≤ k) then (1, 0, G) else (0, (pr_told (G.2.2.1 (s.toNatClampNeg - 1)).1 (pf_place (G.2.2.1 (s.toNatClampNeg - 1)).1 k) 1), G)
noncomputable def k_misses (G : ev_CS) (s : Int32) : Nat × Int32 × ev_CS := if (s < 1 ∨ 6 < s) then (1, 0, G) else (0, (G.2.2.1 (s.toNatClampNeg - 1)).2.2.2.2.1, G)
noncomputable def k_hits (G : ev_CS) (s : Int32) : Nat × Int32 × ev_CS := if (s < 1 ∨ 6 < s) then (1, 0, G) else (0, (G.2.2.1 (s.toNatClampNeg - 1)).2.2.2.2.2, G)
noncomputable def k_lost (G : ev_CS) (s : Int32) : Nat × Int32 × ev_CS := if (s < 1 ∨ 6 < s) then (1, 0, G) else (0, (G.2.2.1 (s.toNatClampNeg - 1)).2.2.2.1, G)
noncomputable def k_best (G : ev_CS) (s : Int32) : Nat × Int32 × ev_CS := if (s < 1 ∨ 6 < s) then (1, 0, G) else (0, (nI (G.2.2.2.1.2.2 - (gs (pA G) s.toNatClampNeg G.2.2.2.1.2.2).2)), G)
noncomputable def k_house (G : ev_CS) (w : Int32) : Nat × Int32 × ev_CS := if (w < 0 ∨ nI 5 ≤ w) then (1, 0, G) else (0, (ph_of G w.toNatClampNeg), G)
section L81
variable {X : ev_E} {x o : Nat} {G : ev_CS} {H : ev_M} {n q : Nat} {P : ev_O → ev_M → Nat → Nat → Prop}
theorem LW_copy (hc : c_all x G H) (hG : okG G) (hxo : x + 57 ≤ o) (hon : o < n) (ho : ∃ l s, H o = some (.inr (11, [.long l, s]))) (hz : ∀ a, n ≤ a → H a = none) {t u : Int32}
    (c : ∀ H1 n1 q1, lw_post true x o H n q (k_copy G t u) H1 n1 q1 → P (.inl (some (.int (nI (k_copy G t u).1)))) H1 n1 q1) : ev_ok (ev_TT X) 221 0 [.ref x, .int t, .int u, .ref o, ev_J] [] H n q P := by
  have hk := c_all_k (X := X) hc
  obtain ⟨l0, s0, ho⟩ := ho
  simp (disch := omega) only [t_L_copy_0, t_L_copy_1, t_L_copy_2, t_L_copy_3, t_L_copy_4, t_L_copy_7, t_L_copy_8, t_L_copy_11, t_L_copy_16, t_L_copy_17, t_L_copy_18, t_L_copy_19, x_L_copy_4_0, ↓reduceIte, ev_k_i, ev_k_r, ev_k_l, ev_k_J, ev_k_n, ev_kr_1, ev_kr_0, ev_isK_y, ev_aG_y, ev_aS_y, ev_aN_y, ev_inA_0, ev_isA_0, ev_ft_I, ev_ft_0, ev_ft_1, ev_ft_o, ev_ft_a, ev_nb_0, ev_nb_1, and_true, true_and, if_true, if_false, not_true_eq_false, not_false_eq_true, nI_1, ev_fG_0, ev_fG_1, ev_fG_2, ev_fG_3, ev_fG_4, ev_fG_5, ev_fG_6, ev_fG_7, ev_fG_8, ev_fS_0, ev_fS_1, ev_fS_2, ev_fS_3, ev_fS_4, ev_fS_5, ev_fS_6, ev_fS_7, ev_fS_8, ev_isO_0, ev_isO_1, ev_isO_2, ev_isO_3, ev_isO_4, ev_isO_5, ev_isO_6, ev_isO_7, ev_isO_8, ev_z0, ev_z1, ev_z2, eq_self, ev_ofN, show ¬ (1 : Int32) = 0 from by decide, show ¬ (2 : Int32) = 0 from by decide, show ¬ (2 : Int32) = 1 from by decide, show ¬ (0 : Int32) = 1 from by decide, show ¬ (0 : Int32) = 2 from by decide, show ¬ (1 : Int32) = 2 from by decide, show ¬ (0 : Int32) = -1 from by decide, show (0 : Int32) ≤ 1 from by decide, show (1 : Int32).toNatClampNeg = 1 from rfl, show (0 : Nat) < 2 from by omega, show (1 : Nat) < 2 from by omega, not_true_eq_false, ne_eq, not_false_eq_true, hk]
  refine C_copy hc hG (fun hb => ?_) (fun i hi e hb => ?_) (fun i j hi e hj e2 H1 hc1 hf1 => ?_)
  · skip
    have ek : k_copy G t u = (1, 0, G) := by
      unfold k_copy
      rw [if_pos hb]
    rw [ek] at c
    simp (disch := omega) only [t_L_copy_0, t_L_copy_1, t_L_copy_2, t_L_copy_3, t_L_copy_4, t_L_copy_7, t_L_copy_8, t_L_copy_11, t_L_copy_16, t_L_copy_17, t_L_copy_18, t_L_copy_19, x_L_copy_4_0, ↓reduceIte, ev_k_i, ev_k_r, ev_k_l, ev_k_J, ev_k_n, ev_kr_1, ev_kr_0, ev_isK_y, ev_aG_y, ev_aS_y, ev_aN_y, ev_inA_0, ev_isA_0, ev_ft_I, ev_ft_0, ev_ft_1, ev_ft_o, ev_ft_a, ev_nb_0, ev_nb_1, and_true, true_and, if_true, if_false, not_true_eq_false, not_false_eq_true, nI_1, ev_fG_0, ev_fG_1, ev_fG_2, ev_fG_3, ev_fG_4, ev_fG_5, ev_fG_6, ev_fG_7, ev_fG_8, ev_fS_0, ev_fS_1, ev_fS_2, ev_fS_3, ev_fS_4, ev_fS_5, ev_fS_6, ev_fS_7, ev_fS_8, ev_isO_0, ev_isO_1, ev_isO_2, ev_isO_3, ev_isO_4, ev_isO_5, ev_isO_6, ev_isO_7, ev_isO_8, ev_z0, ev_z1, ev_z2, eq_self, ev_ofN, show ¬ (1 : Int32) = 0 from by decide, show ¬ (2 : Int32) = 0 from by decide, show ¬ (2 : Int32) = 1 from by decide, show ¬ (0 : Int32) = 1 from by decide, show ¬ (0 : Int32) = 2 from by decide, show ¬ (1 : Int32) = 2 from by decide, show ¬ (0 : Int32) = -1 from by decide, show (0 : Int32) ≤ 1 from by decide, show (1 : Int32).toNatClampNeg = 1 from rfl, show (0 : Nat) < 2 from by omega, show (1 : Nat) < 2 from by omega, not_true_eq_false, ne_eq, not_false_eq_true, hk]
    exact c _ (n + 1) (q + 6) ⟨hc, fun _ _ _ _ => rfl, ⟨l0, s0, ho, fun _ z => by cases z⟩, fun a ha => hz a (by omega), by omega, by omega, by omega, by omega⟩
  · skip
    subst e
    have ek : k_copy G (nI i) u = (1, 0, G) := by
      unfold k_copy
      rw [nI_clamp (n := i) (by omega)]
      rw [if_neg (no_ix hi (by omega))]
      rw [if_pos hb]
    rw [ek] at c
    simp (disch := omega) only [t_L_copy_0, t_L_copy_1, t_L_copy_2, t_L_copy_3, t_L_copy_4, t_L_copy_7, t_L_copy_8, t_L_copy_11, t_L_copy_16, t_L_copy_17, t_L_copy_18, t_L_copy_19, x_L_copy_4_0, ↓reduceIte, ev_k_i, ev_k_r, ev_k_l, ev_k_J, ev_k_n, ev_kr_1, ev_kr_0, ev_isK_y, ev_aG_y, ev_aS_y, ev_aN_y, ev_inA_0, ev_isA_0, ev_ft_I, ev_ft_0, ev_ft_1, ev_ft_o, ev_ft_a, ev_nb_0, ev_nb_1, and_true, true_and, if_true, if_false, not_true_eq_false, not_false_eq_true, nI_1, ev_fG_0, ev_fG_1, ev_fG_2, ev_fG_3, ev_fG_4, ev_fG_5, ev_fG_6, ev_fG_7, ev_fG_8, ev_fS_0, ev_fS_1, ev_fS_2, ev_fS_3, ev_fS_4, ev_fS_5, ev_fS_6, ev_fS_7, ev_fS_8, ev_isO_0, ev_isO_1, ev_isO_2, ev_isO_3, ev_isO_4, ev_isO_5, ev_isO_6, ev_isO_7, ev_isO_8, ev_z0, ev_z1, ev_z2, eq_self, ev_ofN, show ¬ (1 : Int32) = 0 from by decide, show ¬ (2 : Int32) = 0 from by decide, show ¬ (2 : Int32) = 1 from by decide, show ¬ (0 : Int32) = 1 from by decide, show ¬ (0 : Int32) = 2 from by decide, show ¬ (1 : Int32) = 2 from by decide, show ¬ (0 : Int32) = -1 from by decide, show (0 : Int32) ≤ 1 from by decide, show (1 : Int32).toNatClampNeg = 1 from rfl, show (0 : Nat) < 2 from by omega, show (1 : Nat) < 2 from by omega, not_true_eq_false, ne_eq, not_false_eq_true, hk]
    exact c _ (n + 1) (q + 6) ⟨hc, fun _ _ _ _ => rfl, ⟨l0, s0, ho, fun _ z => by cases z⟩, fun a ha => hz a (by omega), by omega, by omega, by omega, by omega⟩
  · skip
    subst e
    subst e2
    have ek : k_copy G (nI i) (nI j) = (0, (nI (G.1 i).1.length), (pg_T G j (ps_row (G.1 j) (G.1 i).1 0 (-1) 0 (-1)))) := by
      unfold k_copy
      rw [nI_clamp (n := i) (by omega)]
      rw [nI_clamp (n := j) (by omega)]
      rw [if_neg (no_ix hi (by omega))]
      rw [if_neg (no_ix hj (by omega))]
    rw [ek] at c
    have ho1 : H1 o = some (.inr (11, [.long l0, s0])) := (hf1 o (by omega)).trans ho
    simp (disch := omega) only [t_L_copy_0, t_L_copy_1, t_L_copy_2, t_L_copy_3, t_L_copy_4, t_L_copy_7, t_L_copy_8, t_L_copy_11, t_L_copy_16, t_L_copy_17, t_L_copy_18, t_L_copy_19, x_L_copy_4_0, ↓reduceIte, ev_k_i, ev_k_r, ev_k_l, ev_k_J, ev_k_n, ev_kr_1, ev_kr_0, ev_isK_y, ev_aG_y, ev_aS_y, ev_aN_y, ev_inA_0, ev_isA_0, ev_ft_I, ev_ft_0, ev_ft_1, ev_ft_o, ev_ft_a, ev_nb_0, ev_nb_1, and_true, true_and, if_true, if_false, not_true_eq_false, not_false_eq_true, nI_1, ev_fG_0, ev_fG_1, ev_fG_2, ev_fG_3, ev_fG_4, ev_fG_5, ev_fG_6, ev_fG_7, ev_fG_8, ev_fS_0, ev_fS_1, ev_fS_2, ev_fS_3, ev_fS_4, ev_fS_5, ev_fS_6, ev_fS_7, ev_fS_8, ev_isO_0, ev_isO_1, ev_isO_2, ev_isO_3, ev_isO_4, ev_isO_5, ev_isO_6, ev_isO_7, ev_isO_8, ev_z0, ev_z1, ev_z2, eq_self, ev_ofN, show ¬ (1 : Int32) = 0 from by decide, show ¬ (2 : Int32) = 0 from by decide, show ¬ (2 : Int32) = 1 from by decide, show ¬ (0 : Int32) = 1 from by decide, show ¬ (0 : Int32) = 2 from by decide, show ¬ (1 : Int32) = 2 from by decide, show ¬ (0 : Int32) = -1 from by decide, show (0 : Int32) ≤ 1 from by decide, show (1 : Int32).toNatClampNeg = 1 from rfl, show (0 : Nat) < 2 from by omega, show (1 : Nat) < 2 from by omega, not_true_eq_false, ne_eq, not_false_eq_true, ev_lku_s, ev_lku_n, ev_up_s, ev_up_n, ho1, ev_ft_J]
    exact c _ n q ⟨c_cg hc1 (fun a ha hb => ev_up_n (by omega)), fun a ha hao han => (ev_up_n hao).trans (hf1 a ha), ⟨_, s0, ev_up_s, fun _ _ => rfl⟩, fun a ha => (ev_up_n (by omega)).trans ((hf1 a (by omega)).trans (hz a ha)), by omega, by omega, by omega, by omega⟩
theorem LW_text (hc : c_all x G H) (hG : okG G) (hV : ∀ i, i < 4 → okV (G.1 i).1) (hD : ev_DG X) (hxs : X.1.heap.size ≤ x) (hw0 : ev_low X H) (hxo : x + 57 ≤ o) (hon : o < n) (ho : ∃ l s, H o = some (.inr (11, [.long l, s]))) (hz : ∀ a, n ≤ a → H a = none) {t w : Int32}
    (c : ∀ H1 n1 q1, lw_post false x o H n q (k_text G t w) H1 n1 q1 → P (.inl (some (.int (nI (k_text G t w).1)))) H1 n1 q1) : ev_ok (ev_TT X) 306 0 [.ref x, .int t, .int w, .ref o, ev_J] [] H n q P := by
  have hk := c_all_k (X := X) hc
  obtain ⟨l0, s0, ho⟩ := ho
  simp (disch := omega) only [t_L_text_0, t_L_text_1, t_L_text_2, t_L_text_3, t_L_text_4, t_L_text_7, t_L_text_10, t_L_text_15, t_L_text_16, t_L_text_19, t_L_text_20, t_L_text_21, t_L_text_22, x_L_text_4_0, x_L_text_4_1, ↓reduceIte, ev_k_i, ev_k_r, ev_k_l, ev_k_J, ev_k_n, ev_kr_1, ev_kr_0, ev_isK_y, ev_aG_y, ev_aS_y, ev_aN_y, ev_inA_0, ev_isA_0, ev_ft_I, ev_ft_0, ev_ft_1, ev_ft_o, ev_ft_a, ev_nb_0, ev_nb_1, and_true, true_and, if_true, if_false, not_true_eq_false, not_false_eq_true, nI_1, ev_fG_0, ev_fG_1, ev_fG_2, ev_fG_3, ev_fG_4, ev_fG_5, ev_fG_6, ev_fG_7, ev_fG_8, ev_fS_0, ev_fS_1, ev_fS_2, ev_fS_3, ev_fS_4, ev_fS_5, ev_fS_6, ev_fS_7, ev_fS_8, ev_isO_0, ev_isO_1, ev_isO_2, ev_isO_3, ev_isO_4, ev_isO_5, ev_isO_6, ev_isO_7, ev_isO_8, ev_z0, ev_z1, ev_z2, eq_self, ev_ofN, show ¬ (1 : Int32) = 0 from by decide, show ¬ (2 : Int32) = 0 from by decide, show ¬ (2 : Int32) = 1 from by decide, show ¬ (0 : Int32) = 1 from by decide, show ¬ (0 : Int32) = 2 from by decide, show ¬ (1 : Int32) = 2 from by decide, show ¬ (0 : Int32) = -1 from by decide, show (0 : Int32) ≤ 1 from by decide, show (1 : Int32).toNatClampNeg = 1 from rfl, show (0 : Nat) < 2 from by omega, show (1 : Nat) < 2 from by omega, not_true_eq_false, ne_eq, not_false_eq_true, hk]
  refine C_text hc hG hV hD hxs hw0 (by omega) hz (fun hb => ?_) (fun i hi e hb => ?_) (fun i a hi e ha e2 H1 s k n1 q1 hSt g1 g2 g3 hf hz1 g4 g5 g6 g7 => ?_)
  · skip
    have ek : k_text G t w = (1, 0, G) := by
      unfold k_text
      rw [if_pos hb]
    rw [ek] at c
    simp (disch := omega) only [t_L_text_0, t_L_text_1, t_L_text_2, t_L_text_3, t_L_text_4, t_L_text_7, t_L_text_10, t_L_text_15, t_L_text_16, t_L_text_19, t_L_text_20, t_L_text_21, t_L_text_22, x_L_text_4_0, x_L_text_4_1, ↓reduceIte, ev_k_i, ev_k_r, ev_k_l, ev_k_J, ev_k_n, ev_kr_1, ev_kr_0, ev_isK_y, ev_aG_y, ev_aS_y, ev_aN_y, ev_inA_0, ev_isA_0, ev_ft_I, ev_ft_0, ev_ft_1, ev_ft_o, ev_ft_a, ev_nb_0, ev_nb_1, and_true, true_and, if_true, if_false, not_true_eq_false, not_false_eq_true, nI_1, ev_fG_0, ev_fG_1, ev_fG_2, ev_fG_3, ev_fG_4, ev_fG_5, ev_fG_6, ev_fG_7, ev_fG_8, ev_fS_0, ev_fS_1, ev_fS_2, ev_fS_3, ev_fS_4, ev_fS_5, ev_fS_6, ev_fS_7, ev_fS_8, ev_isO_0, ev_isO_1, ev_isO_2, ev_isO_3, ev_isO_4, ev_isO_5, ev_isO_6, ev_isO_7, ev_isO_8, ev_z0, ev_z1, ev_z2, eq_self, ev_ofN, show ¬ (1 : Int32) = 0 from by decide, show ¬ (2 : Int32) = 0 from by decide, show ¬ (2 : Int32) = 1 from by decide, show ¬ (0 : Int32) = 1 from by decide, show ¬ (0 : Int32) = 2 from by decide, show ¬ (1 : Int32) = 2 from by decide, show ¬ (0 : Int32) = -1 from by decide, show (0 : Int32) ≤ 1 from by decide, show (1 : Int32).toNatClampNeg = 1 from rfl, show (0 : Nat) < 2 from by omega, show (1 : Nat) < 2 from by omega, not_true_eq_false, ne_eq, not_false_eq_true, hk]
    exact c _ (n + 1) (q + 6) ⟨hc, fun _ _ _ _ => rfl, ⟨l0, s0, ho, fun _ z => by cases z⟩, fun a ha => hz a (by omega), by omega, by omega, by omega, by omega⟩
  · skip
    subst e
    have ek : k_text G (nI i) w = (2, 0, G) := by
      unfold k_text
      rw [if_neg (no_ix hi (by omega))]
      rw [if_pos hb]
    rw [ek] at c
    simp (disch := omega) only [t_L_text_0, t_L_text_1, t_L_text_2, t_L_text_3, t_L_text_4, t_L_text_7, t_L_text_10, t_L_text_15, t_L_text_16, t_L_text_19, t_L_text_20, t_L_text_21, t_L_text_22, x_L_text_4_0, x_L_text_4_1, ↓reduceIte, ev_k_i, ev_k_r, ev_k_l, ev_k_J, ev_k_n, ev_kr_1, ev_kr_0, ev_isK_y, ev_aG_y, ev_aS_y, ev_aN_y, ev_inA_0, ev_isA_0, ev_ft_I, ev_ft_0, ev_ft_1, ev_ft_o, ev_ft_a, ev_nb_0, ev_nb_1, and_true, true_and, if_true, if_false, not_true_eq_false, not_false_eq_true, nI_1, ev_fG_0, ev_fG_1, ev_fG_2, ev_fG_3, ev_fG_4, ev_fG_5, ev_fG_6, ev_fG_7, ev_fG_8, ev_fS_0, ev_fS_1, ev_fS_2, ev_fS_3, ev_fS_4, ev_fS_5, ev_fS_6, ev_fS_7, ev_fS_8, ev_isO_0, ev_isO_1, ev_isO_2, ev_isO_3, ev_isO_4, ev_isO_5, ev_isO_6, ev_isO_7, ev_isO_8, ev_z0, ev_z1, ev_z2, eq_self, ev_ofN, show ¬ (1 : Int32) = 0 from by decide, show ¬ (2 : Int32) = 0 from by decide, show ¬ (2 : Int32) = 1 from by decide, show ¬ (0 : Int32) = 1 from by decide, show ¬ (0 : Int32) = 2 from by decide, show ¬ (1 : Int32) = 2 from by decide, show ¬ (0 : Int32) = -1 from by decide, show (0 : Int32) ≤ 1 from by decide, show (1 : Int32).toNatClampNeg = 1 from rfl, show (0 : Nat) < 2 from by omega, show (1 : Nat) < 2 from by omega, not_true_eq_false, ne_eq, not_false_eq_true, hk]
    exact c _ (n + 1) (q + 6) ⟨hc, fun _ _ _ _ => rfl, ⟨l0, s0, ho, fun _ z => by cases z⟩, fun a ha => hz a (by omega), by omega, by omega, by omega, by omega⟩
  · skip
    subst e
    subst e2
    have ek : k_text G (nI i) (nI a) = (0, 0, G) := by
      unfold k_text
      rw [if_neg (no_ix hi (by omega))]
      rw [if_neg (no_ix ha (by omega))]
    rw [ek] at c
    have ho1 : H1 o = some (.inr (11, [.long l0, s0])) := (hf o (by omega)).trans ho
    simp (disch := omega) only [t_L_text_0, t_L_text_1, t_L_text_2, t_L_text_3, t_L_text_4, t_L_text_7, t_L_text_10, t_L_text_15, t_L_text_16, t_L_text_19, t_L_text_20, t_L_text_21, t_L_text_22, x_L_text_4_0, x_L_text_4_1, ↓reduceIte, ev_k_i, ev_k_r, ev_k_l, ev_k_J, ev_k_n, ev_kr_1, ev_kr_0, ev_isK_y, ev_aG_y, ev_aS_y, ev_aN_y, ev_inA_0, ev_isA_0, ev_ft_I, ev_ft_0, ev_ft_1, ev_ft_o, ev_ft_a, ev_nb_0, ev_nb_1, and_true, true_and, if_true, if_false, not_true_eq_false, not_false_eq_true, nI_1, ev_fG_0, ev_fG_1, ev_fG_2, ev_fG_3, ev_fG_4, ev_fG_5, ev_fG_6, ev_fG_7, ev_fG_8, ev_fS_0, ev_fS_1, ev_fS_2, ev_fS_3, ev_fS_4, ev_fS_5, ev_fS_6, ev_fS_7, ev_fS_8, ev_isO_0, ev_isO_1, ev_isO_2, ev_isO_3, ev_isO_4, ev_isO_5, ev_isO_6, ev_isO_7, ev_isO_8, ev_z0, ev_z1, ev_z2, eq_self, ev_ofN, show ¬ (1 : Int32) = 0 from by decide, show ¬ (2 : Int32) = 0 from by decide, show ¬ (2 : Int32) = 1 from by decide, show ¬ (0 : Int32) = 1 from by decide, show ¬ (0 : Int32) = 2 from by decide, show ¬ (1 : Int32) = 2 from by decide, show ¬ (0 : Int32) = -1 from by decide, show (0 : Int32) ≤ 1 from by decide, show (1 : Int32).toNatClampNeg = 1 from rfl, show (0 : Nat) < 2 from by omega, show (1 : Nat) < 2 from by omega, not_true_eq_false, ne_eq, not_false_eq_true, ev_lku_s, ev_lku_n, ev_up_s, ev_up_n, ho1, ev_ft_J, ev_ft_o, ev_ft_a]
    exact c _ n1 q1 ⟨c_cg hc (fun a ha hb => (ev_up_n (by omega)).trans (hf a (by omega))), fun a ha hao han => (ev_up_n hao).trans (hf a han), ⟨_, _, ev_up_s, fun z => by cases z⟩, fun a ha => (ev_up_n (by omega)).trans (hz1 a ha), by omega, by omega, by omega, by omega⟩
theorem LW_ask (hc : c_all x G H) (hG : okG G) (hxo : x + 57 ≤ o) (hon : o < n) (ho : ∃ l s, H o = some (.inr (11, [.long l, s]))) (hz : ∀ a, n ≤ a → H a = none) {k : Int32}
    (c : ∀ H1 n1 q1, lw_post true x o H n q (k_ask G k) H1 n1 q1 → P (.inl (some (.int (nI (k_ask G k).1)))) H1 n1 q1) : ev_ok (ev_TT X) 276 0 [.ref x, .int k, .ref o, ev_J] [] H n q P := by
  have hk := c_all_k (X := X) hc
  obtain ⟨l0, s0, ho⟩ := ho
  simp (disch := omega) only [t_L_ask_0, t_L_ask_1, t_L_ask_2, t_L_ask_3, t_L_ask_6, t_L_ask_7, t_L_ask_10, t_L_ask_14, t_L_ask_15, t_L_ask_17, t_L_ask_18, t_L_ask_19, t_L_ask_20, x_L_ask_3_1, x_L_ask_3_2, ↓reduceIte, ev_k_i, ev_k_r, ev_k_l, ev_k_J, ev_k_n, ev_kr_1, ev_kr_0, ev_isK_y, ev_aG_y, ev_aS_y, ev_aN_y, ev_inA_0, ev_isA_0, ev_ft_I, ev_ft_0, ev_ft_1, ev_ft_o, ev_ft_a, ev_nb_0, ev_nb_1, and_true, true_and, if_true, if_false, not_true_eq_false, not_false_eq_true, nI_1, ev_fG_0, ev_fG_1, ev_fG_2, ev_fG_3, ev_fG_4, ev_fG_5, ev_fG_6, ev_fG_7, ev_fG_8, ev_fS_0, ev_fS_1, ev_fS_2, ev_fS_3, ev_fS_4, ev_fS_5, ev_fS_6, ev_fS_7, ev_fS_8, ev_isO_0, ev_isO_1, ev_isO_2, ev_isO_3, ev_isO_4, ev_isO_5, ev_isO_6, ev_isO_7, ev_isO_8, ev_z0, ev_z1, ev_z2, eq_self, ev_ofN, show ¬ (1 : Int32) = 0 from by decide, show ¬ (2 : Int32) = 0 from by decide, show ¬ (2 : Int32) = 1 from by decide, show ¬ (0 : Int32) = 1 from by decide, show ¬ (0 : Int32) = 2 from by decide, show ¬ (1 : Int32) = 2 from by decide, show ¬ (0 : Int32) = -1 from by decide, show (0 : Int32) ≤ 1 from by decide, show (1 : Int32).toNatClampNeg = 1 from rfl, show (0 : Nat) < 2 from by omega, show (1 : Nat) < 2 from by omega, not_true_eq_false, ne_eq, not_false_eq_true, hk]
  refine C_ask hc hG (fun hb => ?_) (fun a ha e hb => ?_) (fun a ha e hb H1 hc1 hf1 => ?_)
  · skip
    have ek : k_ask G k = (1, 0, G) := by
      unfold k_ask
      rw [if_pos hb]
    rw [ek] at c
    simp (disch := omega) only [t_L_ask_0, t_L_ask_1, t_L_ask_2, t_L_ask_3, t_L_ask_6, t_L_ask_7, t_L_ask_10, t_L_ask_14, t_L_ask_15, t_L_ask_17, t_L_ask_18, t_L_ask_19, t_L_ask_20, x_L_ask_3_1, x_L_ask_3_2, ↓reduceIte, ev_k_i, ev_k_r, ev_k_l, ev_k_J, ev_k_n, ev_kr_1, ev_kr_0, ev_isK_y, ev_aG_y, ev_aS_y, ev_aN_y, ev_inA_0, ev_isA_0, ev_ft_I, ev_ft_0, ev_ft_1, ev_ft_o, ev_ft_a, ev_nb_0, ev_nb_1, and_true, true_and, if_true, if_false, not_true_eq_false, not_false_eq_true, nI_1, ev_fG_0, ev_fG_1, ev_fG_2, ev_fG_3, ev_fG_4, ev_fG_5, ev_fG_6, ev_fG_7, ev_fG_8, ev_fS_0, ev_fS_1, ev_fS_2, ev_fS_3, ev_fS_4, ev_fS_5, ev_fS_6, ev_fS_7, ev_fS_8, ev_isO_0, ev_isO_1, ev_isO_2, ev_isO_3, ev_isO_4, ev_isO_5, ev_isO_6, ev_isO_7, ev_isO_8, ev_z0, ev_z1, ev_z2, eq_self, ev_ofN, show ¬ (1 : Int32) = 0 from by decide, show ¬ (2 : Int32) = 0 from by decide, show ¬ (2 : Int32) = 1 from by decide, show ¬ (0 : Int32) = 1 from by decide, show ¬ (0 : Int32) = 2 from by decide, show ¬ (1 : Int32) = 2 from by decide, show ¬ (0 : Int32) = -1 from by decide, show (0 : Int32) ≤ 1 from by decide, show (1 : Int32).toNatClampNeg = 1 from rfl, show (0 : Nat) < 2 from by omega, show (1 : Nat) < 2 from by omega, not_true_eq_false, ne_eq, not_false_eq_true, hk]
    exact c _ (n + 1) (q + 6) ⟨hc, fun _ _ _ _ => rfl, ⟨l0, s0, ho, fun _ z => by cases z⟩, fun a ha => hz a (by omega), by omega, by omega, by omega, by omega⟩
  · skip
    subst e
    have ek : k_ask G (nI a) = (2, 0, G) := by
      unfold k_ask
      rw [if_neg (no_ix ha (by omega))]
      rw [if_pos hb]
    rw [ek] at c
    simp (disch := omega) only [t_L_ask_0, t_L_ask_1, t_L_ask_2, t_L_ask_3, t_L_ask_6, t_L_ask_7, t_L_ask_10, t_L_ask_14, t_L_ask_15, t_L_ask_17, t_L_ask_18, t_L_ask_19, t_L_ask_20, x_L_ask_3_1, x_L_ask_3_2, ↓reduceIte, ev_k_i, ev_k_r, ev_k_l, ev_k_J, ev_k_n, ev_kr_1, ev_kr_0, ev_isK_y, ev_aG_y, ev_aS_y, ev_aN_y, ev_inA_0, ev_isA_0, ev_ft_I, ev_ft_0, ev_ft_1, ev_ft_o, ev_ft_a, ev_nb_0, ev_nb_1, and_true, true_and, if_true, if_false, not_true_eq_false, not_false_eq_true, nI_1, ev_fG_0, ev_fG_1, ev_fG_2, ev_fG_3, ev_fG_4, ev_fG_5, ev_fG_6, ev_fG_7, ev_fG_8, ev_fS_0, ev_fS_1, ev_fS_2, ev_fS_3, ev_fS_4, ev_fS_5, ev_fS_6, ev_fS_7, ev_fS_8, ev_isO_0, ev_isO_1, ev_isO_2, ev_isO_3, ev_isO_4, ev_isO_5, ev_isO_6, ev_isO_7, ev_isO_8, ev_z0, ev_z1, ev_z2, eq_self, ev_ofN, show ¬ (1 : Int32) = 0 from by decide, show ¬ (2 : Int32) = 0 from by decide, show ¬ (2 : Int32) = 1 from by decide, show ¬ (0 : Int32) = 1 from by decide, show ¬ (0 : Int32) = 2 from by decide, show ¬ (1 : Int32) = 2 from by decide, show ¬ (0 : Int32) = -1 from by decide, show (0 : Int32) ≤ 1 from by decide, show (1 : Int32).toNatClampNeg = 1 from rfl, show (0 : Nat) < 2 from by omega, show (1 : Nat) < 2 from by omega, not_true_eq_false, ne_eq, not_false_eq_true, hk]
    exact c _ (n + 1) (q + 6) ⟨hc, fun _ _ _ _ => rfl, ⟨l0, s0, ho, fun _ z => by cases z⟩, fun a ha => hz a (by omega), by omega, by omega, by omega, by omega⟩
  · skip
    subst e
    have ek : k_ask G (nI a) = (0, (pk_hits G.2.2.1 (nI a) (nI G.2.2.2.1.2.2) 6 0 0), (pg_ask G (nI a))) := by
      unfold k_ask
      rw [if_neg (no_ix ha (by omega))]
      rw [if_neg (fun z => by omega)]
    rw [ek] at c
    have ho1 : H1 o = some (.inr (11, [.long l0, s0])) := (hf1 o (by omega)).trans ho
    simp (disch := omega) only [t_L_ask_0, t_L_ask_1, t_L_ask_2, t_L_ask_3, t_L_ask_6, t_L_ask_7, t_L_ask_10, t_L_ask_14, t_L_ask_15, t_L_ask_17, t_L_ask_18, t_L_ask_19, t_L_ask_20, x_L_ask_3_1, x_L_ask_3_2, ↓reduceIte, ev_k_i, ev_k_r, ev_k_l, ev_k_J, ev_k_n, ev_kr_1, ev_kr_0, ev_isK_y, ev_aG_y, ev_aS_y, ev_aN_y, ev_inA_0, ev_isA_0, ev_ft_I, ev_ft_0, ev_ft_1, ev_ft_o, ev_ft_a, ev_nb_0, ev_nb_1, and_true, true_and, if_true, if_false, not_true_eq_false, not_false_eq_true, nI_1, ev_fG_0, ev_fG_1, ev_fG_2, ev_fG_3, ev_fG_4, ev_fG_5, ev_fG_6, ev_fG_7, ev_fG_8, ev_fS_0, ev_fS_1, ev_fS_2, ev_fS_3, ev_fS_4, ev_fS_5, ev_fS_6, ev_fS_7, ev_fS_8, ev_isO_0, ev_isO_1, ev_isO_2, ev_isO_3, ev_isO_4, ev_isO_5, ev_isO_6, ev_isO_7, ev_isO_8, ev_z0, ev_z1, ev_z2, eq_self, ev_ofN, show ¬ (1 : Int32) = 0 from by decide, show ¬ (2 : Int32) = 0 from by decide, show ¬ (2 : Int32) = 1 from by decide, show ¬ (0 : Int32) = 1 from by decide, show ¬ (0 : Int32) = 2 from by decide, show ¬ (1 : Int32) = 2 from by decide, show ¬ (0 : Int32) = -1 from by decide, show (0 : Int32) ≤ 1 from by decide, show (1 : Int32).toNatClampNeg = 1 from rfl, show (0 : Nat) < 2 from by omega, show (1 : Nat) < 2 from by omega, not_true_eq_false, ne_eq, not_false_eq_true, ev_lku_s, ev_lku_n, ev_up_s, ev_up_n, ho1, ev_ft_J]
    exact c _ n q ⟨c_cg hc1 (fun a ha hb => ev_up_n (by omega)), fun a ha hao han => (ev_up_n hao).trans (hf1 a ha), ⟨_, s0, ev_up_s, fun _ _ => rfl⟩, fun a ha => (ev_up_n (by omega)).trans ((hf1 a (by omega)).trans (hz a ha)), by omega, by omega, by omega, by omega⟩
theorem LW_askRow (hc : c_all x G H) (hG : okG G) (hxo : x + 57 ≤ o) (hon : o < n) (ho : ∃ l s, H o = some (.inr (11, [.long l, s]))) (hz : ∀ a, n ≤ a → H a = none) {f st mn : Int32}
    (c : ∀ H1 n1 q1, lw_post true x o H n q (k_askRow G f st mn) H1 n1 q1 → P (.inl (some (.int (nI (k_askRow G f st mn).1)))) H1 n1 q1) : ev_ok (ev_TT X) 277 0 [.ref x, .int f, .int st, .int mn, .ref o, ev_J] [] H n q P := by
  have hk := c_all_k (X := X) hc
  obtain ⟨l0, s0, ho⟩ := ho
  simp (disch := omega) only [t_L_askRow_0, t_L_askRow_2, t_L_askRow_3, t_L_askRow_4, t_L_askRow_5, t_L_askRow_6, t_L_askRow_9, t_L_askRow_10, t_L_askRow_13, t_L_askRow_18, t_L_askRow_19, t_L_askRow_22, t_L_askRow_23, t_L_askRow_24, t_L_askRow_25, x_L_askRow_6_1, x_L_askRow_6_2, ↓reduceIte, ev_k_i, ev_k_r, ev_k_l, ev_k_J, ev_k_n, ev_kr_1, ev_kr_0, ev_isK_y, ev_aG_y, ev_aS_y, ev_aN_y, ev_inA_0, ev_isA_0, ev_ft_I, ev_ft_0, ev_ft_1, ev_ft_o, ev_ft_a, ev_nb_0, ev_nb_1, and_true, true_and, if_true, if_false, not_true_eq_false, not_false_eq_true, nI_1, ev_fG_0, ev_fG_1, ev_fG_2, ev_fG_3, ev_fG_4, ev_fG_5, ev_fG_6, ev_fG_7, ev_fG_8, ev_fS_0, ev_fS_1, ev_fS_2, ev_fS_3, ev_fS_4, ev_fS_5, ev_fS_6, ev_fS_7, ev_fS_8, ev_isO_0, ev_isO_1, ev_isO_2, ev_isO_3, ev_isO_4, ev_isO_5, ev_isO_6, ev_isO_7, ev_isO_8, ev_z0, ev_z1, ev_z2, eq_self, ev_ofN, show ¬ (1 : Int32) = 0 from by decide, show ¬ (2 : Int32) = 0 from by decide, show ¬ (2 : Int32) = 1 from by decide, show ¬ (0 : Int32) = 1 from by decide, show ¬ (0 : Int32) = 2 from by decide, show ¬ (1 : Int32) = 2 from by decide, show ¬ (0 : Int32) = -1 from by decide, show (0 : Int32) ≤ 1 from by decide, show (1 : Int32).toNatClampNeg = 1 from rfl, show (0 : Nat) < 2 from by omega, show (1 : Nat) < 2 from by omega, not_true_eq_false, ne_eq, not_false_eq_true, hk]
  refine C_askRow hc hG (fun hb => ?_) (fun a b d ha e hb e2 hd e3 hle => ?_) (fun a b d ha e hb e2 hd e3 hle H1 hc1 hf1 => ?_)
  · skip
    have ek : k_askRow G f st mn = (1, 0, G) := by
      unfold k_askRow
      rw [if_pos hb]
    rw [ek] at c
    simp (disch := omega) only [t_L_askRow_0, t_L_askRow_2, t_L_askRow_3, t_L_askRow_4, t_L_askRow_5, t_L_askRow_6, t_L_askRow_9, t_L_askRow_10, t_L_askRow_13, t_L_askRow_18, t_L_askRow_19, t_L_askRow_22, t_L_askRow_23, t_L_askRow_24, t_L_askRow_25, x_L_askRow_6_1, x_L_askRow_6_2, ↓reduceIte, ev_k_i, ev_k_r, ev_k_l, ev_k_J, ev_k_n, ev_kr_1, ev_kr_0, ev_isK_y, ev_aG_y, ev_aS_y, ev_aN_y, ev_inA_0, ev_isA_0, ev_ft_I, ev_ft_0, ev_ft_1, ev_ft_o, ev_ft_a, ev_nb_0, ev_nb_1, and_true, true_and, if_true, if_false, not_true_eq_false, not_false_eq_true, nI_1, ev_fG_0, ev_fG_1, ev_fG_2, ev_fG_3, ev_fG_4, ev_fG_5, ev_fG_6, ev_fG_7, ev_fG_8, ev_fS_0, ev_fS_1, ev_fS_2, ev_fS_3, ev_fS_4, ev_fS_5, ev_fS_6, ev_fS_7, ev_fS_8, ev_isO_0, ev_isO_1, ev_isO_2, ev_isO_3, ev_isO_4, ev_isO_5, ev_isO_6, ev_isO_7, ev_isO_8, ev_z0, ev_z1, ev_z2, eq_self, ev_ofN, show ¬ (1 : Int32) = 0 from by decide, show ¬ (2 : Int32) = 0 from by decide, show ¬ (2 : Int32) = 1 from by decide, show ¬ (0 : Int32) = 1 from by decide, show ¬ (0 : Int32) = 2 from by decide, show ¬ (1 : Int32) = 2 from by decide, show ¬ (0 : Int32) = -1 from by decide, show (0 : Int32) ≤ 1 from by decide, show (1 : Int32).toNatClampNeg = 1 from rfl, show (0 : Nat) < 2 from by omega, show (1 : Nat) < 2 from by omega, not_true_eq_false, ne_eq, not_false_eq_true, hk]
    exact c _ (n + 1) (q + 6) ⟨hc, fun _ _ _ _ => rfl, ⟨l0, s0, ho, fun _ z => by cases z⟩, fun a ha => hz a (by omega), by omega, by omega, by omega, by omega⟩
  · skip
    subst e
    subst e2
    subst e3
    have ek : k_askRow G (nI a) (nI b) (nI (d + 1)) = (2, 0, G) := by
      unfold k_askRow
      rw [nI_clamp (n := a) (by omega)]
      rw [nI_clamp (n := b) (by omega)]
      rw [nI_clamp (n := d + 1) (by omega)]
      rw [if_neg (fun z => z.elim (no_ix ha (by omega)) (fun z => z.elim (no_ix hb (by omega)) (no_mn hd)))]
      rw [if_pos hle]
    rw [ek] at c
    simp (disch := omega) only [t_L_askRow_0, t_L_askRow_2, t_L_askRow_3, t_L_askRow_4, t_L_askRow_5, t_L_askRow_6, t_L_askRow_9, t_L_askRow_10, t_L_askRow_13, t_L_askRow_18, t_L_askRow_19, t_L_askRow_22, t_L_askRow_23, t_L_askRow_24, t_L_askRow_25, x_L_askRow_6_1, x_L_askRow_6_2, ↓reduceIte, ev_k_i, ev_k_r, ev_k_l, ev_k_J, ev_k_n, ev_kr_1, ev_kr_0, ev_isK_y, ev_aG_y, ev_aS_y, ev_aN_y, ev_inA_0, ev_isA_0, ev_ft_I, ev_ft_0, ev_ft_1, ev_ft_o, ev_ft_a, ev_nb_0, ev_nb_1, and_true, true_and, if_true, if_false, not_true_eq_false, not_false_eq_true, nI_1, ev_fG_0, ev_fG_1, ev_fG_2, ev_fG_3, ev_fG_4, ev_fG_5, ev_fG_6, ev_fG_7, ev_fG_8, ev_fS_0, ev_fS_1, ev_fS_2, ev_fS_3, ev_fS_4, ev_fS_5, ev_fS_6, ev_fS_7, ev_fS_8, ev_isO_0, ev_isO_1, ev_isO_2, ev_isO_3, ev_isO_4, ev_isO_5, ev_isO_6, ev_isO_7, ev_isO_8, ev_z0, ev_z1, ev_z2, eq_self, ev_ofN, show ¬ (1 : Int32) = 0 from by decide, show ¬ (2 : Int32) = 0 from by decide, show ¬ (2 : Int32) = 1 from by decide, show ¬ (0 : Int32) = 1 from by decide, show ¬ (0 : Int32) = 2 from by decide, show ¬ (1 : Int32) = 2 from by decide, show ¬ (0 : Int32) = -1 from by decide, show (0 : Int32) ≤ 1 from by decide, show (1 : Int32).toNatClampNeg = 1 from rfl, show (0 : Nat) < 2 from by omega, show (1 : Nat) < 2 from by omega, not_true_eq_false, ne_eq, not_false_eq_true, hk]
    exact c _ (n + 1) (q + 6) ⟨hc, fun _ _ _ _ => rfl, ⟨l0, s0, ho, fun _ z => by cases z⟩, fun a ha => hz a (by omega), by omega, by omega, by omega, by omega⟩
  · skip
    subst e
    subst e2
    subst e3
    have ek : k_askRow G (nI a) (nI b) (nI (d + 1)) = (0, (pk_rowh a b (d + 1) 0 G 0), (pg_rowd a b (d + 1) 0 G)) := by
      unfold k_askRow
      rw [nI_clamp (n := a) (by omega)]
      rw [nI_clamp (n := b) (by omega)]
      rw [nI_clamp (n := d + 1) (by omega)]
      rw [if_neg (fun z => z.elim (no_ix ha (by omega)) (fun z => z.elim (no_ix hb (by omega)) (no_mn hd)))]
      rw [if_neg (fun z => by omega)]
    rw [ek] at c
    have ho1 : H1 o = some (.inr (11, [.long l0, s0])) := (hf1 o (by omega)).trans ho
    simp (disch := omega) only [t_L_askRow_0, t_L_askRow_2, t_L_askRow_3, t_L_askRow_4, t_L_askRow_5, t_L_askRow_6, t_L_askRow_9, t_L_askRow_10, t_L_askRow_13, t_L_askRow_18, t_L_askRow_19, t_L_askRow_22, t_L_askRow_23, t_L_askRow_24, t_L_askRow_25, x_L_askRow_6_1, x_L_askRow_6_2, ↓reduceIte, ev_k_i, ev_k_r, ev_k_l, ev_k_J, ev_k_n, ev_kr_1, ev_kr_0, ev_isK_y, ev_aG_y, ev_aS_y, ev_aN_y, ev_inA_0, ev_isA_0, ev_ft_I, ev_ft_0, ev_ft_1, ev_ft_o, ev_ft_a, ev_nb_0, ev_nb_1, and_true, true_and, if_true, if_false, not_true_eq_false, not_false_eq_true, nI_1, ev_fG_0, ev_fG_1, ev_fG_2, ev_fG_3, ev_fG_4, ev_fG_5, ev_fG_6, ev_fG_7, ev_fG_8, ev_fS_0, ev_fS_1, ev_fS_2, ev_fS_3, ev_fS_4, ev_fS_5, ev_fS_6, ev_fS_7, ev_fS_8, ev_isO_0, ev_isO_1, ev_isO_2, ev_isO_3, ev_isO_4, ev_isO_5, ev_isO_6, ev_isO_7, ev_isO_8, ev_z0, ev_z1, ev_z2, eq_self, ev_ofN, show ¬ (1 : Int32) = 0 from by decide, show ¬ (2 : Int32) = 0 from by decide, show ¬ (2 : Int32) = 1 from by decide, show ¬ (0 : Int32) = 1 from by decide, show ¬ (0 : Int32) = 2 from by decide, show ¬ (1 : Int32) = 2 from by decide, show ¬ (0 : Int32) = -1 from by decide, show (0 : Int32) ≤ 1 from by decide, show (1 : Int32).toNatClampNeg = 1 from rfl, show (0 : Nat) < 2 from by omega, show (1 : Nat) < 2 from by omega, not_true_eq_false, ne_eq, not_false_eq_true, ev_lku_s, ev_lku_n, ev_up_s, ev_up_n, ho1, ev_ft_J]
    exact c _ n q ⟨c_cg hc1 (fun a ha hb => ev_up_n (by omega)), fun a ha hao han => (ev_up_n hao).trans (hf1 a ha), ⟨_, s0, ev_up_s, fun _ _ => rfl⟩, fun a ha => (ev_up_n (by omega)).trans ((hf1 a (by omega)).trans (hz a ha)), by omega, by omega, by omega, by omega⟩
theorem LW_depth (hc : c_all x G H) (hG : okG G) (hxo : x + 57 ≤ o) (hon : o < n) (ho : ∃ l s, H o = some (.inr (11, [.long l, s]))) (hz : ∀ a, n ≤ a → H a = none) {k : Int32}
    (c : ∀ H1 n1 q1, lw_post true x o H n q (k_depth G k) H1 n1 q1 → P (.inl (some (.int (nI (k_depth G k).1)))) H1 n1 q1) : ev_ok (ev_TT X) 181 0 [.ref x, .int k, .ref o, ev_J] [] H n q P := by
  have hk := c_all_k (X := X) hc
  obtain ⟨l0, s0, ho⟩ := ho
  simp (disch := omega) only [t_L_depth_0, t_L_depth_1, t_L_depth_2, t_L_depth_3, t_L_depth_6, t_L_depth_7, t_L_depth_10, t_L_depth_14, t_L_depth_15, t_L_depth_16, t_L_depth_17, x_L_depth_3_1, ↓reduceIte, ev_k_i, ev_k_r, ev_k_l, ev_k_J, ev_k_n, ev_kr_1, ev_kr_0, ev_isK_y, ev_aG_y, ev_aS_y, ev_aN_y, ev_inA_0, ev_isA_0, ev_ft_I, ev_ft_0, ev_ft_1, ev_ft_o, ev_ft_a, ev_nb_0, ev_nb_1, and_true, true_and, if_true, if_false, not_true_eq_false, not_false_eq_true, nI_1, ev_fG_0, ev_fG_1, ev_fG_2, ev_fG_3, ev_fG_4, ev_fG_5, ev_fG_6, ev_fG_7, ev_fG_8, ev_fS_0, ev_fS_1, ev_fS_2, ev_fS_3, ev_fS_4, ev_fS_5, ev_fS_6, ev_fS_7, ev_fS_8, ev_isO_0, ev_isO_1, ev_isO_2, ev_isO_3, ev_isO_4, ev_isO_5, ev_isO_6, ev_isO_7, ev_isO_8, ev_z0, ev_z1, ev_z2, eq_self, ev_ofN, show ¬ (1 : Int32) = 0 from by decide, show ¬ (2 : Int32) = 0 from by decide, show ¬ (2 : Int32) = 1 from by decide, show ¬ (0 : Int32) = 1 from by decide, show ¬ (0 : Int32) = 2 from by decide, show ¬ (1 : Int32) = 2 from by decide, show ¬ (0 : Int32) = -1 from by decide, show (0 : Int32) ≤ 1 from by decide, show (1 : Int32).toNatClampNeg = 1 from rfl, show (0 : Nat) < 2 from by omega, show (1 : Nat) < 2 from by omega, not_true_eq_false, ne_eq, not_false_eq_true, hk]
  refine C_depth hc hG (fun hb => ?_) (fun a ha e => ?_)
  · skip
    have ek : k_depth G k = (1, 0, G) := by
      unfold k_depth
      rw [if_pos hb]
    rw [ek] at c
    simp (disch := omega) only [t_L_depth_0, t_L_depth_1, t_L_depth_2, t_L_depth_3, t_L_depth_6, t_L_depth_7, t_L_depth_10, t_L_depth_14, t_L_depth_15, t_L_depth_16, t_L_depth_17, x_L_depth_3_1, ↓reduceIte, ev_k_i, ev_k_r, ev_k_l, ev_k_J, ev_k_n, ev_kr_1, ev_kr_0, ev_isK_y, ev_aG_y, ev_aS_y, ev_aN_y, ev_inA_0, ev_isA_0, ev_ft_I, ev_ft_0, ev_ft_1, ev_ft_o, ev_ft_a, ev_nb_0, ev_nb_1, and_true, true_and, if_true, if_false, not_true_eq_false, not_false_eq_true, nI_1, ev_fG_0, ev_fG_1, ev_fG_2, ev_fG_3, ev_fG_4, ev_fG_5, ev_fG_6, ev_fG_7, ev_fG_8, ev_fS_0, ev_fS_1, ev_fS_2, ev_fS_3, ev_fS_4, ev_fS_5, ev_fS_6, ev_fS_7, ev_fS_8, ev_isO_0, ev_isO_1, ev_isO_2, ev_isO_3, ev_isO_4, ev_isO_5, ev_isO_6, ev_isO_7, ev_isO_8, ev_z0, ev_z1, ev_z2, eq_self, ev_ofN, show ¬ (1 : Int32) = 0 from by decide, show ¬ (2 : Int32) = 0 from by decide, show ¬ (2 : Int32) = 1 from by decide, show ¬ (0 : Int32) = 1 from by decide, show ¬ (0 : Int32) = 2 from by decide, show ¬ (1 : Int32) = 2 from by decide, show ¬ (0 : Int32) = -1 from by decide, show (0 : Int32) ≤ 1 from by decide, show (1 : Int32).toNatClampNeg = 1 from rfl, show (0 : Nat) < 2 from by omega, show (1 : Nat) < 2 from by omega, not_true_eq_false, ne_eq, not_false_eq_true, hk]
    exact c _ (n + 1) (q + 6) ⟨hc, fun _ _ _ _ => rfl, ⟨l0, s0, ho, fun _ z => by cases z⟩, fun a ha => hz a (by omega), by omega, by omega, by omega, by omega⟩
  · skip
    subst e
    have ek : k_depth G (nI a) = (0, (pd_depth G.2.1.1 (nI a)), G) := by
      unfold k_depth
      rw [if_neg (no_ix ha (by omega))]
    rw [ek] at c
    have ho1 := ho
    simp (disch := omega) only [t_L_depth_0, t_L_depth_1, t_L_depth_2, t_L_depth_3, t_L_depth_6, t_L_depth_7, t_L_depth_10, t_L_depth_14, t_L_depth_15, t_L_depth_16, t_L_depth_17, x_L_depth_3_1, ↓reduceIte, ev_k_i, ev_k_r, ev_k_l, ev_k_J, ev_k_n, ev_kr_1, ev_kr_0, ev_isK_y, ev_aG_y, ev_aS_y, ev_aN_y, ev_inA_0, ev_isA_0, ev_ft_I, ev_ft_0, ev_ft_1, ev_ft_o, ev_ft_a, ev_nb_0, ev_nb_1, and_true, true_and, if_true, if_false, not_true_eq_false, not_false_eq_true, nI_1, ev_fG_0, ev_fG_1, ev_fG_2, ev_fG_3, ev_fG_4, ev_fG_5, ev_fG_6, ev_fG_7, ev_fG_8, ev_fS_0, ev_fS_1, ev_fS_2, ev_fS_3, ev_fS_4, ev_fS_5, ev_fS_6, ev_fS_7, ev_fS_8, ev_isO_0, ev_isO_1, ev_isO_2, ev_isO_3, ev_isO_4, ev_isO_5, ev_isO_6, ev_isO_7, ev_isO_8, ev_z0, ev_z1, ev_z2, eq_self, ev_ofN, show ¬ (1 : Int32) = 0 from by decide, show ¬ (2 : Int32) = 0 from by decide, show ¬ (2 : Int32) = 1 from by decide, show ¬ (0 : Int32) = 1 from by decide, show ¬ (0 : Int32) = 2 from by decide, show ¬ (1 : Int32) = 2 from by decide, show ¬ (0 : Int32) = -1 from by decide, show (0 : Int32) ≤ 1 from by decide, show (1 : Int32).toNatClampNeg = 1 from rfl, show (0 : Nat) < 2 from by omega, show (1 : Nat) < 2 from by omega, not_true_eq_false, ne_eq, not_false_eq_true, ev_lku_s, ev_lku_n, ev_up_s, ev_up_n, ho1, ev_ft_J]
    exact c _ n q ⟨c_cg hc (fun a ha hb => ev_up_n (by omega)), fun a ha hao han => (ev_up_n hao), ⟨_, s0, ev_up_s, fun _ _ => rfl⟩, fun a ha => (ev_up_n (by omega)).trans (hz a ha), by omega, by omega, by omega, by omega⟩
theorem LW_kept (hc : c_all x G H) (hG : okG G) (hD : ev_DG X) (hxs : X.1.heap.size ≤ x) (hw0 : ev_low X H) (hxo : x + 57 ≤ o) (hon : o < n) (ho : ∃ l s, H o = some (.inr (11, [.long l, s]))) (hz : ∀ a, n ≤ a → H a = none) {s : Int32}
    (c : ∀ H1 n1 q1, lw_post false x o H n q (k_kept G s) H1 n1 q1 → P (.inl (some (.int (nI (k_kept G s).1)))) H1 n1 q1) : ev_ok (ev_TT X) 305 0 [.ref x, .int s, .ref o, ev_J] [] H n q P := by
  have hk := c_all_k (X := X) hc
  obtain ⟨l0, s0, ho⟩ := ho
  simp (disch := omega) only [t_L_kept_0, t_L_kept_1, t_L_kept_2, t_L_kept_3, t_L_kept_6, t_L_kept_9, t_L_kept_13, t_L_kept_14, t_L_kept_15, t_L_kept_16, x_L_kept_3_1, ↓reduceIte, ev_k_i, ev_k_r, ev_k_l, ev_k_J, ev_k_n, ev_kr_1, ev_kr_0, ev_isK_y, ev_aG_y, ev_aS_y, ev_aN_y, ev_inA_0, ev_isA_0, ev_ft_I, ev_ft_0, ev_ft_1, ev_ft_o, ev_ft_a, ev_nb_0, ev_nb_1, and_true, true_and, if_true, if_false, not_true_eq_false, not_false_eq_true, nI_1, ev_fG_0, ev_fG_1, ev_fG_2, ev_fG_3, ev_fG_4, ev_fG_5, ev_fG_6, ev_fG_7, ev_fG_8, ev_fS_0, ev_fS_1, ev_fS_2, ev_fS_3, ev_fS_4, ev_fS_5, ev_fS_6, ev_fS_7, ev_fS_8, ev_isO_0, ev_isO_1, ev_isO_2, ev_isO_3, ev_isO_4, ev_isO_5, ev_isO_6, ev_isO_7, ev_isO_8, ev_z0, ev_z1, ev_z2, eq_self, ev_ofN, show ¬ (1 : Int32) = 0 from by decide, show ¬ (2 : Int32) = 0 from by decide, show ¬ (2 : Int32) = 1 from by decide, show ¬ (0 : Int32) = 1 from by decide, show ¬ (0 : Int32) = 2 from by decide, show ¬ (1 : Int32) = 2 from by decide, show ¬ (0 : Int32) = -1 from by decide, show (0 : Int32) ≤ 1 from by decide, show (1 : Int32).toNatClampNeg = 1 from rfl, show (0 : Nat) < 2 from by omega, show (1 : Nat) < 2 from by omega, not_true_eq_false, ne_eq, not_false_eq_true, hk]
  refine C_kept hc hG hD hxs hw0 (by omega) hz (fun hb => ?_) (fun j hj e H1 s k n1 q1 hSt g1 g2 g3 hf hz1 g4 g5 g6 g7 => ?_)
  · skip
    have ek : k_kept G s = (1, 0, G) := by
      unfold k_kept
      rw [if_pos hb]
    rw [ek] at c
    simp (disch := omega) only [t_L_kept_0, t_L_kept_1, t_L_kept_2, t_L_kept_3, t_L_kept_6, t_L_kept_9, t_L_kept_13, t_L_kept_14, t_L_kept_15, t_L_kept_16, x_L_kept_3_1, ↓reduceIte, ev_k_i, ev_k_r, ev_k_l, ev_k_J, ev_k_n, ev_kr_1, ev_kr_0, ev_isK_y, ev_aG_y, ev_aS_y, ev_aN_y, ev_inA_0, ev_isA_0, ev_ft_I, ev_ft_0, ev_ft_1, ev_ft_o, ev_ft_a, ev_nb_0, ev_nb_1, and_true, true_and, if_true, if_false, not_true_eq_false, not_false_eq_true, nI_1, ev_fG_0, ev_fG_1, ev_fG_2, ev_fG_3, ev_fG_4, ev_fG_5, ev_fG_6, ev_fG_7, ev_fG_8, ev_fS_0, ev_fS_1, ev_fS_2, ev_fS_3, ev_fS_4, ev_fS_5, ev_fS_6, ev_fS_7, ev_fS_8, ev_isO_0, ev_isO_1, ev_isO_2, ev_isO_3, ev_isO_4, ev_isO_5, ev_isO_6, ev_isO_7, ev_isO_8, ev_z0, ev_z1, ev_z2, eq_self, ev_ofN, show ¬ (1 : Int32) = 0 from by decide, show ¬ (2 : Int32) = 0 from by decide, show ¬ (2 : Int32) = 1 from by decide, show ¬ (0 : Int32) = 1 from by decide, show ¬ (0 : Int32) = 2 from by decide, show ¬ (1 : Int32) = 2 from by decide, show ¬ (0 : Int32) = -1 from by decide, show (0 : Int32) ≤ 1 from by decide, show (1 : Int32).toNatClampNeg = 1 from rfl, show (0 : Nat) < 2 from by omega, show (1 : Nat) < 2 from by omega, not_true_eq_false, ne_eq, not_false_eq_true, hk]
    exact c _ (n + 1) (q + 6) ⟨hc, fun _ _ _ _ => rfl, ⟨l0, s0, ho, fun _ z => by cases z⟩, fun a ha => hz a (by omega), by omega, by omega, by omega, by omega⟩
  · skip
    subst e
    have ek : k_kept G (nI (j + 1)) = (0, 0, G) := by
      unfold k_kept
      rw [if_neg (no_sz hj)]
    rw [ek] at c
    have ho1 : H1 o = some (.inr (11, [.long l0, s0])) := (hf o (by omega)).trans ho
    simp (disch := omega) only [t_L_kept_0, t_L_kept_1, t_L_kept_2, t_L_kept_3, t_L_kept_6, t_L_kept_9, t_L_kept_13, t_L_kept_14, t_L_kept_15, t_L_kept_16, x_L_kept_3_1, ↓reduceIte, ev_k_i, ev_k_r, ev_k_l, ev_k_J, ev_k_n, ev_kr_1, ev_kr_0, ev_isK_y, ev_aG_y, ev_aS_y, ev_aN_y, ev_inA_0, ev_isA_0, ev_ft_I, ev_ft_0, ev_ft_1, ev_ft_o, ev_ft_a, ev_nb_0, ev_nb_1, and_true, true_and, if_true, if_false, not_true_eq_false, not_false_eq_true, nI_1, ev_fG_0, ev_fG_1, ev_fG_2, ev_fG_3, ev_fG_4, ev_fG_5, ev_fG_6, ev_fG_7, ev_fG_8, ev_fS_0, ev_fS_1, ev_fS_2, ev_fS_3, ev_fS_4, ev_fS_5, ev_fS_6, ev_fS_7, ev_fS_8, ev_isO_0, ev_isO_1, ev_isO_2, ev_isO_3, ev_isO_4, ev_isO_5, ev_isO_6, ev_isO_7, ev_isO_8, ev_z0, ev_z1, ev_z2, eq_self, ev_ofN, show ¬ (1 : Int32) = 0 from by decide, show ¬ (2 : Int32) = 0 from by decide, show ¬ (2 : Int32) = 1 from by decide, show ¬ (0 : Int32) = 1 from by decide, show ¬ (0 : Int32) = 2 from by decide, show ¬ (1 : Int32) = 2 from by decide, show ¬ (0 : Int32) = -1 from by decide, show (0 : Int32) ≤ 1 from by decide, show (1 : Int32).toNatClampNeg = 1 from rfl, show (0 : Nat) < 2 from by omega, show (1 : Nat) < 2 from by omega, not_true_eq_false, ne_eq, not_false_eq_true, ev_lku_s, ev_lku_n, ev_up_s, ev_up_n, ho1, ev_ft_J, ev_ft_o, ev_ft_a]
    exact c _ n1 q1 ⟨c_cg hc (fun a ha hb => (ev_up_n (by omega)).trans (hf a (by omega))), fun a ha hao han => (ev_up_n hao).trans (hf a han), ⟨_, _, ev_up_s, fun z => by cases z⟩, fun a ha => (ev_up_n (by omega)).trans (hz1 a ha), by omega, by omega, by omega, by omega⟩
theorem LW_keeps (hc : c_all x G H) (hG : okG G) (hxo : x + 57 ≤ o) (hon : o < n) (ho : ∃ l s, H o = some (.inr (11, [.long l, s]))) (hz : ∀ a, n ≤ a → H a = none) {s k : Int32}
    (c : ∀ H1 n1 q1, lw_post true x o H n q (k_keeps G s k) H1 n1 q1 → P (.inl (some (.int (nI (k_keeps G s k).1)))) H1 n1 q1) : ev_ok (ev_TT X) 185 0 [.ref x, .int s, .int k, .ref o, ev_J] [] H n q P := by
  have hk := c_all_k (X := X) hc
  obtain ⟨l0, s0, ho⟩ := ho
  simp (disch := omega) only [t_L_keeps_0, t_L_keeps_1, t_L_keeps_2, t_L_keeps_3, t_L_keeps_4, t_L_keeps_7, t_L_keeps_10, t_L_keeps_11, t_L_keeps_14, t_L_keeps_15, t_L_keeps_18, t_L_keeps_23, t_L_keeps_24, t_L_keeps_25, t_L_keeps_26, x_L_keeps_4_1, ↓reduceIte, ev_k_i, ev_k_r, ev_k_l, ev_k_J, ev_k_n, ev_kr_1, ev_kr_0, ev_isK_y, ev_aG_y, ev_aS_y, ev_aN_y, ev_inA_0, ev_isA_0, ev_ft_I, ev_ft_0, ev_ft_1, ev_ft_o, ev_ft_a, ev_nb_0, ev_nb_1, and_true, true_and, if_true, if_false, not_true_eq_false, not_false_eq_true, nI_1, ev_fG_0, ev_fG_1, ev_fG_2, ev_fG_3, ev_fG_4, ev_fG_5, ev_fG_6, ev_fG_7, ev_fG_8, ev_fS_0, ev_fS_1, ev_fS_2, ev_fS_3, ev_fS_4, ev_fS_5, ev_fS_6, ev_fS_7, ev_fS_8, ev_isO_0, ev_isO_1, ev_isO_2, ev_isO_3, ev_isO_4, ev_isO_5, ev_isO_6, ev_isO_7, ev_isO_8, ev_z0, ev_z1, ev_z2, eq_self, ev_ofN, show ¬ (1 : Int32) = 0 from by decide, show ¬ (2 : Int32) = 0 from by decide, show ¬ (2 : Int32) = 1 from by decide, show ¬ (0 : Int32) = 1 from by decide, show ¬ (0 : Int32) = 2 from by decide, show ¬ (1 : Int32) = 2 from by decide, show ¬ (0 : Int32) = -1 from by decide, show (0 : Int32) ≤ 1 from by decide, show (1 : Int32).toNatClampNeg = 1 from rfl, show (0 : Nat) < 2 from by omega, show (1 : Nat) < 2 from by omega, not_true_eq_false, ne_eq, not_false_eq_true, hk]
  refine C_keeps hc hG (fun hb => ?_) (fun j hj e hb => ?_) (fun j a hj e ha e2 => ?_)
  · skip
    have ek : k_keeps G s k = (1, 0, G) := by
      unfold k_keeps
      rw [if_pos hb]
    rw [ek] at c
    simp (disch := omega) only [t_L_keeps_0, t_L_keeps_1, t_L_keeps_2, t_L_keeps_3, t_L_keeps_4, t_L_keeps_7, t_L_keeps_10, t_L_keeps_11, t_L_keeps_14, t_L_keeps_15, t_L_keeps_18, t_L_keeps_23, t_L_keeps_24, t_L_keeps_25, t_L_keeps_26, x_L_keeps_4_1, ↓reduceIte, ev_k_i, ev_k_r, ev_k_l, ev_k_J, ev_k_n, ev_kr_1, ev_kr_0, ev_isK_y, ev_aG_y, ev_aS_y, ev_aN_y, ev_inA_0, ev_isA_0, ev_ft_I, ev_ft_0, ev_ft_1, ev_ft_o, ev_ft_a, ev_nb_0, ev_nb_1, and_true, true_and, if_true, if_false, not_true_eq_false, not_false_eq_true, nI_1, ev_fG_0, ev_fG_1, ev_fG_2, ev_fG_3, ev_fG_4, ev_fG_5, ev_fG_6, ev_fG_7, ev_fG_8, ev_fS_0, ev_fS_1, ev_fS_2, ev_fS_3, ev_fS_4, ev_fS_5, ev_fS_6, ev_fS_7, ev_fS_8, ev_isO_0, ev_isO_1, ev_isO_2, ev_isO_3, ev_isO_4, ev_isO_5, ev_isO_6, ev_isO_7, ev_isO_8, ev_z0, ev_z1, ev_z2, eq_self, ev_ofN, show ¬ (1 : Int32) = 0 from by decide, show ¬ (2 : Int32) = 0 from by decide, show ¬ (2 : Int32) = 1 from by decide, show ¬ (0 : Int32) = 1 from by decide, show ¬ (0 : Int32) = 2 from by decide, show ¬ (1 : Int32) = 2 from by decide, show ¬ (0 : Int32) = -1 from by decide, show (0 : Int32) ≤ 1 from by decide, show (1 : Int32).toNatClampNeg = 1 from rfl, show (0 : Nat) < 2 from by omega, show (1 : Nat) < 2 from by omega, not_true_eq_false, ne_eq, not_false_eq_true, hk]
    exact c _ (n + 1) (q + 6) ⟨hc, fun _ _ _ _ => rfl, ⟨l0, s0, ho, fun _ z => by cases z⟩, fun a ha => hz a (by omega), by omega, by omega, by omega, by omega⟩
  · skip
    subst e
    have ek : k_keeps G (nI (j + 1)) k = (1, 0, G) := by
      unfold k_keeps
      rw [nI_clamp (n := j + 1) (by omega)]
      rw [Nat.add_sub_cancel]
      rw [if_neg (no_sz hj)]
      rw [if_pos hb]
    rw [ek] at c
    simp (disch := omega) only [t_L_keeps_0, t_L_keeps_1, t_L_keeps_2, t_L_keeps_3, t_L_keeps_4, t_L_keeps_7, t_L_keeps_10, t_L_keeps_11, t_L_keeps_14, t_L_keeps_15, t_L_keeps_18, t_L_keeps_23, t_L_keeps_24, t_L_keeps_25, t_L_keeps_26, x_L_keeps_4_1, ↓reduceIte, ev_k_i, ev_k_r, ev_k_l, ev_k_J, ev_k_n, ev_kr_1, ev_kr_0, ev_isK_y, ev_aG_y, ev_aS_y, ev_aN_y, ev_inA_0, ev_isA_0, ev_ft_I, ev_ft_0, ev_ft_1, ev_ft_o, ev_ft_a, ev_nb_0, ev_nb_1, and_true, true_and, if_true, if_false, not_true_eq_false, not_false_eq_true, nI_1, ev_fG_0, ev_fG_1, ev_fG_2, ev_fG_3, ev_fG_4, ev_fG_5, ev_fG_6, ev_fG_7, ev_fG_8, ev_fS_0, ev_fS_1, ev_fS_2, ev_fS_3, ev_fS_4, ev_fS_5, ev_fS_6, ev_fS_7, ev_fS_8, ev_isO_0, ev_isO_1, ev_isO_2, ev_isO_3, ev_isO_4, ev_isO_5, ev_isO_6, ev_isO_7, ev_isO_8, ev_z0, ev_z1, ev_z2, eq_self, ev_ofN, show ¬ (1 : Int32) = 0 from by decide, show ¬ (2 : Int32) = 0 from by decide, show ¬ (2 : Int32) = 1 from by decide, show ¬ (0 : Int32) = 1 from by decide, show ¬ (0 : Int32) = 2 from by decide, show ¬ (1 : Int32) = 2 from by decide, show ¬ (0 : Int32) = -1 from by decide, show (0 : Int32) ≤ 1 from by decide, show (1 : Int32).toNatClampNeg = 1 from rfl, show (0 : Nat) < 2 from by omega, show (1 : Nat) < 2 from by omega, not_true_eq_false, ne_eq, not_false_eq_true, hk]
    exact c _ (n + 1) (q + 6) ⟨hc, fun _ _ _ _ => rfl, ⟨l0, s0, ho, fun _ z => by cases z⟩, fun a ha => hz a (by omega), by omega, by omega, by omega, by omega⟩
  · skip
    subst e
    subst e2
    have ek : k_keeps G (nI (j + 1)) (nI a) = (0, (ev_bb (pf_find (G.2.2.1 j).1 (nI a)).isSome), G) := by
      unfold k_keeps
      rw [nI_clamp (n := j + 1) (by omega)]
      rw [Nat.add_sub_cancel]
      rw [if_neg (no_sz hj)]
      rw [if_neg (no_ix ha (by omega))]
    rw [ek] at c
    have ho1 := ho
    dsimp only at c
    rcases hbb : (pf_find (G.2.2.1 j).1 (nI a)).isSome with _ | _ <;> (
      rw [hbb] at c
      simp (disch := omega) only [t_L_keeps_0, t_L_keeps_1, t_L_keeps_2, t_L_keeps_3, t_L_keeps_4, t_L_keeps_7, t_L_keeps_10, t_L_keeps_11, t_L_keeps_14, t_L_keeps_15, t_L_keeps_18, t_L_keeps_23, t_L_keeps_24, t_L_keeps_25, t_L_keeps_26, x_L_keeps_4_1, ↓reduceIte, ev_k_i, ev_k_r, ev_k_l, ev_k_J, ev_k_n, ev_kr_1, ev_kr_0, ev_isK_y, ev_aG_y, ev_aS_y, ev_aN_y, ev_inA_0, ev_isA_0, ev_ft_I, ev_ft_0, ev_ft_1, ev_ft_o, ev_ft_a, ev_nb_0, ev_nb_1, and_true, true_and, if_true, if_false, not_true_eq_false, not_false_eq_true, nI_1, ev_fG_0, ev_fG_1, ev_fG_2, ev_fG_3, ev_fG_4, ev_fG_5, ev_fG_6, ev_fG_7, ev_fG_8, ev_fS_0, ev_fS_1, ev_fS_2, ev_fS_3, ev_fS_4, ev_fS_5, ev_fS_6, ev_fS_7, ev_fS_8, ev_isO_0, ev_isO_1, ev_isO_2, ev_isO_3, ev_isO_4, ev_isO_5, ev_isO_6, ev_isO_7, ev_isO_8, ev_z0, ev_z1, ev_z2, eq_self, ev_ofN, show ¬ (1 : Int32) = 0 from by decide, show ¬ (2 : Int32) = 0 from by decide, show ¬ (2 : Int32) = 1 from by decide, show ¬ (0 : Int32) = 1 from by decide, show ¬ (0 : Int32) = 2 from by decide, show ¬ (1 : Int32) = 2 from by decide, show ¬ (0 : Int32) = -1 from by decide, show (0 : Int32) ≤ 1 from by decide, show (1 : Int32).toNatClampNeg = 1 from rfl, show (0 : Nat) < 2 from by omega, show (1 : Nat) < 2 from by omega, not_true_eq_false, ne_eq, not_false_eq_true, ev_lku_s, ev_lku_n, ev_up_s, ev_up_n, ho1, ev_bb_t, ev_bb_f, ev_ft_J]
      exact c _ n q ⟨c_cg hc (fun a ha hb => ev_up_n (by omega)), fun a ha hao han => (ev_up_n hao), ⟨_, s0, ev_up_s, fun _ _ => rfl⟩, fun a ha => (ev_up_n (by omega)).trans (hz a ha), by omega, by omega, by omega, by omega⟩)
theorem LW_takenAt (hc : c_all x G H) (hG : okG G) (hxo : x + 57 ≤ o) (hon : o < n) (ho : ∃ l s, H o = some (.inr (11, [.long l, s]))) (hz : ∀ a, n ≤ a → H a = none) {s k : Int32}
    (c : ∀ H1 n1 q1, lw_post true x o H n q (k_takenAt G s k) H1 n1 q1 → P (.inl (some (.int (nI (k_takenAt G s k).1)))) H1 n1 q1) : ev_ok (ev_TT X) 193 0 [.ref x, .int s, .int k, .ref o, ev_J] [] H n q P := by
  have hk := c_all_k (X := X) hc
  obtain ⟨l0, s0, ho⟩ := ho
  simp (disch := omega) only [t_L_takenAt_0, t_L_takenAt_1, t_L_takenAt_2, t_L_takenAt_3, t_L_takenAt_4, t_L_takenAt_7, t_L_takenAt_8, t_L_takenAt_11, t_L_takenAt_16, t_L_takenAt_17, t_L_takenAt_18, t_L_takenAt_19, x_L_takenAt_4_1, ↓reduceIte, ev_k_i, ev_k_r, ev_k_l, ev_k_J, ev_k_n, ev_kr_1, ev_kr_0, ev_isK_y, ev_aG_y, ev_aS_y, ev_aN_y, ev_inA_0, ev_isA_0, ev_ft_I, ev_ft_0, ev_ft_1, ev_ft_o, ev_ft_a, ev_nb_0, ev_nb_1, and_true, true_and, if_true, if_false, not_true_eq_false, not_false_eq_true, nI_1, ev_fG_0, ev_fG_1, ev_fG_2, ev_fG_3, ev_fG_4, ev_fG_5, ev_fG_6, ev_fG_7, ev_fG_8, ev_fS_0, ev_fS_1, ev_fS_2, ev_fS_3, ev_fS_4, ev_fS_5, ev_fS_6, ev_fS_7, ev_fS_8, ev_isO_0, ev_isO_1, ev_isO_2, ev_isO_3, ev_isO_4, ev_isO_5, ev_isO_6, ev_isO_7, ev_isO_8, ev_z0, ev_z1, ev_z2, eq_self, ev_ofN, show ¬ (1 : Int32) = 0 from by decide, show ¬ (2 : Int32) = 0 from by decide, show ¬ (2 : Int32) = 1 from by decide, show ¬ (0 : Int32) = 1 from by decide, show ¬ (0 : Int32) = 2 from by decide, show ¬ (1 : Int32) = 2 from by decide, show ¬ (0 : Int32) = -1 from by decide, show (0 : Int32) ≤ 1 from by decide, show (1 : Int32).toNatClampNeg = 1 from rfl, show (0 : Nat) < 2 from by omega, show (1 : Nat) < 2 from by omega, not_true_eq_false, ne_eq, not_false_eq_true, hk]
  refine C_takenAt hc hG (fun hb => ?_) (fun j hj e hb => ?_) (fun j a hj e ha e2 => ?_)
  · skip
    have ek : k_takenAt G s k = (1, 0, G) := by
      unfold k_takenAt
      rw [if_pos hb]
    rw [ek] at c
    simp (disch := omega) only [t_L_takenAt_0, t_L_takenAt_1, t_L_takenAt_2, t_L_takenAt_3, t_L_takenAt_4, t_L_takenAt_7, t_L_takenAt_8, t_L_takenAt_11, t_L_takenAt_16, t_L_takenAt_17, t_L_takenAt_18, t_L_takenAt_19, x_L_takenAt_4_1, ↓reduceIte, ev_k_i, ev_k_r, ev_k_l, ev_k_J, ev_k_n, ev_kr_1, ev_kr_0, ev_isK_y, ev_aG_y, ev_aS_y, ev_aN_y, ev_inA_0, ev_isA_0, ev_ft_I, ev_ft_0, ev_ft_1, ev_ft_o, ev_ft_a, ev_nb_0, ev_nb_1, and_true, true_and, if_true, if_false, not_true_eq_false, not_false_eq_true, nI_1, ev_fG_0, ev_fG_1, ev_fG_2, ev_fG_3, ev_fG_4, ev_fG_5, ev_fG_6, ev_fG_7, ev_fG_8, ev_fS_0, ev_fS_1, ev_fS_2, ev_fS_3, ev_fS_4, ev_fS_5, ev_fS_6, ev_fS_7, ev_fS_8, ev_isO_0, ev_isO_1, ev_isO_2, ev_isO_3, ev_isO_4, ev_isO_5, ev_isO_6, ev_isO_7, ev_isO_8, ev_z0, ev_z1, ev_z2, eq_self, ev_ofN, show ¬ (1 : Int32) = 0 from by decide, show ¬ (2 : Int32) = 0 from by decide, show ¬ (2 : Int32) = 1 from by decide, show ¬ (0 : Int32) = 1 from by decide, show ¬ (0 : Int32) = 2 from by decide, show ¬ (1 : Int32) = 2 from by decide, show ¬ (0 : Int32) = -1 from by decide, show (0 : Int32) ≤ 1 from by decide, show (1 : Int32).toNatClampNeg = 1 from rfl, show (0 : Nat) < 2 from by omega, show (1 : Nat) < 2 from by omega, not_true_eq_false, ne_eq, not_false_eq_true, hk]
    exact c _ (n + 1) (q + 6) ⟨hc, fun _ _ _ _ => rfl, ⟨l0, s0, ho, fun _ z => by cases z⟩, fun a ha => hz a (by omega), by omega, by omega, by omega, by omega⟩
  · skip
    subst e
    have ek : k_takenAt G (nI (j + 1)) k = (1, 0, G) := by
      unfold k_takenAt
      rw [nI_clamp (n := j + 1) (by omega)]
      rw [Nat.add_sub_cancel]
      rw [if_neg (no_sz hj)]
      rw [if_pos hb]
    rw [ek] at c
    simp (disch := omega) only [t_L_takenAt_0, t_L_takenAt_1, t_L_takenAt_2, t_L_takenAt_3, t_L_takenAt_4, t_L_takenAt_7, t_L_takenAt_8, t_L_takenAt_11, t_L_takenAt_16, t_L_takenAt_17, t_L_takenAt_18, t_L_takenAt_19, x_L_takenAt_4_1, ↓reduceIte, ev_k_i, ev_k_r, ev_k_l, ev_k_J, ev_k_n, ev_kr_1, ev_kr_0, ev_isK_y, ev_aG_y, ev_aS_y, ev_aN_y, ev_inA_0, ev_isA_0, ev_ft_I, ev_ft_0, ev_ft_1, ev_ft_o, ev_ft_a, ev_nb_0, ev_nb_1, and_true, true_and, if_true, if_false, not_true_eq_false, not_false_eq_true, nI_1, ev_fG_0, ev_fG_1, ev_fG_2, ev_fG_3, ev_fG_4, ev_fG_5, ev_fG_6, ev_fG_7, ev_fG_8, ev_fS_0, ev_fS_1, ev_fS_2, ev_fS_3, ev_fS_4, ev_fS_5, ev_fS_6, ev_fS_7, ev_fS_8, ev_isO_0, ev_isO_1, ev_isO_2, ev_isO_3, ev_isO_4, ev_isO_5, ev_isO_6, ev_isO_7, ev_isO_8, ev_z0, ev_z1, ev_z2, eq_self, ev_ofN, show ¬ (1 : Int32) = 0 from by decide, show ¬ (2 : Int32) = 0 from by decide, show ¬ (2 : Int32) = 1 from by decide, show ¬ (0 : Int32) = 1 from by decide, show ¬ (0 : Int32) = 2 from by decide, show ¬ (1 : Int32) = 2 from by decide, show ¬ (0 : Int32) = -1 from by decide, show (0 : Int32) ≤ 1 from by decide, show (1 : Int32).toNatClampNeg = 1 from rfl, show (0 : Nat) < 2 from by omega, show (1 : Nat) < 2 from by omega, not_true_eq_false, ne_eq, not_false_eq_true, hk]
    exact c _ (n + 1) (q + 6) ⟨hc, fun _ _ _ _ => rfl, ⟨l0, s0, ho, fun _ z => by cases z⟩, fun a ha => hz a (by omega), by omega, by omega, by omega, by omega⟩
  · skip
    subst e
    subst e2
    have ek : k_takenAt G (nI (j + 1)) (nI a) = (0, (pr_told (G.2.2.1 j).1 (pf_place (G.2.2.1 j).1 (nI a)) 1), G) := by
      unfold k_takenAt
      rw [nI_clamp (n := j + 1) (by omega)]
      rw [Nat.add_sub_cancel]
      rw [if_neg (no_sz hj)]
      rw [if_neg (no_ix ha (by omega))]
    rw [ek] at c
    have ho1 := ho
    simp (disch := omega) only [t_L_takenAt_0, t_L_takenAt_1, t_L_takenAt_2, t_L_takenAt_3, t_L_takenAt_4, t_L_takenAt_7, t_L_takenAt_8, t_L_takenAt_11, t_L_takenAt_16, t_L_takenAt_17, t_L_takenAt_18, t_L_takenAt_19, x_L_takenAt_4_1, ↓reduceIte, ev_k_i, ev_k_r, ev_k_l, ev_k_J, ev_k_n, ev_kr_1, ev_kr_0, ev_isK_y, ev_aG_y, ev_aS_y, ev_aN_y, ev_inA_0, ev_isA_0, ev_ft_I, ev_ft_0, ev_ft_1, ev_ft_o, ev_ft_a, ev_nb_0, ev_nb_1, and_true, true_and, if_true, if_false, not_true_eq_false, not_false_eq_true, nI_1, ev_fG_0, ev_fG_1, ev_fG_2, ev_fG_3, ev_fG_4, ev_fG_5, ev_fG_6, ev_fG_7, ev_fG_8, ev_fS_0, ev_fS_1, ev_fS_2, ev_fS_3, ev_fS_4, ev_fS_5, ev_fS_6, ev_fS_7, ev_fS_8, ev_isO_0, ev_isO_1, ev_isO_2, ev_isO_3, ev_isO_4, ev_isO_5, ev_isO_6, ev_isO_7, ev_isO_8, ev_z0, ev_z1, ev_z2, eq_self, ev_ofN, show ¬ (1 : Int32) = 0 from by decide, show ¬ (2 : Int32) = 0 from by decide, show ¬ (2 : Int32) = 1 from by decide, show ¬ (0 : Int32) = 1 from by decide, show ¬ (0 : Int32) = 2 from by decide, show ¬ (1 : Int32) = 2 from by decide, show ¬ (0 : Int32) = -1 from by decide, show (0 : Int32) ≤ 1 from by decide, show (1 : Int32).toNatClampNeg = 1 from rfl, show (0 : Nat) < 2 from by omega, show (1 : Nat) < 2 from by omega, not_true_eq_false, ne_eq, not_false_eq_true, ev_lku_s, ev_lku_n, ev_up_s, ev_up_n, ho1, ev_ft_J]
    exact c _ n q ⟨c_cg hc (fun a ha hb => ev_up_n (by omega)), fun a ha hao han => (ev_up_n hao), ⟨_, s0, ev_up_s, fun _ _ => rfl⟩, fun a ha => (ev_up_n (by omega)).trans (hz a ha), by omega, by omega, by omega, by omega⟩
theorem LW_misses (hc : c_all x G H) (hG : okG G) (hxo : x + 57 ≤ o) (hon : o < n) (ho : ∃ l s, H o = some (.inr (11, [.long l, s]))) (hz : ∀ a, n ≤ a → H a = none) {s : Int32}
    (c : ∀ H1 n1 q1, lw_post true x o H n q (k_misses G s) H1 n1 q1 → P (.inl (some (.int (nI (k_misses G s).1)))) H1 n1 q1) : ev_ok (ev_TT X) 190 0 [.ref x, .int s, .ref o, ev_J] [] H n q P := by
  have hk := c_all_k (X := X) hc
  obtain ⟨l0, s0, ho⟩ := ho
  simp (disch := omega) only [t_L_misses_0, t_L_misses_1, t_L_misses_2, t_L_misses_3, t_L_misses_6, t_L_misses_7, t_L_misses_10, t_L_misses_14, t_L_misses_15, t_L_misses_16, t_L_misses_17, x_L_misses_3_1, ↓reduceIte, ev_k_i, ev_k_r, ev_k_l, ev_k_J, ev_k_n, ev_kr_1, ev_kr_0, ev_isK_y, ev_aG_y, ev_aS_y, ev_aN_y, ev_inA_0, ev_isA_0, ev_ft_I, ev_ft_0, ev_ft_1, ev_ft_o, ev_ft_a, ev_nb_0, ev_nb_1, and_true, true_and, if_true, if_false, not_true_eq_false, not_false_eq_true, nI_1, ev_fG_0, ev_fG_1, ev_fG_2, ev_fG_3, ev_fG_4, ev_fG_5, ev_fG_6, ev_fG_7, ev_fG_8, ev_fS_0, ev_fS_1, ev_fS_2, ev_fS_3, ev_fS_4, ev_fS_5, ev_fS_6, ev_fS_7, ev_fS_8, ev_isO_0, ev_isO_1, ev_isO_2, ev_isO_3, ev_isO_4, ev_isO_5, ev_isO_6, ev_isO_7, ev_isO_8, ev_z0, ev_z1, ev_z2, eq_self, ev_ofN, show ¬ (1 : Int32) = 0 from by decide, show ¬ (2 : Int32) = 0 from by decide, show ¬ (2 : Int32) = 1 from by decide, show ¬ (0 : Int32) = 1 from by decide, show ¬ (0 : Int32) = 2 from by decide, show ¬ (1 : Int32) = 2 from by decide, show ¬ (0 : Int32) = -1 from by decide, show (0 : Int32) ≤ 1 from by decide, show (1 : Int32).toNatClampNeg = 1 from rfl, show (0 : Nat) < 2 from by omega, show (1 : Nat) < 2 from by omega, not_true_eq_false, ne_eq, not_false_eq_true, hk]
  refine C_misses hc hG (fun hb => ?_) (fun j hj e => ?_)
  · skip
    have ek : k_misses G s = (1, 0, G) := by
      unfold k_misses
      rw [if_pos hb]
    rw [ek] at c
    simp (disch := omega) only [t_L_misses_0, t_L_misses_1, t_L_misses_2, t_L_misses_3, t_L_misses_6, t_L_misses_7, t_L_misses_10, t_L_misses_14, t_L_misses_15, t_L_misses_16, t_L_misses_17, x_L_misses_3_1, ↓reduceIte, ev_k_i, ev_k_r, ev_k_l, ev_k_J, ev_k_n, ev_kr_1, ev_kr_0, ev_isK_y, ev_aG_y, ev_aS_y, ev_aN_y, ev_inA_0, ev_isA_0, ev_ft_I, ev_ft_0, ev_ft_1, ev_ft_o, ev_ft_a, ev_nb_0, ev_nb_1, and_true, true_and, if_true, if_false, not_true_eq_false, not_false_eq_true, nI_1, ev_fG_0, ev_fG_1, ev_fG_2, ev_fG_3, ev_fG_4, ev_fG_5, ev_fG_6, ev_fG_7, ev_fG_8, ev_fS_0, ev_fS_1, ev_fS_2, ev_fS_3, ev_fS_4, ev_fS_5, ev_fS_6, ev_fS_7, ev_fS_8, ev_isO_0, ev_isO_1, ev_isO_2, ev_isO_3, ev_isO_4, ev_isO_5, ev_isO_6, ev_isO_7, ev_isO_8, ev_z0, ev_z1, ev_z2, eq_self, ev_ofN, show ¬ (1 : Int32) = 0 from by decide, show ¬ (2 : Int32) = 0 from by decide, show ¬ (2 : Int32) = 1 from by decide, show ¬ (0 : Int32) = 1 from by decide, show ¬ (0 : Int32) = 2 from by decide, show ¬ (1 : Int32) = 2 from by decide, show ¬ (0 : Int32) = -1 from by decide, show (0 : Int32) ≤ 1 from by decide, show (1 : Int32).toNatClampNeg = 1 from rfl, show (0 : Nat) < 2 from by omega, show (1 : Nat) < 2 from by omega, not_true_eq_false, ne_eq, not_false_eq_true, hk]
    exact c _ (n + 1) (q + 6) ⟨hc, fun _ _ _ _ => rfl, ⟨l0, s0, ho, fun _ z => by cases z⟩, fun a ha => hz a (by omega), by omega, by omega, by omega, by omega⟩
  · skip
    subst e
    have ek : k_misses G (nI (j + 1)) = (0, (G.2.2.1 j).2.2.2.2.1, G) := by
      unfold k_misses
      rw [nI_clamp (n := j + 1) (by omega)]
      rw [Nat.add_sub_cancel]
      rw [if_neg (no_sz hj)]
    rw [ek] at c
    have ho1 := ho
    simp (disch := omega) only [t_L_misses_0, t_L_misses_1, t_L_misses_2, t_L_misses_3, t_L_misses_6, t_L_misses_7, t_L_misses_10, t_L_misses_14, t_L_misses_15, t_L_misses_16, t_L_misses_17, x_L_misses_3_1, ↓reduceIte, ev_k_i, ev_k_r, ev_k_l, ev_k_J, ev_k_n, ev_kr_1, ev_kr_0, ev_isK_y, ev_aG_y, ev_aS_y, ev_aN_y, ev_inA_0, ev_isA_0, ev_ft_I, ev_ft_0, ev_ft_1, ev_ft_o, ev_ft_a, ev_nb_0, ev_nb_1, and_true, true_and, if_true, if_false, not_true_eq_false, not_false_eq_true, nI_1, ev_fG_0, ev_fG_1, ev_fG_2, ev_fG_3, ev_fG_4, ev_fG_5, ev_fG_6, ev_fG_7, ev_fG_8, ev_fS_0, ev_fS_1, ev_fS_2, ev_fS_3, ev_fS_4, ev_fS_5, ev_fS_6, ev_fS_7, ev_fS_8, ev_isO_0, ev_isO_1, ev_isO_2, ev_isO_3, ev_isO_4, ev_isO_5, ev_isO_6, ev_isO_7, ev_isO_8, ev_z0, ev_z1, ev_z2, eq_self, ev_ofN, show ¬ (1 : Int32) = 0 from by decide, show ¬ (2 : Int32) = 0 from by decide, show ¬ (2 : Int32) = 1 from by decide, show ¬ (0 : Int32) = 1 from by decide, show ¬ (0 : Int32) = 2 from by decide, show ¬ (1 : Int32) = 2 from by decide, show ¬ (0 : Int32) = -1 from by decide, show (0 : Int32) ≤ 1 from by decide, show (1 : Int32).toNatClampNeg = 1 from rfl, show (0 : Nat) < 2 from by omega, show (1 : Nat) < 2 from by omega, not_true_eq_false, ne_eq, not_false_eq_true, ev_lku_s, ev_lku_n, ev_up_s, ev_up_n, ho1, ev_ft_J]
    exact c _ n q ⟨c_cg hc (fun a ha hb => ev_up_n (by omega)), fun a ha hao han => (ev_up_n hao), ⟨_, s0, ev_up_s, fun _ _ => rfl⟩, fun a ha => (ev_up_n (by omega)).trans (hz a ha), by omega, by omega, by omega, by omega⟩
theorem LW_hits (hc : c_all x G H) (hG : okG G) (hxo : x + 57 ≤ o) (hon : o < n) (ho : ∃ l s, H o = some (.inr (11, [.long l, s]))) (hz : ∀ a, n ≤ a → H a = none) {s : Int32}
    (c : ∀ H1 n1 q1, lw_post true x o H n q (k_hits G s) H1 n1 q1 → P (.inl (some (.int (nI (k_hits G s).1)))) H1 n1 q1) : ev_ok (ev_TT X) 184 0 [.ref x, .int s, .ref o, ev_J] [] H n q P := by
  have hk := c_all_k (X := X) hc
  obtain ⟨l0, s0, ho⟩ := ho
  simp (disch := omega) only [t_L_hits_0, t_L_hits_1, t_L_hits_2, t_L_hits_3, t_L_hits_6, t_L_hits_7, t_L_hits_10, t_L_hits_14, t_L_hits_15, t_L_hits_16, t_L_hits_17, x_L_hits_3_1, ↓reduceIte, ev_k_i, ev_k_r, ev_k_l, ev_k_J, ev_k_n, ev_kr_1, ev_kr_0, ev_isK_y, ev_aG_y, ev_aS_y, ev_aN_y, ev_inA_0, ev_isA_0, ev_ft_I, ev_ft_0, ev_ft_1, ev_ft_o, ev_ft_a, ev_nb_0, ev_nb_1, and_true, true_and, if_true, if_false, not_true_eq_false, not_false_eq_true, nI_1, ev_fG_0, ev_fG_1, ev_fG_2, ev_fG_3, ev_fG_4, ev_fG_5, ev_fG_6, ev_fG_7, ev_fG_8, ev_fS_0, ev_fS_1, ev_fS_2, ev_fS_3, ev_fS_4, ev_fS_5, ev_fS_6, ev_fS_7, ev_fS_8, ev_isO_0, ev_isO_1, ev_isO_2, ev_isO_3, ev_isO_4, ev_isO_5, ev_isO_6, ev_isO_7, ev_isO_8, ev_z0, ev_z1, ev_z2, eq_self, ev_ofN, show ¬ (1 : Int32) = 0 from by decide, show ¬ (2 : Int32) = 0 from by decide, show ¬ (2 : Int32) = 1 from by decide, show ¬ (0 : Int32) = 1 from by decide, show ¬ (0 : Int32) = 2 from by decide, show ¬ (1 : Int32) = 2 from by decide, show ¬ (0 : Int32) = -1 from by decide, show (0 : Int32) ≤ 1 from by decide, show (1 : Int32).toNatClampNeg = 1 from rfl, show (0 : Nat) < 2 from by omega, show (1 : Nat) < 2 from by omega, not_true_eq_false, ne_eq, not_false_eq_true, hk]
  refine C_hits hc hG (fun hb => ?_) (fun j hj e => ?_)
  · skip
    have ek : k_hits G s = (1, 0, G) := by
      unfold k_hits
      rw [if_pos hb]
    rw [ek] at c
    simp (disch := omega) only [t_L_hits_0, t_L_hits_1, t_L_hits_2, t_L_hits_3, t_L_hits_6, t_L_hits_7, t_L_hits_10, t_L_hits_14, t_L_hits_15, t_L_hits_16, t_L_hits_17, x_L_hits_3_1, ↓reduceIte, ev_k_i, ev_k_r, ev_k_l, ev_k_J, ev_k_n, ev_kr_1, ev_kr_0, ev_isK_y, ev_aG_y, ev_aS_y, ev_aN_y, ev_inA_0, ev_isA_0, ev_ft_I, ev_ft_0, ev_ft_1, ev_ft_o, ev_ft_a, ev_nb_0, ev_nb_1, and_true, true_and, if_true, if_false, not_true_eq_false, not_false_eq_true, nI_1, ev_fG_0, ev_fG_1, ev_fG_2, ev_fG_3, ev_fG_4, ev_fG_5, ev_fG_6, ev_fG_7, ev_fG_8, ev_fS_0, ev_fS_1, ev_fS_2, ev_fS_3, ev_fS_4, ev_fS_5, ev_fS_6, ev_fS_7, ev_fS_8, ev_isO_0, ev_isO_1, ev_isO_2, ev_isO_3, ev_isO_4, ev_isO_5, ev_isO_6, ev_isO_7, ev_isO_8, ev_z0, ev_z1, ev_z2, eq_self, ev_ofN, show ¬ (1 : Int32) = 0 from by decide, show ¬ (2 : Int32) = 0 from by decide, show ¬ (2 : Int32) = 1 from by decide, show ¬ (0 : Int32) = 1 from by decide, show ¬ (0 : Int32) = 2 from by decide, show ¬ (1 : Int32) = 2 from by decide, show ¬ (0 : Int32) = -1 from by decide, show (0 : Int32) ≤ 1 from by decide, show (1 : Int32).toNatClampNeg = 1 from rfl, show (0 : Nat) < 2 from by omega, show (1 : Nat) < 2 from by omega, not_true_eq_false, ne_eq, not_false_eq_true, hk]
    exact c _ (n + 1) (q + 6) ⟨hc, fun _ _ _ _ => rfl, ⟨l0, s0, ho, fun _ z => by cases z⟩, fun a ha => hz a (by omega), by omega, by omega, by omega, by omega⟩
  · skip
    subst e
    have ek : k_hits G (nI (j + 1)) = (0, (G.2.2.1 j).2.2.2.2.2, G) := by
      unfold k_hits
      rw [nI_clamp (n := j + 1) (by omega)]
      rw [Nat.add_sub_cancel]
      rw [if_neg (no_sz hj)]
    rw [ek] at c
    have ho1 := ho
    simp (disch := omega) only [t_L_hits_0, t_L_hits_1, t_L_hits_2, t_L_hits_3, t_L_hits_6, t_L_hits_7, t_L_hits_10, t_L_hits_14, t_L_hits_15, t_L_hits_16, t_L_hits_17, x_L_hits_3_1, ↓reduceIte, ev_k_i, ev_k_r, ev_k_l, ev_k_J, ev_k_n, ev_kr_1, ev_kr_0, ev_isK_y, ev_aG_y, ev_aS_y, ev_aN_y, ev_inA_0, ev_isA_0, ev_ft_I, ev_ft_0, ev_ft_1, ev_ft_o, ev_ft_a, ev_nb_0, ev_nb_1, and_true, true_and, if_true, if_false, not_true_eq_false, not_false_eq_true, nI_1, ev_fG_0, ev_fG_1, ev_fG_2, ev_fG_3, ev_fG_4, ev_fG_5, ev_fG_6, ev_fG_7, ev_fG_8, ev_fS_0, ev_fS_1, ev_fS_2, ev_fS_3, ev_fS_4, ev_fS_5, ev_fS_6, ev_fS_7, ev_fS_8, ev_isO_0, ev_isO_1, ev_isO_2, ev_isO_3, ev_isO_4, ev_isO_5, ev_isO_6, ev_isO_7, ev_isO_8, ev_z0, ev_z1, ev_z2, eq_self, ev_ofN, show ¬ (1 : Int32) = 0 from by decide, show ¬ (2 : Int32) = 0 from by decide, show ¬ (2 : Int32) = 1 from by decide, show ¬ (0 : Int32) = 1 from by decide, show ¬ (0 : Int32) = 2 from by decide, show ¬ (1 : Int32) = 2 from by decide, show ¬ (0 : Int32) = -1 from by decide, show (0 : Int32) ≤ 1 from by decide, show (1 : Int32).toNatClampNeg = 1 from rfl, show (0 : Nat) < 2 from by omega, show (1 : Nat) < 2 from by omega, not_true_eq_false, ne_eq, not_false_eq_true, ev_lku_s, ev_lku_n, ev_up_s, ev_up_n, ho1, ev_ft_J]
    exact c _ n q ⟨c_cg hc (fun a ha hb => ev_up_n (by omega)), fun a ha hao han => (ev_up_n hao), ⟨_, s0, ev_up_s, fun _ _ => rfl⟩, fun a ha => (ev_up_n (by omega)).trans (hz a ha), by omega, by omega, by omega, by omega⟩
theorem LW_lost (hc : c_all x G H) (hG : okG G) (hxo : x + 57 ≤ o) (hon : o < n) (ho : ∃ l s, H o = some (.inr (11, [.long l, s]))) (hz : ∀ a, n ≤ a → H a = none) {s : Int32}
    (c : ∀ H1 n1 q1, lw_post true x o H n q (k_lost G s) H1 n1 q1 → P (.inl (some (.int (nI (k_lost G s).1)))) H1 n1 q1) : ev_ok (ev_TT X) 188 0 [.ref x, .int s, .ref o, ev_J] [] H n q P := by
  have hk := c_all_k (X := X) hc
  obtain ⟨l0, s0, ho⟩ := ho
  simp (disch := omega) only [t_L_lost_0, t_L_lost_1, t_L_lost_2, t_L_lost_3, t_L_lost_6, t_L_lost_7, t_L_lost_10, t_L_lost_14, t_L_lost_15, t_L_lost_16, t_L_lost_17, x_L_lost_3_1, ↓reduceIte, ev_k_i, ev_k_r, ev_k_l, ev_k_J, ev_k_n, ev_kr_1, ev_kr_0, ev_isK_y, ev_aG_y, ev_aS_y, ev_aN_y, ev_inA_0, ev_isA_0, ev_ft_I, ev_ft_0, ev_ft_1, ev_ft_o, ev_ft_a, ev_nb_0, ev_nb_1, and_true, true_and, if_true, if_false, not_true_eq_false, not_false_eq_true, nI_1, ev_fG_0, ev_fG_1, ev_fG_2, ev_fG_3, ev_fG_4, ev_fG_5, ev_fG_6, ev_fG_7, ev_fG_8, ev_fS_0, ev_fS_1, ev_fS_2, ev_fS_3, ev_fS_4, ev_fS_5, ev_fS_6, ev_fS_7, ev_fS_8, ev_isO_0, ev_isO_1, ev_isO_2, ev_isO_3, ev_isO_4, ev_isO_5, ev_isO_6, ev_isO_7, ev_isO_8, ev_z0, ev_z1, ev_z2, eq_self, ev_ofN, show ¬ (1 : Int32) = 0 from by decide, show ¬ (2 : Int32) = 0 from by decide, show ¬ (2 : Int32) = 1 from by decide, show ¬ (0 : Int32) = 1 from by decide, show ¬ (0 : Int32) = 2 from by decide, show ¬ (1 : Int32) = 2 from by decide, show ¬ (0 : Int32) = -1 from by decide, show (0 : Int32) ≤ 1 from by decide, show (1 : Int32).toNatClampNeg = 1 from rfl, show (0 : Nat) < 2 from by omega, show (1 : Nat) < 2 from by omega, not_true_eq_false, ne_eq, not_false_eq_true, hk]
  refine C_lost hc hG (fun hb => ?_) (fun j hj e => ?_)
  · skip
    have ek : k_lost G s = (1, 0, G) := by
      unfold k_lost
      rw [if_pos hb]
    rw [ek] at c
    simp (disch := omega) only [t_L_lost_0, t_L_lost_1, t_L_lost_2, t_L_lost_3, t_L_lost_6, t_L_lost_7, t_L_lost_10, t_L_lost_14, t_L_lost_15, t_L_lost_16, t_L_lost_17, x_L_lost_3_1, ↓reduceIte, ev_k_i, ev_k_r, ev_k_l, ev_k_J, ev_k_n, ev_kr_1, ev_kr_0, ev_isK_y, ev_aG_y, ev_aS_y, ev_aN_y, ev_inA_0, ev_isA_0, ev_ft_I, ev_ft_0, ev_ft_1, ev_ft_o, ev_ft_a, ev_nb_0, ev_nb_1, and_true, true_and, if_true, if_false, not_true_eq_false, not_false_eq_true, nI_1, ev_fG_0, ev_fG_1, ev_fG_2, ev_fG_3, ev_fG_4, ev_fG_5, ev_fG_6, ev_fG_7, ev_fG_8, ev_fS_0, ev_fS_1, ev_fS_2, ev_fS_3, ev_fS_4, ev_fS_5, ev_fS_6, ev_fS_7, ev_fS_8, ev_isO_0, ev_isO_1, ev_isO_2, ev_isO_3, ev_isO_4, ev_isO_5, ev_isO_6, ev_isO_7, ev_isO_8, ev_z0, ev_z1, ev_z2, eq_self, ev_ofN, show ¬ (1 : Int32) = 0 from by decide, show ¬ (2 : Int32) = 0 from by decide, show ¬ (2 : Int32) = 1 from by decide, show ¬ (0 : Int32) = 1 from by decide, show ¬ (0 : Int32) = 2 from by decide, show ¬ (1 : Int32) = 2 from by decide, show ¬ (0 : Int32) = -1 from by decide, show (0 : Int32) ≤ 1 from by decide, show (1 : Int32).toNatClampNeg = 1 from rfl, show (0 : Nat) < 2 from by omega, show (1 : Nat) < 2 from by omega, not_true_eq_false, ne_eq, not_false_eq_true, hk]
    exact c _ (n + 1) (q + 6) ⟨hc, fun _ _ _ _ => rfl, ⟨l0, s0, ho, fun _ z => by cases z⟩, fun a ha => hz a (by omega), by omega, by omega, by omega, by omega⟩
  · skip
    subst e
    have ek : k_lost G (nI (j + 1)) = (0, (G.2.2.1 j).2.2.2.1, G) := by
      unfold k_lost
      rw [nI_clamp (n := j + 1) (by omega)]
      rw [Nat.add_sub_cancel]
      rw [if_neg (no_sz hj)]
    rw [ek] at c
    have ho1 := ho
    simp (disch := omega) only [t_L_lost_0, t_L_lost_1, t_L_lost_2, t_L_lost_3, t_L_lost_6, t_L_lost_7, t_L_lost_10, t_L_lost_14, t_L_lost_15, t_L_lost_16, t_L_lost_17, x_L_lost_3_1, ↓reduceIte, ev_k_i, ev_k_r, ev_k_l, ev_k_J, ev_k_n, ev_kr_1, ev_kr_0, ev_isK_y, ev_aG_y, ev_aS_y, ev_aN_y, ev_inA_0, ev_isA_0, ev_ft_I, ev_ft_0, ev_ft_1, ev_ft_o, ev_ft_a, ev_nb_0, ev_nb_1, and_true, true_and, if_true, if_false, not_true_eq_false, not_false_eq_true, nI_1, ev_fG_0, ev_fG_1, ev_fG_2, ev_fG_3, ev_fG_4, ev_fG_5, ev_fG_6, ev_fG_7, ev_fG_8, ev_fS_0, ev_fS_1, ev_fS_2, ev_fS_3, ev_fS_4, ev_fS_5, ev_fS_6, ev_fS_7, ev_fS_8, ev_isO_0, ev_isO_1, ev_isO_2, ev_isO_3, ev_isO_4, ev_isO_5, ev_isO_6, ev_isO_7, ev_isO_8, ev_z0, ev_z1, ev_z2, eq_self, ev_ofN, show ¬ (1 : Int32) = 0 from by decide, show ¬ (2 : Int32) = 0 from by decide, show ¬ (2 : Int32) = 1 from by decide, show ¬ (0 : Int32) = 1 from by decide, show ¬ (0 : Int32) = 2 from by decide, show ¬ (1 : Int32) = 2 from by decide, show ¬ (0 : Int32) = -1 from by decide, show (0 : Int32) ≤ 1 from by decide, show (1 : Int32).toNatClampNeg = 1 from rfl, show (0 : Nat) < 2 from by omega, show (1 : Nat) < 2 from by omega, not_true_eq_false, ne_eq, not_false_eq_true, ev_lku_s, ev_lku_n, ev_up_s, ev_up_n, ho1, ev_ft_J]
    exact c _ n q ⟨c_cg hc (fun a ha hb => ev_up_n (by omega)), fun a ha hao han => (ev_up_n hao), ⟨_, s0, ev_up_s, fun _ _ => rfl⟩, fun a ha => (ev_up_n (by omega)).trans (hz a ha), by omega, by omega, by omega, by omega⟩
theorem LW_best (hc : c_all x G H) (hG : okG G) (hAK : aR G (pA G)) (hxo : x + 57 ≤ o) (hon : o < n) (ho : ∃ l s, H o = some (.inr (11, [.long l, s]))) (hz : ∀ a, n ≤ a → H a = none) {s : Int32}
    (c : ∀ H1 n1 q1, lw_post true x o H n q (k_best G s) H1 n1 q1 → P (.inl (some (.int (nI (k_best G s).1)))) H1 n1 q1) : ev_ok (ev_TT X) 180 0 [.ref x, .int s, .ref o, ev_J] [] H n q P := by
  have hk := c_all_k (X := X) hc
  obtain ⟨l0, s0, ho⟩ := ho
  simp (disch := omega) only [t_L_best_0, t_L_best_1, t_L_best_2, t_L_best_3, t_L_best_6, t_L_best_7, t_L_best_10, t_L_best_14, t_L_best_15, t_L_best_16, t_L_best_17, x_L_best_3_1, ↓reduceIte, ev_k_i, ev_k_r, ev_k_l, ev_k_J, ev_k_n, ev_kr_1, ev_kr_0, ev_isK_y, ev_aG_y, ev_aS_y, ev_aN_y, ev_inA_0, ev_isA_0, ev_ft_I, ev_ft_0, ev_ft_1, ev_ft_o, ev_ft_a, ev_nb_0, ev_nb_1, and_true, true_and, if_true, if_false, not_true_eq_false, not_false_eq_true, nI_1, ev_fG_0, ev_fG_1, ev_fG_2, ev_fG_3, ev_fG_4, ev_fG_5, ev_fG_6, ev_fG_7, ev_fG_8, ev_fS_0, ev_fS_1, ev_fS_2, ev_fS_3, ev_fS_4, ev_fS_5, ev_fS_6, ev_fS_7, ev_fS_8, ev_isO_0, ev_isO_1, ev_isO_2, ev_isO_3, ev_isO_4, ev_isO_5, ev_isO_6, ev_isO_7, ev_isO_8, ev_z0, ev_z1, ev_z2, eq_self, ev_ofN, show ¬ (1 : Int32) = 0 from by decide, show ¬ (2 : Int32) = 0 from by decide, show ¬ (2 : Int32) = 1 from by decide, show ¬ (0 : Int32) = 1 from by decide, show ¬ (0 : Int32) = 2 from by decide, show ¬ (1 : Int32) = 2 from by decide, show ¬ (0 : Int32) = -1 from by decide, show (0 : Int32) ≤ 1 from by decide, show (1 : Int32).toNatClampNeg = 1 from rfl, show (0 : Nat) < 2 from by omega, show (1 : Nat) < 2 from by omega, not_true_eq_false, ne_eq, not_false_eq_true, hk]
  refine C_best hAK hc hG (fun hb => ?_) (fun j hj e H1 hc1 hf1 => ?_)
  · skip
    have ek : k_best G s = (1, 0, G) := by
      unfold k_best
      rw [if_pos hb]
    rw [ek] at c
    simp (disch := omega) only [t_L_best_0, t_L_best_1, t_L_best_2, t_L_best_3, t_L_best_6, t_L_best_7, t_L_best_10, t_L_best_14, t_L_best_15, t_L_best_16, t_L_best_17, x_L_best_3_1, ↓reduceIte, ev_k_i, ev_k_r, ev_k_l, ev_k_J, ev_k_n, ev_kr_1, ev_kr_0, ev_isK_y, ev_aG_y, ev_aS_y, ev_aN_y, ev_inA_0, ev_isA_0, ev_ft_I, ev_ft_0, ev_ft_1, ev_ft_o, ev_ft_a, ev_nb_0, ev_nb_1, and_true, true_and, if_true, if_false, not_true_eq_false, not_false_eq_true, nI_1, ev_fG_0, ev_fG_1, ev_fG_2, ev_fG_3, ev_fG_4, ev_fG_5, ev_fG_6, ev_fG_7, ev_fG_8, ev_fS_0, ev_fS_1, ev_fS_2, ev_fS_3, ev_fS_4, ev_fS_5, ev_fS_6, ev_fS_7, ev_fS_8, ev_isO_0, ev_isO_1, ev_isO_2, ev_isO_3, ev_isO_4, ev_isO_5, ev_isO_6, ev_isO_7, ev_isO_8, ev_z0, ev_z1, ev_z2, eq_self, ev_ofN, show ¬ (1 : Int32) = 0 from by decide, show ¬ (2 : Int32) = 0 from by decide, show ¬ (2 : Int32) = 1 from by decide, show ¬ (0 : Int32) = 1 from by decide, show ¬ (0 : Int32) = 2 from by decide, show ¬ (1 : Int32) = 2 from by decide, show ¬ (0 : Int32) = -1 from by decide, show (0 : Int32) ≤ 1 from by decide, show (1 : Int32).toNatClampNeg = 1 from rfl, show (0 : Nat) < 2 from by omega, show (1 : Nat) < 2 from by omega, not_true_eq_false, ne_eq, not_false_eq_true, hk]
    exact c _ (n + 1) (q + 6) ⟨hc, fun _ _ _ _ => rfl, ⟨l0, s0, ho, fun _ z => by cases z⟩, fun a ha => hz a (by omega), by omega, by omega, by omega, by omega⟩
  · skip
    subst e
    have ek : k_best G (nI (j + 1)) = (0, (nI (G.2.2.2.1.2.2 - (gs (pA G) (j + 1) G.2.2.2.1.2.2).2)), G) := by
      unfold k_best
      rw [nI_clamp (n := j + 1) (by omega)]
      rw [if_neg (no_sz hj)]
    rw [ek] at c
    have ho1 : H1 o = some (.inr (11, [.long l0, s0])) := (hf1 o (by omega)).trans ho
    simp (disch := omega) only [t_L_best_0, t_L_best_1, t_L_best_2, t_L_best_3, t_L_best_6, t_L_best_7, t_L_best_10, t_L_best_14, t_L_best_15, t_L_best_16, t_L_best_17, x_L_best_3_1, ↓reduceIte, ev_k_i, ev_k_r, ev_k_l, ev_k_J, ev_k_n, ev_kr_1, ev_kr_0, ev_isK_y, ev_aG_y, ev_aS_y, ev_aN_y, ev_inA_0, ev_isA_0, ev_ft_I, ev_ft_0, ev_ft_1, ev_ft_o, ev_ft_a, ev_nb_0, ev_nb_1, and_true, true_and, if_true, if_false, not_true_eq_false, not_false_eq_true, nI_1, ev_fG_0, ev_fG_1, ev_fG_2, ev_fG_3, ev_fG_4, ev_fG_5, ev_fG_6, ev_fG_7, ev_fG_8, ev_fS_0, ev_fS_1, ev_fS_2, ev_fS_3, ev_fS_4, ev_fS_5, ev_fS_6, ev_fS_7, ev_fS_8, ev_isO_0, ev_isO_1, ev_isO_2, ev_isO_3, ev_isO_4, ev_isO_5, ev_isO_6, ev_isO_7, ev_isO_8, ev_z0, ev_z1, ev_z2, eq_self, ev_ofN, show ¬ (1 : Int32) = 0 from by decide, show ¬ (2 : Int32) = 0 from by decide, show ¬ (2 : Int32) = 1 from by decide, show ¬ (0 : Int32) = 1 from by decide, show ¬ (0 : Int32) = 2 from by decide, show ¬ (1 : Int32) = 2 from by decide, show ¬ (0 : Int32) = -1 from by decide, show (0 : Int32) ≤ 1 from by decide, show (1 : Int32).toNatClampNeg = 1 from rfl, show (0 : Nat) < 2 from by omega, show (1 : Nat) < 2 from by omega, not_true_eq_false, ne_eq, not_false_eq_true, ev_lku_s, ev_lku_n, ev_up_s, ev_up_n, ho1, ev_ft_J]
    exact c _ n q ⟨c_cg hc1 (fun a ha hb => ev_up_n (by omega)), fun a ha hao han => (ev_up_n hao).trans (hf1 a ha), ⟨_, s0, ev_up_s, fun _ _ => rfl⟩, fun a ha => (ev_up_n (by omega)).trans ((hf1 a (by omega)).trans (hz a ha)), by omega, by omega, by omega, by omega⟩
theorem LW_house (hc : c_all x G H) (hG : okG G) (hxo : x + 57 ≤ o) (hon : o < n) (ho : ∃ l s, H o = some (.inr (11, [.long l, s]))) (hz : ∀ a, n ≤ a → H a = none) {w : Int32}
    (c : ∀ H1 n1 q1, lw_post true x o H n q (k_house G w) H1 n1 q1 → P (.inl (some (.int (nI (k_house G w).1)))) H1 n1 q1) : ev_ok (ev_TT X) 134 0 [.ref x, .int w, .ref o, ev_J] [] H n q P := by
  have hk := c_all_k (X := X) hc
  obtain ⟨l0, s0, ho⟩ := ho
  simp (disch := omega) only [t_L_house_0, t_L_house_1, t_L_house_2, t_L_house_3, t_L_house_6, t_L_house_7, t_L_house_10, t_L_house_14, t_L_house_15, t_L_house_16, t_L_house_17, x_L_house_3_1, ↓reduceIte, ev_k_i, ev_k_r, ev_k_l, ev_k_J, ev_k_n, ev_kr_1, ev_kr_0, ev_isK_y, ev_aG_y, ev_aS_y, ev_aN_y, ev_inA_0, ev_isA_0, ev_ft_I, ev_ft_0, ev_ft_1, ev_ft_o, ev_ft_a, ev_nb_0, ev_nb_1, and_true, true_and, if_true, if_false, not_true_eq_false, not_false_eq_true, nI_1, ev_fG_0, ev_fG_1, ev_fG_2, ev_fG_3, ev_fG_4, ev_fG_5, ev_fG_6, ev_fG_7, ev_fG_8, ev_fS_0, ev_fS_1, ev_fS_2, ev_fS_3, ev_fS_4, ev_fS_5, ev_fS_6, ev_fS_7, ev_fS_8, ev_isO_0, ev_isO_1, ev_isO_2, ev_isO_3, ev_isO_4, ev_isO_5, ev_isO_6, ev_isO_7, ev_isO_8, ev_z0, ev_z1, ev_z2, eq_self, ev_ofN, show ¬ (1 : Int32) = 0 from by decide, show ¬ (2 : Int32) = 0 from by decide, show ¬ (2 : Int32) = 1 from by decide, show ¬ (0 : Int32) = 1 from by decide, show ¬ (0 : Int32) = 2 from by decide, show ¬ (1 : Int32) = 2 from by decide, show ¬ (0 : Int32) = -1 from by decide, show (0 : Int32) ≤ 1 from by decide, show (1 : Int32).toNatClampNeg = 1 from rfl, show (0 : Nat) < 2 from by omega, show (1 : Nat) < 2 from by omega, not_true_eq_false, ne_eq, not_false_eq_true, hk]
  refine C_house hc (fun hb => ?_) (fun a ha e => ?_)
  · skip
    have ek : k_house G w = (1, 0, G) := by
      unfold k_house
      rw [if_pos hb]
    rw [ek] at c
    simp (disch := omega) only [t_L_house_0, t_L_house_1, t_L_house_2, t_L_house_3, t_L_house_6, t_L_house_7, t_L_house_10, t_L_house_14, t_L_house_15, t_L_house_16, t_L_house_17, x_L_house_3_1, ↓reduceIte, ev_k_i, ev_k_r, ev_k_l, ev_k_J, ev_k_n, ev_kr_1, ev_kr_0, ev_isK_y, ev_aG_y, ev_aS_y, ev_aN_y, ev_inA_0, ev_isA_0, ev_ft_I, ev_ft_0, ev_ft_1, ev_ft_o, ev_ft_a, ev_nb_0, ev_nb_1, and_true, true_and, if_true, if_false, not_true_eq_false, not_false_eq_true, nI_1, ev_fG_0, ev_fG_1, ev_fG_2, ev_fG_3, ev_fG_4, ev_fG_5, ev_fG_6, ev_fG_7, ev_fG_8, ev_fS_0, ev_fS_1, ev_fS_2, ev_fS_3, ev_fS_4, ev_fS_5, ev_fS_6, ev_fS_7, ev_fS_8, ev_isO_0, ev_isO_1, ev_isO_2, ev_isO_3, ev_isO_4, ev_isO_5, ev_isO_6, ev_isO_7, ev_isO_8, ev_z0, ev_z1, ev_z2, eq_self, ev_ofN, show ¬ (1 : Int32) = 0 from by decide, show ¬ (2 : Int32) = 0 from by decide, show ¬ (2 : Int32) = 1 from by decide, show ¬ (0 : Int32) = 1 from by decide, show ¬ (0 : Int32) = 2 from by decide, show ¬ (1 : Int32) = 2 from by decide, show ¬ (0 : Int32) = -1 from by decide, show (0 : Int32) ≤ 1 from by decide, show (1 : Int32).toNatClampNeg = 1 from rfl, show (0 : Nat) < 2 from by omega, show (1 : Nat) < 2 from by omega, not_true_eq_false, ne_eq, not_false_eq_true, hk]
    exact c _ (n + 1) (q + 6) ⟨hc, fun _ _ _ _ => rfl, ⟨l0, s0, ho, fun _ z => by cases z⟩, fun a ha => hz a (by omega), by omega, by omega, by omega, by omega⟩
  · skip
    subst e
    have ek : k_house G (nI a) = (0, (ph_of G a), G) := by
      unfold k_house
      rw [nI_clamp (n := a) (by omega)]
      rw [if_neg (no_ix ha (by omega))]
    rw [ek] at c
    have ho1 := ho
    simp (disch := omega) only [t_L_house_0, t_L_house_1, t_L_house_2, t_L_house_3, t_L_house_6, t_L_house_7, t_L_house_10, t_L_house_14, t_L_house_15, t_L_house_16, t_L_house_17, x_L_house_3_1, ↓reduceIte, ev_k_i, ev_k_r, ev_k_l, ev_k_J, ev_k_n, ev_kr_1, ev_kr_0, ev_isK_y, ev_aG_y, ev_aS_y, ev_aN_y, ev_inA_0, ev_isA_0, ev_ft_I, ev_ft_0, ev_ft_1, ev_ft_o, ev_ft_a, ev_nb_0, ev_nb_1, and_true, true_and, if_true, if_false, not_true_eq_false, not_false_eq_true, nI_1, ev_fG_0, ev_fG_1, ev_fG_2, ev_fG_3, ev_fG_4, ev_fG_5, ev_fG_6, ev_fG_7, ev_fG_8, ev_fS_0, ev_fS_1, ev_fS_2, ev_fS_3, ev_fS_4, ev_fS_5, ev_fS_6, ev_fS_7, ev_fS_8, ev_isO_0, ev_isO_1, ev_isO_2, ev_isO_3, ev_isO_4, ev_isO_5, ev_isO_6, ev_isO_7, ev_isO_8, ev_z0, ev_z1, ev_z2, eq_self, ev_ofN, show ¬ (1 : Int32) = 0 from by decide, show ¬ (2 : Int32) = 0 from by decide, show ¬ (2 : Int32) = 1 from by decide, show ¬ (0 : Int32) = 1 from by decide, show ¬ (0 : Int32) = 2 from by decide, show ¬ (1 : Int32) = 2 from by decide, show ¬ (0 : Int32) = -1 from by decide, show (0 : Int32) ≤ 1 from by decide, show (1 : Int32).toNatClampNeg = 1 from rfl, show (0 : Nat) < 2 from by omega, show (1 : Nat) < 2 from by omega, not_true_eq_false, ne_eq, not_false_eq_true, ev_lku_s, ev_lku_n, ev_up_s, ev_up_n, ho1, ev_ft_J]
    exact c _ n q ⟨c_cg hc (fun a ha hb => ev_up_n (by omega)), fun a ha hao han => (ev_up_n hao), ⟨_, s0, ev_up_s, fun _ _ => rfl⟩, fun a ha => (ev_up_n (by omega)).trans (hz a ha), by omega, by omega, by omega, by omega⟩
end L81
