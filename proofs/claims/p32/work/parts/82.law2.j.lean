/-! ===== joined: 82.law2, 83.loop, 84.start, 85.read, 86.tags ===== -/
section
/-! ===== the law's other calls ===== -/
section L82a
variable {X : ev_E} {zf : Nat → Nat} {x : Nat} {r : Int32 × Int32 × Int32} {T : Nat → ev_TS} {G G0 G1 : ev_CS} {As As1 : List Nat} {H H1 : ev_M} {n q n1 q1 : Nat}
theorem jM_ref2 (h : jM X zf x G G0 As H n) (hT : G.1 = T) (hp : m_post X zf (x + 57) H n q r T As1 H1 n1 q1) (hr : r.2 = G.2.2.2.2) (hA : m_ax X zf As1) (hl : jR G As1) : jM X zf x G G As1 H1 n1 := by
  subst hT
  exact jM_ref h hp hr hA hl
theorem jM_same (h : jM X zf x G G0 As H n) (hp : m_post X zf (x + 57) H n q r G0.1 As H1 n1 q1) (hr : r.2 = G0.2.2.2.2) (e : G = G0) : jM X zf x G0 G0 As H1 n1 := by
  subst e
  exact jM_ref h hp hr h.2.2.2.2.2.1 h.2.2.2.2.2.2.1
theorem aR_of (h : jR G As) (hA : m_ax X zf As) : aR G As := by
  refine ⟨h.1, fun j hj => ⟨(h.2.1 j (by have := h.1; omega)).1, ?_⟩⟩
  have hj2 : j < As.length := by have := h.1; omega
  rw [List.getD_eq_getElem?_getD, List.getElem?_eq_getElem hj2]
  exact hA.2.1 _ (List.getElem_mem hj2)
theorem jV_best (h : jR G As) (hA : m_ax X zf As) {j : Nat} : nI (G.2.2.2.1.2.2 - (gs (pA G) (j + 1) G.2.2.2.1.2.2).2) = nI (As.length - (gs As (j + 1) As.length).2) := by
  rw [pA_eq (aR_of h hA), h.1]
theorem rowd_1 {a st : Nat} : ∀ (d i : Nat) (G : ev_CS), (pg_rowd a st d i G).1 = G.1 ∧ (pg_rowd a st d i G).2.2.2.2 = G.2.2.2.2 ∧ (pg_rowd a st d i G).2.2.2.1.2.2 = G.2.2.2.1.2.2 + d := by
  intro d
  induction d with
  | zero => intro i G; exact ⟨rfl, rfl, rfl⟩
  | succ d ih =>
    intro i G
    obtain ⟨h1, h2, h3⟩ := ih (i + 1) (pg_ask G (nI ((a + i * st) % 20)))
    exact ⟨h1, h2, h3.trans (by show G.2.2.2.1.2.2 + 1 + d = _; omega)⟩
theorem ms_row_ax {a st : Nat} : ∀ (d i : Nat) (As : List Nat), m_ax X zf As → As.length + d ≤ 60 → m_ax X zf (ms_row a st d i As) ∧ (ms_row a st d i As).length = As.length + d := by
  intro d
  induction d with
  | zero => intro i As h _; exact ⟨h, rfl⟩
  | succ d ih =>
    intro i As h hl
    have h1 := ih (i + 1) (As ++ [(a + i * st) % 20]) (m_ax_app h (Nat.mod_lt _ (by omega)) (by omega)) (by rw [List.length_append, List.length_singleton]; omega)
    refine ⟨h1.1, h1.2.trans ?_⟩
    rw [List.length_append, List.length_singleton]; omega
theorem jG_ask (h : jG G) {k : Int32} (hk : k ∈ (List.range 20).map nI) (hc : G.2.2.2.1.2.2 < 60) : jG (pg_ask G k) := ⟨okG_ask h.1 hk hc, h.2⟩
theorem jG_rowd (h : jG G) {a st d i : Nat} (hc : G.2.2.2.1.2.2 + d ≤ 60) : jG (pg_rowd a st d i G) := by
  refine ⟨okG_rowd d i G h.1 hc, ?_⟩
  rw [(rowd_1 d i G).1]
  exact h.2
theorem jG_F (h : jG G) : jG (pg_F (pg_F0 G) 6) := ⟨okG_F h.1, h.2⟩
theorem KG_text {t w : Int32} : (k_text G t w).2.2 = G := by unfold k_text; (repeat' split) <;> rfl
theorem KG_depth {k : Int32} : (k_depth G k).2.2 = G := by unfold k_depth; (repeat' split) <;> rfl
theorem KG_kept {s : Int32} : (k_kept G s).2.2 = G := by unfold k_kept; (repeat' split) <;> rfl
theorem KG_keeps {s k : Int32} : (k_keeps G s k).2.2 = G := by unfold k_keeps; (repeat' split) <;> rfl
theorem KG_takenAt {s k : Int32} : (k_takenAt G s k).2.2 = G := by unfold k_takenAt; (repeat' split) <;> rfl
theorem KG_misses {s : Int32} : (k_misses G s).2.2 = G := by unfold k_misses; (repeat' split) <;> rfl
theorem KG_hits {s : Int32} : (k_hits G s).2.2 = G := by unfold k_hits; (repeat' split) <;> rfl
theorem KG_lost {s : Int32} : (k_lost G s).2.2 = G := by unfold k_lost; (repeat' split) <;> rfl
theorem KG_best {s : Int32} : (k_best G s).2.2 = G := by unfold k_best; (repeat' split) <;> rfl
theorem KG_house {w : Int32} : (k_house G w).2.2 = G := by unfold k_house; (repeat' split) <;> rfl
theorem JK_copy (hJ : jG G) {t u : Int32} : jG (k_copy G t u).2.2 := by
  unfold k_copy
  split
  · exact hJ
  · rename_i h1
    split
    · exact hJ
    · rename_i h2
      obtain ⟨i, hi, rfl⟩ := ix_of (by omega) h1
      obtain ⟨j, hj, rfl⟩ := ix_of (by omega) h2
      rw [nI_clamp (n := i) (by omega), nI_clamp (n := j) (by omega)]
      exact jG_T hJ (okT_row (hJ.1.1 j hj) (hJ.1.1 i hi).1 (Or.inl rfl) _ _ _) (hJ.2.1 i hi) (hJ.2.2 j hj).1 (fun z => z (Or.inl rfl))
theorem JK_ask (hJ : jG G) {k : Int32} : jG (k_ask G k).2.2 := by
  unfold k_ask
  split
  · exact hJ
  · rename_i h1
    split
    · exact hJ
    · rename_i h2
      exact jG_ask hJ (ix_k (by omega) h1) (by have := hJ.1.2.2.2; omega)
theorem JK_askRow (hJ : jG G) {f st mn : Int32} : jG (k_askRow G f st mn).2.2 := by
  unfold k_askRow
  split
  · exact hJ
  · split
    · exact hJ
    · rename_i h2
      exact jG_rowd hJ (by omega)
end L82a
section L82
variable {X : ev_E} {zf : Nat → Nat} {x S i : Nat} {G : ev_CS} {As : List Nat} {H : ev_M} {n q : Nat} {P : ev_O → ev_M → Nat → Nat → Prop} {v0 v1 v2 v3 : Int32}
theorem LP_copy (hS : jS X S i v0 v1 v2 v3) (h : jM X zf x G G As H n) (hEM : ev_EM X) {a5 a6 : Value} (c : jC X zf x S i n q P) : ev_ok (ev_TT X) 309 620 [.ref S, .ref x, .ref (x + 57), .ref (x + 68), .int (nI i), a5, a6] [] H n q P := by
  have hn := jM_n h
  have hs := hS H (jM_low h)
  have h0 := h
  obtain ⟨hc, hJ, -, ⟨r, ow, hr, hm⟩, hx, hA, hl, ho, hxs⟩ := h0
  have hln := hl.1
  simp (disch := omega) only [t_L_law_620, t_L_law_621, t_L_law_622, t_L_law_624, t_L_law_625, t_L_law_626, t_L_law_627, t_L_law_628, t_L_law_630, t_L_law_631, t_L_law_632, t_L_law_633, t_L_law_634, t_L_law_637, t_L_law_639, t_L_law_640, t_L_law_641, t_L_law_643, t_L_law_644, t_L_law_645, t_L_law_646, t_L_law_647, t_L_law_649, t_L_law_650, t_L_law_651, t_L_law_652, t_L_law_655, t_L_law_657, ↓reduceIte, ev_k_i, ev_k_r, ev_k_l, ev_k_J, ev_k_n, ev_kr_1, ev_kr_0, ev_isK_y, ev_aG_y, ev_aS_y, ev_aN_y, ev_inA_0, ev_isA_0, ev_ft_I, ev_ft_0, ev_ft_1, ev_ft_o, ev_ft_a, ev_nb_0, ev_nb_1, and_true, true_and, if_true, if_false, not_true_eq_false, not_false_eq_true, nI_1, ev_fG_0, ev_fG_1, ev_fG_2, ev_fG_3, ev_fG_4, ev_fG_5, ev_fG_6, ev_fG_7, ev_fG_8, ev_fS_0, ev_fS_1, ev_fS_2, ev_fS_3, ev_fS_4, ev_fS_5, ev_fS_6, ev_fS_7, ev_fS_8, ev_isO_0, ev_isO_1, ev_isO_2, ev_isO_3, ev_isO_4, ev_isO_5, ev_isO_6, ev_isO_7, ev_isO_8, ev_z0, ev_z1, ev_z2, eq_self, ev_ofN, show ¬ (1 : Int32) = 0 from by decide, show ¬ (2 : Int32) = 0 from by decide, show ¬ (2 : Int32) = 1 from by decide, show ¬ (0 : Int32) = 1 from by decide, show ¬ (0 : Int32) = 2 from by decide, show ¬ (1 : Int32) = 2 from by decide, show ¬ (0 : Int32) = -1 from by decide, show (0 : Int32) ≤ 1 from by decide, show (1 : Int32).toNatClampNeg = 1 from rfl, show (0 : Nat) < 2 from by omega, show (1 : Nat) < 2 from by omega, not_true_eq_false, ne_eq, not_false_eq_true, hs.1.1, hs.1.2, hs.2.1.1, hs.2.1.2, hs.2.2.1.1, hs.2.2.1.2, hs.2.2.2.1, hs.2.2.2.2]
  refine LW_copy hc hJ.1 (by omega) (by omega) ho (jM_z h) fun H1 n1 q1 hp => ?_
  have hM1 := jM_class h hp.1 (JK_copy hJ (t := v1) (u := v2)) hp.2.1 (by obtain ⟨l, s, h1, -⟩ := hp.2.2.1; exact ⟨l, s, h1⟩) hp.2.2.2.1 hp.2.2.2.2.1
  have b1 := hp.2.2.2.2
  have hs1 := hS H1 (jM_low hM1)
  have h1 := hM1
  obtain ⟨hc1, hJ1, -, ⟨r1, ow1, hr1, hm1⟩, hx1, -, -, -, -⟩ := h1
  have hk13 := m_k13 hm1
  simp (disch := omega) only [t_L_law_620, t_L_law_621, t_L_law_622, t_L_law_624, t_L_law_625, t_L_law_626, t_L_law_627, t_L_law_628, t_L_law_630, t_L_law_631, t_L_law_632, t_L_law_633, t_L_law_634, t_L_law_637, t_L_law_639, t_L_law_640, t_L_law_641, t_L_law_643, t_L_law_644, t_L_law_645, t_L_law_646, t_L_law_647, t_L_law_649, t_L_law_650, t_L_law_651, t_L_law_652, t_L_law_655, t_L_law_657, ↓reduceIte, ev_k_i, ev_k_r, ev_k_l, ev_k_J, ev_k_n, ev_kr_1, ev_kr_0, ev_isK_y, ev_aG_y, ev_aS_y, ev_aN_y, ev_inA_0, ev_isA_0, ev_ft_I, ev_ft_0, ev_ft_1, ev_ft_o, ev_ft_a, ev_nb_0, ev_nb_1, and_true, true_and, if_true, if_false, not_true_eq_false, not_false_eq_true, nI_1, ev_fG_0, ev_fG_1, ev_fG_2, ev_fG_3, ev_fG_4, ev_fG_5, ev_fG_6, ev_fG_7, ev_fG_8, ev_fS_0, ev_fS_1, ev_fS_2, ev_fS_3, ev_fS_4, ev_fS_5, ev_fS_6, ev_fS_7, ev_fS_8, ev_isO_0, ev_isO_1, ev_isO_2, ev_isO_3, ev_isO_4, ev_isO_5, ev_isO_6, ev_isO_7, ev_isO_8, ev_z0, ev_z1, ev_z2, eq_self, ev_ofN, show ¬ (1 : Int32) = 0 from by decide, show ¬ (2 : Int32) = 0 from by decide, show ¬ (2 : Int32) = 1 from by decide, show ¬ (0 : Int32) = 1 from by decide, show ¬ (0 : Int32) = 2 from by decide, show ¬ (1 : Int32) = 2 from by decide, show ¬ (0 : Int32) = -1 from by decide, show (0 : Int32) ≤ 1 from by decide, show (1 : Int32).toNatClampNeg = 1 from rfl, show (0 : Nat) < 2 from by omega, show (1 : Nat) < 2 from by omega, not_true_eq_false, ne_eq, not_false_eq_true, hs1.1.1, hs1.1.2, hs1.2.1.1, hs1.2.1.2, hs1.2.2.1.1, hs1.2.2.1.2, hs1.2.2.2.1, hs1.2.2.2.2, hk13]
  refine MM_copy hEM hm1 hx1 (fun hb H2 hq => ?_) (fun a b ha e hb e2 H2 n2 q2 hq => ?_)
  · skip
    have ek : k_copy G v1 v2 = (1, 0, G) := by
      unfold k_copy
      rcases hb with hb | hb
      · rw [if_pos hb]
      · split
        · rfl
        · first | rfl | rw [if_pos hb]
    rw [ek] at hM1
    simp (disch := omega) only [t_L_law_620, t_L_law_621, t_L_law_622, t_L_law_624, t_L_law_625, t_L_law_626, t_L_law_627, t_L_law_628, t_L_law_630, t_L_law_631, t_L_law_632, t_L_law_633, t_L_law_634, t_L_law_637, t_L_law_639, t_L_law_640, t_L_law_641, t_L_law_643, t_L_law_644, t_L_law_645, t_L_law_646, t_L_law_647, t_L_law_649, t_L_law_650, t_L_law_651, t_L_law_652, t_L_law_655, t_L_law_657, ↓reduceIte, ev_k_i, ev_k_r, ev_k_l, ev_k_J, ev_k_n, ev_kr_1, ev_kr_0, ev_isK_y, ev_aG_y, ev_aS_y, ev_aN_y, ev_inA_0, ev_isA_0, ev_ft_I, ev_ft_0, ev_ft_1, ev_ft_o, ev_ft_a, ev_nb_0, ev_nb_1, and_true, true_and, if_true, if_false, not_true_eq_false, not_false_eq_true, nI_1, ev_fG_0, ev_fG_1, ev_fG_2, ev_fG_3, ev_fG_4, ev_fG_5, ev_fG_6, ev_fG_7, ev_fG_8, ev_fS_0, ev_fS_1, ev_fS_2, ev_fS_3, ev_fS_4, ev_fS_5, ev_fS_6, ev_fS_7, ev_fS_8, ev_isO_0, ev_isO_1, ev_isO_2, ev_isO_3, ev_isO_4, ev_isO_5, ev_isO_6, ev_isO_7, ev_isO_8, ev_z0, ev_z1, ev_z2, eq_self, ev_ofN, show ¬ (1 : Int32) = 0 from by decide, show ¬ (2 : Int32) = 0 from by decide, show ¬ (2 : Int32) = 1 from by decide, show ¬ (0 : Int32) = 1 from by decide, show ¬ (0 : Int32) = 2 from by decide, show ¬ (1 : Int32) = 2 from by decide, show ¬ (0 : Int32) = -1 from by decide, show (0 : Int32) ≤ 1 from by decide, show (1 : Int32).toNatClampNeg = 1 from rfl, show (0 : Nat) < 2 from by omega, show (1 : Nat) < 2 from by omega, not_true_eq_false, ne_eq, not_false_eq_true, hs1.1.1, hs1.1.2, hs1.2.1.1, hs1.2.1.2, hs1.2.2.1.1, hs1.2.2.1.2, hs1.2.2.2.1, hs1.2.2.2.2, hk13]
    have b2 := hq.2.2.2
    exact c _ _ H2 _ _ _ _ (jM_ref2 hM1 rfl hq hr1 hA hl) (by omega) (by omega) (by omega) (by omega)
  · skip
    subst e
    subst e2
    have ek : k_copy G (nI a) (nI b) = (0, (nI (G.1 a).1.length), pg_T G b (ps_row (G.1 b) (G.1 a).1 0 (-1) 0 (-1))) := by
      unfold k_copy
      rw [nI_clamp (n := a) (by omega), nI_clamp (n := b) (by omega), if_neg (no_ix ha (by omega)), if_neg (no_ix hb (by omega))]
    rw [ek] at hM1
    simp (disch := omega) only [t_L_law_620, t_L_law_621, t_L_law_622, t_L_law_624, t_L_law_625, t_L_law_626, t_L_law_627, t_L_law_628, t_L_law_630, t_L_law_631, t_L_law_632, t_L_law_633, t_L_law_634, t_L_law_637, t_L_law_639, t_L_law_640, t_L_law_641, t_L_law_643, t_L_law_644, t_L_law_645, t_L_law_646, t_L_law_647, t_L_law_649, t_L_law_650, t_L_law_651, t_L_law_652, t_L_law_655, t_L_law_657, ↓reduceIte, ev_k_i, ev_k_r, ev_k_l, ev_k_J, ev_k_n, ev_kr_1, ev_kr_0, ev_isK_y, ev_aG_y, ev_aS_y, ev_aN_y, ev_inA_0, ev_isA_0, ev_ft_I, ev_ft_0, ev_ft_1, ev_ft_o, ev_ft_a, ev_nb_0, ev_nb_1, and_true, true_and, if_true, if_false, not_true_eq_false, not_false_eq_true, nI_1, ev_fG_0, ev_fG_1, ev_fG_2, ev_fG_3, ev_fG_4, ev_fG_5, ev_fG_6, ev_fG_7, ev_fG_8, ev_fS_0, ev_fS_1, ev_fS_2, ev_fS_3, ev_fS_4, ev_fS_5, ev_fS_6, ev_fS_7, ev_fS_8, ev_isO_0, ev_isO_1, ev_isO_2, ev_isO_3, ev_isO_4, ev_isO_5, ev_isO_6, ev_isO_7, ev_isO_8, ev_z0, ev_z1, ev_z2, eq_self, ev_ofN, show ¬ (1 : Int32) = 0 from by decide, show ¬ (2 : Int32) = 0 from by decide, show ¬ (2 : Int32) = 1 from by decide, show ¬ (0 : Int32) = 1 from by decide, show ¬ (0 : Int32) = 2 from by decide, show ¬ (1 : Int32) = 2 from by decide, show ¬ (0 : Int32) = -1 from by decide, show (0 : Int32) ≤ 1 from by decide, show (1 : Int32).toNatClampNeg = 1 from rfl, show (0 : Nat) < 2 from by omega, show (1 : Nat) < 2 from by omega, not_true_eq_false, ne_eq, not_false_eq_true, hs1.1.1, hs1.1.2, hs1.2.1.1, hs1.2.1.2, hs1.2.2.1.1, hs1.2.2.1.2, hs1.2.2.2.1, hs1.2.2.2.2, hk13]
    have b2 := hq.2.2.2
    exact c _ _ H2 _ _ _ _ (jM_ref2 hM1 rfl hq hr1 hA hl) (by omega) (by omega) (by omega) (by omega)
theorem LP_text (hS : jS X S i v0 v1 v2 v3) (h : jM X zf x G G As H n) (hD : ev_DG X) {a5 a6 : Value} (c : jC X zf x S i n q P) : ev_ok (ev_TT X) 309 944 [.ref S, .ref x, .ref (x + 57), .ref (x + 68), .int (nI i), a5, a6] [] H n q P := by
  have hn := jM_n h
  have hs := hS H (jM_low h)
  have h0 := h
  obtain ⟨hc, hJ, -, ⟨r, ow, hr, hm⟩, hx, hA, hl, ho, hxs⟩ := h0
  have hln := hl.1
  simp (disch := omega) only [t_L_law_944, t_L_law_945, t_L_law_946, t_L_law_948, t_L_law_949, t_L_law_950, t_L_law_951, t_L_law_952, t_L_law_954, t_L_law_955, t_L_law_956, t_L_law_957, t_L_law_958, t_L_law_961, t_L_law_963, t_L_law_964, t_L_law_965, t_L_law_967, t_L_law_968, t_L_law_969, t_L_law_970, t_L_law_971, t_L_law_973, t_L_law_974, t_L_law_975, t_L_law_976, t_L_law_979, t_L_law_981, ↓reduceIte, ev_k_i, ev_k_r, ev_k_l, ev_k_J, ev_k_n, ev_kr_1, ev_kr_0, ev_isK_y, ev_aG_y, ev_aS_y, ev_aN_y, ev_inA_0, ev_isA_0, ev_ft_I, ev_ft_0, ev_ft_1, ev_ft_o, ev_ft_a, ev_nb_0, ev_nb_1, and_true, true_and, if_true, if_false, not_true_eq_false, not_false_eq_true, nI_1, ev_fG_0, ev_fG_1, ev_fG_2, ev_fG_3, ev_fG_4, ev_fG_5, ev_fG_6, ev_fG_7, ev_fG_8, ev_fS_0, ev_fS_1, ev_fS_2, ev_fS_3, ev_fS_4, ev_fS_5, ev_fS_6, ev_fS_7, ev_fS_8, ev_isO_0, ev_isO_1, ev_isO_2, ev_isO_3, ev_isO_4, ev_isO_5, ev_isO_6, ev_isO_7, ev_isO_8, ev_z0, ev_z1, ev_z2, eq_self, ev_ofN, show ¬ (1 : Int32) = 0 from by decide, show ¬ (2 : Int32) = 0 from by decide, show ¬ (2 : Int32) = 1 from by decide, show ¬ (0 : Int32) = 1 from by decide, show ¬ (0 : Int32) = 2 from by decide, show ¬ (1 : Int32) = 2 from by decide, show ¬ (0 : Int32) = -1 from by decide, show (0 : Int32) ≤ 1 from by decide, show (1 : Int32).toNatClampNeg = 1 from rfl, show (0 : Nat) < 2 from by omega, show (1 : Nat) < 2 from by omega, not_true_eq_false, ne_eq, not_false_eq_true, hs.1.1, hs.1.2, hs.2.1.1, hs.2.1.2, hs.2.2.1.1, hs.2.2.1.2, hs.2.2.2.1, hs.2.2.2.2]
  refine LW_text hc hJ.1 hJ.2.1 hD hxs (jM_low h) (by omega) (by omega) ho (jM_z h) fun H1 n1 q1 hp => ?_
  have hM1 := jM_class h hp.1 (by rw [KG_text]; exact hJ) hp.2.1 (by obtain ⟨l, s, h1, -⟩ := hp.2.2.1; exact ⟨l, s, h1⟩) hp.2.2.2.1 hp.2.2.2.2.1
  have b1 := hp.2.2.2.2
  have hs1 := hS H1 (jM_low hM1)
  have h1 := hM1
  obtain ⟨hc1, hJ1, -, ⟨r1, ow1, hr1, hm1⟩, hx1, -, -, -, -⟩ := h1
  have hk13 := m_k13 hm1
  simp (disch := omega) only [t_L_law_944, t_L_law_945, t_L_law_946, t_L_law_948, t_L_law_949, t_L_law_950, t_L_law_951, t_L_law_952, t_L_law_954, t_L_law_955, t_L_law_956, t_L_law_957, t_L_law_958, t_L_law_961, t_L_law_963, t_L_law_964, t_L_law_965, t_L_law_967, t_L_law_968, t_L_law_969, t_L_law_970, t_L_law_971, t_L_law_973, t_L_law_974, t_L_law_975, t_L_law_976, t_L_law_979, t_L_law_981, ↓reduceIte, ev_k_i, ev_k_r, ev_k_l, ev_k_J, ev_k_n, ev_kr_1, ev_kr_0, ev_isK_y, ev_aG_y, ev_aS_y, ev_aN_y, ev_inA_0, ev_isA_0, ev_ft_I, ev_ft_0, ev_ft_1, ev_ft_o, ev_ft_a, ev_nb_0, ev_nb_1, and_true, true_and, if_true, if_false, not_true_eq_false, not_false_eq_true, nI_1, ev_fG_0, ev_fG_1, ev_fG_2, ev_fG_3, ev_fG_4, ev_fG_5, ev_fG_6, ev_fG_7, ev_fG_8, ev_fS_0, ev_fS_1, ev_fS_2, ev_fS_3, ev_fS_4, ev_fS_5, ev_fS_6, ev_fS_7, ev_fS_8, ev_isO_0, ev_isO_1, ev_isO_2, ev_isO_3, ev_isO_4, ev_isO_5, ev_isO_6, ev_isO_7, ev_isO_8, ev_z0, ev_z1, ev_z2, eq_self, ev_ofN, show ¬ (1 : Int32) = 0 from by decide, show ¬ (2 : Int32) = 0 from by decide, show ¬ (2 : Int32) = 1 from by decide, show ¬ (0 : Int32) = 1 from by decide, show ¬ (0 : Int32) = 2 from by decide, show ¬ (1 : Int32) = 2 from by decide, show ¬ (0 : Int32) = -1 from by decide, show (0 : Int32) ≤ 1 from by decide, show (1 : Int32).toNatClampNeg = 1 from rfl, show (0 : Nat) < 2 from by omega, show (1 : Nat) < 2 from by omega, not_true_eq_false, ne_eq, not_false_eq_true, hs1.1.1, hs1.1.2, hs1.2.1.1, hs1.2.1.2, hs1.2.2.1.1, hs1.2.2.1.2, hs1.2.2.2.1, hs1.2.2.2.2, hk13]
  refine MM_text hD hJ.2.1 hm1 hx1 (fun hb H2 hq => ?_) (fun a ha e hb H2 hq => ?_) (fun a b ha e hb e2 H2 s2 n2 q2 hq => ?_)
  · skip
    simp (disch := omega) only [t_L_law_944, t_L_law_945, t_L_law_946, t_L_law_948, t_L_law_949, t_L_law_950, t_L_law_951, t_L_law_952, t_L_law_954, t_L_law_955, t_L_law_956, t_L_law_957, t_L_law_958, t_L_law_961, t_L_law_963, t_L_law_964, t_L_law_965, t_L_law_967, t_L_law_968, t_L_law_969, t_L_law_970, t_L_law_971, t_L_law_973, t_L_law_974, t_L_law_975, t_L_law_976, t_L_law_979, t_L_law_981, ↓reduceIte, ev_k_i, ev_k_r, ev_k_l, ev_k_J, ev_k_n, ev_kr_1, ev_kr_0, ev_isK_y, ev_aG_y, ev_aS_y, ev_aN_y, ev_inA_0, ev_isA_0, ev_ft_I, ev_ft_0, ev_ft_1, ev_ft_o, ev_ft_a, ev_nb_0, ev_nb_1, and_true, true_and, if_true, if_false, not_true_eq_false, not_false_eq_true, nI_1, ev_fG_0, ev_fG_1, ev_fG_2, ev_fG_3, ev_fG_4, ev_fG_5, ev_fG_6, ev_fG_7, ev_fG_8, ev_fS_0, ev_fS_1, ev_fS_2, ev_fS_3, ev_fS_4, ev_fS_5, ev_fS_6, ev_fS_7, ev_fS_8, ev_isO_0, ev_isO_1, ev_isO_2, ev_isO_3, ev_isO_4, ev_isO_5, ev_isO_6, ev_isO_7, ev_isO_8, ev_z0, ev_z1, ev_z2, eq_self, ev_ofN, show ¬ (1 : Int32) = 0 from by decide, show ¬ (2 : Int32) = 0 from by decide, show ¬ (2 : Int32) = 1 from by decide, show ¬ (0 : Int32) = 1 from by decide, show ¬ (0 : Int32) = 2 from by decide, show ¬ (1 : Int32) = 2 from by decide, show ¬ (0 : Int32) = -1 from by decide, show (0 : Int32) ≤ 1 from by decide, show (1 : Int32).toNatClampNeg = 1 from rfl, show (0 : Nat) < 2 from by omega, show (1 : Nat) < 2 from by omega, not_true_eq_false, ne_eq, not_false_eq_true, hs1.1.1, hs1.1.2, hs1.2.1.1, hs1.2.1.2, hs1.2.2.1.1, hs1.2.2.1.2, hs1.2.2.2.1, hs1.2.2.2.2, hk13]
    have b2 := hq.2.2.2
    exact c _ _ H2 _ _ _ _ (jM_same hM1 hq hr1 KG_text) (by omega) (by omega) (by omega) (by omega)
  · skip
    simp (disch := omega) only [t_L_law_944, t_L_law_945, t_L_law_946, t_L_law_948, t_L_law_949, t_L_law_950, t_L_law_951, t_L_law_952, t_L_law_954, t_L_law_955, t_L_law_956, t_L_law_957, t_L_law_958, t_L_law_961, t_L_law_963, t_L_law_964, t_L_law_965, t_L_law_967, t_L_law_968, t_L_law_969, t_L_law_970, t_L_law_971, t_L_law_973, t_L_law_974, t_L_law_975, t_L_law_976, t_L_law_979, t_L_law_981, ↓reduceIte, ev_k_i, ev_k_r, ev_k_l, ev_k_J, ev_k_n, ev_kr_1, ev_kr_0, ev_isK_y, ev_aG_y, ev_aS_y, ev_aN_y, ev_inA_0, ev_isA_0, ev_ft_I, ev_ft_0, ev_ft_1, ev_ft_o, ev_ft_a, ev_nb_0, ev_nb_1, and_true, true_and, if_true, if_false, not_true_eq_false, not_false_eq_true, nI_1, ev_fG_0, ev_fG_1, ev_fG_2, ev_fG_3, ev_fG_4, ev_fG_5, ev_fG_6, ev_fG_7, ev_fG_8, ev_fS_0, ev_fS_1, ev_fS_2, ev_fS_3, ev_fS_4, ev_fS_5, ev_fS_6, ev_fS_7, ev_fS_8, ev_isO_0, ev_isO_1, ev_isO_2, ev_isO_3, ev_isO_4, ev_isO_5, ev_isO_6, ev_isO_7, ev_isO_8, ev_z0, ev_z1, ev_z2, eq_self, ev_ofN, show ¬ (1 : Int32) = 0 from by decide, show ¬ (2 : Int32) = 0 from by decide, show ¬ (2 : Int32) = 1 from by decide, show ¬ (0 : Int32) = 1 from by decide, show ¬ (0 : Int32) = 2 from by decide, show ¬ (1 : Int32) = 2 from by decide, show ¬ (0 : Int32) = -1 from by decide, show (0 : Int32) ≤ 1 from by decide, show (1 : Int32).toNatClampNeg = 1 from rfl, show (0 : Nat) < 2 from by omega, show (1 : Nat) < 2 from by omega, not_true_eq_false, ne_eq, not_false_eq_true, hs1.1.1, hs1.1.2, hs1.2.1.1, hs1.2.1.2, hs1.2.2.1.1, hs1.2.2.1.2, hs1.2.2.2.1, hs1.2.2.2.2, hk13]
    have b2 := hq.2.2.2
    exact c _ _ H2 _ _ _ _ (jM_same hM1 hq hr1 KG_text) (by omega) (by omega) (by omega) (by omega)
  · skip
    simp (disch := omega) only [t_L_law_944, t_L_law_945, t_L_law_946, t_L_law_948, t_L_law_949, t_L_law_950, t_L_law_951, t_L_law_952, t_L_law_954, t_L_law_955, t_L_law_956, t_L_law_957, t_L_law_958, t_L_law_961, t_L_law_963, t_L_law_964, t_L_law_965, t_L_law_967, t_L_law_968, t_L_law_969, t_L_law_970, t_L_law_971, t_L_law_973, t_L_law_974, t_L_law_975, t_L_law_976, t_L_law_979, t_L_law_981, ↓reduceIte, ev_k_i, ev_k_r, ev_k_l, ev_k_J, ev_k_n, ev_kr_1, ev_kr_0, ev_isK_y, ev_aG_y, ev_aS_y, ev_aN_y, ev_inA_0, ev_isA_0, ev_ft_I, ev_ft_0, ev_ft_1, ev_ft_o, ev_ft_a, ev_nb_0, ev_nb_1, and_true, true_and, if_true, if_false, not_true_eq_false, not_false_eq_true, nI_1, ev_fG_0, ev_fG_1, ev_fG_2, ev_fG_3, ev_fG_4, ev_fG_5, ev_fG_6, ev_fG_7, ev_fG_8, ev_fS_0, ev_fS_1, ev_fS_2, ev_fS_3, ev_fS_4, ev_fS_5, ev_fS_6, ev_fS_7, ev_fS_8, ev_isO_0, ev_isO_1, ev_isO_2, ev_isO_3, ev_isO_4, ev_isO_5, ev_isO_6, ev_isO_7, ev_isO_8, ev_z0, ev_z1, ev_z2, eq_self, ev_ofN, show ¬ (1 : Int32) = 0 from by decide, show ¬ (2 : Int32) = 0 from by decide, show ¬ (2 : Int32) = 1 from by decide, show ¬ (0 : Int32) = 1 from by decide, show ¬ (0 : Int32) = 2 from by decide, show ¬ (1 : Int32) = 2 from by decide, show ¬ (0 : Int32) = -1 from by decide, show (0 : Int32) ≤ 1 from by decide, show (1 : Int32).toNatClampNeg = 1 from rfl, show (0 : Nat) < 2 from by omega, show (1 : Nat) < 2 from by omega, not_true_eq_false, ne_eq, not_false_eq_true, hs1.1.1, hs1.1.2, hs1.2.1.1, hs1.2.1.2, hs1.2.2.1.1, hs1.2.2.1.2, hs1.2.2.2.1, hs1.2.2.2.2, hk13]
    have b2 := hq.2.2.2
    exact c _ _ H2 _ _ _ _ (jM_same hM1 hq hr1 KG_text) (by omega) (by omega) (by omega) (by omega)
theorem LP_ask (hS : jS X S i v0 v1 v2 v3) (h : jM X zf x G G As H n) {a5 a6 : Value} (c : jC X zf x S i n q P) : ev_ok (ev_TT X) 309 1204 [.ref S, .ref x, .ref (x + 57), .ref (x + 68), .int (nI i), a5, a6] [] H n q P := by
  have hn := jM_n h
  have hs := hS H (jM_low h)
  have h0 := h
  obtain ⟨hc, hJ, -, ⟨r, ow, hr, hm⟩, hx, hA, hl, ho, hxs⟩ := h0
  have hln := hl.1
  simp (disch := omega) only [t_L_law_1204, t_L_law_1205, t_L_law_1206, t_L_law_1208, t_L_law_1209, t_L_law_1210, t_L_law_1211, t_L_law_1212, t_L_law_1215, t_L_law_1217, t_L_law_1218, t_L_law_1219, t_L_law_1221, t_L_law_1222, t_L_law_1223, t_L_law_1224, t_L_law_1227, t_L_law_1229, ↓reduceIte, ev_k_i, ev_k_r, ev_k_l, ev_k_J, ev_k_n, ev_kr_1, ev_kr_0, ev_isK_y, ev_aG_y, ev_aS_y, ev_aN_y, ev_inA_0, ev_isA_0, ev_ft_I, ev_ft_0, ev_ft_1, ev_ft_o, ev_ft_a, ev_nb_0, ev_nb_1, and_true, true_and, if_true, if_false, not_true_eq_false, not_false_eq_true, nI_1, ev_fG_0, ev_fG_1, ev_fG_2, ev_fG_3, ev_fG_4, ev_fG_5, ev_fG_6, ev_fG_7, ev_fG_8, ev_fS_0, ev_fS_1, ev_fS_2, ev_fS_3, ev_fS_4, ev_fS_5, ev_fS_6, ev_fS_7, ev_fS_8, ev_isO_0, ev_isO_1, ev_isO_2, ev_isO_3, ev_isO_4, ev_isO_5, ev_isO_6, ev_isO_7, ev_isO_8, ev_z0, ev_z1, ev_z2, eq_self, ev_ofN, show ¬ (1 : Int32) = 0 from by decide, show ¬ (2 : Int32) = 0 from by decide, show ¬ (2 : Int32) = 1 from by decide, show ¬ (0 : Int32) = 1 from by decide, show ¬ (0 : Int32) = 2 from by decide, show ¬ (1 : Int32) = 2 from by decide, show ¬ (0 : Int32) = -1 from by decide, show (0 : Int32) ≤ 1 from by decide, show (1 : Int32).toNatClampNeg = 1 from rfl, show (0 : Nat) < 2 from by omega, show (1 : Nat) < 2 from by omega, not_true_eq_false, ne_eq, not_false_eq_true, hs.1.1, hs.1.2, hs.2.1.1, hs.2.1.2, hs.2.2.1.1, hs.2.2.1.2, hs.2.2.2.1, hs.2.2.2.2]
  refine LW_ask hc hJ.1 (by omega) (by omega) ho (jM_z h) fun H1 n1 q1 hp => ?_
  have hM1 := jM_class h hp.1 (JK_ask hJ (k := v1)) hp.2.1 (by obtain ⟨l, s, h1, -⟩ := hp.2.2.1; exact ⟨l, s, h1⟩) hp.2.2.2.1 hp.2.2.2.2.1
  have b1 := hp.2.2.2.2
  have hs1 := hS H1 (jM_low hM1)
  have h1 := hM1
  obtain ⟨hc1, hJ1, -, ⟨r1, ow1, hr1, hm1⟩, hx1, -, -, -, -⟩ := h1
  have hk13 := m_k13 hm1
  simp (disch := omega) only [t_L_law_1204, t_L_law_1205, t_L_law_1206, t_L_law_1208, t_L_law_1209, t_L_law_1210, t_L_law_1211, t_L_law_1212, t_L_law_1215, t_L_law_1217, t_L_law_1218, t_L_law_1219, t_L_law_1221, t_L_law_1222, t_L_law_1223, t_L_law_1224, t_L_law_1227, t_L_law_1229, ↓reduceIte, ev_k_i, ev_k_r, ev_k_l, ev_k_J, ev_k_n, ev_kr_1, ev_kr_0, ev_isK_y, ev_aG_y, ev_aS_y, ev_aN_y, ev_inA_0, ev_isA_0, ev_ft_I, ev_ft_0, ev_ft_1, ev_ft_o, ev_ft_a, ev_nb_0, ev_nb_1, and_true, true_and, if_true, if_false, not_true_eq_false, not_false_eq_true, nI_1, ev_fG_0, ev_fG_1, ev_fG_2, ev_fG_3, ev_fG_4, ev_fG_5, ev_fG_6, ev_fG_7, ev_fG_8, ev_fS_0, ev_fS_1, ev_fS_2, ev_fS_3, ev_fS_4, ev_fS_5, ev_fS_6, ev_fS_7, ev_fS_8, ev_isO_0, ev_isO_1, ev_isO_2, ev_isO_3, ev_isO_4, ev_isO_5, ev_isO_6, ev_isO_7, ev_isO_8, ev_z0, ev_z1, ev_z2, eq_self, ev_ofN, show ¬ (1 : Int32) = 0 from by decide, show ¬ (2 : Int32) = 0 from by decide, show ¬ (2 : Int32) = 1 from by decide, show ¬ (0 : Int32) = 1 from by decide, show ¬ (0 : Int32) = 2 from by decide, show ¬ (1 : Int32) = 2 from by decide, show ¬ (0 : Int32) = -1 from by decide, show (0 : Int32) ≤ 1 from by decide, show (1 : Int32).toNatClampNeg = 1 from rfl, show (0 : Nat) < 2 from by omega, show (1 : Nat) < 2 from by omega, not_true_eq_false, ne_eq, not_false_eq_true, hs1.1.1, hs1.1.2, hs1.2.1.1, hs1.2.1.2, hs1.2.2.1.1, hs1.2.2.1.2, hs1.2.2.2.1, hs1.2.2.2.2, hk13]
  refine MM_ask hm1 hx1 hA (fun hb H2 hq => ?_) (fun a ha e hb H2 hq => ?_) (fun a ha e hb H2 n2 q2 hq => ?_)
  · skip
    have ek : k_ask G v1 = (1, 0, G) := by
      unfold k_ask
      rw [if_pos hb]
    rw [ek] at hM1
    simp (disch := omega) only [t_L_law_1204, t_L_law_1205, t_L_law_1206, t_L_law_1208, t_L_law_1209, t_L_law_1210, t_L_law_1211, t_L_law_1212, t_L_law_1215, t_L_law_1217, t_L_law_1218, t_L_law_1219, t_L_law_1221, t_L_law_1222, t_L_law_1223, t_L_law_1224, t_L_law_1227, t_L_law_1229, ↓reduceIte, ev_k_i, ev_k_r, ev_k_l, ev_k_J, ev_k_n, ev_kr_1, ev_kr_0, ev_isK_y, ev_aG_y, ev_aS_y, ev_aN_y, ev_inA_0, ev_isA_0, ev_ft_I, ev_ft_0, ev_ft_1, ev_ft_o, ev_ft_a, ev_nb_0, ev_nb_1, and_true, true_and, if_true, if_false, not_true_eq_false, not_false_eq_true, nI_1, ev_fG_0, ev_fG_1, ev_fG_2, ev_fG_3, ev_fG_4, ev_fG_5, ev_fG_6, ev_fG_7, ev_fG_8, ev_fS_0, ev_fS_1, ev_fS_2, ev_fS_3, ev_fS_4, ev_fS_5, ev_fS_6, ev_fS_7, ev_fS_8, ev_isO_0, ev_isO_1, ev_isO_2, ev_isO_3, ev_isO_4, ev_isO_5, ev_isO_6, ev_isO_7, ev_isO_8, ev_z0, ev_z1, ev_z2, eq_self, ev_ofN, show ¬ (1 : Int32) = 0 from by decide, show ¬ (2 : Int32) = 0 from by decide, show ¬ (2 : Int32) = 1 from by decide, show ¬ (0 : Int32) = 1 from by decide, show ¬ (0 : Int32) = 2 from by decide, show ¬ (1 : Int32) = 2 from by decide, show ¬ (0 : Int32) = -1 from by decide, show (0 : Int32) ≤ 1 from by decide, show (1 : Int32).toNatClampNeg = 1 from rfl, show (0 : Nat) < 2 from by omega, show (1 : Nat) < 2 from by omega, not_true_eq_false, ne_eq, not_false_eq_true, hs1.1.1, hs1.1.2, hs1.2.1.1, hs1.2.1.2, hs1.2.2.1.1, hs1.2.2.1.2, hs1.2.2.2.1, hs1.2.2.2.2, hk13]
    have b2 := hq.2.2.2
    exact c _ _ H2 _ _ _ _ (jM_ref2 hM1 rfl hq hr1 hA hl) (by omega) (by omega) (by omega) (by omega)
  · skip
    subst e
    have ek : k_ask G (nI a) = (2, 0, G) := by
      unfold k_ask
      rw [if_neg (no_ix ha (by omega)), if_pos (hl.1.symm.trans hb)]
    rw [ek] at hM1
    simp (disch := omega) only [t_L_law_1204, t_L_law_1205, t_L_law_1206, t_L_law_1208, t_L_law_1209, t_L_law_1210, t_L_law_1211, t_L_law_1212, t_L_law_1215, t_L_law_1217, t_L_law_1218, t_L_law_1219, t_L_law_1221, t_L_law_1222, t_L_law_1223, t_L_law_1224, t_L_law_1227, t_L_law_1229, ↓reduceIte, ev_k_i, ev_k_r, ev_k_l, ev_k_J, ev_k_n, ev_kr_1, ev_kr_0, ev_isK_y, ev_aG_y, ev_aS_y, ev_aN_y, ev_inA_0, ev_isA_0, ev_ft_I, ev_ft_0, ev_ft_1, ev_ft_o, ev_ft_a, ev_nb_0, ev_nb_1, and_true, true_and, if_true, if_false, not_true_eq_false, not_false_eq_true, nI_1, ev_fG_0, ev_fG_1, ev_fG_2, ev_fG_3, ev_fG_4, ev_fG_5, ev_fG_6, ev_fG_7, ev_fG_8, ev_fS_0, ev_fS_1, ev_fS_2, ev_fS_3, ev_fS_4, ev_fS_5, ev_fS_6, ev_fS_7, ev_fS_8, ev_isO_0, ev_isO_1, ev_isO_2, ev_isO_3, ev_isO_4, ev_isO_5, ev_isO_6, ev_isO_7, ev_isO_8, ev_z0, ev_z1, ev_z2, eq_self, ev_ofN, show ¬ (1 : Int32) = 0 from by decide, show ¬ (2 : Int32) = 0 from by decide, show ¬ (2 : Int32) = 1 from by decide, show ¬ (0 : Int32) = 1 from by decide, show ¬ (0 : Int32) = 2 from by decide, show ¬ (1 : Int32) = 2 from by decide, show ¬ (0 : Int32) = -1 from by decide, show (0 : Int32) ≤ 1 from by decide, show (1 : Int32).toNatClampNeg = 1 from rfl, show (0 : Nat) < 2 from by omega, show (1 : Nat) < 2 from by omega, not_true_eq_false, ne_eq, not_false_eq_true, hs1.1.1, hs1.1.2, hs1.2.1.1, hs1.2.1.2, hs1.2.2.1.1, hs1.2.2.1.2, hs1.2.2.2.1, hs1.2.2.2.2, hk13]
    have b2 := hq.2.2.2
    exact c _ _ H2 _ _ _ _ (jM_ref2 hM1 rfl hq hr1 hA hl) (by omega) (by omega) (by omega) (by omega)
  · skip
    subst e
    have ek : k_ask G (nI a) = (0, (pk_hits G.2.2.1 (nI a) (nI G.2.2.2.1.2.2) 6 0 0), pg_ask G (nI a)) := by
      unfold k_ask
      rw [if_neg (no_ix ha (by omega)), if_neg (fun z => by omega)]
    rw [ek] at hM1
    simp (disch := omega) only [t_L_law_1204, t_L_law_1205, t_L_law_1206, t_L_law_1208, t_L_law_1209, t_L_law_1210, t_L_law_1211, t_L_law_1212, t_L_law_1215, t_L_law_1217, t_L_law_1218, t_L_law_1219, t_L_law_1221, t_L_law_1222, t_L_law_1223, t_L_law_1224, t_L_law_1227, t_L_law_1229, ↓reduceIte, ev_k_i, ev_k_r, ev_k_l, ev_k_J, ev_k_n, ev_kr_1, ev_kr_0, ev_isK_y, ev_aG_y, ev_aS_y, ev_aN_y, ev_inA_0, ev_isA_0, ev_ft_I, ev_ft_0, ev_ft_1, ev_ft_o, ev_ft_a, ev_nb_0, ev_nb_1, and_true, true_and, if_true, if_false, not_true_eq_false, not_false_eq_true, nI_1, ev_fG_0, ev_fG_1, ev_fG_2, ev_fG_3, ev_fG_4, ev_fG_5, ev_fG_6, ev_fG_7, ev_fG_8, ev_fS_0, ev_fS_1, ev_fS_2, ev_fS_3, ev_fS_4, ev_fS_5, ev_fS_6, ev_fS_7, ev_fS_8, ev_isO_0, ev_isO_1, ev_isO_2, ev_isO_3, ev_isO_4, ev_isO_5, ev_isO_6, ev_isO_7, ev_isO_8, ev_z0, ev_z1, ev_z2, eq_self, ev_ofN, show ¬ (1 : Int32) = 0 from by decide, show ¬ (2 : Int32) = 0 from by decide, show ¬ (2 : Int32) = 1 from by decide, show ¬ (0 : Int32) = 1 from by decide, show ¬ (0 : Int32) = 2 from by decide, show ¬ (1 : Int32) = 2 from by decide, show ¬ (0 : Int32) = -1 from by decide, show (0 : Int32) ≤ 1 from by decide, show (1 : Int32).toNatClampNeg = 1 from rfl, show (0 : Nat) < 2 from by omega, show (1 : Nat) < 2 from by omega, not_true_eq_false, ne_eq, not_false_eq_true, hs1.1.1, hs1.1.2, hs1.2.1.1, hs1.2.1.2, hs1.2.2.1.1, hs1.2.2.1.2, hs1.2.2.2.1, hs1.2.2.2.2, hk13]
    have b2 := hq.2.2.2
    exact c _ _ H2 _ _ _ _ (jM_ref2 hM1 rfl hq hr1 (m_ax_app hA ha hb) (jR_ask hl hJ.1 ha hb)) (by omega) (by omega) (by omega) (by omega)
theorem LP_askRow (hS : jS X S i v0 v1 v2 v3) (h : jM X zf x G G As H n) {a5 a6 : Value} (c : jC X zf x S i n q P) : ev_ok (ev_TT X) 309 1232 [.ref S, .ref x, .ref (x + 57), .ref (x + 68), .int (nI i), a5, a6] [] H n q P := by
  have hn := jM_n h
  have hs := hS H (jM_low h)
  have h0 := h
  obtain ⟨hc, hJ, -, ⟨r, ow, hr, hm⟩, hx, hA, hl, ho, hxs⟩ := h0
  have hln := hl.1
  simp (disch := omega) only [t_L_law_1232, t_L_law_1233, t_L_law_1234, t_L_law_1236, t_L_law_1237, t_L_law_1238, t_L_law_1239, t_L_law_1240, t_L_law_1242, t_L_law_1243, t_L_law_1244, t_L_law_1245, t_L_law_1246, t_L_law_1248, t_L_law_1249, t_L_law_1250, t_L_law_1251, t_L_law_1252, t_L_law_1255, t_L_law_1257, t_L_law_1258, t_L_law_1259, t_L_law_1261, t_L_law_1262, t_L_law_1263, t_L_law_1264, t_L_law_1265, t_L_law_1267, t_L_law_1268, t_L_law_1269, t_L_law_1270, t_L_law_1271, t_L_law_1273, t_L_law_1274, t_L_law_1275, t_L_law_1276, t_L_law_1279, t_L_law_1281, ↓reduceIte, ev_k_i, ev_k_r, ev_k_l, ev_k_J, ev_k_n, ev_kr_1, ev_kr_0, ev_isK_y, ev_aG_y, ev_aS_y, ev_aN_y, ev_inA_0, ev_isA_0, ev_ft_I, ev_ft_0, ev_ft_1, ev_ft_o, ev_ft_a, ev_nb_0, ev_nb_1, and_true, true_and, if_true, if_false, not_true_eq_false, not_false_eq_true, nI_1, ev_fG_0, ev_fG_1, ev_fG_2, ev_fG_3, ev_fG_4, ev_fG_5, ev_fG_6, ev_fG_7, ev_fG_8, ev_fS_0, ev_fS_1, ev_fS_2, ev_fS_3, ev_fS_4, ev_fS_5, ev_fS_6, ev_fS_7, ev_fS_8, ev_isO_0, ev_isO_1, ev_isO_2, ev_isO_3, ev_isO_4, ev_isO_5, ev_isO_6, ev_isO_7, ev_isO_8, ev_z0, ev_z1, ev_z2, eq_self, ev_ofN, show ¬ (1 : Int32) = 0 from by decide, show ¬ (2 : Int32) = 0 from by decide, show ¬ (2 : Int32) = 1 from by decide, show ¬ (0 : Int32) = 1 from by decide, show ¬ (0 : Int32) = 2 from by decide, show ¬ (1 : Int32) = 2 from by decide, show ¬ (0 : Int32) = -1 from by decide, show (0 : Int32) ≤ 1 from by decide, show (1 : Int32).toNatClampNeg = 1 from rfl, show (0 : Nat) < 2 from by omega, show (1 : Nat) < 2 from by omega, not_true_eq_false, ne_eq, not_false_eq_true, hs.1.1, hs.1.2, hs.2.1.1, hs.2.1.2, hs.2.2.1.1, hs.2.2.1.2, hs.2.2.2.1, hs.2.2.2.2]
  refine LW_askRow hc hJ.1 (by omega) (by omega) ho (jM_z h) fun H1 n1 q1 hp => ?_
  have hM1 := jM_class h hp.1 (JK_askRow hJ (f := v1) (st := v2) (mn := v3)) hp.2.1 (by obtain ⟨l, s, h1, -⟩ := hp.2.2.1; exact ⟨l, s, h1⟩) hp.2.2.2.1 hp.2.2.2.2.1
  have b1 := hp.2.2.2.2
  have hs1 := hS H1 (jM_low hM1)
  have h1 := hM1
  obtain ⟨hc1, hJ1, -, ⟨r1, ow1, hr1, hm1⟩, hx1, -, -, -, -⟩ := h1
  have hk13 := m_k13 hm1
  simp (disch := omega) only [t_L_law_1232, t_L_law_1233, t_L_law_1234, t_L_law_1236, t_L_law_1237, t_L_law_1238, t_L_law_1239, t_L_law_1240, t_L_law_1242, t_L_law_1243, t_L_law_1244, t_L_law_1245, t_L_law_1246, t_L_law_1248, t_L_law_1249, t_L_law_1250, t_L_law_1251, t_L_law_1252, t_L_law_1255, t_L_law_1257, t_L_law_1258, t_L_law_1259, t_L_law_1261, t_L_law_1262, t_L_law_1263, t_L_law_1264, t_L_law_1265, t_L_law_1267, t_L_law_1268, t_L_law_1269, t_L_law_1270, t_L_law_1271, t_L_law_1273, t_L_law_1274, t_L_law_1275, t_L_law_1276, t_L_law_1279, t_L_law_1281, ↓reduceIte, ev_k_i, ev_k_r, ev_k_l, ev_k_J, ev_k_n, ev_kr_1, ev_kr_0, ev_isK_y, ev_aG_y, ev_aS_y, ev_aN_y, ev_inA_0, ev_isA_0, ev_ft_I, ev_ft_0, ev_ft_1, ev_ft_o, ev_ft_a, ev_nb_0, ev_nb_1, and_true, true_and, if_true, if_false, not_true_eq_false, not_false_eq_true, nI_1, ev_fG_0, ev_fG_1, ev_fG_2, ev_fG_3, ev_fG_4, ev_fG_5, ev_fG_6, ev_fG_7, ev_fG_8, ev_fS_0, ev_fS_1, ev_fS_2, ev_fS_3, ev_fS_4, ev_fS_5, ev_fS_6, ev_fS_7, ev_fS_8, ev_isO_0, ev_isO_1, ev_isO_2, ev_isO_3, ev_isO_4, ev_isO_5, ev_isO_6, ev_isO_7, ev_isO_8, ev_z0, ev_z1, ev_z2, eq_self, ev_ofN, show ¬ (1 : Int32) = 0 from by decide, show ¬ (2 : Int32) = 0 from by decide, show ¬ (2 : Int32) = 1 from by decide, show ¬ (0 : Int32) = 1 from by decide, show ¬ (0 : Int32) = 2 from by decide, show ¬ (1 : Int32) = 2 from by decide, show ¬ (0 : Int32) = -1 from by decide, show (0 : Int32) ≤ 1 from by decide, show (1 : Int32).toNatClampNeg = 1 from rfl, show (0 : Nat) < 2 from by omega, show (1 : Nat) < 2 from by omega, not_true_eq_false, ne_eq, not_false_eq_true, hs1.1.1, hs1.1.2, hs1.2.1.1, hs1.2.1.2, hs1.2.2.1.1, hs1.2.2.1.2, hs1.2.2.2.1, hs1.2.2.2.2, hk13]
  refine MM_askRow hm1 hx1 hA (fun hb H2 hq => ?_) (fun a b d ha e hb e2 hd e3 hle H2 hq => ?_) (fun a b d ha e hb e2 hd e3 hle H2 n2 q2 hq => ?_)
  · skip
    have ek : k_askRow G v1 v2 v3 = (1, 0, G) := by
      unfold k_askRow
      rw [if_pos hb]
    rw [ek] at hM1
    simp (disch := omega) only [t_L_law_1232, t_L_law_1233, t_L_law_1234, t_L_law_1236, t_L_law_1237, t_L_law_1238, t_L_law_1239, t_L_law_1240, t_L_law_1242, t_L_law_1243, t_L_law_1244, t_L_law_1245, t_L_law_1246, t_L_law_1248, t_L_law_1249, t_L_law_1250, t_L_law_1251, t_L_law_1252, t_L_law_1255, t_L_law_1257, t_L_law_1258, t_L_law_1259, t_L_law_1261, t_L_law_1262, t_L_law_1263, t_L_law_1264, t_L_law_1265, t_L_law_1267, t_L_law_1268, t_L_law_1269, t_L_law_1270, t_L_law_1271, t_L_law_1273, t_L_law_1274, t_L_law_1275, t_L_law_1276, t_L_law_1279, t_L_law_1281, ↓reduceIte, ev_k_i, ev_k_r, ev_k_l, ev_k_J, ev_k_n, ev_kr_1, ev_kr_0, ev_isK_y, ev_aG_y, ev_aS_y, ev_aN_y, ev_inA_0, ev_isA_0, ev_ft_I, ev_ft_0, ev_ft_1, ev_ft_o, ev_ft_a, ev_nb_0, ev_nb_1, and_true, true_and, if_true, if_false, not_true_eq_false, not_false_eq_true, nI_1, ev_fG_0, ev_fG_1, ev_fG_2, ev_fG_3, ev_fG_4, ev_fG_5, ev_fG_6, ev_fG_7, ev_fG_8, ev_fS_0, ev_fS_1, ev_fS_2, ev_fS_3, ev_fS_4, ev_fS_5, ev_fS_6, ev_fS_7, ev_fS_8, ev_isO_0, ev_isO_1, ev_isO_2, ev_isO_3, ev_isO_4, ev_isO_5, ev_isO_6, ev_isO_7, ev_isO_8, ev_z0, ev_z1, ev_z2, eq_self, ev_ofN, show ¬ (1 : Int32) = 0 from by decide, show ¬ (2 : Int32) = 0 from by decide, show ¬ (2 : Int32) = 1 from by decide, show ¬ (0 : Int32) = 1 from by decide, show ¬ (0 : Int32) = 2 from by decide, show ¬ (1 : Int32) = 2 from by decide, show ¬ (0 : Int32) = -1 from by decide, show (0 : Int32) ≤ 1 from by decide, show (1 : Int32).toNatClampNeg = 1 from rfl, show (0 : Nat) < 2 from by omega, show (1 : Nat) < 2 from by omega, not_true_eq_false, ne_eq, not_false_eq_true, hs1.1.1, hs1.1.2, hs1.2.1.1, hs1.2.1.2, hs1.2.2.1.1, hs1.2.2.1.2, hs1.2.2.2.1, hs1.2.2.2.2, hk13]
    have b2 := hq.2.2.2
    exact c _ _ H2 _ _ _ _ (jM_ref2 hM1 rfl hq hr1 hA hl) (by omega) (by omega) (by omega) (by omega)
  · skip
    subst e
    subst e2
    subst e3
    have ek : k_askRow G (nI a) (nI b) (nI (d + 1)) = (2, 0, G) := by
      unfold k_askRow
      rw [nI_clamp (n := d + 1) (by omega), if_neg (fun z => z.elim (no_ix ha (by omega)) (fun z => z.elim (no_ix hb (by omega)) (no_mn hd))), if_pos (by omega)]
    rw [ek] at hM1
    simp (disch := omega) only [t_L_law_1232, t_L_law_1233, t_L_law_1234, t_L_law_1236, t_L_law_1237, t_L_law_1238, t_L_law_1239, t_L_law_1240, t_L_law_1242, t_L_law_1243, t_L_law_1244, t_L_law_1245, t_L_law_1246, t_L_law_1248, t_L_law_1249, t_L_law_1250, t_L_law_1251, t_L_law_1252, t_L_law_1255, t_L_law_1257, t_L_law_1258, t_L_law_1259, t_L_law_1261, t_L_law_1262, t_L_law_1263, t_L_law_1264, t_L_law_1265, t_L_law_1267, t_L_law_1268, t_L_law_1269, t_L_law_1270, t_L_law_1271, t_L_law_1273, t_L_law_1274, t_L_law_1275, t_L_law_1276, t_L_law_1279, t_L_law_1281, ↓reduceIte, ev_k_i, ev_k_r, ev_k_l, ev_k_J, ev_k_n, ev_kr_1, ev_kr_0, ev_isK_y, ev_aG_y, ev_aS_y, ev_aN_y, ev_inA_0, ev_isA_0, ev_ft_I, ev_ft_0, ev_ft_1, ev_ft_o, ev_ft_a, ev_nb_0, ev_nb_1, and_true, true_and, if_true, if_false, not_true_eq_false, not_false_eq_true, nI_1, ev_fG_0, ev_fG_1, ev_fG_2, ev_fG_3, ev_fG_4, ev_fG_5, ev_fG_6, ev_fG_7, ev_fG_8, ev_fS_0, ev_fS_1, ev_fS_2, ev_fS_3, ev_fS_4, ev_fS_5, ev_fS_6, ev_fS_7, ev_fS_8, ev_isO_0, ev_isO_1, ev_isO_2, ev_isO_3, ev_isO_4, ev_isO_5, ev_isO_6, ev_isO_7, ev_isO_8, ev_z0, ev_z1, ev_z2, eq_self, ev_ofN, show ¬ (1 : Int32) = 0 from by decide, show ¬ (2 : Int32) = 0 from by decide, show ¬ (2 : Int32) = 1 from by decide, show ¬ (0 : Int32) = 1 from by decide, show ¬ (0 : Int32) = 2 from by decide, show ¬ (1 : Int32) = 2 from by decide, show ¬ (0 : Int32) = -1 from by decide, show (0 : Int32) ≤ 1 from by decide, show (1 : Int32).toNatClampNeg = 1 from rfl, show (0 : Nat) < 2 from by omega, show (1 : Nat) < 2 from by omega, not_true_eq_false, ne_eq, not_false_eq_true, hs1.1.1, hs1.1.2, hs1.2.1.1, hs1.2.1.2, hs1.2.2.1.1, hs1.2.2.1.2, hs1.2.2.2.1, hs1.2.2.2.2, hk13]
    have b2 := hq.2.2.2
    exact c _ _ H2 _ _ _ _ (jM_ref2 hM1 rfl hq hr1 hA hl) (by omega) (by omega) (by omega) (by omega)
  · skip
    subst e
    subst e2
    subst e3
    have ek : k_askRow G (nI a) (nI b) (nI (d + 1)) = (0, (pk_rowh a b (d + 1) 0 G 0), pg_rowd a b (d + 1) 0 G) := by
      unfold k_askRow
      rw [nI_clamp (n := d + 1) (by omega), nI_clamp (n := a) (by omega), nI_clamp (n := b) (by omega), if_neg (fun z => z.elim (no_ix ha (by omega)) (fun z => z.elim (no_ix hb (by omega)) (no_mn hd))), if_neg (fun z => by omega)]
    rw [ek] at hM1
    simp (disch := omega) only [t_L_law_1232, t_L_law_1233, t_L_law_1234, t_L_law_1236, t_L_law_1237, t_L_law_1238, t_L_law_1239, t_L_law_1240, t_L_law_1242, t_L_law_1243, t_L_law_1244, t_L_law_1245, t_L_law_1246, t_L_law_1248, t_L_law_1249, t_L_law_1250, t_L_law_1251, t_L_law_1252, t_L_law_1255, t_L_law_1257, t_L_law_1258, t_L_law_1259, t_L_law_1261, t_L_law_1262, t_L_law_1263, t_L_law_1264, t_L_law_1265, t_L_law_1267, t_L_law_1268, t_L_law_1269, t_L_law_1270, t_L_law_1271, t_L_law_1273, t_L_law_1274, t_L_law_1275, t_L_law_1276, t_L_law_1279, t_L_law_1281, ↓reduceIte, ev_k_i, ev_k_r, ev_k_l, ev_k_J, ev_k_n, ev_kr_1, ev_kr_0, ev_isK_y, ev_aG_y, ev_aS_y, ev_aN_y, ev_inA_0, ev_isA_0, ev_ft_I, ev_ft_0, ev_ft_1, ev_ft_o, ev_ft_a, ev_nb_0, ev_nb_1, and_true, true_and, if_true, if_false, not_true_eq_false, not_false_eq_true, nI_1, ev_fG_0, ev_fG_1, ev_fG_2, ev_fG_3, ev_fG_4, ev_fG_5, ev_fG_6, ev_fG_7, ev_fG_8, ev_fS_0, ev_fS_1, ev_fS_2, ev_fS_3, ev_fS_4, ev_fS_5, ev_fS_6, ev_fS_7, ev_fS_8, ev_isO_0, ev_isO_1, ev_isO_2, ev_isO_3, ev_isO_4, ev_isO_5, ev_isO_6, ev_isO_7, ev_isO_8, ev_z0, ev_z1, ev_z2, eq_self, ev_ofN, show ¬ (1 : Int32) = 0 from by decide, show ¬ (2 : Int32) = 0 from by decide, show ¬ (2 : Int32) = 1 from by decide, show ¬ (0 : Int32) = 1 from by decide, show ¬ (0 : Int32) = 2 from by decide, show ¬ (1 : Int32) = 2 from by decide, show ¬ (0 : Int32) = -1 from by decide, show (0 : Int32) ≤ 1 from by decide, show (1 : Int32).toNatClampNeg = 1 from rfl, show (0 : Nat) < 2 from by omega, show (1 : Nat) < 2 from by omega, not_true_eq_false, ne_eq, not_false_eq_true, hs1.1.1, hs1.1.2, hs1.2.1.1, hs1.2.1.2, hs1.2.2.1.1, hs1.2.2.1.2, hs1.2.2.2.1, hs1.2.2.2.2, hk13]
    have b2 := hq.2.2.2
    exact c _ _ H2 _ _ _ _ (jM_ref2 hM1 (rowd_1 (d + 1) 0 G).1 hq (hr1.trans (rowd_1 (d + 1) 0 G).2.1.symm) (ms_row_ax (d + 1) 0 As hA hle).1 (jR_rowd (d + 1) 0 G As hl hJ.1 hle)) (by omega) (by omega) (by omega) (by omega)
theorem LP_depth (hS : jS X S i v0 v1 v2 v3) (h : jM X zf x G G As H n) {a5 a6 : Value} (c : jC X zf x S i n q P) : ev_ok (ev_TT X) 309 1360 [.ref S, .ref x, .ref (x + 57), .ref (x + 68), .int (nI i), a5, a6] [] H n q P := by
  have hn := jM_n h
  have hs := hS H (jM_low h)
  have h0 := h
  obtain ⟨hc, hJ, -, ⟨r, ow, hr, hm⟩, hx, hA, hl, ho, hxs⟩ := h0
  have hln := hl.1
  simp (disch := omega) only [t_L_law_1360, t_L_law_1361, t_L_law_1362, t_L_law_1364, t_L_law_1365, t_L_law_1366, t_L_law_1367, t_L_law_1368, t_L_law_1371, t_L_law_1373, t_L_law_1374, t_L_law_1375, t_L_law_1377, t_L_law_1378, t_L_law_1379, t_L_law_1380, t_L_law_1383, t_L_law_1385, ↓reduceIte, ev_k_i, ev_k_r, ev_k_l, ev_k_J, ev_k_n, ev_kr_1, ev_kr_0, ev_isK_y, ev_aG_y, ev_aS_y, ev_aN_y, ev_inA_0, ev_isA_0, ev_ft_I, ev_ft_0, ev_ft_1, ev_ft_o, ev_ft_a, ev_nb_0, ev_nb_1, and_true, true_and, if_true, if_false, not_true_eq_false, not_false_eq_true, nI_1, ev_fG_0, ev_fG_1, ev_fG_2, ev_fG_3, ev_fG_4, ev_fG_5, ev_fG_6, ev_fG_7, ev_fG_8, ev_fS_0, ev_fS_1, ev_fS_2, ev_fS_3, ev_fS_4, ev_fS_5, ev_fS_6, ev_fS_7, ev_fS_8, ev_isO_0, ev_isO_1, ev_isO_2, ev_isO_3, ev_isO_4, ev_isO_5, ev_isO_6, ev_isO_7, ev_isO_8, ev_z0, ev_z1, ev_z2, eq_self, ev_ofN, show ¬ (1 : Int32) = 0 from by decide, show ¬ (2 : Int32) = 0 from by decide, show ¬ (2 : Int32) = 1 from by decide, show ¬ (0 : Int32) = 1 from by decide, show ¬ (0 : Int32) = 2 from by decide, show ¬ (1 : Int32) = 2 from by decide, show ¬ (0 : Int32) = -1 from by decide, show (0 : Int32) ≤ 1 from by decide, show (1 : Int32).toNatClampNeg = 1 from rfl, show (0 : Nat) < 2 from by omega, show (1 : Nat) < 2 from by omega, not_true_eq_false, ne_eq, not_false_eq_true, hs.1.1, hs.1.2, hs.2.1.1, hs.2.1.2, hs.2.2.1.1, hs.2.2.1.2, hs.2.2.2.1, hs.2.2.2.2]
  refine LW_depth hc hJ.1 (by omega) (by omega) ho (jM_z h) fun H1 n1 q1 hp => ?_
  have hM1 := jM_class h hp.1 (by rw [KG_depth]; exact hJ) hp.2.1 (by obtain ⟨l, s, h1, -⟩ := hp.2.2.1; exact ⟨l, s, h1⟩) hp.2.2.2.1 hp.2.2.2.2.1
  have b1 := hp.2.2.2.2
  have hs1 := hS H1 (jM_low hM1)
  have h1 := hM1
  obtain ⟨hc1, hJ1, -, ⟨r1, ow1, hr1, hm1⟩, hx1, -, -, -, -⟩ := h1
  have hk13 := m_k13 hm1
  simp (disch := omega) only [t_L_law_1360, t_L_law_1361, t_L_law_1362, t_L_law_1364, t_L_law_1365, t_L_law_1366, t_L_law_1367, t_L_law_1368, t_L_law_1371, t_L_law_1373, t_L_law_1374, t_L_law_1375, t_L_law_1377, t_L_law_1378, t_L_law_1379, t_L_law_1380, t_L_law_1383, t_L_law_1385, ↓reduceIte, ev_k_i, ev_k_r, ev_k_l, ev_k_J, ev_k_n, ev_kr_1, ev_kr_0, ev_isK_y, ev_aG_y, ev_aS_y, ev_aN_y, ev_inA_0, ev_isA_0, ev_ft_I, ev_ft_0, ev_ft_1, ev_ft_o, ev_ft_a, ev_nb_0, ev_nb_1, and_true, true_and, if_true, if_false, not_true_eq_false, not_false_eq_true, nI_1, ev_fG_0, ev_fG_1, ev_fG_2, ev_fG_3, ev_fG_4, ev_fG_5, ev_fG_6, ev_fG_7, ev_fG_8, ev_fS_0, ev_fS_1, ev_fS_2, ev_fS_3, ev_fS_4, ev_fS_5, ev_fS_6, ev_fS_7, ev_fS_8, ev_isO_0, ev_isO_1, ev_isO_2, ev_isO_3, ev_isO_4, ev_isO_5, ev_isO_6, ev_isO_7, ev_isO_8, ev_z0, ev_z1, ev_z2, eq_self, ev_ofN, show ¬ (1 : Int32) = 0 from by decide, show ¬ (2 : Int32) = 0 from by decide, show ¬ (2 : Int32) = 1 from by decide, show ¬ (0 : Int32) = 1 from by decide, show ¬ (0 : Int32) = 2 from by decide, show ¬ (1 : Int32) = 2 from by decide, show ¬ (0 : Int32) = -1 from by decide, show (0 : Int32) ≤ 1 from by decide, show (1 : Int32).toNatClampNeg = 1 from rfl, show (0 : Nat) < 2 from by omega, show (1 : Nat) < 2 from by omega, not_true_eq_false, ne_eq, not_false_eq_true, hs1.1.1, hs1.1.2, hs1.2.1.1, hs1.2.1.2, hs1.2.2.1.1, hs1.2.2.1.2, hs1.2.2.2.1, hs1.2.2.2.2, hk13]
  refine MM_depth hm1 hx1 hA (fun hb H2 hq => ?_) (fun a ha e H2 hq => ?_)
  · skip
    simp (disch := omega) only [t_L_law_1360, t_L_law_1361, t_L_law_1362, t_L_law_1364, t_L_law_1365, t_L_law_1366, t_L_law_1367, t_L_law_1368, t_L_law_1371, t_L_law_1373, t_L_law_1374, t_L_law_1375, t_L_law_1377, t_L_law_1378, t_L_law_1379, t_L_law_1380, t_L_law_1383, t_L_law_1385, ↓reduceIte, ev_k_i, ev_k_r, ev_k_l, ev_k_J, ev_k_n, ev_kr_1, ev_kr_0, ev_isK_y, ev_aG_y, ev_aS_y, ev_aN_y, ev_inA_0, ev_isA_0, ev_ft_I, ev_ft_0, ev_ft_1, ev_ft_o, ev_ft_a, ev_nb_0, ev_nb_1, and_true, true_and, if_true, if_false, not_true_eq_false, not_false_eq_true, nI_1, ev_fG_0, ev_fG_1, ev_fG_2, ev_fG_3, ev_fG_4, ev_fG_5, ev_fG_6, ev_fG_7, ev_fG_8, ev_fS_0, ev_fS_1, ev_fS_2, ev_fS_3, ev_fS_4, ev_fS_5, ev_fS_6, ev_fS_7, ev_fS_8, ev_isO_0, ev_isO_1, ev_isO_2, ev_isO_3, ev_isO_4, ev_isO_5, ev_isO_6, ev_isO_7, ev_isO_8, ev_z0, ev_z1, ev_z2, eq_self, ev_ofN, show ¬ (1 : Int32) = 0 from by decide, show ¬ (2 : Int32) = 0 from by decide, show ¬ (2 : Int32) = 1 from by decide, show ¬ (0 : Int32) = 1 from by decide, show ¬ (0 : Int32) = 2 from by decide, show ¬ (1 : Int32) = 2 from by decide, show ¬ (0 : Int32) = -1 from by decide, show (0 : Int32) ≤ 1 from by decide, show (1 : Int32).toNatClampNeg = 1 from rfl, show (0 : Nat) < 2 from by omega, show (1 : Nat) < 2 from by omega, not_true_eq_false, ne_eq, not_false_eq_true, hs1.1.1, hs1.1.2, hs1.2.1.1, hs1.2.1.2, hs1.2.2.1.1, hs1.2.2.1.2, hs1.2.2.2.1, hs1.2.2.2.2, hk13]
    have b2 := hq.2.2.2
    exact c _ _ H2 _ _ _ _ (jM_same hM1 hq hr1 KG_depth) (by omega) (by omega) (by omega) (by omega)
  · skip
    simp (disch := omega) only [t_L_law_1360, t_L_law_1361, t_L_law_1362, t_L_law_1364, t_L_law_1365, t_L_law_1366, t_L_law_1367, t_L_law_1368, t_L_law_1371, t_L_law_1373, t_L_law_1374, t_L_law_1375, t_L_law_1377, t_L_law_1378, t_L_law_1379, t_L_law_1380, t_L_law_1383, t_L_law_1385, ↓reduceIte, ev_k_i, ev_k_r, ev_k_l, ev_k_J, ev_k_n, ev_kr_1, ev_kr_0, ev_isK_y, ev_aG_y, ev_aS_y, ev_aN_y, ev_inA_0, ev_isA_0, ev_ft_I, ev_ft_0, ev_ft_1, ev_ft_o, ev_ft_a, ev_nb_0, ev_nb_1, and_true, true_and, if_true, if_false, not_true_eq_false, not_false_eq_true, nI_1, ev_fG_0, ev_fG_1, ev_fG_2, ev_fG_3, ev_fG_4, ev_fG_5, ev_fG_6, ev_fG_7, ev_fG_8, ev_fS_0, ev_fS_1, ev_fS_2, ev_fS_3, ev_fS_4, ev_fS_5, ev_fS_6, ev_fS_7, ev_fS_8, ev_isO_0, ev_isO_1, ev_isO_2, ev_isO_3, ev_isO_4, ev_isO_5, ev_isO_6, ev_isO_7, ev_isO_8, ev_z0, ev_z1, ev_z2, eq_self, ev_ofN, show ¬ (1 : Int32) = 0 from by decide, show ¬ (2 : Int32) = 0 from by decide, show ¬ (2 : Int32) = 1 from by decide, show ¬ (0 : Int32) = 1 from by decide, show ¬ (0 : Int32) = 2 from by decide, show ¬ (1 : Int32) = 2 from by decide, show ¬ (0 : Int32) = -1 from by decide, show (0 : Int32) ≤ 1 from by decide, show (1 : Int32).toNatClampNeg = 1 from rfl, show (0 : Nat) < 2 from by omega, show (1 : Nat) < 2 from by omega, not_true_eq_false, ne_eq, not_false_eq_true, hs1.1.1, hs1.1.2, hs1.2.1.1, hs1.2.1.2, hs1.2.2.1.1, hs1.2.2.1.2, hs1.2.2.2.1, hs1.2.2.2.2, hk13]
    have b2 := hq.2.2.2
    exact c _ _ H2 _ _ _ _ (jM_same hM1 hq hr1 KG_depth) (by omega) (by omega) (by omega) (by omega)
theorem LP_kept (hS : jS X S i v0 v1 v2 v3) (h : jM X zf x G G As H n) (hD : ev_DG X) (hK : ev_KK X) {a5 a6 : Value} (c : jC X zf x S i n q P) : ev_ok (ev_TT X) 309 1401 [.ref S, .ref x, .ref (x + 57), .ref (x + 68), .int (nI i), a5, a6] [] H n q P := by
  have hn := jM_n h
  have hs := hS H (jM_low h)
  have h0 := h
  obtain ⟨hc, hJ, -, ⟨r, ow, hr, hm⟩, hx, hA, hl, ho, hxs⟩ := h0
  have hln := hl.1
  simp (disch := omega) only [t_L_law_1401, t_L_law_1402, t_L_law_1403, t_L_law_1405, t_L_law_1406, t_L_law_1407, t_L_law_1408, t_L_law_1409, t_L_law_1412, t_L_law_1414, t_L_law_1415, t_L_law_1416, t_L_law_1418, t_L_law_1419, t_L_law_1420, t_L_law_1421, t_L_law_1424, t_L_law_1426, ↓reduceIte, ev_k_i, ev_k_r, ev_k_l, ev_k_J, ev_k_n, ev_kr_1, ev_kr_0, ev_isK_y, ev_aG_y, ev_aS_y, ev_aN_y, ev_inA_0, ev_isA_0, ev_ft_I, ev_ft_0, ev_ft_1, ev_ft_o, ev_ft_a, ev_nb_0, ev_nb_1, and_true, true_and, if_true, if_false, not_true_eq_false, not_false_eq_true, nI_1, ev_fG_0, ev_fG_1, ev_fG_2, ev_fG_3, ev_fG_4, ev_fG_5, ev_fG_6, ev_fG_7, ev_fG_8, ev_fS_0, ev_fS_1, ev_fS_2, ev_fS_3, ev_fS_4, ev_fS_5, ev_fS_6, ev_fS_7, ev_fS_8, ev_isO_0, ev_isO_1, ev_isO_2, ev_isO_3, ev_isO_4, ev_isO_5, ev_isO_6, ev_isO_7, ev_isO_8, ev_z0, ev_z1, ev_z2, eq_self, ev_ofN, show ¬ (1 : Int32) = 0 from by decide, show ¬ (2 : Int32) = 0 from by decide, show ¬ (2 : Int32) = 1 from by decide, show ¬ (0 : Int32) = 1 from by decide, show ¬ (0 : Int32) = 2 from by decide, show ¬ (1 : Int32) = 2 from by decide, show ¬ (0 : Int32) = -1 from by decide, show (0 : Int32) ≤ 1 from by decide, show (1 : Int32).toNatClampNeg = 1 from rfl, show (0 : Nat) < 2 from by omega, show (1 : Nat) < 2 from by omega, not_true_eq_false, ne_eq, not_false_eq_true, hs.1.1, hs.1.2, hs.2.1.1, hs.2.1.2, hs.2.2.1.1, hs.2.2.1.2, hs.2.2.2.1, hs.2.2.2.2]
  refine LW_kept hc hJ.1 hD hxs (jM_low h) (by omega) (by omega) ho (jM_z h) fun H1 n1 q1 hp => ?_
  have hM1 := jM_class h hp.1 (by rw [KG_kept]; exact hJ) hp.2.1 (by obtain ⟨l, s, h1, -⟩ := hp.2.2.1; exact ⟨l, s, h1⟩) hp.2.2.2.1 hp.2.2.2.2.1
  have b1 := hp.2.2.2.2
  have hs1 := hS H1 (jM_low hM1)
  have h1 := hM1
  obtain ⟨hc1, hJ1, -, ⟨r1, ow1, hr1, hm1⟩, hx1, -, -, -, -⟩ := h1
  have hk13 := m_k13 hm1
  simp (disch := omega) only [t_L_law_1401, t_L_law_1402, t_L_law_1403, t_L_law_1405, t_L_law_1406, t_L_law_1407, t_L_law_1408, t_L_law_1409, t_L_law_1412, t_L_law_1414, t_L_law_1415, t_L_law_1416, t_L_law_1418, t_L_law_1419, t_L_law_1420, t_L_law_1421, t_L_law_1424, t_L_law_1426, ↓reduceIte, ev_k_i, ev_k_r, ev_k_l, ev_k_J, ev_k_n, ev_kr_1, ev_kr_0, ev_isK_y, ev_aG_y, ev_aS_y, ev_aN_y, ev_inA_0, ev_isA_0, ev_ft_I, ev_ft_0, ev_ft_1, ev_ft_o, ev_ft_a, ev_nb_0, ev_nb_1, and_true, true_and, if_true, if_false, not_true_eq_false, not_false_eq_true, nI_1, ev_fG_0, ev_fG_1, ev_fG_2, ev_fG_3, ev_fG_4, ev_fG_5, ev_fG_6, ev_fG_7, ev_fG_8, ev_fS_0, ev_fS_1, ev_fS_2, ev_fS_3, ev_fS_4, ev_fS_5, ev_fS_6, ev_fS_7, ev_fS_8, ev_isO_0, ev_isO_1, ev_isO_2, ev_isO_3, ev_isO_4, ev_isO_5, ev_isO_6, ev_isO_7, ev_isO_8, ev_z0, ev_z1, ev_z2, eq_self, ev_ofN, show ¬ (1 : Int32) = 0 from by decide, show ¬ (2 : Int32) = 0 from by decide, show ¬ (2 : Int32) = 1 from by decide, show ¬ (0 : Int32) = 1 from by decide, show ¬ (0 : Int32) = 2 from by decide, show ¬ (1 : Int32) = 2 from by decide, show ¬ (0 : Int32) = -1 from by decide, show (0 : Int32) ≤ 1 from by decide, show (1 : Int32).toNatClampNeg = 1 from rfl, show (0 : Nat) < 2 from by omega, show (1 : Nat) < 2 from by omega, not_true_eq_false, ne_eq, not_false_eq_true, hs1.1.1, hs1.1.2, hs1.2.1.1, hs1.2.1.2, hs1.2.2.1.1, hs1.2.2.1.2, hs1.2.2.2.1, hs1.2.2.2.2, hk13]
  refine MM_kept hD hK hm1 hx1 hA (fun hb H2 s2 hq => ?_) (fun j hj e H2 s2 n2 q2 hq => ?_)
  · skip
    simp (disch := omega) only [t_L_law_1401, t_L_law_1402, t_L_law_1403, t_L_law_1405, t_L_law_1406, t_L_law_1407, t_L_law_1408, t_L_law_1409, t_L_law_1412, t_L_law_1414, t_L_law_1415, t_L_law_1416, t_L_law_1418, t_L_law_1419, t_L_law_1420, t_L_law_1421, t_L_law_1424, t_L_law_1426, ↓reduceIte, ev_k_i, ev_k_r, ev_k_l, ev_k_J, ev_k_n, ev_kr_1, ev_kr_0, ev_isK_y, ev_aG_y, ev_aS_y, ev_aN_y, ev_inA_0, ev_isA_0, ev_ft_I, ev_ft_0, ev_ft_1, ev_ft_o, ev_ft_a, ev_nb_0, ev_nb_1, and_true, true_and, if_true, if_false, not_true_eq_false, not_false_eq_true, nI_1, ev_fG_0, ev_fG_1, ev_fG_2, ev_fG_3, ev_fG_4, ev_fG_5, ev_fG_6, ev_fG_7, ev_fG_8, ev_fS_0, ev_fS_1, ev_fS_2, ev_fS_3, ev_fS_4, ev_fS_5, ev_fS_6, ev_fS_7, ev_fS_8, ev_isO_0, ev_isO_1, ev_isO_2, ev_isO_3, ev_isO_4, ev_isO_5, ev_isO_6, ev_isO_7, ev_isO_8, ev_z0, ev_z1, ev_z2, eq_self, ev_ofN, show ¬ (1 : Int32) = 0 from by decide, show ¬ (2 : Int32) = 0 from by decide, show ¬ (2 : Int32) = 1 from by decide, show ¬ (0 : Int32) = 1 from by decide, show ¬ (0 : Int32) = 2 from by decide, show ¬ (1 : Int32) = 2 from by decide, show ¬ (0 : Int32) = -1 from by decide, show (0 : Int32) ≤ 1 from by decide, show (1 : Int32).toNatClampNeg = 1 from rfl, show (0 : Nat) < 2 from by omega, show (1 : Nat) < 2 from by omega, not_true_eq_false, ne_eq, not_false_eq_true, hs1.1.1, hs1.1.2, hs1.2.1.1, hs1.2.1.2, hs1.2.2.1.1, hs1.2.2.1.2, hs1.2.2.2.1, hs1.2.2.2.2, hk13]
    have b2 := hq.2.2.2
    exact c _ _ H2 _ _ _ _ (jM_same hM1 hq hr1 KG_kept) (by omega) (by omega) (by omega) (by omega)
  · skip
    simp (disch := omega) only [t_L_law_1401, t_L_law_1402, t_L_law_1403, t_L_law_1405, t_L_law_1406, t_L_law_1407, t_L_law_1408, t_L_law_1409, t_L_law_1412, t_L_law_1414, t_L_law_1415, t_L_law_1416, t_L_law_1418, t_L_law_1419, t_L_law_1420, t_L_law_1421, t_L_law_1424, t_L_law_1426, ↓reduceIte, ev_k_i, ev_k_r, ev_k_l, ev_k_J, ev_k_n, ev_kr_1, ev_kr_0, ev_isK_y, ev_aG_y, ev_aS_y, ev_aN_y, ev_inA_0, ev_isA_0, ev_ft_I, ev_ft_0, ev_ft_1, ev_ft_o, ev_ft_a, ev_nb_0, ev_nb_1, and_true, true_and, if_true, if_false, not_true_eq_false, not_false_eq_true, nI_1, ev_fG_0, ev_fG_1, ev_fG_2, ev_fG_3, ev_fG_4, ev_fG_5, ev_fG_6, ev_fG_7, ev_fG_8, ev_fS_0, ev_fS_1, ev_fS_2, ev_fS_3, ev_fS_4, ev_fS_5, ev_fS_6, ev_fS_7, ev_fS_8, ev_isO_0, ev_isO_1, ev_isO_2, ev_isO_3, ev_isO_4, ev_isO_5, ev_isO_6, ev_isO_7, ev_isO_8, ev_z0, ev_z1, ev_z2, eq_self, ev_ofN, show ¬ (1 : Int32) = 0 from by decide, show ¬ (2 : Int32) = 0 from by decide, show ¬ (2 : Int32) = 1 from by decide, show ¬ (0 : Int32) = 1 from by decide, show ¬ (0 : Int32) = 2 from by decide, show ¬ (1 : Int32) = 2 from by decide, show ¬ (0 : Int32) = -1 from by decide, show (0 : Int32) ≤ 1 from by decide, show (1 : Int32).toNatClampNeg = 1 from rfl, show (0 : Nat) < 2 from by omega, show (1 : Nat) < 2 from by omega, not_true_eq_false, ne_eq, not_false_eq_true, hs1.1.1, hs1.1.2, hs1.2.1.1, hs1.2.1.2, hs1.2.2.1.1, hs1.2.2.1.2, hs1.2.2.2.1, hs1.2.2.2.2, hk13]
    have b2 := hq.2.2.2
    exact c _ _ H2 _ _ _ _ (jM_same hM1 hq hr1 KG_kept) (by omega) (by omega) (by omega) (by omega)
theorem LP_keeps (hS : jS X S i v0 v1 v2 v3) (h : jM X zf x G G As H n) {a5 a6 : Value} (c : jC X zf x S i n q P) : ev_ok (ev_TT X) 309 1429 [.ref S, .ref x, .ref (x + 57), .ref (x + 68), .int (nI i), a5, a6] [] H n q P := by
  have hn := jM_n h
  have hs := hS H (jM_low h)
  have h0 := h
  obtain ⟨hc, hJ, -, ⟨r, ow, hr, hm⟩, hx, hA, hl, ho, hxs⟩ := h0
  have hln := hl.1
  simp (disch := omega) only [t_L_law_1429, t_L_law_1430, t_L_law_1431, t_L_law_1433, t_L_law_1434, t_L_law_1435, t_L_law_1436, t_L_law_1437, t_L_law_1439, t_L_law_1440, t_L_law_1441, t_L_law_1442, t_L_law_1443, t_L_law_1446, t_L_law_1448, t_L_law_1449, t_L_law_1450, t_L_law_1452, t_L_law_1453, t_L_law_1454, t_L_law_1455, t_L_law_1456, t_L_law_1458, t_L_law_1459, t_L_law_1460, t_L_law_1461, t_L_law_1464, t_L_law_1466, ↓reduceIte, ev_k_i, ev_k_r, ev_k_l, ev_k_J, ev_k_n, ev_kr_1, ev_kr_0, ev_isK_y, ev_aG_y, ev_aS_y, ev_aN_y, ev_inA_0, ev_isA_0, ev_ft_I, ev_ft_0, ev_ft_1, ev_ft_o, ev_ft_a, ev_nb_0, ev_nb_1, and_true, true_and, if_true, if_false, not_true_eq_false, not_false_eq_true, nI_1, ev_fG_0, ev_fG_1, ev_fG_2, ev_fG_3, ev_fG_4, ev_fG_5, ev_fG_6, ev_fG_7, ev_fG_8, ev_fS_0, ev_fS_1, ev_fS_2, ev_fS_3, ev_fS_4, ev_fS_5, ev_fS_6, ev_fS_7, ev_fS_8, ev_isO_0, ev_isO_1, ev_isO_2, ev_isO_3, ev_isO_4, ev_isO_5, ev_isO_6, ev_isO_7, ev_isO_8, ev_z0, ev_z1, ev_z2, eq_self, ev_ofN, show ¬ (1 : Int32) = 0 from by decide, show ¬ (2 : Int32) = 0 from by decide, show ¬ (2 : Int32) = 1 from by decide, show ¬ (0 : Int32) = 1 from by decide, show ¬ (0 : Int32) = 2 from by decide, show ¬ (1 : Int32) = 2 from by decide, show ¬ (0 : Int32) = -1 from by decide, show (0 : Int32) ≤ 1 from by decide, show (1 : Int32).toNatClampNeg = 1 from rfl, show (0 : Nat) < 2 from by omega, show (1 : Nat) < 2 from by omega, not_true_eq_false, ne_eq, not_false_eq_true, hs.1.1, hs.1.2, hs.2.1.1, hs.2.1.2, hs.2.2.1.1, hs.2.2.1.2, hs.2.2.2.1, hs.2.2.2.2]
  refine LW_keeps hc hJ.1 (by omega) (by omega) ho (jM_z h) fun H1 n1 q1 hp => ?_
  have hM1 := jM_class h hp.1 (by rw [KG_keeps]; exact hJ) hp.2.1 (by obtain ⟨l, s, h1, -⟩ := hp.2.2.1; exact ⟨l, s, h1⟩) hp.2.2.2.1 hp.2.2.2.2.1
  have b1 := hp.2.2.2.2
  have hs1 := hS H1 (jM_low hM1)
  have h1 := hM1
  obtain ⟨hc1, hJ1, -, ⟨r1, ow1, hr1, hm1⟩, hx1, -, -, -, -⟩ := h1
  have hk13 := m_k13 hm1
  simp (disch := omega) only [t_L_law_1429, t_L_law_1430, t_L_law_1431, t_L_law_1433, t_L_law_1434, t_L_law_1435, t_L_law_1436, t_L_law_1437, t_L_law_1439, t_L_law_1440, t_L_law_1441, t_L_law_1442, t_L_law_1443, t_L_law_1446, t_L_law_1448, t_L_law_1449, t_L_law_1450, t_L_law_1452, t_L_law_1453, t_L_law_1454, t_L_law_1455, t_L_law_1456, t_L_law_1458, t_L_law_1459, t_L_law_1460, t_L_law_1461, t_L_law_1464, t_L_law_1466, ↓reduceIte, ev_k_i, ev_k_r, ev_k_l, ev_k_J, ev_k_n, ev_kr_1, ev_kr_0, ev_isK_y, ev_aG_y, ev_aS_y, ev_aN_y, ev_inA_0, ev_isA_0, ev_ft_I, ev_ft_0, ev_ft_1, ev_ft_o, ev_ft_a, ev_nb_0, ev_nb_1, and_true, true_and, if_true, if_false, not_true_eq_false, not_false_eq_true, nI_1, ev_fG_0, ev_fG_1, ev_fG_2, ev_fG_3, ev_fG_4, ev_fG_5, ev_fG_6, ev_fG_7, ev_fG_8, ev_fS_0, ev_fS_1, ev_fS_2, ev_fS_3, ev_fS_4, ev_fS_5, ev_fS_6, ev_fS_7, ev_fS_8, ev_isO_0, ev_isO_1, ev_isO_2, ev_isO_3, ev_isO_4, ev_isO_5, ev_isO_6, ev_isO_7, ev_isO_8, ev_z0, ev_z1, ev_z2, eq_self, ev_ofN, show ¬ (1 : Int32) = 0 from by decide, show ¬ (2 : Int32) = 0 from by decide, show ¬ (2 : Int32) = 1 from by decide, show ¬ (0 : Int32) = 1 from by decide, show ¬ (0 : Int32) = 2 from by decide, show ¬ (1 : Int32) = 2 from by decide, show ¬ (0 : Int32) = -1 from by decide, show (0 : Int32) ≤ 1 from by decide, show (1 : Int32).toNatClampNeg = 1 from rfl, show (0 : Nat) < 2 from by omega, show (1 : Nat) < 2 from by omega, not_true_eq_false, ne_eq, not_false_eq_true, hs1.1.1, hs1.1.2, hs1.2.1.1, hs1.2.1.2, hs1.2.2.1.1, hs1.2.2.1.2, hs1.2.2.2.1, hs1.2.2.2.2, hk13]
  refine MM_keeps hm1 hx1 hA (fun hb H2 hq => ?_) (fun j a hj e ha e2 H2 hq => ?_)
  · skip
    simp (disch := omega) only [t_L_law_1429, t_L_law_1430, t_L_law_1431, t_L_law_1433, t_L_law_1434, t_L_law_1435, t_L_law_1436, t_L_law_1437, t_L_law_1439, t_L_law_1440, t_L_law_1441, t_L_law_1442, t_L_law_1443, t_L_law_1446, t_L_law_1448, t_L_law_1449, t_L_law_1450, t_L_law_1452, t_L_law_1453, t_L_law_1454, t_L_law_1455, t_L_law_1456, t_L_law_1458, t_L_law_1459, t_L_law_1460, t_L_law_1461, t_L_law_1464, t_L_law_1466, ↓reduceIte, ev_k_i, ev_k_r, ev_k_l, ev_k_J, ev_k_n, ev_kr_1, ev_kr_0, ev_isK_y, ev_aG_y, ev_aS_y, ev_aN_y, ev_inA_0, ev_isA_0, ev_ft_I, ev_ft_0, ev_ft_1, ev_ft_o, ev_ft_a, ev_nb_0, ev_nb_1, and_true, true_and, if_true, if_false, not_true_eq_false, not_false_eq_true, nI_1, ev_fG_0, ev_fG_1, ev_fG_2, ev_fG_3, ev_fG_4, ev_fG_5, ev_fG_6, ev_fG_7, ev_fG_8, ev_fS_0, ev_fS_1, ev_fS_2, ev_fS_3, ev_fS_4, ev_fS_5, ev_fS_6, ev_fS_7, ev_fS_8, ev_isO_0, ev_isO_1, ev_isO_2, ev_isO_3, ev_isO_4, ev_isO_5, ev_isO_6, ev_isO_7, ev_isO_8, ev_z0, ev_z1, ev_z2, eq_self, ev_ofN, show ¬ (1 : Int32) = 0 from by decide, show ¬ (2 : Int32) = 0 from by decide, show ¬ (2 : Int32) = 1 from by decide, show ¬ (0 : Int32) = 1 from by decide, show ¬ (0 : Int32) = 2 from by decide, show ¬ (1 : Int32) = 2 from by decide, show ¬ (0 : Int32) = -1 from by decide, show (0 : Int32) ≤ 1 from by decide, show (1 : Int32).toNatClampNeg = 1 from rfl, show (0 : Nat) < 2 from by omega, show (1 : Nat) < 2 from by omega, not_true_eq_false, ne_eq, not_false_eq_true, hs1.1.1, hs1.1.2, hs1.2.1.1, hs1.2.1.2, hs1.2.2.1.1, hs1.2.2.1.2, hs1.2.2.2.1, hs1.2.2.2.2, hk13]
    have b2 := hq.2.2.2
    exact c _ _ H2 _ _ _ _ (jM_same hM1 hq hr1 KG_keeps) (by omega) (by omega) (by omega) (by omega)
  · skip
    simp (disch := omega) only [t_L_law_1429, t_L_law_1430, t_L_law_1431, t_L_law_1433, t_L_law_1434, t_L_law_1435, t_L_law_1436, t_L_law_1437, t_L_law_1439, t_L_law_1440, t_L_law_1441, t_L_law_1442, t_L_law_1443, t_L_law_1446, t_L_law_1448, t_L_law_1449, t_L_law_1450, t_L_law_1452, t_L_law_1453, t_L_law_1454, t_L_law_1455, t_L_law_1456, t_L_law_1458, t_L_law_1459, t_L_law_1460, t_L_law_1461, t_L_law_1464, t_L_law_1466, ↓reduceIte, ev_k_i, ev_k_r, ev_k_l, ev_k_J, ev_k_n, ev_kr_1, ev_kr_0, ev_isK_y, ev_aG_y, ev_aS_y, ev_aN_y, ev_inA_0, ev_isA_0, ev_ft_I, ev_ft_0, ev_ft_1, ev_ft_o, ev_ft_a, ev_nb_0, ev_nb_1, and_true, true_and, if_true, if_false, not_true_eq_false, not_false_eq_true, nI_1, ev_fG_0, ev_fG_1, ev_fG_2, ev_fG_3, ev_fG_4, ev_fG_5, ev_fG_6, ev_fG_7, ev_fG_8, ev_fS_0, ev_fS_1, ev_fS_2, ev_fS_3, ev_fS_4, ev_fS_5, ev_fS_6, ev_fS_7, ev_fS_8, ev_isO_0, ev_isO_1, ev_isO_2, ev_isO_3, ev_isO_4, ev_isO_5, ev_isO_6, ev_isO_7, ev_isO_8, ev_z0, ev_z1, ev_z2, eq_self, ev_ofN, show ¬ (1 : Int32) = 0 from by decide, show ¬ (2 : Int32) = 0 from by decide, show ¬ (2 : Int32) = 1 from by decide, show ¬ (0 : Int32) = 1 from by decide, show ¬ (0 : Int32) = 2 from by decide, show ¬ (1 : Int32) = 2 from by decide, show ¬ (0 : Int32) = -1 from by decide, show (0 : Int32) ≤ 1 from by decide, show (1 : Int32).toNatClampNeg = 1 from rfl, show (0 : Nat) < 2 from by omega, show (1 : Nat) < 2 from by omega, not_true_eq_false, ne_eq, not_false_eq_true, hs1.1.1, hs1.1.2, hs1.2.1.1, hs1.2.1.2, hs1.2.2.1.1, hs1.2.2.1.2, hs1.2.2.2.1, hs1.2.2.2.2, hk13]
    have b2 := hq.2.2.2
    exact c _ _ H2 _ _ _ _ (jM_same hM1 hq hr1 KG_keeps) (by omega) (by omega) (by omega) (by omega)
theorem LP_takenAt (hS : jS X S i v0 v1 v2 v3) (h : jM X zf x G G As H n) {a5 a6 : Value} (c : jC X zf x S i n q P) : ev_ok (ev_TT X) 309 1469 [.ref S, .ref x, .ref (x + 57), .ref (x + 68), .int (nI i), a5, a6] [] H n q P := by
  have hn := jM_n h
  have hs := hS H (jM_low h)
  have h0 := h
  obtain ⟨hc, hJ, -, ⟨r, ow, hr, hm⟩, hx, hA, hl, ho, hxs⟩ := h0
  have hln := hl.1
  simp (disch := omega) only [t_L_law_1469, t_L_law_1470, t_L_law_1471, t_L_law_1473, t_L_law_1474, t_L_law_1475, t_L_law_1476, t_L_law_1477, t_L_law_1479, t_L_law_1480, t_L_law_1481, t_L_law_1482, t_L_law_1483, t_L_law_1486, t_L_law_1488, t_L_law_1489, t_L_law_1490, t_L_law_1492, t_L_law_1493, t_L_law_1494, t_L_law_1495, t_L_law_1496, t_L_law_1498, t_L_law_1499, t_L_law_1500, t_L_law_1501, t_L_law_1504, t_L_law_1506, ↓reduceIte, ev_k_i, ev_k_r, ev_k_l, ev_k_J, ev_k_n, ev_kr_1, ev_kr_0, ev_isK_y, ev_aG_y, ev_aS_y, ev_aN_y, ev_inA_0, ev_isA_0, ev_ft_I, ev_ft_0, ev_ft_1, ev_ft_o, ev_ft_a, ev_nb_0, ev_nb_1, and_true, true_and, if_true, if_false, not_true_eq_false, not_false_eq_true, nI_1, ev_fG_0, ev_fG_1, ev_fG_2, ev_fG_3, ev_fG_4, ev_fG_5, ev_fG_6, ev_fG_7, ev_fG_8, ev_fS_0, ev_fS_1, ev_fS_2, ev_fS_3, ev_fS_4, ev_fS_5, ev_fS_6, ev_fS_7, ev_fS_8, ev_isO_0, ev_isO_1, ev_isO_2, ev_isO_3, ev_isO_4, ev_isO_5, ev_isO_6, ev_isO_7, ev_isO_8, ev_z0, ev_z1, ev_z2, eq_self, ev_ofN, show ¬ (1 : Int32) = 0 from by decide, show ¬ (2 : Int32) = 0 from by decide, show ¬ (2 : Int32) = 1 from by decide, show ¬ (0 : Int32) = 1 from by decide, show ¬ (0 : Int32) = 2 from by decide, show ¬ (1 : Int32) = 2 from by decide, show ¬ (0 : Int32) = -1 from by decide, show (0 : Int32) ≤ 1 from by decide, show (1 : Int32).toNatClampNeg = 1 from rfl, show (0 : Nat) < 2 from by omega, show (1 : Nat) < 2 from by omega, not_true_eq_false, ne_eq, not_false_eq_true, hs.1.1, hs.1.2, hs.2.1.1, hs.2.1.2, hs.2.2.1.1, hs.2.2.1.2, hs.2.2.2.1, hs.2.2.2.2]
  refine LW_takenAt hc hJ.1 (by omega) (by omega) ho (jM_z h) fun H1 n1 q1 hp => ?_
  have hM1 := jM_class h hp.1 (by rw [KG_takenAt]; exact hJ) hp.2.1 (by obtain ⟨l, s, h1, -⟩ := hp.2.2.1; exact ⟨l, s, h1⟩) hp.2.2.2.1 hp.2.2.2.2.1
  have b1 := hp.2.2.2.2
  have hs1 := hS H1 (jM_low hM1)
  have h1 := hM1
  obtain ⟨hc1, hJ1, -, ⟨r1, ow1, hr1, hm1⟩, hx1, -, -, -, -⟩ := h1
  have hk13 := m_k13 hm1
  simp (disch := omega) only [t_L_law_1469, t_L_law_1470, t_L_law_1471, t_L_law_1473, t_L_law_1474, t_L_law_1475, t_L_law_1476, t_L_law_1477, t_L_law_1479, t_L_law_1480, t_L_law_1481, t_L_law_1482, t_L_law_1483, t_L_law_1486, t_L_law_1488, t_L_law_1489, t_L_law_1490, t_L_law_1492, t_L_law_1493, t_L_law_1494, t_L_law_1495, t_L_law_1496, t_L_law_1498, t_L_law_1499, t_L_law_1500, t_L_law_1501, t_L_law_1504, t_L_law_1506, ↓reduceIte, ev_k_i, ev_k_r, ev_k_l, ev_k_J, ev_k_n, ev_kr_1, ev_kr_0, ev_isK_y, ev_aG_y, ev_aS_y, ev_aN_y, ev_inA_0, ev_isA_0, ev_ft_I, ev_ft_0, ev_ft_1, ev_ft_o, ev_ft_a, ev_nb_0, ev_nb_1, and_true, true_and, if_true, if_false, not_true_eq_false, not_false_eq_true, nI_1, ev_fG_0, ev_fG_1, ev_fG_2, ev_fG_3, ev_fG_4, ev_fG_5, ev_fG_6, ev_fG_7, ev_fG_8, ev_fS_0, ev_fS_1, ev_fS_2, ev_fS_3, ev_fS_4, ev_fS_5, ev_fS_6, ev_fS_7, ev_fS_8, ev_isO_0, ev_isO_1, ev_isO_2, ev_isO_3, ev_isO_4, ev_isO_5, ev_isO_6, ev_isO_7, ev_isO_8, ev_z0, ev_z1, ev_z2, eq_self, ev_ofN, show ¬ (1 : Int32) = 0 from by decide, show ¬ (2 : Int32) = 0 from by decide, show ¬ (2 : Int32) = 1 from by decide, show ¬ (0 : Int32) = 1 from by decide, show ¬ (0 : Int32) = 2 from by decide, show ¬ (1 : Int32) = 2 from by decide, show ¬ (0 : Int32) = -1 from by decide, show (0 : Int32) ≤ 1 from by decide, show (1 : Int32).toNatClampNeg = 1 from rfl, show (0 : Nat) < 2 from by omega, show (1 : Nat) < 2 from by omega, not_true_eq_false, ne_eq, not_false_eq_true, hs1.1.1, hs1.1.2, hs1.2.1.1, hs1.2.1.2, hs1.2.2.1.1, hs1.2.2.1.2, hs1.2.2.2.1, hs1.2.2.2.2, hk13]
  refine MM_takenAt hm1 hx1 hA (fun hb H2 hq => ?_) (fun j a hj e ha e2 H2 hq => ?_)
  · skip
    simp (disch := omega) only [t_L_law_1469, t_L_law_1470, t_L_law_1471, t_L_law_1473, t_L_law_1474, t_L_law_1475, t_L_law_1476, t_L_law_1477, t_L_law_1479, t_L_law_1480, t_L_law_1481, t_L_law_1482, t_L_law_1483, t_L_law_1486, t_L_law_1488, t_L_law_1489, t_L_law_1490, t_L_law_1492, t_L_law_1493, t_L_law_1494, t_L_law_1495, t_L_law_1496, t_L_law_1498, t_L_law_1499, t_L_law_1500, t_L_law_1501, t_L_law_1504, t_L_law_1506, ↓reduceIte, ev_k_i, ev_k_r, ev_k_l, ev_k_J, ev_k_n, ev_kr_1, ev_kr_0, ev_isK_y, ev_aG_y, ev_aS_y, ev_aN_y, ev_inA_0, ev_isA_0, ev_ft_I, ev_ft_0, ev_ft_1, ev_ft_o, ev_ft_a, ev_nb_0, ev_nb_1, and_true, true_and, if_true, if_false, not_true_eq_false, not_false_eq_true, nI_1, ev_fG_0, ev_fG_1, ev_fG_2, ev_fG_3, ev_fG_4, ev_fG_5, ev_fG_6, ev_fG_7, ev_fG_8, ev_fS_0, ev_fS_1, ev_fS_2, ev_fS_3, ev_fS_4, ev_fS_5, ev_fS_6, ev_fS_7, ev_fS_8, ev_isO_0, ev_isO_1, ev_isO_2, ev_isO_3, ev_isO_4, ev_isO_5, ev_isO_6, ev_isO_7, ev_isO_8, ev_z0, ev_z1, ev_z2, eq_self, ev_ofN, show ¬ (1 : Int32) = 0 from by decide, show ¬ (2 : Int32) = 0 from by decide, show ¬ (2 : Int32) = 1 from by decide, show ¬ (0 : Int32) = 1 from by decide, show ¬ (0 : Int32) = 2 from by decide, show ¬ (1 : Int32) = 2 from by decide, show ¬ (0 : Int32) = -1 from by decide, show (0 : Int32) ≤ 1 from by decide, show (1 : Int32).toNatClampNeg = 1 from rfl, show (0 : Nat) < 2 from by omega, show (1 : Nat) < 2 from by omega, not_true_eq_false, ne_eq, not_false_eq_true, hs1.1.1, hs1.1.2, hs1.2.1.1, hs1.2.1.2, hs1.2.2.1.1, hs1.2.2.1.2, hs1.2.2.2.1, hs1.2.2.2.2, hk13]
    have b2 := hq.2.2.2
    exact c _ _ H2 _ _ _ _ (jM_same hM1 hq hr1 KG_takenAt) (by omega) (by omega) (by omega) (by omega)
  · skip
    simp (disch := omega) only [t_L_law_1469, t_L_law_1470, t_L_law_1471, t_L_law_1473, t_L_law_1474, t_L_law_1475, t_L_law_1476, t_L_law_1477, t_L_law_1479, t_L_law_1480, t_L_law_1481, t_L_law_1482, t_L_law_1483, t_L_law_1486, t_L_law_1488, t_L_law_1489, t_L_law_1490, t_L_law_1492, t_L_law_1493, t_L_law_1494, t_L_law_1495, t_L_law_1496, t_L_law_1498, t_L_law_1499, t_L_law_1500, t_L_law_1501, t_L_law_1504, t_L_law_1506, ↓reduceIte, ev_k_i, ev_k_r, ev_k_l, ev_k_J, ev_k_n, ev_kr_1, ev_kr_0, ev_isK_y, ev_aG_y, ev_aS_y, ev_aN_y, ev_inA_0, ev_isA_0, ev_ft_I, ev_ft_0, ev_ft_1, ev_ft_o, ev_ft_a, ev_nb_0, ev_nb_1, and_true, true_and, if_true, if_false, not_true_eq_false, not_false_eq_true, nI_1, ev_fG_0, ev_fG_1, ev_fG_2, ev_fG_3, ev_fG_4, ev_fG_5, ev_fG_6, ev_fG_7, ev_fG_8, ev_fS_0, ev_fS_1, ev_fS_2, ev_fS_3, ev_fS_4, ev_fS_5, ev_fS_6, ev_fS_7, ev_fS_8, ev_isO_0, ev_isO_1, ev_isO_2, ev_isO_3, ev_isO_4, ev_isO_5, ev_isO_6, ev_isO_7, ev_isO_8, ev_z0, ev_z1, ev_z2, eq_self, ev_ofN, show ¬ (1 : Int32) = 0 from by decide, show ¬ (2 : Int32) = 0 from by decide, show ¬ (2 : Int32) = 1 from by decide, show ¬ (0 : Int32) = 1 from by decide, show ¬ (0 : Int32) = 2 from by decide, show ¬ (1 : Int32) = 2 from by decide, show ¬ (0 : Int32) = -1 from by decide, show (0 : Int32) ≤ 1 from by decide, show (1 : Int32).toNatClampNeg = 1 from rfl, show (0 : Nat) < 2 from by omega, show (1 : Nat) < 2 from by omega, not_true_eq_false, ne_eq, not_false_eq_true, hs1.1.1, hs1.1.2, hs1.2.1.1, hs1.2.1.2, hs1.2.2.1.1, hs1.2.2.1.2, hs1.2.2.2.1, hs1.2.2.2.2, hk13]
    have b2 := hq.2.2.2
    exact c _ _ H2 _ _ _ _ (jM_same hM1 hq hr1 KG_takenAt) (by omega) (by omega) (by omega) (by omega)
theorem LP_misses (hS : jS X S i v0 v1 v2 v3) (h : jM X zf x G G As H n) {a5 a6 : Value} (c : jC X zf x S i n q P) : ev_ok (ev_TT X) 309 1509 [.ref S, .ref x, .ref (x + 57), .ref (x + 68), .int (nI i), a5, a6] [] H n q P := by
  have hn := jM_n h
  have hs := hS H (jM_low h)
  have h0 := h
  obtain ⟨hc, hJ, -, ⟨r, ow, hr, hm⟩, hx, hA, hl, ho, hxs⟩ := h0
  have hln := hl.1
  simp (disch := omega) only [t_L_law_1509, t_L_law_1510, t_L_law_1511, t_L_law_1513, t_L_law_1514, t_L_law_1515, t_L_law_1516, t_L_law_1517, t_L_law_1520, t_L_law_1522, t_L_law_1523, t_L_law_1524, t_L_law_1526, t_L_law_1527, t_L_law_1528, t_L_law_1529, t_L_law_1532, t_L_law_1534, ↓reduceIte, ev_k_i, ev_k_r, ev_k_l, ev_k_J, ev_k_n, ev_kr_1, ev_kr_0, ev_isK_y, ev_aG_y, ev_aS_y, ev_aN_y, ev_inA_0, ev_isA_0, ev_ft_I, ev_ft_0, ev_ft_1, ev_ft_o, ev_ft_a, ev_nb_0, ev_nb_1, and_true, true_and, if_true, if_false, not_true_eq_false, not_false_eq_true, nI_1, ev_fG_0, ev_fG_1, ev_fG_2, ev_fG_3, ev_fG_4, ev_fG_5, ev_fG_6, ev_fG_7, ev_fG_8, ev_fS_0, ev_fS_1, ev_fS_2, ev_fS_3, ev_fS_4, ev_fS_5, ev_fS_6, ev_fS_7, ev_fS_8, ev_isO_0, ev_isO_1, ev_isO_2, ev_isO_3, ev_isO_4, ev_isO_5, ev_isO_6, ev_isO_7, ev_isO_8, ev_z0, ev_z1, ev_z2, eq_self, ev_ofN, show ¬ (1 : Int32) = 0 from by decide, show ¬ (2 : Int32) = 0 from by decide, show ¬ (2 : Int32) = 1 from by decide, show ¬ (0 : Int32) = 1 from by decide, show ¬ (0 : Int32) = 2 from by decide, show ¬ (1 : Int32) = 2 from by decide, show ¬ (0 : Int32) = -1 from by decide, show (0 : Int32) ≤ 1 from by decide, show (1 : Int32).toNatClampNeg = 1 from rfl, show (0 : Nat) < 2 from by omega, show (1 : Nat) < 2 from by omega, not_true_eq_false, ne_eq, not_false_eq_true, hs.1.1, hs.1.2, hs.2.1.1, hs.2.1.2, hs.2.2.1.1, hs.2.2.1.2, hs.2.2.2.1, hs.2.2.2.2]
  refine LW_misses hc hJ.1 (by omega) (by omega) ho (jM_z h) fun H1 n1 q1 hp => ?_
  have hM1 := jM_class h hp.1 (by rw [KG_misses]; exact hJ) hp.2.1 (by obtain ⟨l, s, h1, -⟩ := hp.2.2.1; exact ⟨l, s, h1⟩) hp.2.2.2.1 hp.2.2.2.2.1
  have b1 := hp.2.2.2.2
  have hs1 := hS H1 (jM_low hM1)
  have h1 := hM1
  obtain ⟨hc1, hJ1, -, ⟨r1, ow1, hr1, hm1⟩, hx1, -, -, -, -⟩ := h1
  have hk13 := m_k13 hm1
  simp (disch := omega) only [t_L_law_1509, t_L_law_1510, t_L_law_1511, t_L_law_1513, t_L_law_1514, t_L_law_1515, t_L_law_1516, t_L_law_1517, t_L_law_1520, t_L_law_1522, t_L_law_1523, t_L_law_1524, t_L_law_1526, t_L_law_1527, t_L_law_1528, t_L_law_1529, t_L_law_1532, t_L_law_1534, ↓reduceIte, ev_k_i, ev_k_r, ev_k_l, ev_k_J, ev_k_n, ev_kr_1, ev_kr_0, ev_isK_y, ev_aG_y, ev_aS_y, ev_aN_y, ev_inA_0, ev_isA_0, ev_ft_I, ev_ft_0, ev_ft_1, ev_ft_o, ev_ft_a, ev_nb_0, ev_nb_1, and_true, true_and, if_true, if_false, not_true_eq_false, not_false_eq_true, nI_1, ev_fG_0, ev_fG_1, ev_fG_2, ev_fG_3, ev_fG_4, ev_fG_5, ev_fG_6, ev_fG_7, ev_fG_8, ev_fS_0, ev_fS_1, ev_fS_2, ev_fS_3, ev_fS_4, ev_fS_5, ev_fS_6, ev_fS_7, ev_fS_8, ev_isO_0, ev_isO_1, ev_isO_2, ev_isO_3, ev_isO_4, ev_isO_5, ev_isO_6, ev_isO_7, ev_isO_8, ev_z0, ev_z1, ev_z2, eq_self, ev_ofN, show ¬ (1 : Int32) = 0 from by decide, show ¬ (2 : Int32) = 0 from by decide, show ¬ (2 : Int32) = 1 from by decide, show ¬ (0 : Int32) = 1 from by decide, show ¬ (0 : Int32) = 2 from by decide, show ¬ (1 : Int32) = 2 from by decide, show ¬ (0 : Int32) = -1 from by decide, show (0 : Int32) ≤ 1 from by decide, show (1 : Int32).toNatClampNeg = 1 from rfl, show (0 : Nat) < 2 from by omega, show (1 : Nat) < 2 from by omega, not_true_eq_false, ne_eq, not_false_eq_true, hs1.1.1, hs1.1.2, hs1.2.1.1, hs1.2.1.2, hs1.2.2.1.1, hs1.2.2.1.2, hs1.2.2.2.1, hs1.2.2.2.2, hk13]
  refine MM_misses hm1 hx1 hA (fun hb H2 hq => ?_) (fun j hj e H2 hq => ?_)
  · skip
    simp (disch := omega) only [t_L_law_1509, t_L_law_1510, t_L_law_1511, t_L_law_1513, t_L_law_1514, t_L_law_1515, t_L_law_1516, t_L_law_1517, t_L_law_1520, t_L_law_1522, t_L_law_1523, t_L_law_1524, t_L_law_1526, t_L_law_1527, t_L_law_1528, t_L_law_1529, t_L_law_1532, t_L_law_1534, ↓reduceIte, ev_k_i, ev_k_r, ev_k_l, ev_k_J, ev_k_n, ev_kr_1, ev_kr_0, ev_isK_y, ev_aG_y, ev_aS_y, ev_aN_y, ev_inA_0, ev_isA_0, ev_ft_I, ev_ft_0, ev_ft_1, ev_ft_o, ev_ft_a, ev_nb_0, ev_nb_1, and_true, true_and, if_true, if_false, not_true_eq_false, not_false_eq_true, nI_1, ev_fG_0, ev_fG_1, ev_fG_2, ev_fG_3, ev_fG_4, ev_fG_5, ev_fG_6, ev_fG_7, ev_fG_8, ev_fS_0, ev_fS_1, ev_fS_2, ev_fS_3, ev_fS_4, ev_fS_5, ev_fS_6, ev_fS_7, ev_fS_8, ev_isO_0, ev_isO_1, ev_isO_2, ev_isO_3, ev_isO_4, ev_isO_5, ev_isO_6, ev_isO_7, ev_isO_8, ev_z0, ev_z1, ev_z2, eq_self, ev_ofN, show ¬ (1 : Int32) = 0 from by decide, show ¬ (2 : Int32) = 0 from by decide, show ¬ (2 : Int32) = 1 from by decide, show ¬ (0 : Int32) = 1 from by decide, show ¬ (0 : Int32) = 2 from by decide, show ¬ (1 : Int32) = 2 from by decide, show ¬ (0 : Int32) = -1 from by decide, show (0 : Int32) ≤ 1 from by decide, show (1 : Int32).toNatClampNeg = 1 from rfl, show (0 : Nat) < 2 from by omega, show (1 : Nat) < 2 from by omega, not_true_eq_false, ne_eq, not_false_eq_true, hs1.1.1, hs1.1.2, hs1.2.1.1, hs1.2.1.2, hs1.2.2.1.1, hs1.2.2.1.2, hs1.2.2.2.1, hs1.2.2.2.2, hk13]
    have b2 := hq.2.2.2
    exact c _ _ H2 _ _ _ _ (jM_same hM1 hq hr1 KG_misses) (by omega) (by omega) (by omega) (by omega)
  · skip
    simp (disch := omega) only [t_L_law_1509, t_L_law_1510, t_L_law_1511, t_L_law_1513, t_L_law_1514, t_L_law_1515, t_L_law_1516, t_L_law_1517, t_L_law_1520, t_L_law_1522, t_L_law_1523, t_L_law_1524, t_L_law_1526, t_L_law_1527, t_L_law_1528, t_L_law_1529, t_L_law_1532, t_L_law_1534, ↓reduceIte, ev_k_i, ev_k_r, ev_k_l, ev_k_J, ev_k_n, ev_kr_1, ev_kr_0, ev_isK_y, ev_aG_y, ev_aS_y, ev_aN_y, ev_inA_0, ev_isA_0, ev_ft_I, ev_ft_0, ev_ft_1, ev_ft_o, ev_ft_a, ev_nb_0, ev_nb_1, and_true, true_and, if_true, if_false, not_true_eq_false, not_false_eq_true, nI_1, ev_fG_0, ev_fG_1, ev_fG_2, ev_fG_3, ev_fG_4, ev_fG_5, ev_fG_6, ev_fG_7, ev_fG_8, ev_fS_0, ev_fS_1, ev_fS_2, ev_fS_3, ev_fS_4, ev_fS_5, ev_fS_6, ev_fS_7, ev_fS_8, ev_isO_0, ev_isO_1, ev_isO_2, ev_isO_3, ev_isO_4, ev_isO_5, ev_isO_6, ev_isO_7, ev_isO_8, ev_z0, ev_z1, ev_z2, eq_self, ev_ofN, show ¬ (1 : Int32) = 0 from by decide, show ¬ (2 : Int32) = 0 from by decide, show ¬ (2 : Int32) = 1 from by decide, show ¬ (0 : Int32) = 1 from by decide, show ¬ (0 : Int32) = 2 from by decide, show ¬ (1 : Int32) = 2 from by decide, show ¬ (0 : Int32) = -1 from by decide, show (0 : Int32) ≤ 1 from by decide, show (1 : Int32).toNatClampNeg = 1 from rfl, show (0 : Nat) < 2 from by omega, show (1 : Nat) < 2 from by omega, not_true_eq_false, ne_eq, not_false_eq_true, hs1.1.1, hs1.1.2, hs1.2.1.1, hs1.2.1.2, hs1.2.2.1.1, hs1.2.2.1.2, hs1.2.2.2.1, hs1.2.2.2.2, hk13]
    have b2 := hq.2.2.2
    exact c _ _ H2 _ _ _ _ (jM_same hM1 hq hr1 KG_misses) (by omega) (by omega) (by omega) (by omega)
theorem LP_hits (hS : jS X S i v0 v1 v2 v3) (h : jM X zf x G G As H n) {a5 a6 : Value} (c : jC X zf x S i n q P) : ev_ok (ev_TT X) 309 1537 [.ref S, .ref x, .ref (x + 57), .ref (x + 68), .int (nI i), a5, a6] [] H n q P := by
  have hn := jM_n h
  have hs := hS H (jM_low h)
  have h0 := h
  obtain ⟨hc, hJ, -, ⟨r, ow, hr, hm⟩, hx, hA, hl, ho, hxs⟩ := h0
  have hln := hl.1
  simp (disch := omega) only [t_L_law_1537, t_L_law_1538, t_L_law_1539, t_L_law_1541, t_L_law_1542, t_L_law_1543, t_L_law_1544, t_L_law_1545, t_L_law_1548, t_L_law_1550, t_L_law_1551, t_L_law_1552, t_L_law_1554, t_L_law_1555, t_L_law_1556, t_L_law_1557, t_L_law_1560, t_L_law_1562, ↓reduceIte, ev_k_i, ev_k_r, ev_k_l, ev_k_J, ev_k_n, ev_kr_1, ev_kr_0, ev_isK_y, ev_aG_y, ev_aS_y, ev_aN_y, ev_inA_0, ev_isA_0, ev_ft_I, ev_ft_0, ev_ft_1, ev_ft_o, ev_ft_a, ev_nb_0, ev_nb_1, and_true, true_and, if_true, if_false, not_true_eq_false, not_false_eq_true, nI_1, ev_fG_0, ev_fG_1, ev_fG_2, ev_fG_3, ev_fG_4, ev_fG_5, ev_fG_6, ev_fG_7, ev_fG_8, ev_fS_0, ev_fS_1, ev_fS_2, ev_fS_3, ev_fS_4, ev_fS_5, ev_fS_6, ev_fS_7, ev_fS_8, ev_isO_0, ev_isO_1, ev_isO_2, ev_isO_3, ev_isO_4, ev_isO_5, ev_isO_6, ev_isO_7, ev_isO_8, ev_z0, ev_z1, ev_z2, eq_self, ev_ofN, show ¬ (1 : Int32) = 0 from by decide, show ¬ (2 : Int32) = 0 from by decide, show ¬ (2 : Int32) = 1 from by decide, show ¬ (0 : Int32) = 1 from by decide, show ¬ (0 : Int32) = 2 from by decide, show ¬ (1 : Int32) = 2 from by decide, show ¬ (0 : Int32) = -1 from by decide, show (0 : Int32) ≤ 1 from by decide, show (1 : Int32).toNatClampNeg = 1 from rfl, show (0 : Nat) < 2 from by omega, show (1 : Nat) < 2 from by omega, not_true_eq_false, ne_eq, not_false_eq_true, hs.1.1, hs.1.2, hs.2.1.1, hs.2.1.2, hs.2.2.1.1, hs.2.2.1.2, hs.2.2.2.1, hs.2.2.2.2]
  refine LW_hits hc hJ.1 (by omega) (by omega) ho (jM_z h) fun H1 n1 q1 hp => ?_
  have hM1 := jM_class h hp.1 (by rw [KG_hits]; exact hJ) hp.2.1 (by obtain ⟨l, s, h1, -⟩ := hp.2.2.1; exact ⟨l, s, h1⟩) hp.2.2.2.1 hp.2.2.2.2.1
  have b1 := hp.2.2.2.2
  have hs1 := hS H1 (jM_low hM1)
  have h1 := hM1
  obtain ⟨hc1, hJ1, -, ⟨r1, ow1, hr1, hm1⟩, hx1, -, -, -, -⟩ := h1
  have hk13 := m_k13 hm1
  simp (disch := omega) only [t_L_law_1537, t_L_law_1538, t_L_law_1539, t_L_law_1541, t_L_law_1542, t_L_law_1543, t_L_law_1544, t_L_law_1545, t_L_law_1548, t_L_law_1550, t_L_law_1551, t_L_law_1552, t_L_law_1554, t_L_law_1555, t_L_law_1556, t_L_law_1557, t_L_law_1560, t_L_law_1562, ↓reduceIte, ev_k_i, ev_k_r, ev_k_l, ev_k_J, ev_k_n, ev_kr_1, ev_kr_0, ev_isK_y, ev_aG_y, ev_aS_y, ev_aN_y, ev_inA_0, ev_isA_0, ev_ft_I, ev_ft_0, ev_ft_1, ev_ft_o, ev_ft_a, ev_nb_0, ev_nb_1, and_true, true_and, if_true, if_false, not_true_eq_false, not_false_eq_true, nI_1, ev_fG_0, ev_fG_1, ev_fG_2, ev_fG_3, ev_fG_4, ev_fG_5, ev_fG_6, ev_fG_7, ev_fG_8, ev_fS_0, ev_fS_1, ev_fS_2, ev_fS_3, ev_fS_4, ev_fS_5, ev_fS_6, ev_fS_7, ev_fS_8, ev_isO_0, ev_isO_1, ev_isO_2, ev_isO_3, ev_isO_4, ev_isO_5, ev_isO_6, ev_isO_7, ev_isO_8, ev_z0, ev_z1, ev_z2, eq_self, ev_ofN, show ¬ (1 : Int32) = 0 from by decide, show ¬ (2 : Int32) = 0 from by decide, show ¬ (2 : Int32) = 1 from by decide, show ¬ (0 : Int32) = 1 from by decide, show ¬ (0 : Int32) = 2 from by decide, show ¬ (1 : Int32) = 2 from by decide, show ¬ (0 : Int32) = -1 from by decide, show (0 : Int32) ≤ 1 from by decide, show (1 : Int32).toNatClampNeg = 1 from rfl, show (0 : Nat) < 2 from by omega, show (1 : Nat) < 2 from by omega, not_true_eq_false, ne_eq, not_false_eq_true, hs1.1.1, hs1.1.2, hs1.2.1.1, hs1.2.1.2, hs1.2.2.1.1, hs1.2.2.1.2, hs1.2.2.2.1, hs1.2.2.2.2, hk13]
  refine MM_hits hm1 hx1 hA (fun hb H2 hq => ?_) (fun j hj e H2 hq => ?_)
  · skip
    simp (disch := omega) only [t_L_law_1537, t_L_law_1538, t_L_law_1539, t_L_law_1541, t_L_law_1542, t_L_law_1543, t_L_law_1544, t_L_law_1545, t_L_law_1548, t_L_law_1550, t_L_law_1551, t_L_law_1552, t_L_law_1554, t_L_law_1555, t_L_law_1556, t_L_law_1557, t_L_law_1560, t_L_law_1562, ↓reduceIte, ev_k_i, ev_k_r, ev_k_l, ev_k_J, ev_k_n, ev_kr_1, ev_kr_0, ev_isK_y, ev_aG_y, ev_aS_y, ev_aN_y, ev_inA_0, ev_isA_0, ev_ft_I, ev_ft_0, ev_ft_1, ev_ft_o, ev_ft_a, ev_nb_0, ev_nb_1, and_true, true_and, if_true, if_false, not_true_eq_false, not_false_eq_true, nI_1, ev_fG_0, ev_fG_1, ev_fG_2, ev_fG_3, ev_fG_4, ev_fG_5, ev_fG_6, ev_fG_7, ev_fG_8, ev_fS_0, ev_fS_1, ev_fS_2, ev_fS_3, ev_fS_4, ev_fS_5, ev_fS_6, ev_fS_7, ev_fS_8, ev_isO_0, ev_isO_1, ev_isO_2, ev_isO_3, ev_isO_4, ev_isO_5, ev_isO_6, ev_isO_7, ev_isO_8, ev_z0, ev_z1, ev_z2, eq_self, ev_ofN, show ¬ (1 : Int32) = 0 from by decide, show ¬ (2 : Int32) = 0 from by decide, show ¬ (2 : Int32) = 1 from by decide, show ¬ (0 : Int32) = 1 from by decide, show ¬ (0 : Int32) = 2 from by decide, show ¬ (1 : Int32) = 2 from by decide, show ¬ (0 : Int32) = -1 from by decide, show (0 : Int32) ≤ 1 from by decide, show (1 : Int32).toNatClampNeg = 1 from rfl, show (0 : Nat) < 2 from by omega, show (1 : Nat) < 2 from by omega, not_true_eq_false, ne_eq, not_false_eq_true, hs1.1.1, hs1.1.2, hs1.2.1.1, hs1.2.1.2, hs1.2.2.1.1, hs1.2.2.1.2, hs1.2.2.2.1, hs1.2.2.2.2, hk13]
    have b2 := hq.2.2.2
    exact c _ _ H2 _ _ _ _ (jM_same hM1 hq hr1 KG_hits) (by omega) (by omega) (by omega) (by omega)
  · skip
    simp (disch := omega) only [t_L_law_1537, t_L_law_1538, t_L_law_1539, t_L_law_1541, t_L_law_1542, t_L_law_1543, t_L_law_1544, t_L_law_1545, t_L_law_1548, t_L_law_1550, t_L_law_1551, t_L_law_1552, t_L_law_1554, t_L_law_1555, t_L_law_1556, t_L_law_1557, t_L_law_1560, t_L_law_1562, ↓reduceIte, ev_k_i, ev_k_r, ev_k_l, ev_k_J, ev_k_n, ev_kr_1, ev_kr_0, ev_isK_y, ev_aG_y, ev_aS_y, ev_aN_y, ev_inA_0, ev_isA_0, ev_ft_I, ev_ft_0, ev_ft_1, ev_ft_o, ev_ft_a, ev_nb_0, ev_nb_1, and_true, true_and, if_true, if_false, not_true_eq_false, not_false_eq_true, nI_1, ev_fG_0, ev_fG_1, ev_fG_2, ev_fG_3, ev_fG_4, ev_fG_5, ev_fG_6, ev_fG_7, ev_fG_8, ev_fS_0, ev_fS_1, ev_fS_2, ev_fS_3, ev_fS_4, ev_fS_5, ev_fS_6, ev_fS_7, ev_fS_8, ev_isO_0, ev_isO_1, ev_isO_2, ev_isO_3, ev_isO_4, ev_isO_5, ev_isO_6, ev_isO_7, ev_isO_8, ev_z0, ev_z1, ev_z2, eq_self, ev_ofN, show ¬ (1 : Int32) = 0 from by decide, show ¬ (2 : Int32) = 0 from by decide, show ¬ (2 : Int32) = 1 from by decide, show ¬ (0 : Int32) = 1 from by decide, show ¬ (0 : Int32) = 2 from by decide, show ¬ (1 : Int32) = 2 from by decide, show ¬ (0 : Int32) = -1 from by decide, show (0 : Int32) ≤ 1 from by decide, show (1 : Int32).toNatClampNeg = 1 from rfl, show (0 : Nat) < 2 from by omega, show (1 : Nat) < 2 from by omega, not_true_eq_false, ne_eq, not_false_eq_true, hs1.1.1, hs1.1.2, hs1.2.1.1, hs1.2.1.2, hs1.2.2.1.1, hs1.2.2.1.2, hs1.2.2.2.1, hs1.2.2.2.2, hk13]
    have b2 := hq.2.2.2
    exact c _ _ H2 _ _ _ _ (jM_same hM1 hq hr1 KG_hits) (by omega) (by omega) (by omega) (by omega)
theorem LP_lost (hS : jS X S i v0 v1 v2 v3) (h : jM X zf x G G As H n) {a5 a6 : Value} (c : jC X zf x S i n q P) : ev_ok (ev_TT X) 309 1565 [.ref S, .ref x, .ref (x + 57), .ref (x + 68), .int (nI i), a5, a6] [] H n q P := by
  have hn := jM_n h
  have hs := hS H (jM_low h)
  have h0 := h
  obtain ⟨hc, hJ, -, ⟨r, ow, hr, hm⟩, hx, hA, hl, ho, hxs⟩ := h0
  have hln := hl.1
  simp (disch := omega) only [t_L_law_1565, t_L_law_1566, t_L_law_1567, t_L_law_1569, t_L_law_1570, t_L_law_1571, t_L_law_1572, t_L_law_1573, t_L_law_1576, t_L_law_1578, t_L_law_1579, t_L_law_1580, t_L_law_1582, t_L_law_1583, t_L_law_1584, t_L_law_1585, t_L_law_1588, t_L_law_1590, ↓reduceIte, ev_k_i, ev_k_r, ev_k_l, ev_k_J, ev_k_n, ev_kr_1, ev_kr_0, ev_isK_y, ev_aG_y, ev_aS_y, ev_aN_y, ev_inA_0, ev_isA_0, ev_ft_I, ev_ft_0, ev_ft_1, ev_ft_o, ev_ft_a, ev_nb_0, ev_nb_1, and_true, true_and, if_true, if_false, not_true_eq_false, not_false_eq_true, nI_1, ev_fG_0, ev_fG_1, ev_fG_2, ev_fG_3, ev_fG_4, ev_fG_5, ev_fG_6, ev_fG_7, ev_fG_8, ev_fS_0, ev_fS_1, ev_fS_2, ev_fS_3, ev_fS_4, ev_fS_5, ev_fS_6, ev_fS_7, ev_fS_8, ev_isO_0, ev_isO_1, ev_isO_2, ev_isO_3, ev_isO_4, ev_isO_5, ev_isO_6, ev_isO_7, ev_isO_8, ev_z0, ev_z1, ev_z2, eq_self, ev_ofN, show ¬ (1 : Int32) = 0 from by decide, show ¬ (2 : Int32) = 0 from by decide, show ¬ (2 : Int32) = 1 from by decide, show ¬ (0 : Int32) = 1 from by decide, show ¬ (0 : Int32) = 2 from by decide, show ¬ (1 : Int32) = 2 from by decide, show ¬ (0 : Int32) = -1 from by decide, show (0 : Int32) ≤ 1 from by decide, show (1 : Int32).toNatClampNeg = 1 from rfl, show (0 : Nat) < 2 from by omega, show (1 : Nat) < 2 from by omega, not_true_eq_false, ne_eq, not_false_eq_true, hs.1.1, hs.1.2, hs.2.1.1, hs.2.1.2, hs.2.2.1.1, hs.2.2.1.2, hs.2.2.2.1, hs.2.2.2.2]
  refine LW_lost hc hJ.1 (by omega) (by omega) ho (jM_z h) fun H1 n1 q1 hp => ?_
  have hM1 := jM_class h hp.1 (by rw [KG_lost]; exact hJ) hp.2.1 (by obtain ⟨l, s, h1, -⟩ := hp.2.2.1; exact ⟨l, s, h1⟩) hp.2.2.2.1 hp.2.2.2.2.1
  have b1 := hp.2.2.2.2
  have hs1 := hS H1 (jM_low hM1)
  have h1 := hM1
  obtain ⟨hc1, hJ1, -, ⟨r1, ow1, hr1, hm1⟩, hx1, -, -, -, -⟩ := h1
  have hk13 := m_k13 hm1
  simp (disch := omega) only [t_L_law_1565, t_L_law_1566, t_L_law_1567, t_L_law_1569, t_L_law_1570, t_L_law_1571, t_L_law_1572, t_L_law_1573, t_L_law_1576, t_L_law_1578, t_L_law_1579, t_L_law_1580, t_L_law_1582, t_L_law_1583, t_L_law_1584, t_L_law_1585, t_L_law_1588, t_L_law_1590, ↓reduceIte, ev_k_i, ev_k_r, ev_k_l, ev_k_J, ev_k_n, ev_kr_1, ev_kr_0, ev_isK_y, ev_aG_y, ev_aS_y, ev_aN_y, ev_inA_0, ev_isA_0, ev_ft_I, ev_ft_0, ev_ft_1, ev_ft_o, ev_ft_a, ev_nb_0, ev_nb_1, and_true, true_and, if_true, if_false, not_true_eq_false, not_false_eq_true, nI_1, ev_fG_0, ev_fG_1, ev_fG_2, ev_fG_3, ev_fG_4, ev_fG_5, ev_fG_6, ev_fG_7, ev_fG_8, ev_fS_0, ev_fS_1, ev_fS_2, ev_fS_3, ev_fS_4, ev_fS_5, ev_fS_6, ev_fS_7, ev_fS_8, ev_isO_0, ev_isO_1, ev_isO_2, ev_isO_3, ev_isO_4, ev_isO_5, ev_isO_6, ev_isO_7, ev_isO_8, ev_z0, ev_z1, ev_z2, eq_self, ev_ofN, show ¬ (1 : Int32) = 0 from by decide, show ¬ (2 : Int32) = 0 from by decide, show ¬ (2 : Int32) = 1 from by decide, show ¬ (0 : Int32) = 1 from by decide, show ¬ (0 : Int32) = 2 from by decide, show ¬ (1 : Int32) = 2 from by decide, show ¬ (0 : Int32) = -1 from by decide, show (0 : Int32) ≤ 1 from by decide, show (1 : Int32).toNatClampNeg = 1 from rfl, show (0 : Nat) < 2 from by omega, show (1 : Nat) < 2 from by omega, not_true_eq_false, ne_eq, not_false_eq_true, hs1.1.1, hs1.1.2, hs1.2.1.1, hs1.2.1.2, hs1.2.2.1.1, hs1.2.2.1.2, hs1.2.2.2.1, hs1.2.2.2.2, hk13]
  refine MM_lost hm1 hx1 hA (fun hb H2 hq => ?_) (fun j hj e H2 hq => ?_)
  · skip
    simp (disch := omega) only [t_L_law_1565, t_L_law_1566, t_L_law_1567, t_L_law_1569, t_L_law_1570, t_L_law_1571, t_L_law_1572, t_L_law_1573, t_L_law_1576, t_L_law_1578, t_L_law_1579, t_L_law_1580, t_L_law_1582, t_L_law_1583, t_L_law_1584, t_L_law_1585, t_L_law_1588, t_L_law_1590, ↓reduceIte, ev_k_i, ev_k_r, ev_k_l, ev_k_J, ev_k_n, ev_kr_1, ev_kr_0, ev_isK_y, ev_aG_y, ev_aS_y, ev_aN_y, ev_inA_0, ev_isA_0, ev_ft_I, ev_ft_0, ev_ft_1, ev_ft_o, ev_ft_a, ev_nb_0, ev_nb_1, and_true, true_and, if_true, if_false, not_true_eq_false, not_false_eq_true, nI_1, ev_fG_0, ev_fG_1, ev_fG_2, ev_fG_3, ev_fG_4, ev_fG_5, ev_fG_6, ev_fG_7, ev_fG_8, ev_fS_0, ev_fS_1, ev_fS_2, ev_fS_3, ev_fS_4, ev_fS_5, ev_fS_6, ev_fS_7, ev_fS_8, ev_isO_0, ev_isO_1, ev_isO_2, ev_isO_3, ev_isO_4, ev_isO_5, ev_isO_6, ev_isO_7, ev_isO_8, ev_z0, ev_z1, ev_z2, eq_self, ev_ofN, show ¬ (1 : Int32) = 0 from by decide, show ¬ (2 : Int32) = 0 from by decide, show ¬ (2 : Int32) = 1 from by decide, show ¬ (0 : Int32) = 1 from by decide, show ¬ (0 : Int32) = 2 from by decide, show ¬ (1 : Int32) = 2 from by decide, show ¬ (0 : Int32) = -1 from by decide, show (0 : Int32) ≤ 1 from by decide, show (1 : Int32).toNatClampNeg = 1 from rfl, show (0 : Nat) < 2 from by omega, show (1 : Nat) < 2 from by omega, not_true_eq_false, ne_eq, not_false_eq_true, hs1.1.1, hs1.1.2, hs1.2.1.1, hs1.2.1.2, hs1.2.2.1.1, hs1.2.2.1.2, hs1.2.2.2.1, hs1.2.2.2.2, hk13]
    have b2 := hq.2.2.2
    exact c _ _ H2 _ _ _ _ (jM_same hM1 hq hr1 KG_lost) (by omega) (by omega) (by omega) (by omega)
  · skip
    simp (disch := omega) only [t_L_law_1565, t_L_law_1566, t_L_law_1567, t_L_law_1569, t_L_law_1570, t_L_law_1571, t_L_law_1572, t_L_law_1573, t_L_law_1576, t_L_law_1578, t_L_law_1579, t_L_law_1580, t_L_law_1582, t_L_law_1583, t_L_law_1584, t_L_law_1585, t_L_law_1588, t_L_law_1590, ↓reduceIte, ev_k_i, ev_k_r, ev_k_l, ev_k_J, ev_k_n, ev_kr_1, ev_kr_0, ev_isK_y, ev_aG_y, ev_aS_y, ev_aN_y, ev_inA_0, ev_isA_0, ev_ft_I, ev_ft_0, ev_ft_1, ev_ft_o, ev_ft_a, ev_nb_0, ev_nb_1, and_true, true_and, if_true, if_false, not_true_eq_false, not_false_eq_true, nI_1, ev_fG_0, ev_fG_1, ev_fG_2, ev_fG_3, ev_fG_4, ev_fG_5, ev_fG_6, ev_fG_7, ev_fG_8, ev_fS_0, ev_fS_1, ev_fS_2, ev_fS_3, ev_fS_4, ev_fS_5, ev_fS_6, ev_fS_7, ev_fS_8, ev_isO_0, ev_isO_1, ev_isO_2, ev_isO_3, ev_isO_4, ev_isO_5, ev_isO_6, ev_isO_7, ev_isO_8, ev_z0, ev_z1, ev_z2, eq_self, ev_ofN, show ¬ (1 : Int32) = 0 from by decide, show ¬ (2 : Int32) = 0 from by decide, show ¬ (2 : Int32) = 1 from by decide, show ¬ (0 : Int32) = 1 from by decide, show ¬ (0 : Int32) = 2 from by decide, show ¬ (1 : Int32) = 2 from by decide, show ¬ (0 : Int32) = -1 from by decide, show (0 : Int32) ≤ 1 from by decide, show (1 : Int32).toNatClampNeg = 1 from rfl, show (0 : Nat) < 2 from by omega, show (1 : Nat) < 2 from by omega, not_true_eq_false, ne_eq, not_false_eq_true, hs1.1.1, hs1.1.2, hs1.2.1.1, hs1.2.1.2, hs1.2.2.1.1, hs1.2.2.1.2, hs1.2.2.2.1, hs1.2.2.2.2, hk13]
    have b2 := hq.2.2.2
    exact c _ _ H2 _ _ _ _ (jM_same hM1 hq hr1 KG_lost) (by omega) (by omega) (by omega) (by omega)
theorem LP_best (hS : jS X S i v0 v1 v2 v3) (h : jM X zf x G G As H n) {a5 a6 : Value} (c : jC X zf x S i n q P) : ev_ok (ev_TT X) 309 1618 [.ref S, .ref x, .ref (x + 57), .ref (x + 68), .int (nI i), a5, a6] [] H n q P := by
  have hn := jM_n h
  have hs := hS H (jM_low h)
  have h0 := h
  obtain ⟨hc, hJ, -, ⟨r, ow, hr, hm⟩, hx, hA, hl, ho, hxs⟩ := h0
  have hln := hl.1
  simp (disch := omega) only [t_L_law_1618, t_L_law_1619, t_L_law_1620, t_L_law_1622, t_L_law_1623, t_L_law_1624, t_L_law_1625, t_L_law_1626, t_L_law_1629, t_L_law_1631, t_L_law_1632, t_L_law_1633, t_L_law_1635, t_L_law_1636, t_L_law_1637, t_L_law_1638, t_L_law_1641, t_L_law_1643, ↓reduceIte, ev_k_i, ev_k_r, ev_k_l, ev_k_J, ev_k_n, ev_kr_1, ev_kr_0, ev_isK_y, ev_aG_y, ev_aS_y, ev_aN_y, ev_inA_0, ev_isA_0, ev_ft_I, ev_ft_0, ev_ft_1, ev_ft_o, ev_ft_a, ev_nb_0, ev_nb_1, and_true, true_and, if_true, if_false, not_true_eq_false, not_false_eq_true, nI_1, ev_fG_0, ev_fG_1, ev_fG_2, ev_fG_3, ev_fG_4, ev_fG_5, ev_fG_6, ev_fG_7, ev_fG_8, ev_fS_0, ev_fS_1, ev_fS_2, ev_fS_3, ev_fS_4, ev_fS_5, ev_fS_6, ev_fS_7, ev_fS_8, ev_isO_0, ev_isO_1, ev_isO_2, ev_isO_3, ev_isO_4, ev_isO_5, ev_isO_6, ev_isO_7, ev_isO_8, ev_z0, ev_z1, ev_z2, eq_self, ev_ofN, show ¬ (1 : Int32) = 0 from by decide, show ¬ (2 : Int32) = 0 from by decide, show ¬ (2 : Int32) = 1 from by decide, show ¬ (0 : Int32) = 1 from by decide, show ¬ (0 : Int32) = 2 from by decide, show ¬ (1 : Int32) = 2 from by decide, show ¬ (0 : Int32) = -1 from by decide, show (0 : Int32) ≤ 1 from by decide, show (1 : Int32).toNatClampNeg = 1 from rfl, show (0 : Nat) < 2 from by omega, show (1 : Nat) < 2 from by omega, not_true_eq_false, ne_eq, not_false_eq_true, hs.1.1, hs.1.2, hs.2.1.1, hs.2.1.2, hs.2.2.1.1, hs.2.2.1.2, hs.2.2.2.1, hs.2.2.2.2]
  refine LW_best hc hJ.1 (by rw [pA_eq (aR_of hl hA)]; exact aR_of hl hA) (by omega) (by omega) ho (jM_z h) fun H1 n1 q1 hp => ?_
  have hM1 := jM_class h hp.1 (by rw [KG_best]; exact hJ) hp.2.1 (by obtain ⟨l, s, h1, -⟩ := hp.2.2.1; exact ⟨l, s, h1⟩) hp.2.2.2.1 hp.2.2.2.2.1
  have b1 := hp.2.2.2.2
  have hs1 := hS H1 (jM_low hM1)
  have h1 := hM1
  obtain ⟨hc1, hJ1, -, ⟨r1, ow1, hr1, hm1⟩, hx1, -, -, -, -⟩ := h1
  have hk13 := m_k13 hm1
  simp (disch := omega) only [t_L_law_1618, t_L_law_1619, t_L_law_1620, t_L_law_1622, t_L_law_1623, t_L_law_1624, t_L_law_1625, t_L_law_1626, t_L_law_1629, t_L_law_1631, t_L_law_1632, t_L_law_1633, t_L_law_1635, t_L_law_1636, t_L_law_1637, t_L_law_1638, t_L_law_1641, t_L_law_1643, ↓reduceIte, ev_k_i, ev_k_r, ev_k_l, ev_k_J, ev_k_n, ev_kr_1, ev_kr_0, ev_isK_y, ev_aG_y, ev_aS_y, ev_aN_y, ev_inA_0, ev_isA_0, ev_ft_I, ev_ft_0, ev_ft_1, ev_ft_o, ev_ft_a, ev_nb_0, ev_nb_1, and_true, true_and, if_true, if_false, not_true_eq_false, not_false_eq_true, nI_1, ev_fG_0, ev_fG_1, ev_fG_2, ev_fG_3, ev_fG_4, ev_fG_5, ev_fG_6, ev_fG_7, ev_fG_8, ev_fS_0, ev_fS_1, ev_fS_2, ev_fS_3, ev_fS_4, ev_fS_5, ev_fS_6, ev_fS_7, ev_fS_8, ev_isO_0, ev_isO_1, ev_isO_2, ev_isO_3, ev_isO_4, ev_isO_5, ev_isO_6, ev_isO_7, ev_isO_8, ev_z0, ev_z1, ev_z2, eq_self, ev_ofN, show ¬ (1 : Int32) = 0 from by decide, show ¬ (2 : Int32) = 0 from by decide, show ¬ (2 : Int32) = 1 from by decide, show ¬ (0 : Int32) = 1 from by decide, show ¬ (0 : Int32) = 2 from by decide, show ¬ (1 : Int32) = 2 from by decide, show ¬ (0 : Int32) = -1 from by decide, show (0 : Int32) ≤ 1 from by decide, show (1 : Int32).toNatClampNeg = 1 from rfl, show (0 : Nat) < 2 from by omega, show (1 : Nat) < 2 from by omega, not_true_eq_false, ne_eq, not_false_eq_true, hs1.1.1, hs1.1.2, hs1.2.1.1, hs1.2.1.2, hs1.2.2.1.1, hs1.2.2.1.2, hs1.2.2.2.1, hs1.2.2.2.2, hk13]
  refine MM_best hm1 hx1 hA (fun hb H2 hq => ?_) (fun j hj e H2 n2 q2 hq => ?_)
  · skip
    simp (disch := omega) only [t_L_law_1618, t_L_law_1619, t_L_law_1620, t_L_law_1622, t_L_law_1623, t_L_law_1624, t_L_law_1625, t_L_law_1626, t_L_law_1629, t_L_law_1631, t_L_law_1632, t_L_law_1633, t_L_law_1635, t_L_law_1636, t_L_law_1637, t_L_law_1638, t_L_law_1641, t_L_law_1643, ↓reduceIte, ev_k_i, ev_k_r, ev_k_l, ev_k_J, ev_k_n, ev_kr_1, ev_kr_0, ev_isK_y, ev_aG_y, ev_aS_y, ev_aN_y, ev_inA_0, ev_isA_0, ev_ft_I, ev_ft_0, ev_ft_1, ev_ft_o, ev_ft_a, ev_nb_0, ev_nb_1, and_true, true_and, if_true, if_false, not_true_eq_false, not_false_eq_true, nI_1, ev_fG_0, ev_fG_1, ev_fG_2, ev_fG_3, ev_fG_4, ev_fG_5, ev_fG_6, ev_fG_7, ev_fG_8, ev_fS_0, ev_fS_1, ev_fS_2, ev_fS_3, ev_fS_4, ev_fS_5, ev_fS_6, ev_fS_7, ev_fS_8, ev_isO_0, ev_isO_1, ev_isO_2, ev_isO_3, ev_isO_4, ev_isO_5, ev_isO_6, ev_isO_7, ev_isO_8, ev_z0, ev_z1, ev_z2, eq_self, ev_ofN, show ¬ (1 : Int32) = 0 from by decide, show ¬ (2 : Int32) = 0 from by decide, show ¬ (2 : Int32) = 1 from by decide, show ¬ (0 : Int32) = 1 from by decide, show ¬ (0 : Int32) = 2 from by decide, show ¬ (1 : Int32) = 2 from by decide, show ¬ (0 : Int32) = -1 from by decide, show (0 : Int32) ≤ 1 from by decide, show (1 : Int32).toNatClampNeg = 1 from rfl, show (0 : Nat) < 2 from by omega, show (1 : Nat) < 2 from by omega, not_true_eq_false, ne_eq, not_false_eq_true, hs1.1.1, hs1.1.2, hs1.2.1.1, hs1.2.1.2, hs1.2.2.1.1, hs1.2.2.1.2, hs1.2.2.2.1, hs1.2.2.2.2, hk13]
    have b2 := hq.2.2.2
    exact c _ _ H2 _ _ _ _ (jM_same hM1 hq hr1 KG_best) (by omega) (by omega) (by omega) (by omega)
  · skip
    simp (disch := omega) only [t_L_law_1618, t_L_law_1619, t_L_law_1620, t_L_law_1622, t_L_law_1623, t_L_law_1624, t_L_law_1625, t_L_law_1626, t_L_law_1629, t_L_law_1631, t_L_law_1632, t_L_law_1633, t_L_law_1635, t_L_law_1636, t_L_law_1637, t_L_law_1638, t_L_law_1641, t_L_law_1643, ↓reduceIte, ev_k_i, ev_k_r, ev_k_l, ev_k_J, ev_k_n, ev_kr_1, ev_kr_0, ev_isK_y, ev_aG_y, ev_aS_y, ev_aN_y, ev_inA_0, ev_isA_0, ev_ft_I, ev_ft_0, ev_ft_1, ev_ft_o, ev_ft_a, ev_nb_0, ev_nb_1, and_true, true_and, if_true, if_false, not_true_eq_false, not_false_eq_true, nI_1, ev_fG_0, ev_fG_1, ev_fG_2, ev_fG_3, ev_fG_4, ev_fG_5, ev_fG_6, ev_fG_7, ev_fG_8, ev_fS_0, ev_fS_1, ev_fS_2, ev_fS_3, ev_fS_4, ev_fS_5, ev_fS_6, ev_fS_7, ev_fS_8, ev_isO_0, ev_isO_1, ev_isO_2, ev_isO_3, ev_isO_4, ev_isO_5, ev_isO_6, ev_isO_7, ev_isO_8, ev_z0, ev_z1, ev_z2, eq_self, ev_ofN, show ¬ (1 : Int32) = 0 from by decide, show ¬ (2 : Int32) = 0 from by decide, show ¬ (2 : Int32) = 1 from by decide, show ¬ (0 : Int32) = 1 from by decide, show ¬ (0 : Int32) = 2 from by decide, show ¬ (1 : Int32) = 2 from by decide, show ¬ (0 : Int32) = -1 from by decide, show (0 : Int32) ≤ 1 from by decide, show (1 : Int32).toNatClampNeg = 1 from rfl, show (0 : Nat) < 2 from by omega, show (1 : Nat) < 2 from by omega, not_true_eq_false, ne_eq, not_false_eq_true, hs1.1.1, hs1.1.2, hs1.2.1.1, hs1.2.1.2, hs1.2.2.1.1, hs1.2.2.1.2, hs1.2.2.2.1, hs1.2.2.2.2, hk13]
    have b2 := hq.2.2.2
    exact c _ _ H2 _ _ _ _ (jM_same hM1 hq hr1 KG_best) (by omega) (by omega) (by omega) (by omega)
theorem LP_house (hS : jS X S i v0 v1 v2 v3) (h : jM X zf x G G As H n) {a5 a6 : Value} (c : jC X zf x S i n q P) : ev_ok (ev_TT X) 309 1646 [.ref S, .ref x, .ref (x + 57), .ref (x + 68), .int (nI i), a5, a6] [] H n q P := by
  have hn := jM_n h
  have hs := hS H (jM_low h)
  have h0 := h
  obtain ⟨hc, hJ, -, ⟨r, ow, hr, hm⟩, hx, hA, hl, ho, hxs⟩ := h0
  have hln := hl.1
  simp (disch := omega) only [t_L_law_1646, t_L_law_1647, t_L_law_1648, t_L_law_1650, t_L_law_1651, t_L_law_1652, t_L_law_1653, t_L_law_1654, t_L_law_1657, t_L_law_1659, t_L_law_1660, t_L_law_1661, t_L_law_1663, t_L_law_1664, t_L_law_1665, t_L_law_1666, t_L_law_1669, t_L_law_1671, ↓reduceIte, ev_k_i, ev_k_r, ev_k_l, ev_k_J, ev_k_n, ev_kr_1, ev_kr_0, ev_isK_y, ev_aG_y, ev_aS_y, ev_aN_y, ev_inA_0, ev_isA_0, ev_ft_I, ev_ft_0, ev_ft_1, ev_ft_o, ev_ft_a, ev_nb_0, ev_nb_1, and_true, true_and, if_true, if_false, not_true_eq_false, not_false_eq_true, nI_1, ev_fG_0, ev_fG_1, ev_fG_2, ev_fG_3, ev_fG_4, ev_fG_5, ev_fG_6, ev_fG_7, ev_fG_8, ev_fS_0, ev_fS_1, ev_fS_2, ev_fS_3, ev_fS_4, ev_fS_5, ev_fS_6, ev_fS_7, ev_fS_8, ev_isO_0, ev_isO_1, ev_isO_2, ev_isO_3, ev_isO_4, ev_isO_5, ev_isO_6, ev_isO_7, ev_isO_8, ev_z0, ev_z1, ev_z2, eq_self, ev_ofN, show ¬ (1 : Int32) = 0 from by decide, show ¬ (2 : Int32) = 0 from by decide, show ¬ (2 : Int32) = 1 from by decide, show ¬ (0 : Int32) = 1 from by decide, show ¬ (0 : Int32) = 2 from by decide, show ¬ (1 : Int32) = 2 from by decide, show ¬ (0 : Int32) = -1 from by decide, show (0 : Int32) ≤ 1 from by decide, show (1 : Int32).toNatClampNeg = 1 from rfl, show (0 : Nat) < 2 from by omega, show (1 : Nat) < 2 from by omega, not_true_eq_false, ne_eq, not_false_eq_true, hs.1.1, hs.1.2, hs.2.1.1, hs.2.1.2, hs.2.2.1.1, hs.2.2.1.2, hs.2.2.2.1, hs.2.2.2.2]
  refine LW_house hc hJ.1 (by omega) (by omega) ho (jM_z h) fun H1 n1 q1 hp => ?_
  have hM1 := jM_class h hp.1 (by rw [KG_house]; exact hJ) hp.2.1 (by obtain ⟨l, s, h1, -⟩ := hp.2.2.1; exact ⟨l, s, h1⟩) hp.2.2.2.1 hp.2.2.2.2.1
  have b1 := hp.2.2.2.2
  have hs1 := hS H1 (jM_low hM1)
  have h1 := hM1
  obtain ⟨hc1, hJ1, -, ⟨r1, ow1, hr1, hm1⟩, hx1, -, -, -, -⟩ := h1
  have hk13 := m_k13 hm1
  simp (disch := omega) only [t_L_law_1646, t_L_law_1647, t_L_law_1648, t_L_law_1650, t_L_law_1651, t_L_law_1652, t_L_law_1653, t_L_law_1654, t_L_law_1657, t_L_law_1659, t_L_law_1660, t_L_law_1661, t_L_law_1663, t_L_law_1664, t_L_law_1665, t_L_law_1666, t_L_law_1669, t_L_law_1671, ↓reduceIte, ev_k_i, ev_k_r, ev_k_l, ev_k_J, ev_k_n, ev_kr_1, ev_kr_0, ev_isK_y, ev_aG_y, ev_aS_y, ev_aN_y, ev_inA_0, ev_isA_0, ev_ft_I, ev_ft_0, ev_ft_1, ev_ft_o, ev_ft_a, ev_nb_0, ev_nb_1, and_true, true_and, if_true, if_false, not_true_eq_false, not_false_eq_true, nI_1, ev_fG_0, ev_fG_1, ev_fG_2, ev_fG_3, ev_fG_4, ev_fG_5, ev_fG_6, ev_fG_7, ev_fG_8, ev_fS_0, ev_fS_1, ev_fS_2, ev_fS_3, ev_fS_4, ev_fS_5, ev_fS_6, ev_fS_7, ev_fS_8, ev_isO_0, ev_isO_1, ev_isO_2, ev_isO_3, ev_isO_4, ev_isO_5, ev_isO_6, ev_isO_7, ev_isO_8, ev_z0, ev_z1, ev_z2, eq_self, ev_ofN, show ¬ (1 : Int32) = 0 from by decide, show ¬ (2 : Int32) = 0 from by decide, show ¬ (2 : Int32) = 1 from by decide, show ¬ (0 : Int32) = 1 from by decide, show ¬ (0 : Int32) = 2 from by decide, show ¬ (1 : Int32) = 2 from by decide, show ¬ (0 : Int32) = -1 from by decide, show (0 : Int32) ≤ 1 from by decide, show (1 : Int32).toNatClampNeg = 1 from rfl, show (0 : Nat) < 2 from by omega, show (1 : Nat) < 2 from by omega, not_true_eq_false, ne_eq, not_false_eq_true, hs1.1.1, hs1.1.2, hs1.2.1.1, hs1.2.1.2, hs1.2.2.1.1, hs1.2.2.1.2, hs1.2.2.2.1, hs1.2.2.2.2, hk13]
  refine MM_house hm1 hx1 hA (fun hb H2 hq => ?_) (fun a ha e H2 n2 q2 hq => ?_)
  · skip
    simp (disch := omega) only [t_L_law_1646, t_L_law_1647, t_L_law_1648, t_L_law_1650, t_L_law_1651, t_L_law_1652, t_L_law_1653, t_L_law_1654, t_L_law_1657, t_L_law_1659, t_L_law_1660, t_L_law_1661, t_L_law_1663, t_L_law_1664, t_L_law_1665, t_L_law_1666, t_L_law_1669, t_L_law_1671, ↓reduceIte, ev_k_i, ev_k_r, ev_k_l, ev_k_J, ev_k_n, ev_kr_1, ev_kr_0, ev_isK_y, ev_aG_y, ev_aS_y, ev_aN_y, ev_inA_0, ev_isA_0, ev_ft_I, ev_ft_0, ev_ft_1, ev_ft_o, ev_ft_a, ev_nb_0, ev_nb_1, and_true, true_and, if_true, if_false, not_true_eq_false, not_false_eq_true, nI_1, ev_fG_0, ev_fG_1, ev_fG_2, ev_fG_3, ev_fG_4, ev_fG_5, ev_fG_6, ev_fG_7, ev_fG_8, ev_fS_0, ev_fS_1, ev_fS_2, ev_fS_3, ev_fS_4, ev_fS_5, ev_fS_6, ev_fS_7, ev_fS_8, ev_isO_0, ev_isO_1, ev_isO_2, ev_isO_3, ev_isO_4, ev_isO_5, ev_isO_6, ev_isO_7, ev_isO_8, ev_z0, ev_z1, ev_z2, eq_self, ev_ofN, show ¬ (1 : Int32) = 0 from by decide, show ¬ (2 : Int32) = 0 from by decide, show ¬ (2 : Int32) = 1 from by decide, show ¬ (0 : Int32) = 1 from by decide, show ¬ (0 : Int32) = 2 from by decide, show ¬ (1 : Int32) = 2 from by decide, show ¬ (0 : Int32) = -1 from by decide, show (0 : Int32) ≤ 1 from by decide, show (1 : Int32).toNatClampNeg = 1 from rfl, show (0 : Nat) < 2 from by omega, show (1 : Nat) < 2 from by omega, not_true_eq_false, ne_eq, not_false_eq_true, hs1.1.1, hs1.1.2, hs1.2.1.1, hs1.2.1.2, hs1.2.2.1.1, hs1.2.2.1.2, hs1.2.2.2.1, hs1.2.2.2.2, hk13]
    have b2 := hq.2.2.2
    exact c _ _ H2 _ _ _ _ (jM_same hM1 hq hr1 KG_house) (by omega) (by omega) (by omega) (by omega)
  · skip
    simp (disch := omega) only [t_L_law_1646, t_L_law_1647, t_L_law_1648, t_L_law_1650, t_L_law_1651, t_L_law_1652, t_L_law_1653, t_L_law_1654, t_L_law_1657, t_L_law_1659, t_L_law_1660, t_L_law_1661, t_L_law_1663, t_L_law_1664, t_L_law_1665, t_L_law_1666, t_L_law_1669, t_L_law_1671, ↓reduceIte, ev_k_i, ev_k_r, ev_k_l, ev_k_J, ev_k_n, ev_kr_1, ev_kr_0, ev_isK_y, ev_aG_y, ev_aS_y, ev_aN_y, ev_inA_0, ev_isA_0, ev_ft_I, ev_ft_0, ev_ft_1, ev_ft_o, ev_ft_a, ev_nb_0, ev_nb_1, and_true, true_and, if_true, if_false, not_true_eq_false, not_false_eq_true, nI_1, ev_fG_0, ev_fG_1, ev_fG_2, ev_fG_3, ev_fG_4, ev_fG_5, ev_fG_6, ev_fG_7, ev_fG_8, ev_fS_0, ev_fS_1, ev_fS_2, ev_fS_3, ev_fS_4, ev_fS_5, ev_fS_6, ev_fS_7, ev_fS_8, ev_isO_0, ev_isO_1, ev_isO_2, ev_isO_3, ev_isO_4, ev_isO_5, ev_isO_6, ev_isO_7, ev_isO_8, ev_z0, ev_z1, ev_z2, eq_self, ev_ofN, show ¬ (1 : Int32) = 0 from by decide, show ¬ (2 : Int32) = 0 from by decide, show ¬ (2 : Int32) = 1 from by decide, show ¬ (0 : Int32) = 1 from by decide, show ¬ (0 : Int32) = 2 from by decide, show ¬ (1 : Int32) = 2 from by decide, show ¬ (0 : Int32) = -1 from by decide, show (0 : Int32) ≤ 1 from by decide, show (1 : Int32).toNatClampNeg = 1 from rfl, show (0 : Nat) < 2 from by omega, show (1 : Nat) < 2 from by omega, not_true_eq_false, ne_eq, not_false_eq_true, hs1.1.1, hs1.1.2, hs1.2.1.1, hs1.2.1.2, hs1.2.2.1.1, hs1.2.2.1.2, hs1.2.2.2.1, hs1.2.2.2.2, hk13]
    have b2 := hq.2.2.2
    exact c _ _ H2 _ _ _ _ (jM_same hM1 hq hr1 KG_house) (by omega) (by omega) (by omega) (by omega)
theorem LP_forget (hS : jS X S i v0 v1 v2 v3) (h : jM X zf x G G As H n) {a5 a6 : Value} (c : jC X zf x S i n q P) : ev_ok (ev_TT X) 309 1284 [.ref S, .ref x, .ref (x + 57), .ref (x + 68), .int (nI i), a5, a6] [] H n q P := by
  have hn := jM_n h
  have hs := hS H (jM_low h)
  have h0 := h
  obtain ⟨hc, hJ, -, ⟨r, ow, hr, hm⟩, hx, hA, hl, ho, hxs⟩ := h0
  have hln := hl.1
  have hk := c_all_k (X := X) hc
  simp (disch := omega) only [t_L_law_1284, t_L_law_1285, t_L_law_1288, t_L_law_1288_i, t_L_law_1289, t_L_law_1290, t_L_law_1293, t_L_law_1293_i, t_L_law_1294, ↓reduceIte, ev_k_i, ev_k_r, ev_k_l, ev_k_J, ev_k_n, ev_kr_1, ev_kr_0, ev_isK_y, ev_aG_y, ev_aS_y, ev_aN_y, ev_inA_0, ev_isA_0, ev_ft_I, ev_ft_0, ev_ft_1, ev_ft_o, ev_ft_a, ev_nb_0, ev_nb_1, and_true, true_and, if_true, if_false, not_true_eq_false, not_false_eq_true, nI_1, ev_fG_0, ev_fG_1, ev_fG_2, ev_fG_3, ev_fG_4, ev_fG_5, ev_fG_6, ev_fG_7, ev_fG_8, ev_fS_0, ev_fS_1, ev_fS_2, ev_fS_3, ev_fS_4, ev_fS_5, ev_fS_6, ev_fS_7, ev_fS_8, ev_isO_0, ev_isO_1, ev_isO_2, ev_isO_3, ev_isO_4, ev_isO_5, ev_isO_6, ev_isO_7, ev_isO_8, ev_z0, ev_z1, ev_z2, eq_self, ev_ofN, show ¬ (1 : Int32) = 0 from by decide, show ¬ (2 : Int32) = 0 from by decide, show ¬ (2 : Int32) = 1 from by decide, show ¬ (0 : Int32) = 1 from by decide, show ¬ (0 : Int32) = 2 from by decide, show ¬ (1 : Int32) = 2 from by decide, show ¬ (0 : Int32) = -1 from by decide, show (0 : Int32) ≤ 1 from by decide, show (1 : Int32).toNatClampNeg = 1 from rfl, show (0 : Nat) < 2 from by omega, show (1 : Nat) < 2 from by omega, not_true_eq_false, ne_eq, not_false_eq_true, hs.1.1, hs.1.2, hs.2.1.1, hs.2.1.2, hs.2.2.1.1, hs.2.2.1.2, hs.2.2.2.1, hs.2.2.2.2, hk]
  refine C_forget hc hJ.1 (fun H1 hc1 hf1 => ?_)
  · skip
    have hM1 : jM X zf x (pg_F (pg_F0 G) 6) G As H1 n := jM_class h hc1 (jG_F hJ) (fun a ha _ _ => hf1 a ha) (by obtain ⟨l, s, h1⟩ := ho; exact ⟨l, s, (hf1 _ (by omega)).trans h1⟩) (fun a ha => (hf1 a (by omega)).trans (jM_z h a ha)) (Nat.le_refl n)
    have hs1 := hS H1 (jM_low hM1)
    have h1 := hM1
    obtain ⟨hc1, hJ1, -, ⟨r1, ow1, hr1, hm1⟩, hx1, -, -, -, -⟩ := h1
    have hk13 := m_k13 hm1
    simp (disch := omega) only [t_L_law_1284, t_L_law_1285, t_L_law_1288, t_L_law_1288_i, t_L_law_1289, t_L_law_1290, t_L_law_1293, t_L_law_1293_i, t_L_law_1294, ↓reduceIte, ev_k_i, ev_k_r, ev_k_l, ev_k_J, ev_k_n, ev_kr_1, ev_kr_0, ev_isK_y, ev_aG_y, ev_aS_y, ev_aN_y, ev_inA_0, ev_isA_0, ev_ft_I, ev_ft_0, ev_ft_1, ev_ft_o, ev_ft_a, ev_nb_0, ev_nb_1, and_true, true_and, if_true, if_false, not_true_eq_false, not_false_eq_true, nI_1, ev_fG_0, ev_fG_1, ev_fG_2, ev_fG_3, ev_fG_4, ev_fG_5, ev_fG_6, ev_fG_7, ev_fG_8, ev_fS_0, ev_fS_1, ev_fS_2, ev_fS_3, ev_fS_4, ev_fS_5, ev_fS_6, ev_fS_7, ev_fS_8, ev_isO_0, ev_isO_1, ev_isO_2, ev_isO_3, ev_isO_4, ev_isO_5, ev_isO_6, ev_isO_7, ev_isO_8, ev_z0, ev_z1, ev_z2, eq_self, ev_ofN, show ¬ (1 : Int32) = 0 from by decide, show ¬ (2 : Int32) = 0 from by decide, show ¬ (2 : Int32) = 1 from by decide, show ¬ (0 : Int32) = 1 from by decide, show ¬ (0 : Int32) = 2 from by decide, show ¬ (1 : Int32) = 2 from by decide, show ¬ (0 : Int32) = -1 from by decide, show (0 : Int32) ≤ 1 from by decide, show (1 : Int32).toNatClampNeg = 1 from rfl, show (0 : Nat) < 2 from by omega, show (1 : Nat) < 2 from by omega, not_true_eq_false, ne_eq, not_false_eq_true, hs1.1.1, hs1.1.2, hs1.2.1.1, hs1.2.1.2, hs1.2.2.1.1, hs1.2.2.1.2, hs1.2.2.2.1, hs1.2.2.2.2, hk13]
    refine MM_forget hm1 hx1 hA (fun H2 hq => ?_)
    · skip
      simp (disch := omega) only [t_L_law_1284, t_L_law_1285, t_L_law_1288, t_L_law_1288_i, t_L_law_1289, t_L_law_1290, t_L_law_1293, t_L_law_1293_i, t_L_law_1294, ↓reduceIte, ev_k_i, ev_k_r, ev_k_l, ev_k_J, ev_k_n, ev_kr_1, ev_kr_0, ev_isK_y, ev_aG_y, ev_aS_y, ev_aN_y, ev_inA_0, ev_isA_0, ev_ft_I, ev_ft_0, ev_ft_1, ev_ft_o, ev_ft_a, ev_nb_0, ev_nb_1, and_true, true_and, if_true, if_false, not_true_eq_false, not_false_eq_true, nI_1, ev_fG_0, ev_fG_1, ev_fG_2, ev_fG_3, ev_fG_4, ev_fG_5, ev_fG_6, ev_fG_7, ev_fG_8, ev_fS_0, ev_fS_1, ev_fS_2, ev_fS_3, ev_fS_4, ev_fS_5, ev_fS_6, ev_fS_7, ev_fS_8, ev_isO_0, ev_isO_1, ev_isO_2, ev_isO_3, ev_isO_4, ev_isO_5, ev_isO_6, ev_isO_7, ev_isO_8, ev_z0, ev_z1, ev_z2, eq_self, ev_ofN, show ¬ (1 : Int32) = 0 from by decide, show ¬ (2 : Int32) = 0 from by decide, show ¬ (2 : Int32) = 1 from by decide, show ¬ (0 : Int32) = 1 from by decide, show ¬ (0 : Int32) = 2 from by decide, show ¬ (1 : Int32) = 2 from by decide, show ¬ (0 : Int32) = -1 from by decide, show (0 : Int32) ≤ 1 from by decide, show (1 : Int32).toNatClampNeg = 1 from rfl, show (0 : Nat) < 2 from by omega, show (1 : Nat) < 2 from by omega, not_true_eq_false, ne_eq, not_false_eq_true, hs1.1.1, hs1.1.2, hs1.2.1.1, hs1.2.1.2, hs1.2.2.1.1, hs1.2.2.1.2, hs1.2.2.2.1, hs1.2.2.2.2, hk13]
      have b2 := hq.2.2.2
      exact c _ _ H2 _ _ _ _ (jM_ref2 hM1 rfl hq hr1 ⟨hA.1, fun k hk => absurd hk List.not_mem_nil, Nat.zero_le 60⟩ (jR_F hl)) (by omega) (by omega) (by omega) (by omega)
theorem LP_asked (hS : jS X S i v0 v1 v2 v3) (h : jM X zf x G G As H n) {a5 a6 : Value} (c : jC X zf x S i n q P) : ev_ok (ev_TT X) 309 1297 [.ref S, .ref x, .ref (x + 57), .ref (x + 68), .int (nI i), a5, a6] [] H n q P := by
  have hn := jM_n h
  have hs := hS H (jM_low h)
  have h0 := h
  obtain ⟨hc, hJ, -, ⟨r, ow, hr, hm⟩, hx, hA, hl, ho, hxs⟩ := h0
  have hln := hl.1
  have hk := c_all_k (X := X) hc
  simp (disch := omega) only [t_L_law_1297, t_L_law_1298, t_L_law_1301, t_L_law_1301_i, t_L_law_1302, t_L_law_1303, t_L_law_1306, t_L_law_1306_i, t_L_law_1307, ↓reduceIte, ev_k_i, ev_k_r, ev_k_l, ev_k_J, ev_k_n, ev_kr_1, ev_kr_0, ev_isK_y, ev_aG_y, ev_aS_y, ev_aN_y, ev_inA_0, ev_isA_0, ev_ft_I, ev_ft_0, ev_ft_1, ev_ft_o, ev_ft_a, ev_nb_0, ev_nb_1, and_true, true_and, if_true, if_false, not_true_eq_false, not_false_eq_true, nI_1, ev_fG_0, ev_fG_1, ev_fG_2, ev_fG_3, ev_fG_4, ev_fG_5, ev_fG_6, ev_fG_7, ev_fG_8, ev_fS_0, ev_fS_1, ev_fS_2, ev_fS_3, ev_fS_4, ev_fS_5, ev_fS_6, ev_fS_7, ev_fS_8, ev_isO_0, ev_isO_1, ev_isO_2, ev_isO_3, ev_isO_4, ev_isO_5, ev_isO_6, ev_isO_7, ev_isO_8, ev_z0, ev_z1, ev_z2, eq_self, ev_ofN, show ¬ (1 : Int32) = 0 from by decide, show ¬ (2 : Int32) = 0 from by decide, show ¬ (2 : Int32) = 1 from by decide, show ¬ (0 : Int32) = 1 from by decide, show ¬ (0 : Int32) = 2 from by decide, show ¬ (1 : Int32) = 2 from by decide, show ¬ (0 : Int32) = -1 from by decide, show (0 : Int32) ≤ 1 from by decide, show (1 : Int32).toNatClampNeg = 1 from rfl, show (0 : Nat) < 2 from by omega, show (1 : Nat) < 2 from by omega, not_true_eq_false, ne_eq, not_false_eq_true, hs.1.1, hs.1.2, hs.2.1.1, hs.2.1.2, hs.2.2.1.1, hs.2.2.1.2, hs.2.2.2.1, hs.2.2.2.2, hk]
  refine C_asked hc ?_
  · skip
    have hM1 := h
    have b1 : n ≤ n ∧ q ≤ q := ⟨Nat.le_refl n, Nat.le_refl q⟩
    have hs1 := hS H (jM_low hM1)
    have h1 := hM1
    obtain ⟨hc1, hJ1, -, ⟨r1, ow1, hr1, hm1⟩, hx1, -, -, -, -⟩ := h1
    have hk13 := m_k13 hm1
    simp (disch := omega) only [t_L_law_1297, t_L_law_1298, t_L_law_1301, t_L_law_1301_i, t_L_law_1302, t_L_law_1303, t_L_law_1306, t_L_law_1306_i, t_L_law_1307, ↓reduceIte, ev_k_i, ev_k_r, ev_k_l, ev_k_J, ev_k_n, ev_kr_1, ev_kr_0, ev_isK_y, ev_aG_y, ev_aS_y, ev_aN_y, ev_inA_0, ev_isA_0, ev_ft_I, ev_ft_0, ev_ft_1, ev_ft_o, ev_ft_a, ev_nb_0, ev_nb_1, and_true, true_and, if_true, if_false, not_true_eq_false, not_false_eq_true, nI_1, ev_fG_0, ev_fG_1, ev_fG_2, ev_fG_3, ev_fG_4, ev_fG_5, ev_fG_6, ev_fG_7, ev_fG_8, ev_fS_0, ev_fS_1, ev_fS_2, ev_fS_3, ev_fS_4, ev_fS_5, ev_fS_6, ev_fS_7, ev_fS_8, ev_isO_0, ev_isO_1, ev_isO_2, ev_isO_3, ev_isO_4, ev_isO_5, ev_isO_6, ev_isO_7, ev_isO_8, ev_z0, ev_z1, ev_z2, eq_self, ev_ofN, show ¬ (1 : Int32) = 0 from by decide, show ¬ (2 : Int32) = 0 from by decide, show ¬ (2 : Int32) = 1 from by decide, show ¬ (0 : Int32) = 1 from by decide, show ¬ (0 : Int32) = 2 from by decide, show ¬ (1 : Int32) = 2 from by decide, show ¬ (0 : Int32) = -1 from by decide, show (0 : Int32) ≤ 1 from by decide, show (1 : Int32).toNatClampNeg = 1 from rfl, show (0 : Nat) < 2 from by omega, show (1 : Nat) < 2 from by omega, not_true_eq_false, ne_eq, not_false_eq_true, hs1.1.1, hs1.1.2, hs1.2.1.1, hs1.2.1.2, hs1.2.2.1.1, hs1.2.2.1.2, hs1.2.2.2.1, hs1.2.2.2.2, hk13]
    refine MM_asked hm1 hx1 hA (fun H2 hq => ?_)
    · skip
      simp (disch := omega) only [t_L_law_1297, t_L_law_1298, t_L_law_1301, t_L_law_1301_i, t_L_law_1302, t_L_law_1303, t_L_law_1306, t_L_law_1306_i, t_L_law_1307, ↓reduceIte, ev_k_i, ev_k_r, ev_k_l, ev_k_J, ev_k_n, ev_kr_1, ev_kr_0, ev_isK_y, ev_aG_y, ev_aS_y, ev_aN_y, ev_inA_0, ev_isA_0, ev_ft_I, ev_ft_0, ev_ft_1, ev_ft_o, ev_ft_a, ev_nb_0, ev_nb_1, and_true, true_and, if_true, if_false, not_true_eq_false, not_false_eq_true, nI_1, ev_fG_0, ev_fG_1, ev_fG_2, ev_fG_3, ev_fG_4, ev_fG_5, ev_fG_6, ev_fG_7, ev_fG_8, ev_fS_0, ev_fS_1, ev_fS_2, ev_fS_3, ev_fS_4, ev_fS_5, ev_fS_6, ev_fS_7, ev_fS_8, ev_isO_0, ev_isO_1, ev_isO_2, ev_isO_3, ev_isO_4, ev_isO_5, ev_isO_6, ev_isO_7, ev_isO_8, ev_z0, ev_z1, ev_z2, eq_self, ev_ofN, show ¬ (1 : Int32) = 0 from by decide, show ¬ (2 : Int32) = 0 from by decide, show ¬ (2 : Int32) = 1 from by decide, show ¬ (0 : Int32) = 1 from by decide, show ¬ (0 : Int32) = 2 from by decide, show ¬ (1 : Int32) = 2 from by decide, show ¬ (0 : Int32) = -1 from by decide, show (0 : Int32) ≤ 1 from by decide, show (1 : Int32).toNatClampNeg = 1 from rfl, show (0 : Nat) < 2 from by omega, show (1 : Nat) < 2 from by omega, not_true_eq_false, ne_eq, not_false_eq_true, hs1.1.1, hs1.1.2, hs1.2.1.1, hs1.2.1.2, hs1.2.2.1.1, hs1.2.2.1.2, hs1.2.2.2.1, hs1.2.2.2.2, hk13]
      have b2 := hq.2.2.2
      exact c _ _ H2 _ _ _ _ (jM_ref hM1 hq hr1 hA hl) (by omega) (by omega) (by omega) (by omega)
theorem LP_askedAt (hS : jS X S i v0 v1 v2 v3) (h : jM X zf x G G As H n) {a5 a6 : Value} (c : jC X zf x S i n q P) : ev_ok (ev_TT X) 309 1310 [.ref S, .ref x, .ref (x + 57), .ref (x + 68), .int (nI i), a5, a6] [] H n q P := by
  have hn := jM_n h
  have hs := hS H (jM_low h)
  have h0 := h
  obtain ⟨hc, hJ, -, ⟨r, ow, hr, hm⟩, hx, hA, hl, ho, hxs⟩ := h0
  have hln := hl.1
  have hk := c_all_k (X := X) hc
  simp (disch := omega) only [t_L_law_1310, t_L_law_1311, t_L_law_1312, t_L_law_1314, t_L_law_1315, t_L_law_1316, t_L_law_1317, t_L_law_1320, t_L_law_1320_i, t_L_law_1321, t_L_law_1322, t_L_law_1323, t_L_law_1325, t_L_law_1326, t_L_law_1327, t_L_law_1328, t_L_law_1331, t_L_law_1331_i, t_L_law_1332, ↓reduceIte, ev_k_i, ev_k_r, ev_k_l, ev_k_J, ev_k_n, ev_kr_1, ev_kr_0, ev_isK_y, ev_aG_y, ev_aS_y, ev_aN_y, ev_inA_0, ev_isA_0, ev_ft_I, ev_ft_0, ev_ft_1, ev_ft_o, ev_ft_a, ev_nb_0, ev_nb_1, and_true, true_and, if_true, if_false, not_true_eq_false, not_false_eq_true, nI_1, ev_fG_0, ev_fG_1, ev_fG_2, ev_fG_3, ev_fG_4, ev_fG_5, ev_fG_6, ev_fG_7, ev_fG_8, ev_fS_0, ev_fS_1, ev_fS_2, ev_fS_3, ev_fS_4, ev_fS_5, ev_fS_6, ev_fS_7, ev_fS_8, ev_isO_0, ev_isO_1, ev_isO_2, ev_isO_3, ev_isO_4, ev_isO_5, ev_isO_6, ev_isO_7, ev_isO_8, ev_z0, ev_z1, ev_z2, eq_self, ev_ofN, show ¬ (1 : Int32) = 0 from by decide, show ¬ (2 : Int32) = 0 from by decide, show ¬ (2 : Int32) = 1 from by decide, show ¬ (0 : Int32) = 1 from by decide, show ¬ (0 : Int32) = 2 from by decide, show ¬ (1 : Int32) = 2 from by decide, show ¬ (0 : Int32) = -1 from by decide, show (0 : Int32) ≤ 1 from by decide, show (1 : Int32).toNatClampNeg = 1 from rfl, show (0 : Nat) < 2 from by omega, show (1 : Nat) < 2 from by omega, not_true_eq_false, ne_eq, not_false_eq_true, hs.1.1, hs.1.2, hs.2.1.1, hs.2.1.2, hs.2.2.1.1, hs.2.2.1.2, hs.2.2.2.1, hs.2.2.2.2, hk]
  refine C_askedAt hc hJ.1 (fun hb => ?_) (fun j hj e => ?_)
  · skip
    have hM1 := h
    have b1 : n ≤ n ∧ q ≤ q := ⟨Nat.le_refl n, Nat.le_refl q⟩
    have hs1 := hS H (jM_low hM1)
    have h1 := hM1
    obtain ⟨hc1, hJ1, -, ⟨r1, ow1, hr1, hm1⟩, hx1, -, -, -, -⟩ := h1
    have hk13 := m_k13 hm1
    simp (disch := omega) only [t_L_law_1310, t_L_law_1311, t_L_law_1312, t_L_law_1314, t_L_law_1315, t_L_law_1316, t_L_law_1317, t_L_law_1320, t_L_law_1320_i, t_L_law_1321, t_L_law_1322, t_L_law_1323, t_L_law_1325, t_L_law_1326, t_L_law_1327, t_L_law_1328, t_L_law_1331, t_L_law_1331_i, t_L_law_1332, ↓reduceIte, ev_k_i, ev_k_r, ev_k_l, ev_k_J, ev_k_n, ev_kr_1, ev_kr_0, ev_isK_y, ev_aG_y, ev_aS_y, ev_aN_y, ev_inA_0, ev_isA_0, ev_ft_I, ev_ft_0, ev_ft_1, ev_ft_o, ev_ft_a, ev_nb_0, ev_nb_1, and_true, true_and, if_true, if_false, not_true_eq_false, not_false_eq_true, nI_1, ev_fG_0, ev_fG_1, ev_fG_2, ev_fG_3, ev_fG_4, ev_fG_5, ev_fG_6, ev_fG_7, ev_fG_8, ev_fS_0, ev_fS_1, ev_fS_2, ev_fS_3, ev_fS_4, ev_fS_5, ev_fS_6, ev_fS_7, ev_fS_8, ev_isO_0, ev_isO_1, ev_isO_2, ev_isO_3, ev_isO_4, ev_isO_5, ev_isO_6, ev_isO_7, ev_isO_8, ev_z0, ev_z1, ev_z2, eq_self, ev_ofN, show ¬ (1 : Int32) = 0 from by decide, show ¬ (2 : Int32) = 0 from by decide, show ¬ (2 : Int32) = 1 from by decide, show ¬ (0 : Int32) = 1 from by decide, show ¬ (0 : Int32) = 2 from by decide, show ¬ (1 : Int32) = 2 from by decide, show ¬ (0 : Int32) = -1 from by decide, show (0 : Int32) ≤ 1 from by decide, show (1 : Int32).toNatClampNeg = 1 from rfl, show (0 : Nat) < 2 from by omega, show (1 : Nat) < 2 from by omega, not_true_eq_false, ne_eq, not_false_eq_true, hs1.1.1, hs1.1.2, hs1.2.1.1, hs1.2.1.2, hs1.2.2.1.1, hs1.2.2.1.2, hs1.2.2.2.1, hs1.2.2.2.2, hk13]
    refine MM_askedAt hm1 hx1 hA (fun hb2 H2 hq => ?_) (fun j2 hj2 e2 H2 hq => ?_)
    · skip
      simp (disch := omega) only [t_L_law_1310, t_L_law_1311, t_L_law_1312, t_L_law_1314, t_L_law_1315, t_L_law_1316, t_L_law_1317, t_L_law_1320, t_L_law_1320_i, t_L_law_1321, t_L_law_1322, t_L_law_1323, t_L_law_1325, t_L_law_1326, t_L_law_1327, t_L_law_1328, t_L_law_1331, t_L_law_1331_i, t_L_law_1332, ↓reduceIte, ev_k_i, ev_k_r, ev_k_l, ev_k_J, ev_k_n, ev_kr_1, ev_kr_0, ev_isK_y, ev_aG_y, ev_aS_y, ev_aN_y, ev_inA_0, ev_isA_0, ev_ft_I, ev_ft_0, ev_ft_1, ev_ft_o, ev_ft_a, ev_nb_0, ev_nb_1, and_true, true_and, if_true, if_false, not_true_eq_false, not_false_eq_true, nI_1, ev_fG_0, ev_fG_1, ev_fG_2, ev_fG_3, ev_fG_4, ev_fG_5, ev_fG_6, ev_fG_7, ev_fG_8, ev_fS_0, ev_fS_1, ev_fS_2, ev_fS_3, ev_fS_4, ev_fS_5, ev_fS_6, ev_fS_7, ev_fS_8, ev_isO_0, ev_isO_1, ev_isO_2, ev_isO_3, ev_isO_4, ev_isO_5, ev_isO_6, ev_isO_7, ev_isO_8, ev_z0, ev_z1, ev_z2, eq_self, ev_ofN, show ¬ (1 : Int32) = 0 from by decide, show ¬ (2 : Int32) = 0 from by decide, show ¬ (2 : Int32) = 1 from by decide, show ¬ (0 : Int32) = 1 from by decide, show ¬ (0 : Int32) = 2 from by decide, show ¬ (1 : Int32) = 2 from by decide, show ¬ (0 : Int32) = -1 from by decide, show (0 : Int32) ≤ 1 from by decide, show (1 : Int32).toNatClampNeg = 1 from rfl, show (0 : Nat) < 2 from by omega, show (1 : Nat) < 2 from by omega, not_true_eq_false, ne_eq, not_false_eq_true, hs1.1.1, hs1.1.2, hs1.2.1.1, hs1.2.1.2, hs1.2.2.1.1, hs1.2.2.1.2, hs1.2.2.2.1, hs1.2.2.2.2, hk13]
      have b2 := hq.2.2.2
      exact c _ _ H2 _ _ _ _ (jM_ref hM1 hq hr1 hA hl) (by omega) (by omega) (by omega) (by omega)
    · skip
      simp (disch := omega) only [t_L_law_1310, t_L_law_1311, t_L_law_1312, t_L_law_1314, t_L_law_1315, t_L_law_1316, t_L_law_1317, t_L_law_1320, t_L_law_1320_i, t_L_law_1321, t_L_law_1322, t_L_law_1323, t_L_law_1325, t_L_law_1326, t_L_law_1327, t_L_law_1328, t_L_law_1331, t_L_law_1331_i, t_L_law_1332, ↓reduceIte, ev_k_i, ev_k_r, ev_k_l, ev_k_J, ev_k_n, ev_kr_1, ev_kr_0, ev_isK_y, ev_aG_y, ev_aS_y, ev_aN_y, ev_inA_0, ev_isA_0, ev_ft_I, ev_ft_0, ev_ft_1, ev_ft_o, ev_ft_a, ev_nb_0, ev_nb_1, and_true, true_and, if_true, if_false, not_true_eq_false, not_false_eq_true, nI_1, ev_fG_0, ev_fG_1, ev_fG_2, ev_fG_3, ev_fG_4, ev_fG_5, ev_fG_6, ev_fG_7, ev_fG_8, ev_fS_0, ev_fS_1, ev_fS_2, ev_fS_3, ev_fS_4, ev_fS_5, ev_fS_6, ev_fS_7, ev_fS_8, ev_isO_0, ev_isO_1, ev_isO_2, ev_isO_3, ev_isO_4, ev_isO_5, ev_isO_6, ev_isO_7, ev_isO_8, ev_z0, ev_z1, ev_z2, eq_self, ev_ofN, show ¬ (1 : Int32) = 0 from by decide, show ¬ (2 : Int32) = 0 from by decide, show ¬ (2 : Int32) = 1 from by decide, show ¬ (0 : Int32) = 1 from by decide, show ¬ (0 : Int32) = 2 from by decide, show ¬ (1 : Int32) = 2 from by decide, show ¬ (0 : Int32) = -1 from by decide, show (0 : Int32) ≤ 1 from by decide, show (1 : Int32).toNatClampNeg = 1 from rfl, show (0 : Nat) < 2 from by omega, show (1 : Nat) < 2 from by omega, not_true_eq_false, ne_eq, not_false_eq_true, hs1.1.1, hs1.1.2, hs1.2.1.1, hs1.2.1.2, hs1.2.2.1.1, hs1.2.2.1.2, hs1.2.2.2.1, hs1.2.2.2.2, hk13]
      have b2 := hq.2.2.2
      exact c _ _ H2 _ _ _ _ (jM_ref hM1 hq hr1 hA hl) (by omega) (by omega) (by omega) (by omega)
  · skip
    have hM1 := h
    have b1 : n ≤ n ∧ q ≤ q := ⟨Nat.le_refl n, Nat.le_refl q⟩
    have hs1 := hS H (jM_low hM1)
    have h1 := hM1
    obtain ⟨hc1, hJ1, -, ⟨r1, ow1, hr1, hm1⟩, hx1, -, -, -, -⟩ := h1
    have hk13 := m_k13 hm1
    simp (disch := omega) only [t_L_law_1310, t_L_law_1311, t_L_law_1312, t_L_law_1314, t_L_law_1315, t_L_law_1316, t_L_law_1317, t_L_law_1320, t_L_law_1320_i, t_L_law_1321, t_L_law_1322, t_L_law_1323, t_L_law_1325, t_L_law_1326, t_L_law_1327, t_L_law_1328, t_L_law_1331, t_L_law_1331_i, t_L_law_1332, ↓reduceIte, ev_k_i, ev_k_r, ev_k_l, ev_k_J, ev_k_n, ev_kr_1, ev_kr_0, ev_isK_y, ev_aG_y, ev_aS_y, ev_aN_y, ev_inA_0, ev_isA_0, ev_ft_I, ev_ft_0, ev_ft_1, ev_ft_o, ev_ft_a, ev_nb_0, ev_nb_1, and_true, true_and, if_true, if_false, not_true_eq_false, not_false_eq_true, nI_1, ev_fG_0, ev_fG_1, ev_fG_2, ev_fG_3, ev_fG_4, ev_fG_5, ev_fG_6, ev_fG_7, ev_fG_8, ev_fS_0, ev_fS_1, ev_fS_2, ev_fS_3, ev_fS_4, ev_fS_5, ev_fS_6, ev_fS_7, ev_fS_8, ev_isO_0, ev_isO_1, ev_isO_2, ev_isO_3, ev_isO_4, ev_isO_5, ev_isO_6, ev_isO_7, ev_isO_8, ev_z0, ev_z1, ev_z2, eq_self, ev_ofN, show ¬ (1 : Int32) = 0 from by decide, show ¬ (2 : Int32) = 0 from by decide, show ¬ (2 : Int32) = 1 from by decide, show ¬ (0 : Int32) = 1 from by decide, show ¬ (0 : Int32) = 2 from by decide, show ¬ (1 : Int32) = 2 from by decide, show ¬ (0 : Int32) = -1 from by decide, show (0 : Int32) ≤ 1 from by decide, show (1 : Int32).toNatClampNeg = 1 from rfl, show (0 : Nat) < 2 from by omega, show (1 : Nat) < 2 from by omega, not_true_eq_false, ne_eq, not_false_eq_true, hs1.1.1, hs1.1.2, hs1.2.1.1, hs1.2.1.2, hs1.2.2.1.1, hs1.2.2.1.2, hs1.2.2.2.1, hs1.2.2.2.2, hk13]
    refine MM_askedAt hm1 hx1 hA (fun hb2 H2 hq => ?_) (fun j2 hj2 e2 H2 hq => ?_)
    · skip
      simp (disch := omega) only [t_L_law_1310, t_L_law_1311, t_L_law_1312, t_L_law_1314, t_L_law_1315, t_L_law_1316, t_L_law_1317, t_L_law_1320, t_L_law_1320_i, t_L_law_1321, t_L_law_1322, t_L_law_1323, t_L_law_1325, t_L_law_1326, t_L_law_1327, t_L_law_1328, t_L_law_1331, t_L_law_1331_i, t_L_law_1332, ↓reduceIte, ev_k_i, ev_k_r, ev_k_l, ev_k_J, ev_k_n, ev_kr_1, ev_kr_0, ev_isK_y, ev_aG_y, ev_aS_y, ev_aN_y, ev_inA_0, ev_isA_0, ev_ft_I, ev_ft_0, ev_ft_1, ev_ft_o, ev_ft_a, ev_nb_0, ev_nb_1, and_true, true_and, if_true, if_false, not_true_eq_false, not_false_eq_true, nI_1, ev_fG_0, ev_fG_1, ev_fG_2, ev_fG_3, ev_fG_4, ev_fG_5, ev_fG_6, ev_fG_7, ev_fG_8, ev_fS_0, ev_fS_1, ev_fS_2, ev_fS_3, ev_fS_4, ev_fS_5, ev_fS_6, ev_fS_7, ev_fS_8, ev_isO_0, ev_isO_1, ev_isO_2, ev_isO_3, ev_isO_4, ev_isO_5, ev_isO_6, ev_isO_7, ev_isO_8, ev_z0, ev_z1, ev_z2, eq_self, ev_ofN, show ¬ (1 : Int32) = 0 from by decide, show ¬ (2 : Int32) = 0 from by decide, show ¬ (2 : Int32) = 1 from by decide, show ¬ (0 : Int32) = 1 from by decide, show ¬ (0 : Int32) = 2 from by decide, show ¬ (1 : Int32) = 2 from by decide, show ¬ (0 : Int32) = -1 from by decide, show (0 : Int32) ≤ 1 from by decide, show (1 : Int32).toNatClampNeg = 1 from rfl, show (0 : Nat) < 2 from by omega, show (1 : Nat) < 2 from by omega, not_true_eq_false, ne_eq, not_false_eq_true, hs1.1.1, hs1.1.2, hs1.2.1.1, hs1.2.1.2, hs1.2.2.1.1, hs1.2.2.1.2, hs1.2.2.2.1, hs1.2.2.2.2, hk13]
      have b2 := hq.2.2.2
      exact c _ _ H2 _ _ _ _ (jM_ref hM1 hq hr1 hA hl) (by omega) (by omega) (by omega) (by omega)
    · skip
      simp (disch := omega) only [t_L_law_1310, t_L_law_1311, t_L_law_1312, t_L_law_1314, t_L_law_1315, t_L_law_1316, t_L_law_1317, t_L_law_1320, t_L_law_1320_i, t_L_law_1321, t_L_law_1322, t_L_law_1323, t_L_law_1325, t_L_law_1326, t_L_law_1327, t_L_law_1328, t_L_law_1331, t_L_law_1331_i, t_L_law_1332, ↓reduceIte, ev_k_i, ev_k_r, ev_k_l, ev_k_J, ev_k_n, ev_kr_1, ev_kr_0, ev_isK_y, ev_aG_y, ev_aS_y, ev_aN_y, ev_inA_0, ev_isA_0, ev_ft_I, ev_ft_0, ev_ft_1, ev_ft_o, ev_ft_a, ev_nb_0, ev_nb_1, and_true, true_and, if_true, if_false, not_true_eq_false, not_false_eq_true, nI_1, ev_fG_0, ev_fG_1, ev_fG_2, ev_fG_3, ev_fG_4, ev_fG_5, ev_fG_6, ev_fG_7, ev_fG_8, ev_fS_0, ev_fS_1, ev_fS_2, ev_fS_3, ev_fS_4, ev_fS_5, ev_fS_6, ev_fS_7, ev_fS_8, ev_isO_0, ev_isO_1, ev_isO_2, ev_isO_3, ev_isO_4, ev_isO_5, ev_isO_6, ev_isO_7, ev_isO_8, ev_z0, ev_z1, ev_z2, eq_self, ev_ofN, show ¬ (1 : Int32) = 0 from by decide, show ¬ (2 : Int32) = 0 from by decide, show ¬ (2 : Int32) = 1 from by decide, show ¬ (0 : Int32) = 1 from by decide, show ¬ (0 : Int32) = 2 from by decide, show ¬ (1 : Int32) = 2 from by decide, show ¬ (0 : Int32) = -1 from by decide, show (0 : Int32) ≤ 1 from by decide, show (1 : Int32).toNatClampNeg = 1 from rfl, show (0 : Nat) < 2 from by omega, show (1 : Nat) < 2 from by omega, not_true_eq_false, ne_eq, not_false_eq_true, hs1.1.1, hs1.1.2, hs1.2.1.1, hs1.2.1.2, hs1.2.2.1.1, hs1.2.2.1.2, hs1.2.2.2.1, hs1.2.2.2.2, hk13]
      have b2 := hq.2.2.2
      exact c _ _ H2 _ _ _ _ (jM_ref hM1 hq hr1 hA hl) (by omega) (by omega) (by omega) (by omega)
theorem LP_depthAt (hS : jS X S i v0 v1 v2 v3) (h : jM X zf x G G As H n) {a5 a6 : Value} (c : jC X zf x S i n q P) : ev_ok (ev_TT X) 309 1335 [.ref S, .ref x, .ref (x + 57), .ref (x + 68), .int (nI i), a5, a6] [] H n q P := by
  have hn := jM_n h
  have hs := hS H (jM_low h)
  have h0 := h
  obtain ⟨hc, hJ, -, ⟨r, ow, hr, hm⟩, hx, hA, hl, ho, hxs⟩ := h0
  have hln := hl.1
  have hk := c_all_k (X := X) hc
  simp (disch := omega) only [t_L_law_1335, t_L_law_1336, t_L_law_1337, t_L_law_1339, t_L_law_1340, t_L_law_1341, t_L_law_1342, t_L_law_1345, t_L_law_1346, t_L_law_1347, t_L_law_1349, t_L_law_1350, t_L_law_1351, t_L_law_1352, t_L_law_1355, t_L_law_1358, t_L_law_1359, ↓reduceIte, ev_k_i, ev_k_r, ev_k_l, ev_k_J, ev_k_n, ev_kr_1, ev_kr_0, ev_isK_y, ev_aG_y, ev_aS_y, ev_aN_y, ev_inA_0, ev_isA_0, ev_ft_I, ev_ft_0, ev_ft_1, ev_ft_o, ev_ft_a, ev_nb_0, ev_nb_1, and_true, true_and, if_true, if_false, not_true_eq_false, not_false_eq_true, nI_1, ev_fG_0, ev_fG_1, ev_fG_2, ev_fG_3, ev_fG_4, ev_fG_5, ev_fG_6, ev_fG_7, ev_fG_8, ev_fS_0, ev_fS_1, ev_fS_2, ev_fS_3, ev_fS_4, ev_fS_5, ev_fS_6, ev_fS_7, ev_fS_8, ev_isO_0, ev_isO_1, ev_isO_2, ev_isO_3, ev_isO_4, ev_isO_5, ev_isO_6, ev_isO_7, ev_isO_8, ev_z0, ev_z1, ev_z2, eq_self, ev_ofN, show ¬ (1 : Int32) = 0 from by decide, show ¬ (2 : Int32) = 0 from by decide, show ¬ (2 : Int32) = 1 from by decide, show ¬ (0 : Int32) = 1 from by decide, show ¬ (0 : Int32) = 2 from by decide, show ¬ (1 : Int32) = 2 from by decide, show ¬ (0 : Int32) = -1 from by decide, show (0 : Int32) ≤ 1 from by decide, show (1 : Int32).toNatClampNeg = 1 from rfl, show (0 : Nat) < 2 from by omega, show (1 : Nat) < 2 from by omega, not_true_eq_false, ne_eq, not_false_eq_true, hs.1.1, hs.1.2, hs.2.1.1, hs.2.1.2, hs.2.2.1.1, hs.2.2.1.2, hs.2.2.2.1, hs.2.2.2.2, hk]
  refine C_depthAt hc hJ.1 (fun hb => ?_) (fun j hj e => ?_)
  · skip
    have hM1 := h
    have b1 : n ≤ n ∧ q ≤ q := ⟨Nat.le_refl n, Nat.le_refl q⟩
    have hs1 := hS H (jM_low hM1)
    have h1 := hM1
    obtain ⟨hc1, hJ1, -, ⟨r1, ow1, hr1, hm1⟩, hx1, -, -, -, -⟩ := h1
    have hk13 := m_k13 hm1
    simp (disch := omega) only [t_L_law_1335, t_L_law_1336, t_L_law_1337, t_L_law_1339, t_L_law_1340, t_L_law_1341, t_L_law_1342, t_L_law_1345, t_L_law_1346, t_L_law_1347, t_L_law_1349, t_L_law_1350, t_L_law_1351, t_L_law_1352, t_L_law_1355, t_L_law_1358, t_L_law_1359, ↓reduceIte, ev_k_i, ev_k_r, ev_k_l, ev_k_J, ev_k_n, ev_kr_1, ev_kr_0, ev_isK_y, ev_aG_y, ev_aS_y, ev_aN_y, ev_inA_0, ev_isA_0, ev_ft_I, ev_ft_0, ev_ft_1, ev_ft_o, ev_ft_a, ev_nb_0, ev_nb_1, and_true, true_and, if_true, if_false, not_true_eq_false, not_false_eq_true, nI_1, ev_fG_0, ev_fG_1, ev_fG_2, ev_fG_3, ev_fG_4, ev_fG_5, ev_fG_6, ev_fG_7, ev_fG_8, ev_fS_0, ev_fS_1, ev_fS_2, ev_fS_3, ev_fS_4, ev_fS_5, ev_fS_6, ev_fS_7, ev_fS_8, ev_isO_0, ev_isO_1, ev_isO_2, ev_isO_3, ev_isO_4, ev_isO_5, ev_isO_6, ev_isO_7, ev_isO_8, ev_z0, ev_z1, ev_z2, eq_self, ev_ofN, show ¬ (1 : Int32) = 0 from by decide, show ¬ (2 : Int32) = 0 from by decide, show ¬ (2 : Int32) = 1 from by decide, show ¬ (0 : Int32) = 1 from by decide, show ¬ (0 : Int32) = 2 from by decide, show ¬ (1 : Int32) = 2 from by decide, show ¬ (0 : Int32) = -1 from by decide, show (0 : Int32) ≤ 1 from by decide, show (1 : Int32).toNatClampNeg = 1 from rfl, show (0 : Nat) < 2 from by omega, show (1 : Nat) < 2 from by omega, not_true_eq_false, ne_eq, not_false_eq_true, hs1.1.1, hs1.1.2, hs1.2.1.1, hs1.2.1.2, hs1.2.2.1.1, hs1.2.2.1.2, hs1.2.2.2.1, hs1.2.2.2.2, hk13]
    refine MM_depthAt hm1 hx1 hA (fun hb2 H2 hq => ?_) (fun j2 hj2 e2 H2 hq => ?_)
    · skip
      simp (disch := omega) only [t_L_law_1335, t_L_law_1336, t_L_law_1337, t_L_law_1339, t_L_law_1340, t_L_law_1341, t_L_law_1342, t_L_law_1345, t_L_law_1346, t_L_law_1347, t_L_law_1349, t_L_law_1350, t_L_law_1351, t_L_law_1352, t_L_law_1355, t_L_law_1358, t_L_law_1359, ↓reduceIte, ev_k_i, ev_k_r, ev_k_l, ev_k_J, ev_k_n, ev_kr_1, ev_kr_0, ev_isK_y, ev_aG_y, ev_aS_y, ev_aN_y, ev_inA_0, ev_isA_0, ev_ft_I, ev_ft_0, ev_ft_1, ev_ft_o, ev_ft_a, ev_nb_0, ev_nb_1, and_true, true_and, if_true, if_false, not_true_eq_false, not_false_eq_true, nI_1, ev_fG_0, ev_fG_1, ev_fG_2, ev_fG_3, ev_fG_4, ev_fG_5, ev_fG_6, ev_fG_7, ev_fG_8, ev_fS_0, ev_fS_1, ev_fS_2, ev_fS_3, ev_fS_4, ev_fS_5, ev_fS_6, ev_fS_7, ev_fS_8, ev_isO_0, ev_isO_1, ev_isO_2, ev_isO_3, ev_isO_4, ev_isO_5, ev_isO_6, ev_isO_7, ev_isO_8, ev_z0, ev_z1, ev_z2, eq_self, ev_ofN, show ¬ (1 : Int32) = 0 from by decide, show ¬ (2 : Int32) = 0 from by decide, show ¬ (2 : Int32) = 1 from by decide, show ¬ (0 : Int32) = 1 from by decide, show ¬ (0 : Int32) = 2 from by decide, show ¬ (1 : Int32) = 2 from by decide, show ¬ (0 : Int32) = -1 from by decide, show (0 : Int32) ≤ 1 from by decide, show (1 : Int32).toNatClampNeg = 1 from rfl, show (0 : Nat) < 2 from by omega, show (1 : Nat) < 2 from by omega, not_true_eq_false, ne_eq, not_false_eq_true, hs1.1.1, hs1.1.2, hs1.2.1.1, hs1.2.1.2, hs1.2.2.1.1, hs1.2.2.1.2, hs1.2.2.2.1, hs1.2.2.2.2, hk13]
      have b2 := hq.2.2.2
      exact c _ _ H2 _ _ _ _ (jM_ref hM1 hq hr1 hA hl) (by omega) (by omega) (by omega) (by omega)
    · skip
      exact absurd ⟨by rw [e2]; exact nI_pos' (by have := hA.2.2; omega), by rw [e2]; exact nI_lt (by omega) (by have := hA.2.2; omega)⟩ hb
  · skip
    have hM1 := h
    have b1 : n ≤ n ∧ q ≤ q := ⟨Nat.le_refl n, Nat.le_refl q⟩
    have hs1 := hS H (jM_low hM1)
    have h1 := hM1
    obtain ⟨hc1, hJ1, -, ⟨r1, ow1, hr1, hm1⟩, hx1, -, -, -, -⟩ := h1
    have hk13 := m_k13 hm1
    simp (disch := omega) only [t_L_law_1335, t_L_law_1336, t_L_law_1337, t_L_law_1339, t_L_law_1340, t_L_law_1341, t_L_law_1342, t_L_law_1345, t_L_law_1346, t_L_law_1347, t_L_law_1349, t_L_law_1350, t_L_law_1351, t_L_law_1352, t_L_law_1355, t_L_law_1358, t_L_law_1359, ↓reduceIte, ev_k_i, ev_k_r, ev_k_l, ev_k_J, ev_k_n, ev_kr_1, ev_kr_0, ev_isK_y, ev_aG_y, ev_aS_y, ev_aN_y, ev_inA_0, ev_isA_0, ev_ft_I, ev_ft_0, ev_ft_1, ev_ft_o, ev_ft_a, ev_nb_0, ev_nb_1, and_true, true_and, if_true, if_false, not_true_eq_false, not_false_eq_true, nI_1, ev_fG_0, ev_fG_1, ev_fG_2, ev_fG_3, ev_fG_4, ev_fG_5, ev_fG_6, ev_fG_7, ev_fG_8, ev_fS_0, ev_fS_1, ev_fS_2, ev_fS_3, ev_fS_4, ev_fS_5, ev_fS_6, ev_fS_7, ev_fS_8, ev_isO_0, ev_isO_1, ev_isO_2, ev_isO_3, ev_isO_4, ev_isO_5, ev_isO_6, ev_isO_7, ev_isO_8, ev_z0, ev_z1, ev_z2, eq_self, ev_ofN, show ¬ (1 : Int32) = 0 from by decide, show ¬ (2 : Int32) = 0 from by decide, show ¬ (2 : Int32) = 1 from by decide, show ¬ (0 : Int32) = 1 from by decide, show ¬ (0 : Int32) = 2 from by decide, show ¬ (1 : Int32) = 2 from by decide, show ¬ (0 : Int32) = -1 from by decide, show (0 : Int32) ≤ 1 from by decide, show (1 : Int32).toNatClampNeg = 1 from rfl, show (0 : Nat) < 2 from by omega, show (1 : Nat) < 2 from by omega, not_true_eq_false, ne_eq, not_false_eq_true, hs1.1.1, hs1.1.2, hs1.2.1.1, hs1.2.1.2, hs1.2.2.1.1, hs1.2.2.1.2, hs1.2.2.2.1, hs1.2.2.2.2, hk13]
    refine MM_depthAt hm1 hx1 hA (fun hb2 H2 hq => ?_) (fun j2 hj2 e2 H2 hq => ?_)
    · skip
      exact absurd ⟨by rw [e]; exact nI_pos' (by have := hA.2.2; omega), by rw [e]; exact nI_lt (by omega) (by have := hA.2.2; omega)⟩ hb2
    · skip
      have ej : j = j2 := nI_inj (by have := hA.2.2; omega) (by have := hA.2.2; omega) (e.symm.trans e2)
      subst ej
      have ev := (hl.2.1 j (by omega)).2.trans (congrArg nI md_dp.symm)
      simp (disch := omega) only [t_L_law_1335, t_L_law_1336, t_L_law_1337, t_L_law_1339, t_L_law_1340, t_L_law_1341, t_L_law_1342, t_L_law_1345, t_L_law_1346, t_L_law_1347, t_L_law_1349, t_L_law_1350, t_L_law_1351, t_L_law_1352, t_L_law_1355, t_L_law_1358, t_L_law_1359, ↓reduceIte, ev_k_i, ev_k_r, ev_k_l, ev_k_J, ev_k_n, ev_kr_1, ev_kr_0, ev_isK_y, ev_aG_y, ev_aS_y, ev_aN_y, ev_inA_0, ev_isA_0, ev_ft_I, ev_ft_0, ev_ft_1, ev_ft_o, ev_ft_a, ev_nb_0, ev_nb_1, and_true, true_and, if_true, if_false, not_true_eq_false, not_false_eq_true, nI_1, ev_fG_0, ev_fG_1, ev_fG_2, ev_fG_3, ev_fG_4, ev_fG_5, ev_fG_6, ev_fG_7, ev_fG_8, ev_fS_0, ev_fS_1, ev_fS_2, ev_fS_3, ev_fS_4, ev_fS_5, ev_fS_6, ev_fS_7, ev_fS_8, ev_isO_0, ev_isO_1, ev_isO_2, ev_isO_3, ev_isO_4, ev_isO_5, ev_isO_6, ev_isO_7, ev_isO_8, ev_z0, ev_z1, ev_z2, eq_self, ev_ofN, show ¬ (1 : Int32) = 0 from by decide, show ¬ (2 : Int32) = 0 from by decide, show ¬ (2 : Int32) = 1 from by decide, show ¬ (0 : Int32) = 1 from by decide, show ¬ (0 : Int32) = 2 from by decide, show ¬ (1 : Int32) = 2 from by decide, show ¬ (0 : Int32) = -1 from by decide, show (0 : Int32) ≤ 1 from by decide, show (1 : Int32).toNatClampNeg = 1 from rfl, show (0 : Nat) < 2 from by omega, show (1 : Nat) < 2 from by omega, not_true_eq_false, ne_eq, not_false_eq_true, hs1.1.1, hs1.1.2, hs1.2.1.1, hs1.2.1.2, hs1.2.2.1.1, hs1.2.2.1.2, hs1.2.2.2.1, hs1.2.2.2.2, hk13, ev]
      have b2 := hq.2.2.2
      exact c _ _ H2 _ _ _ _ (jM_ref hM1 hq hr1 hA hl) (by omega) (by omega) (by omega) (by omega)
theorem LP_stack (hS : jS X S i v0 v1 v2 v3) (h : jM X zf x G G As H n) (hD : ev_DG X) (hK : ev_KK X) {a5 a6 : Value} (c : jC X zf x S i n q P) : ev_ok (ev_TT X) 309 1388 [.ref S, .ref x, .ref (x + 57), .ref (x + 68), .int (nI i), a5, a6] [] H n q P := by
  have hn := jM_n h
  have hs := hS H (jM_low h)
  have h0 := h
  obtain ⟨hc, hJ, -, ⟨r, ow, hr, hm⟩, hx, hA, hl, ho, hxs⟩ := h0
  have hln := hl.1
  have hk := c_all_k (X := X) hc
  simp (disch := omega) only [t_L_law_1388, t_L_law_1389, t_L_law_1392, t_L_law_1392_i, t_L_law_1393, t_L_law_1394, t_L_law_1397, t_L_law_1397_i, t_L_law_1398, ↓reduceIte, ev_k_i, ev_k_r, ev_k_l, ev_k_J, ev_k_n, ev_kr_1, ev_kr_0, ev_isK_y, ev_aG_y, ev_aS_y, ev_aN_y, ev_inA_0, ev_isA_0, ev_ft_I, ev_ft_0, ev_ft_1, ev_ft_o, ev_ft_a, ev_nb_0, ev_nb_1, and_true, true_and, if_true, if_false, not_true_eq_false, not_false_eq_true, nI_1, ev_fG_0, ev_fG_1, ev_fG_2, ev_fG_3, ev_fG_4, ev_fG_5, ev_fG_6, ev_fG_7, ev_fG_8, ev_fS_0, ev_fS_1, ev_fS_2, ev_fS_3, ev_fS_4, ev_fS_5, ev_fS_6, ev_fS_7, ev_fS_8, ev_isO_0, ev_isO_1, ev_isO_2, ev_isO_3, ev_isO_4, ev_isO_5, ev_isO_6, ev_isO_7, ev_isO_8, ev_z0, ev_z1, ev_z2, eq_self, ev_ofN, show ¬ (1 : Int32) = 0 from by decide, show ¬ (2 : Int32) = 0 from by decide, show ¬ (2 : Int32) = 1 from by decide, show ¬ (0 : Int32) = 1 from by decide, show ¬ (0 : Int32) = 2 from by decide, show ¬ (1 : Int32) = 2 from by decide, show ¬ (0 : Int32) = -1 from by decide, show (0 : Int32) ≤ 1 from by decide, show (1 : Int32).toNatClampNeg = 1 from rfl, show (0 : Nat) < 2 from by omega, show (1 : Nat) < 2 from by omega, not_true_eq_false, ne_eq, not_false_eq_true, hs.1.1, hs.1.2, hs.2.1.1, hs.2.1.2, hs.2.2.1.1, hs.2.2.1.2, hs.2.2.2.1, hs.2.2.2.2, hk]
  refine C_stack hc hJ.1 hD hxs (jM_low h) (by omega) (jM_z h) (fun H1 s k n1 q1 hSt g1 g2 g3 hf hz1 g4 g5 g6 g7 => ?_)
  · skip
    have hM1 : jM X zf x G G As H1 n1 := jM_class h (c_cg hc (fun a ha hb => hf a (by omega))) hJ (fun a _ _ ha => hf a ha) (by obtain ⟨l, s, h1⟩ := ho; exact ⟨l, s, (hf _ (by omega)).trans h1⟩) hz1 (by omega)
    have hs1 := hS H1 (jM_low hM1)
    have h1 := hM1
    obtain ⟨hc1, hJ1, -, ⟨r1, ow1, hr1, hm1⟩, hx1, -, -, -, -⟩ := h1
    have hk13 := m_k13 hm1
    simp (disch := omega) only [t_L_law_1388, t_L_law_1389, t_L_law_1392, t_L_law_1392_i, t_L_law_1393, t_L_law_1394, t_L_law_1397, t_L_law_1397_i, t_L_law_1398, ↓reduceIte, ev_k_i, ev_k_r, ev_k_l, ev_k_J, ev_k_n, ev_kr_1, ev_kr_0, ev_isK_y, ev_aG_y, ev_aS_y, ev_aN_y, ev_inA_0, ev_isA_0, ev_ft_I, ev_ft_0, ev_ft_1, ev_ft_o, ev_ft_a, ev_nb_0, ev_nb_1, and_true, true_and, if_true, if_false, not_true_eq_false, not_false_eq_true, nI_1, ev_fG_0, ev_fG_1, ev_fG_2, ev_fG_3, ev_fG_4, ev_fG_5, ev_fG_6, ev_fG_7, ev_fG_8, ev_fS_0, ev_fS_1, ev_fS_2, ev_fS_3, ev_fS_4, ev_fS_5, ev_fS_6, ev_fS_7, ev_fS_8, ev_isO_0, ev_isO_1, ev_isO_2, ev_isO_3, ev_isO_4, ev_isO_5, ev_isO_6, ev_isO_7, ev_isO_8, ev_z0, ev_z1, ev_z2, eq_self, ev_ofN, show ¬ (1 : Int32) = 0 from by decide, show ¬ (2 : Int32) = 0 from by decide, show ¬ (2 : Int32) = 1 from by decide, show ¬ (0 : Int32) = 1 from by decide, show ¬ (0 : Int32) = 2 from by decide, show ¬ (1 : Int32) = 2 from by decide, show ¬ (0 : Int32) = -1 from by decide, show (0 : Int32) ≤ 1 from by decide, show (1 : Int32).toNatClampNeg = 1 from rfl, show (0 : Nat) < 2 from by omega, show (1 : Nat) < 2 from by omega, not_true_eq_false, ne_eq, not_false_eq_true, hs1.1.1, hs1.1.2, hs1.2.1.1, hs1.2.1.2, hs1.2.2.1.1, hs1.2.2.1.2, hs1.2.2.2.1, hs1.2.2.2.2, hk13]
    refine MM_stack hD hK hm1 hx1 hA (fun H2 s2 n2 q2 hq => ?_)
    · skip
      simp (disch := omega) only [t_L_law_1388, t_L_law_1389, t_L_law_1392, t_L_law_1392_i, t_L_law_1393, t_L_law_1394, t_L_law_1397, t_L_law_1397_i, t_L_law_1398, ↓reduceIte, ev_k_i, ev_k_r, ev_k_l, ev_k_J, ev_k_n, ev_kr_1, ev_kr_0, ev_isK_y, ev_aG_y, ev_aS_y, ev_aN_y, ev_inA_0, ev_isA_0, ev_ft_I, ev_ft_0, ev_ft_1, ev_ft_o, ev_ft_a, ev_nb_0, ev_nb_1, and_true, true_and, if_true, if_false, not_true_eq_false, not_false_eq_true, nI_1, ev_fG_0, ev_fG_1, ev_fG_2, ev_fG_3, ev_fG_4, ev_fG_5, ev_fG_6, ev_fG_7, ev_fG_8, ev_fS_0, ev_fS_1, ev_fS_2, ev_fS_3, ev_fS_4, ev_fS_5, ev_fS_6, ev_fS_7, ev_fS_8, ev_isO_0, ev_isO_1, ev_isO_2, ev_isO_3, ev_isO_4, ev_isO_5, ev_isO_6, ev_isO_7, ev_isO_8, ev_z0, ev_z1, ev_z2, eq_self, ev_ofN, show ¬ (1 : Int32) = 0 from by decide, show ¬ (2 : Int32) = 0 from by decide, show ¬ (2 : Int32) = 1 from by decide, show ¬ (0 : Int32) = 1 from by decide, show ¬ (0 : Int32) = 2 from by decide, show ¬ (1 : Int32) = 2 from by decide, show ¬ (0 : Int32) = -1 from by decide, show (0 : Int32) ≤ 1 from by decide, show (1 : Int32).toNatClampNeg = 1 from rfl, show (0 : Nat) < 2 from by omega, show (1 : Nat) < 2 from by omega, not_true_eq_false, ne_eq, not_false_eq_true, hs1.1.1, hs1.1.2, hs1.2.1.1, hs1.2.1.2, hs1.2.2.1.1, hs1.2.2.1.2, hs1.2.2.2.1, hs1.2.2.2.2, hk13]
      have b2 := hq.2.2.2
      exact c _ _ H2 _ _ _ _ (jM_ref hM1 hq hr1 hA hl) (by omega) (by omega) (by omega) (by omega)
theorem LP_withDepth (hS : jS X S i v0 v1 v2 v3) (h : jM X zf x G G As H n) {a5 a6 : Value} (c : jC X zf x S i n q P) : ev_ok (ev_TT X) 309 1593 [.ref S, .ref x, .ref (x + 57), .ref (x + 68), .int (nI i), a5, a6] [] H n q P := by
  have hn := jM_n h
  have hs := hS H (jM_low h)
  have h0 := h
  obtain ⟨hc, hJ, -, ⟨r, ow, hr, hm⟩, hx, hA, hl, ho, hxs⟩ := h0
  have hln := hl.1
  have hk := c_all_k (X := X) hc
  simp (disch := omega) only [t_L_law_1593, t_L_law_1594, t_L_law_1595, t_L_law_1597, t_L_law_1598, t_L_law_1599, t_L_law_1600, t_L_law_1603, t_L_law_1603_i, t_L_law_1604, t_L_law_1605, t_L_law_1606, t_L_law_1608, t_L_law_1609, t_L_law_1610, t_L_law_1611, t_L_law_1614, t_L_law_1614_i, t_L_law_1615, ↓reduceIte, ev_k_i, ev_k_r, ev_k_l, ev_k_J, ev_k_n, ev_kr_1, ev_kr_0, ev_isK_y, ev_aG_y, ev_aS_y, ev_aN_y, ev_inA_0, ev_isA_0, ev_ft_I, ev_ft_0, ev_ft_1, ev_ft_o, ev_ft_a, ev_nb_0, ev_nb_1, and_true, true_and, if_true, if_false, not_true_eq_false, not_false_eq_true, nI_1, ev_fG_0, ev_fG_1, ev_fG_2, ev_fG_3, ev_fG_4, ev_fG_5, ev_fG_6, ev_fG_7, ev_fG_8, ev_fS_0, ev_fS_1, ev_fS_2, ev_fS_3, ev_fS_4, ev_fS_5, ev_fS_6, ev_fS_7, ev_fS_8, ev_isO_0, ev_isO_1, ev_isO_2, ev_isO_3, ev_isO_4, ev_isO_5, ev_isO_6, ev_isO_7, ev_isO_8, ev_z0, ev_z1, ev_z2, eq_self, ev_ofN, show ¬ (1 : Int32) = 0 from by decide, show ¬ (2 : Int32) = 0 from by decide, show ¬ (2 : Int32) = 1 from by decide, show ¬ (0 : Int32) = 1 from by decide, show ¬ (0 : Int32) = 2 from by decide, show ¬ (1 : Int32) = 2 from by decide, show ¬ (0 : Int32) = -1 from by decide, show (0 : Int32) ≤ 1 from by decide, show (1 : Int32).toNatClampNeg = 1 from rfl, show (0 : Nat) < 2 from by omega, show (1 : Nat) < 2 from by omega, not_true_eq_false, ne_eq, not_false_eq_true, hs.1.1, hs.1.2, hs.2.1.1, hs.2.1.2, hs.2.2.1.1, hs.2.2.1.2, hs.2.2.2.1, hs.2.2.2.2, hk]
  refine C_withDepth hc hJ.1 ?_
  · skip
    have hM1 := h
    have b1 : n ≤ n ∧ q ≤ q := ⟨Nat.le_refl n, Nat.le_refl q⟩
    have hs1 := hS H (jM_low hM1)
    have h1 := hM1
    obtain ⟨hc1, hJ1, -, ⟨r1, ow1, hr1, hm1⟩, hx1, -, -, -, -⟩ := h1
    have hk13 := m_k13 hm1
    simp (disch := omega) only [t_L_law_1593, t_L_law_1594, t_L_law_1595, t_L_law_1597, t_L_law_1598, t_L_law_1599, t_L_law_1600, t_L_law_1603, t_L_law_1603_i, t_L_law_1604, t_L_law_1605, t_L_law_1606, t_L_law_1608, t_L_law_1609, t_L_law_1610, t_L_law_1611, t_L_law_1614, t_L_law_1614_i, t_L_law_1615, ↓reduceIte, ev_k_i, ev_k_r, ev_k_l, ev_k_J, ev_k_n, ev_kr_1, ev_kr_0, ev_isK_y, ev_aG_y, ev_aS_y, ev_aN_y, ev_inA_0, ev_isA_0, ev_ft_I, ev_ft_0, ev_ft_1, ev_ft_o, ev_ft_a, ev_nb_0, ev_nb_1, and_true, true_and, if_true, if_false, not_true_eq_false, not_false_eq_true, nI_1, ev_fG_0, ev_fG_1, ev_fG_2, ev_fG_3, ev_fG_4, ev_fG_5, ev_fG_6, ev_fG_7, ev_fG_8, ev_fS_0, ev_fS_1, ev_fS_2, ev_fS_3, ev_fS_4, ev_fS_5, ev_fS_6, ev_fS_7, ev_fS_8, ev_isO_0, ev_isO_1, ev_isO_2, ev_isO_3, ev_isO_4, ev_isO_5, ev_isO_6, ev_isO_7, ev_isO_8, ev_z0, ev_z1, ev_z2, eq_self, ev_ofN, show ¬ (1 : Int32) = 0 from by decide, show ¬ (2 : Int32) = 0 from by decide, show ¬ (2 : Int32) = 1 from by decide, show ¬ (0 : Int32) = 1 from by decide, show ¬ (0 : Int32) = 2 from by decide, show ¬ (1 : Int32) = 2 from by decide, show ¬ (0 : Int32) = -1 from by decide, show (0 : Int32) ≤ 1 from by decide, show (1 : Int32).toNatClampNeg = 1 from rfl, show (0 : Nat) < 2 from by omega, show (1 : Nat) < 2 from by omega, not_true_eq_false, ne_eq, not_false_eq_true, hs1.1.1, hs1.1.2, hs1.2.1.1, hs1.2.1.2, hs1.2.2.1.1, hs1.2.2.1.2, hs1.2.2.2.1, hs1.2.2.2.2, hk13]
    refine MM_withDepth hm1 hx1 hA (fun H2 hq => ?_)
    · skip
      simp (disch := omega) only [t_L_law_1593, t_L_law_1594, t_L_law_1595, t_L_law_1597, t_L_law_1598, t_L_law_1599, t_L_law_1600, t_L_law_1603, t_L_law_1603_i, t_L_law_1604, t_L_law_1605, t_L_law_1606, t_L_law_1608, t_L_law_1609, t_L_law_1610, t_L_law_1611, t_L_law_1614, t_L_law_1614_i, t_L_law_1615, ↓reduceIte, ev_k_i, ev_k_r, ev_k_l, ev_k_J, ev_k_n, ev_kr_1, ev_kr_0, ev_isK_y, ev_aG_y, ev_aS_y, ev_aN_y, ev_inA_0, ev_isA_0, ev_ft_I, ev_ft_0, ev_ft_1, ev_ft_o, ev_ft_a, ev_nb_0, ev_nb_1, and_true, true_and, if_true, if_false, not_true_eq_false, not_false_eq_true, nI_1, ev_fG_0, ev_fG_1, ev_fG_2, ev_fG_3, ev_fG_4, ev_fG_5, ev_fG_6, ev_fG_7, ev_fG_8, ev_fS_0, ev_fS_1, ev_fS_2, ev_fS_3, ev_fS_4, ev_fS_5, ev_fS_6, ev_fS_7, ev_fS_8, ev_isO_0, ev_isO_1, ev_isO_2, ev_isO_3, ev_isO_4, ev_isO_5, ev_isO_6, ev_isO_7, ev_isO_8, ev_z0, ev_z1, ev_z2, eq_self, ev_ofN, show ¬ (1 : Int32) = 0 from by decide, show ¬ (2 : Int32) = 0 from by decide, show ¬ (2 : Int32) = 1 from by decide, show ¬ (0 : Int32) = 1 from by decide, show ¬ (0 : Int32) = 2 from by decide, show ¬ (1 : Int32) = 2 from by decide, show ¬ (0 : Int32) = -1 from by decide, show (0 : Int32) ≤ 1 from by decide, show (1 : Int32).toNatClampNeg = 1 from rfl, show (0 : Nat) < 2 from by omega, show (1 : Nat) < 2 from by omega, not_true_eq_false, ne_eq, not_false_eq_true, hs1.1.1, hs1.1.2, hs1.2.1.1, hs1.2.1.2, hs1.2.2.1.1, hs1.2.2.1.2, hs1.2.2.2.1, hs1.2.2.2.2, hk13]
      have b2 := hq.2.2.2
      exact c _ _ H2 _ _ _ _ (jM_ref hM1 hq hr1 hA hl) (by omega) (by omega) (by omega) (by omega)
theorem LP_knock (hS : jS X S i v0 v1 v2 v3) (h : jM X zf x G G As H n) {a5 a6 : Value} (c : jC X zf x S i n q P) : ev_ok (ev_TT X) 309 1674 [.ref S, .ref x, .ref (x + 57), .ref (x + 68), .int (nI i), a5, a6] [] H n q P := by
  have hn := jM_n h
  have hs := hS H (jM_low h)
  have h0 := h
  obtain ⟨hc, hJ, -, ⟨r, ow, hr, hm⟩, hx, hA, hl, ho, hxs⟩ := h0
  have hln := hl.1
  have hk := c_all_k (X := X) hc
  simp (disch := omega) only [t_L_law_1674, t_L_law_1675, t_L_law_1678, t_L_law_1678_i, t_L_law_1679, t_L_law_1680, t_L_law_1683, t_L_law_1683_i, t_L_law_1684, ↓reduceIte, ev_k_i, ev_k_r, ev_k_l, ev_k_J, ev_k_n, ev_kr_1, ev_kr_0, ev_isK_y, ev_aG_y, ev_aS_y, ev_aN_y, ev_inA_0, ev_isA_0, ev_ft_I, ev_ft_0, ev_ft_1, ev_ft_o, ev_ft_a, ev_nb_0, ev_nb_1, and_true, true_and, if_true, if_false, not_true_eq_false, not_false_eq_true, nI_1, ev_fG_0, ev_fG_1, ev_fG_2, ev_fG_3, ev_fG_4, ev_fG_5, ev_fG_6, ev_fG_7, ev_fG_8, ev_fS_0, ev_fS_1, ev_fS_2, ev_fS_3, ev_fS_4, ev_fS_5, ev_fS_6, ev_fS_7, ev_fS_8, ev_isO_0, ev_isO_1, ev_isO_2, ev_isO_3, ev_isO_4, ev_isO_5, ev_isO_6, ev_isO_7, ev_isO_8, ev_z0, ev_z1, ev_z2, eq_self, ev_ofN, show ¬ (1 : Int32) = 0 from by decide, show ¬ (2 : Int32) = 0 from by decide, show ¬ (2 : Int32) = 1 from by decide, show ¬ (0 : Int32) = 1 from by decide, show ¬ (0 : Int32) = 2 from by decide, show ¬ (1 : Int32) = 2 from by decide, show ¬ (0 : Int32) = -1 from by decide, show (0 : Int32) ≤ 1 from by decide, show (1 : Int32).toNatClampNeg = 1 from rfl, show (0 : Nat) < 2 from by omega, show (1 : Nat) < 2 from by omega, not_true_eq_false, ne_eq, not_false_eq_true, hs.1.1, hs.1.2, hs.2.1.1, hs.2.1.2, hs.2.2.1.1, hs.2.2.1.2, hs.2.2.2.1, hs.2.2.2.2, hk]
  refine C_knock hc (fun H1 hc1 hf1 => ?_)
  · skip
    have hM1 : jM X zf x (G.1, G.2.1, G.2.2.1, G.2.2.2.1, G.2.2.2.2.1, G.2.2.2.2.2 + 1) G As H1 n := jM_class h hc1 hJ (fun a ha _ _ => hf1 a ha) (by obtain ⟨l, s, h1⟩ := ho; exact ⟨l, s, (hf1 _ (by omega)).trans h1⟩) (fun a ha => (hf1 a (by omega)).trans (jM_z h a ha)) (Nat.le_refl n)
    have hs1 := hS H1 (jM_low hM1)
    have h1 := hM1
    obtain ⟨hc1, hJ1, -, ⟨r1, ow1, hr1, hm1⟩, hx1, -, -, -, -⟩ := h1
    have hk13 := m_k13 hm1
    simp (disch := omega) only [t_L_law_1674, t_L_law_1675, t_L_law_1678, t_L_law_1678_i, t_L_law_1679, t_L_law_1680, t_L_law_1683, t_L_law_1683_i, t_L_law_1684, ↓reduceIte, ev_k_i, ev_k_r, ev_k_l, ev_k_J, ev_k_n, ev_kr_1, ev_kr_0, ev_isK_y, ev_aG_y, ev_aS_y, ev_aN_y, ev_inA_0, ev_isA_0, ev_ft_I, ev_ft_0, ev_ft_1, ev_ft_o, ev_ft_a, ev_nb_0, ev_nb_1, and_true, true_and, if_true, if_false, not_true_eq_false, not_false_eq_true, nI_1, ev_fG_0, ev_fG_1, ev_fG_2, ev_fG_3, ev_fG_4, ev_fG_5, ev_fG_6, ev_fG_7, ev_fG_8, ev_fS_0, ev_fS_1, ev_fS_2, ev_fS_3, ev_fS_4, ev_fS_5, ev_fS_6, ev_fS_7, ev_fS_8, ev_isO_0, ev_isO_1, ev_isO_2, ev_isO_3, ev_isO_4, ev_isO_5, ev_isO_6, ev_isO_7, ev_isO_8, ev_z0, ev_z1, ev_z2, eq_self, ev_ofN, show ¬ (1 : Int32) = 0 from by decide, show ¬ (2 : Int32) = 0 from by decide, show ¬ (2 : Int32) = 1 from by decide, show ¬ (0 : Int32) = 1 from by decide, show ¬ (0 : Int32) = 2 from by decide, show ¬ (1 : Int32) = 2 from by decide, show ¬ (0 : Int32) = -1 from by decide, show (0 : Int32) ≤ 1 from by decide, show (1 : Int32).toNatClampNeg = 1 from rfl, show (0 : Nat) < 2 from by omega, show (1 : Nat) < 2 from by omega, not_true_eq_false, ne_eq, not_false_eq_true, hs1.1.1, hs1.1.2, hs1.2.1.1, hs1.2.1.2, hs1.2.2.1.1, hs1.2.2.1.2, hs1.2.2.2.1, hs1.2.2.2.2, hk13]
    have hkk : r1.2.2 = G.2.2.2.2.2 := congrArg Prod.snd hr1
    refine MM_knock hm1 hx1 hA (fun H2 hq => ?_)
    · skip
      simp (disch := omega) only [t_L_law_1674, t_L_law_1675, t_L_law_1678, t_L_law_1678_i, t_L_law_1679, t_L_law_1680, t_L_law_1683, t_L_law_1683_i, t_L_law_1684, ↓reduceIte, ev_k_i, ev_k_r, ev_k_l, ev_k_J, ev_k_n, ev_kr_1, ev_kr_0, ev_isK_y, ev_aG_y, ev_aS_y, ev_aN_y, ev_inA_0, ev_isA_0, ev_ft_I, ev_ft_0, ev_ft_1, ev_ft_o, ev_ft_a, ev_nb_0, ev_nb_1, and_true, true_and, if_true, if_false, not_true_eq_false, not_false_eq_true, nI_1, ev_fG_0, ev_fG_1, ev_fG_2, ev_fG_3, ev_fG_4, ev_fG_5, ev_fG_6, ev_fG_7, ev_fG_8, ev_fS_0, ev_fS_1, ev_fS_2, ev_fS_3, ev_fS_4, ev_fS_5, ev_fS_6, ev_fS_7, ev_fS_8, ev_isO_0, ev_isO_1, ev_isO_2, ev_isO_3, ev_isO_4, ev_isO_5, ev_isO_6, ev_isO_7, ev_isO_8, ev_z0, ev_z1, ev_z2, eq_self, ev_ofN, show ¬ (1 : Int32) = 0 from by decide, show ¬ (2 : Int32) = 0 from by decide, show ¬ (2 : Int32) = 1 from by decide, show ¬ (0 : Int32) = 1 from by decide, show ¬ (0 : Int32) = 2 from by decide, show ¬ (1 : Int32) = 2 from by decide, show ¬ (0 : Int32) = -1 from by decide, show (0 : Int32) ≤ 1 from by decide, show (1 : Int32).toNatClampNeg = 1 from rfl, show (0 : Nat) < 2 from by omega, show (1 : Nat) < 2 from by omega, not_true_eq_false, ne_eq, not_false_eq_true, hs1.1.1, hs1.1.2, hs1.2.1.1, hs1.2.1.2, hs1.2.2.1.1, hs1.2.2.1.2, hs1.2.2.2.1, hs1.2.2.2.2, hk13, hkk]
      have b2 := hq.2.2.2
      exact c _ _ H2 _ _ _ _ (jM_ref2 hM1 rfl hq (by rw [hr1]) hA hl) (by omega) (by omega) (by omega) (by omega)
theorem LP_isSound (hS : jS X S i v0 v1 v2 v3) (h : jM X zf x G G As H n) {a5 a6 : Value} (c : jC X zf x S i n q P) : ev_ok (ev_TT X) 309 1687 [.ref S, .ref x, .ref (x + 57), .ref (x + 68), .int (nI i), a5, a6] [] H n q P := by
  have hn := jM_n h
  have hs := hS H (jM_low h)
  have h0 := h
  obtain ⟨hc, hJ, -, ⟨r, ow, hr, hm⟩, hx, hA, hl, ho, hxs⟩ := h0
  have hln := hl.1
  have hk := c_all_k (X := X) hc
  simp (disch := omega) only [t_L_law_1687, t_L_law_1688, t_L_law_1691, t_L_law_1691_i, t_L_law_1692, t_L_law_1693, t_L_law_1696, t_L_law_1696_i, t_L_law_1697, ↓reduceIte, ev_k_i, ev_k_r, ev_k_l, ev_k_J, ev_k_n, ev_kr_1, ev_kr_0, ev_isK_y, ev_aG_y, ev_aS_y, ev_aN_y, ev_inA_0, ev_isA_0, ev_ft_I, ev_ft_0, ev_ft_1, ev_ft_o, ev_ft_a, ev_nb_0, ev_nb_1, and_true, true_and, if_true, if_false, not_true_eq_false, not_false_eq_true, nI_1, ev_fG_0, ev_fG_1, ev_fG_2, ev_fG_3, ev_fG_4, ev_fG_5, ev_fG_6, ev_fG_7, ev_fG_8, ev_fS_0, ev_fS_1, ev_fS_2, ev_fS_3, ev_fS_4, ev_fS_5, ev_fS_6, ev_fS_7, ev_fS_8, ev_isO_0, ev_isO_1, ev_isO_2, ev_isO_3, ev_isO_4, ev_isO_5, ev_isO_6, ev_isO_7, ev_isO_8, ev_z0, ev_z1, ev_z2, eq_self, ev_ofN, show ¬ (1 : Int32) = 0 from by decide, show ¬ (2 : Int32) = 0 from by decide, show ¬ (2 : Int32) = 1 from by decide, show ¬ (0 : Int32) = 1 from by decide, show ¬ (0 : Int32) = 2 from by decide, show ¬ (1 : Int32) = 2 from by decide, show ¬ (0 : Int32) = -1 from by decide, show (0 : Int32) ≤ 1 from by decide, show (1 : Int32).toNatClampNeg = 1 from rfl, show (0 : Nat) < 2 from by omega, show (1 : Nat) < 2 from by omega, not_true_eq_false, ne_eq, not_false_eq_true, hs.1.1, hs.1.2, hs.2.1.1, hs.2.1.2, hs.2.2.1.1, hs.2.2.1.2, hs.2.2.2.1, hs.2.2.2.2, hk]
  refine C_isSound (aR_of hl hA) hc hJ.1 (fun H1 hc1 hf1 w hw => ?_)
  · skip
    have hM1 : jM X zf x G G As H1 n := jM_class h hc1 hJ (fun a ha _ _ => hf1 a ha) (by obtain ⟨l, s, h1⟩ := ho; exact ⟨l, s, (hf1 _ (by omega)).trans h1⟩) (fun a ha => (hf1 a (by omega)).trans (jM_z h a ha)) (Nat.le_refl n)
    have hs1 := hS H1 (jM_low hM1)
    have h1 := hM1
    obtain ⟨hc1, hJ1, -, ⟨r1, ow1, hr1, hm1⟩, hx1, -, -, -, -⟩ := h1
    have hk13 := m_k13 hm1
    simp (disch := omega) only [t_L_law_1687, t_L_law_1688, t_L_law_1691, t_L_law_1691_i, t_L_law_1692, t_L_law_1693, t_L_law_1696, t_L_law_1696_i, t_L_law_1697, ↓reduceIte, ev_k_i, ev_k_r, ev_k_l, ev_k_J, ev_k_n, ev_kr_1, ev_kr_0, ev_isK_y, ev_aG_y, ev_aS_y, ev_aN_y, ev_inA_0, ev_isA_0, ev_ft_I, ev_ft_0, ev_ft_1, ev_ft_o, ev_ft_a, ev_nb_0, ev_nb_1, and_true, true_and, if_true, if_false, not_true_eq_false, not_false_eq_true, nI_1, ev_fG_0, ev_fG_1, ev_fG_2, ev_fG_3, ev_fG_4, ev_fG_5, ev_fG_6, ev_fG_7, ev_fG_8, ev_fS_0, ev_fS_1, ev_fS_2, ev_fS_3, ev_fS_4, ev_fS_5, ev_fS_6, ev_fS_7, ev_fS_8, ev_isO_0, ev_isO_1, ev_isO_2, ev_isO_3, ev_isO_4, ev_isO_5, ev_isO_6, ev_isO_7, ev_isO_8, ev_z0, ev_z1, ev_z2, eq_self, ev_ofN, show ¬ (1 : Int32) = 0 from by decide, show ¬ (2 : Int32) = 0 from by decide, show ¬ (2 : Int32) = 1 from by decide, show ¬ (0 : Int32) = 1 from by decide, show ¬ (0 : Int32) = 2 from by decide, show ¬ (1 : Int32) = 2 from by decide, show ¬ (0 : Int32) = -1 from by decide, show (0 : Int32) ≤ 1 from by decide, show (1 : Int32).toNatClampNeg = 1 from rfl, show (0 : Nat) < 2 from by omega, show (1 : Nat) < 2 from by omega, not_true_eq_false, ne_eq, not_false_eq_true, hs1.1.1, hs1.1.2, hs1.2.1.1, hs1.2.1.2, hs1.2.2.1.1, hs1.2.2.1.2, hs1.2.2.2.1, hs1.2.2.2.2, hk13]
    refine MM_isSound hm1 hx1 hA (fun H2 hq => ?_)
    · skip
      simp (disch := omega) only [t_L_law_1687, t_L_law_1688, t_L_law_1691, t_L_law_1691_i, t_L_law_1692, t_L_law_1693, t_L_law_1696, t_L_law_1696_i, t_L_law_1697, ↓reduceIte, ev_k_i, ev_k_r, ev_k_l, ev_k_J, ev_k_n, ev_kr_1, ev_kr_0, ev_isK_y, ev_aG_y, ev_aS_y, ev_aN_y, ev_inA_0, ev_isA_0, ev_ft_I, ev_ft_0, ev_ft_1, ev_ft_o, ev_ft_a, ev_nb_0, ev_nb_1, and_true, true_and, if_true, if_false, not_true_eq_false, not_false_eq_true, nI_1, ev_fG_0, ev_fG_1, ev_fG_2, ev_fG_3, ev_fG_4, ev_fG_5, ev_fG_6, ev_fG_7, ev_fG_8, ev_fS_0, ev_fS_1, ev_fS_2, ev_fS_3, ev_fS_4, ev_fS_5, ev_fS_6, ev_fS_7, ev_fS_8, ev_isO_0, ev_isO_1, ev_isO_2, ev_isO_3, ev_isO_4, ev_isO_5, ev_isO_6, ev_isO_7, ev_isO_8, ev_z0, ev_z1, ev_z2, eq_self, ev_ofN, show ¬ (1 : Int32) = 0 from by decide, show ¬ (2 : Int32) = 0 from by decide, show ¬ (2 : Int32) = 1 from by decide, show ¬ (0 : Int32) = 1 from by decide, show ¬ (0 : Int32) = 2 from by decide, show ¬ (1 : Int32) = 2 from by decide, show ¬ (0 : Int32) = -1 from by decide, show (0 : Int32) ≤ 1 from by decide, show (1 : Int32).toNatClampNeg = 1 from rfl, show (0 : Nat) < 2 from by omega, show (1 : Nat) < 2 from by omega, not_true_eq_false, ne_eq, not_false_eq_true, hs1.1.1, hs1.1.2, hs1.2.1.1, hs1.2.1.2, hs1.2.2.1.1, hs1.2.2.1.2, hs1.2.2.2.1, hs1.2.2.2.2, hk13]
      have b2 := hq.2.2.2
      exact c _ _ H2 _ _ _ _ (jM_ref hM1 hq hr1 hA hl) (by omega) (by omega) (by omega) (by omega)
theorem LP_digest (hS : jS X S i v0 v1 v2 v3) (h : jM X zf x G G As H n) {a5 a6 : Value} (c : jC X zf x S i n q P) : ev_ok (ev_TT X) 309 1700 [.ref S, .ref x, .ref (x + 57), .ref (x + 68), .int (nI i), a5, a6] [] H n q P := by
  have hn := jM_n h
  have hs := hS H (jM_low h)
  have h0 := h
  obtain ⟨hc, hJ, -, ⟨r, ow, hr, hm⟩, hx, hA, hl, ho, hxs⟩ := h0
  have hln := hl.1
  have hk := c_all_k (X := X) hc
  simp (disch := omega) only [t_L_law_1700, t_L_law_1701, t_L_law_1704, t_L_law_1705, t_L_law_1706, t_L_law_1709, t_L_law_1710, ↓reduceIte, ev_k_i, ev_k_r, ev_k_l, ev_k_J, ev_k_n, ev_kr_1, ev_kr_0, ev_isK_y, ev_aG_y, ev_aS_y, ev_aN_y, ev_inA_0, ev_isA_0, ev_ft_I, ev_ft_0, ev_ft_1, ev_ft_o, ev_ft_a, ev_nb_0, ev_nb_1, and_true, true_and, if_true, if_false, not_true_eq_false, not_false_eq_true, nI_1, ev_fG_0, ev_fG_1, ev_fG_2, ev_fG_3, ev_fG_4, ev_fG_5, ev_fG_6, ev_fG_7, ev_fG_8, ev_fS_0, ev_fS_1, ev_fS_2, ev_fS_3, ev_fS_4, ev_fS_5, ev_fS_6, ev_fS_7, ev_fS_8, ev_isO_0, ev_isO_1, ev_isO_2, ev_isO_3, ev_isO_4, ev_isO_5, ev_isO_6, ev_isO_7, ev_isO_8, ev_z0, ev_z1, ev_z2, eq_self, ev_ofN, show ¬ (1 : Int32) = 0 from by decide, show ¬ (2 : Int32) = 0 from by decide, show ¬ (2 : Int32) = 1 from by decide, show ¬ (0 : Int32) = 1 from by decide, show ¬ (0 : Int32) = 2 from by decide, show ¬ (1 : Int32) = 2 from by decide, show ¬ (0 : Int32) = -1 from by decide, show (0 : Int32) ≤ 1 from by decide, show (1 : Int32).toNatClampNeg = 1 from rfl, show (0 : Nat) < 2 from by omega, show (1 : Nat) < 2 from by omega, not_true_eq_false, ne_eq, not_false_eq_true, hs.1.1, hs.1.2, hs.2.1.1, hs.2.1.2, hs.2.2.1.1, hs.2.2.1.2, hs.2.2.2.1, hs.2.2.2.2, hk]
  refine C_digest (aR_of hl hA) hc hJ.1 (fun H1 d hc1 hf1 => ?_)
  · skip
    have hM1 : jM X zf x G G As H1 n := jM_class h hc1 hJ (fun a ha _ _ => hf1 a ha) (by obtain ⟨l, s, h1⟩ := ho; exact ⟨l, s, (hf1 _ (by omega)).trans h1⟩) (fun a ha => (hf1 a (by omega)).trans (jM_z h a ha)) (Nat.le_refl n)
    have hs1 := hS H1 (jM_low hM1)
    have h1 := hM1
    obtain ⟨hc1, hJ1, -, ⟨r1, ow1, hr1, hm1⟩, hx1, -, -, -, -⟩ := h1
    have hk13 := m_k13 hm1
    simp (disch := omega) only [t_L_law_1700, t_L_law_1701, t_L_law_1704, t_L_law_1705, t_L_law_1706, t_L_law_1709, t_L_law_1710, ↓reduceIte, ev_k_i, ev_k_r, ev_k_l, ev_k_J, ev_k_n, ev_kr_1, ev_kr_0, ev_isK_y, ev_aG_y, ev_aS_y, ev_aN_y, ev_inA_0, ev_isA_0, ev_ft_I, ev_ft_0, ev_ft_1, ev_ft_o, ev_ft_a, ev_nb_0, ev_nb_1, and_true, true_and, if_true, if_false, not_true_eq_false, not_false_eq_true, nI_1, ev_fG_0, ev_fG_1, ev_fG_2, ev_fG_3, ev_fG_4, ev_fG_5, ev_fG_6, ev_fG_7, ev_fG_8, ev_fS_0, ev_fS_1, ev_fS_2, ev_fS_3, ev_fS_4, ev_fS_5, ev_fS_6, ev_fS_7, ev_fS_8, ev_isO_0, ev_isO_1, ev_isO_2, ev_isO_3, ev_isO_4, ev_isO_5, ev_isO_6, ev_isO_7, ev_isO_8, ev_z0, ev_z1, ev_z2, eq_self, ev_ofN, show ¬ (1 : Int32) = 0 from by decide, show ¬ (2 : Int32) = 0 from by decide, show ¬ (2 : Int32) = 1 from by decide, show ¬ (0 : Int32) = 1 from by decide, show ¬ (0 : Int32) = 2 from by decide, show ¬ (1 : Int32) = 2 from by decide, show ¬ (0 : Int32) = -1 from by decide, show (0 : Int32) ≤ 1 from by decide, show (1 : Int32).toNatClampNeg = 1 from rfl, show (0 : Nat) < 2 from by omega, show (1 : Nat) < 2 from by omega, not_true_eq_false, ne_eq, not_false_eq_true, hs1.1.1, hs1.1.2, hs1.2.1.1, hs1.2.1.2, hs1.2.2.1.1, hs1.2.2.1.2, hs1.2.2.2.1, hs1.2.2.2.2, hk13]
    refine MM_digest hm1 hx1 hA (fun d2 H2 n2 q2 hq => ?_)
    · skip
      simp (disch := omega) only [t_L_law_1700, t_L_law_1701, t_L_law_1704, t_L_law_1705, t_L_law_1706, t_L_law_1709, t_L_law_1710, ↓reduceIte, ev_k_i, ev_k_r, ev_k_l, ev_k_J, ev_k_n, ev_kr_1, ev_kr_0, ev_isK_y, ev_aG_y, ev_aS_y, ev_aN_y, ev_inA_0, ev_isA_0, ev_ft_I, ev_ft_0, ev_ft_1, ev_ft_o, ev_ft_a, ev_nb_0, ev_nb_1, and_true, true_and, if_true, if_false, not_true_eq_false, not_false_eq_true, nI_1, ev_fG_0, ev_fG_1, ev_fG_2, ev_fG_3, ev_fG_4, ev_fG_5, ev_fG_6, ev_fG_7, ev_fG_8, ev_fS_0, ev_fS_1, ev_fS_2, ev_fS_3, ev_fS_4, ev_fS_5, ev_fS_6, ev_fS_7, ev_fS_8, ev_isO_0, ev_isO_1, ev_isO_2, ev_isO_3, ev_isO_4, ev_isO_5, ev_isO_6, ev_isO_7, ev_isO_8, ev_z0, ev_z1, ev_z2, eq_self, ev_ofN, show ¬ (1 : Int32) = 0 from by decide, show ¬ (2 : Int32) = 0 from by decide, show ¬ (2 : Int32) = 1 from by decide, show ¬ (0 : Int32) = 1 from by decide, show ¬ (0 : Int32) = 2 from by decide, show ¬ (1 : Int32) = 2 from by decide, show ¬ (0 : Int32) = -1 from by decide, show (0 : Int32) ≤ 1 from by decide, show (1 : Int32).toNatClampNeg = 1 from rfl, show (0 : Nat) < 2 from by omega, show (1 : Nat) < 2 from by omega, not_true_eq_false, ne_eq, not_false_eq_true, hs1.1.1, hs1.1.2, hs1.2.1.1, hs1.2.1.2, hs1.2.2.1.1, hs1.2.2.1.2, hs1.2.2.2.1, hs1.2.2.2.2, hk13]
      have b2 := hq.2.2.2
      exact c _ _ H2 _ _ _ _ (jM_ref hM1 hq hr1 hA hl) (by omega) (by omega) (by omega) (by omega)
end L82
end
section
/-! ===== the law: call after call ===== -/
theorem ev_nrw_b1 : (narrow .boolean (.int 1) = (.int 1 : Value)) = True := eq_true (by decide)
section L83
variable {X : ev_E} {zf : Nat → Nat} {x S i : Nat} {G : ev_CS} {As : List Nat} {H : ev_M} {n q : Nat} {P : ev_O → ev_M → Nat → Nat → Prop} {v0 v1 v2 v3 : Int32}
theorem LP_all (hEM : ev_EM X) (hD : ev_DG X) (hK : ev_KK X) (hS : jS X S i v0 v1 v2 v3) (h : jM X zf x G G As H n) {a5 a6 : Value} (c : jC X zf x S i n q P) : ∀ m, m < 45 → ev_ok (ev_TT X) 309 (([236, 304, 356, 408, 448, 500, 540, 568, 620, 660, 700, 728, 768, 808, 848, 888, 916, 944, 984, 1024, 1064, 1092, 1120, 1148, 1176, 1204, 1232, 1284, 1297, 1310, 1335, 1360, 1388, 1401, 1429, 1469, 1509, 1537, 1565, 1593, 1618, 1646, 1674, 1687, 1700] : List Nat).getD m 1713) [.ref S, .ref x, .ref (x + 57), .ref (x + 68), .int (nI i), a5, a6] [] H n q P
  | 0, _ => by exact LP_make hS h c
  | 1, _ => by exact LP_put hS h c
  | 2, _ => by exact LP_putIfAbsent hS h c
  | 3, _ => by exact LP_get hS h c
  | 4, _ => by exact LP_getOr hS h c
  | 5, _ => by exact LP_remove hS h c
  | 6, _ => by exact LP_clear hS h c
  | 7, _ => by exact LP_set hS h c
  | 8, _ => by exact LP_copy hS h hEM c
  | 9, _ => by exact LP_has hS h c
  | 10, _ => by exact LP_size hS h c
  | 11, _ => by exact LP_keyAt hS h c
  | 12, _ => by exact LP_valueAt hS h c
  | 13, _ => by exact LP_pairAt hS h c
  | 14, _ => by exact LP_placeOf hS h c
  | 15, _ => by exact LP_eldest hS h c
  | 16, _ => by exact LP_latest hS h c
  | 17, _ => by exact LP_text hS h hD c
  | 18, _ => by exact LP_ofTable hS h c
  | 19, _ => by exact LP_walk hS h c
  | 20, _ => by exact LP_step hS h c
  | 21, _ => by exact LP_cut hS h c
  | 22, _ => by exact LP_hasMore hS h c
  | 23, _ => by exact LP_isStale hS h c
  | 24, _ => by exact LP_rest hS h c
  | 25, _ => by exact LP_ask hS h c
  | 26, _ => by exact LP_askRow hS h c
  | 27, _ => by exact LP_forget hS h c
  | 28, _ => by exact LP_asked hS h c
  | 29, _ => by exact LP_askedAt hS h c
  | 30, _ => by exact LP_depthAt hS h c
  | 31, _ => by exact LP_depth hS h c
  | 32, _ => by exact LP_stack hS h hD hK c
  | 33, _ => by exact LP_kept hS h hD hK c
  | 34, _ => by exact LP_keeps hS h c
  | 35, _ => by exact LP_takenAt hS h c
  | 36, _ => by exact LP_misses hS h c
  | 37, _ => by exact LP_hits hS h c
  | 38, _ => by exact LP_lost hS h c
  | 39, _ => by exact LP_withDepth hS h c
  | 40, _ => by exact LP_best hS h c
  | 41, _ => by exact LP_house hS h c
  | 42, _ => by exact LP_knock hS h c
  | 43, _ => by exact LP_isSound hS h c
  | 44, _ => by exact LP_digest hS h c
  | m + 45, hm => absurd hm (by omega)
/-- what the script is -/
def jA (X : ev_E) (S N : Nat) : Prop := S < X.1.heap.size ∧ ∃ f : Nat → Value, X.2.2.2.2.1 S = some (.inl (6, N, f)) ∧ ∀ j, j < N → ∃ v, f j = .int v
theorem jS_of {N : Nat} (hA : jA X S N) (hN : N < 2 ^ 30) (hi : i + 4 ≤ N) : ∃ v0 v1 v2 v3, jS X S i v0 v1 v2 v3 := by
  obtain ⟨h1, f, h2, h3⟩ := hA
  obtain ⟨w0, e0⟩ := h3 i (by omega)
  obtain ⟨w1, e1⟩ := h3 (i + 1) (by omega)
  obtain ⟨w2, e2⟩ := h3 (i + 2) (by omega)
  obtain ⟨w3, e3⟩ := h3 (i + 3) (by omega)
  have key : ∀ j w, j < N → f j = .int w → ∀ H, ev_low X H → ev_inA (ev_lk X H S) (nI j) ev_tI = True ∧ ev_aG (ev_lk X H S) (nI j) = .int w := fun j w hj e H hw => by
    rw [ev_lk_o (hw _ h1) h2, ev_inA_6, ev_aG_y, nI_clamp (n := j) (by omega)]
    exact ⟨eq_true ⟨nI_pos' (by omega), hj⟩, e⟩
  refine ⟨w0, w1, w2, w3, fun H hw => ⟨key i w0 (by omega) e0 H hw, key (i + 1) w1 (by omega) e1 H hw, ?_, ?_⟩⟩
  · rw [show nI i + 2 = nI (i + 2) from nI_add i 2]
    exact key (i + 2) w2 (by omega) e2 H hw
  · rw [show nI i + 3 = nI (i + 3) from nI_add i 3]
    exact key (i + 3) w3 (by omega) e3 H hw
theorem j_end {N i : Nat} (hN : N < 2 ^ 30) (hi : i < 2 ^ 30) : (nI N - 4 < nI i) = (N < i + 4) := by
  have e1 : (nI N - 4).toInt = (N : Int) - 4 := pk_sub_toInt (a := N) (b := 4) (by omega) (by omega)
  have e2 : (nI i).toInt = (i : Int) := by
    have := pk_sub_toInt (a := i) (b := 0) (by omega) (by omega)
    rw [show nI 0 = 0 from rfl, Int32.sub_zero] at this
    omega
  rw [Int32.lt_iff_toInt_lt, e1, e2]
  exact propext ⟨fun h => by omega, fun h => by omega⟩
theorem LAW_loop (hEM : ev_EM X) (hD : ev_DG X) (hK : ev_KK X) {N : Nat} (hA : jA X S N) (hN : N < 2 ^ 29) : ∀ (d i : Nat) (G : ev_CS) (As : List Nat) (H : ev_M) (n q : Nat) (a5 a6 : Value), i ≤ N → N < i + 4 + 4 * d → jM X zf x G G As H n → (∀ H1 n1 q1, n ≤ n1 → n1 ≤ n + 1000 * d → q ≤ q1 → q1 ≤ q + 12900 * d → P (.inl (some (.int 1))) H1 n1 q1) → ev_ok (ev_TT X) 309 27 [.ref S, .ref x, .ref (x + 57), .ref (x + 68), .int (nI i), a5, a6] [] H n q P := by
  intro d
  induction d with
  | zero =>
    intro i G As H n q a5 a6 hi hd h c
    obtain ⟨h1, f, h2, h3⟩ := id hA
    have hl : ev_lk X H S = some (.inl (6, N, f)) := ev_lk_o (jM_low h _ h1) h2
    have he : Int32.ofNat N - 4 < nI i := by rw [show Int32.ofNat N = nI N from rfl, j_end (by omega) (by omega)]; omega
    simp (disch := omega) only [t_L_law_27, t_L_law_29, t_L_law_30, t_L_law_31, t_L_law_32, t_L_law_33, t_L_law_1719, t_L_law_1720, ↓reduceIte, ev_k_i, ev_k_r, ev_k_l, ev_k_J, ev_k_n, ev_kr_1, ev_kr_0, ev_isK_y, ev_aG_y, ev_aS_y, ev_aN_y, ev_inA_0, ev_isA_0, ev_ft_I, ev_ft_0, ev_ft_1, ev_ft_o, ev_ft_a, ev_nb_0, ev_nb_1, and_true, true_and, if_true, if_false, not_true_eq_false, not_false_eq_true, nI_1, ev_fG_0, ev_fG_1, ev_fG_2, ev_fG_3, ev_fG_4, ev_fG_5, ev_fG_6, ev_fG_7, ev_fG_8, ev_fS_0, ev_fS_1, ev_fS_2, ev_fS_3, ev_fS_4, ev_fS_5, ev_fS_6, ev_fS_7, ev_fS_8, ev_isO_0, ev_isO_1, ev_isO_2, ev_isO_3, ev_isO_4, ev_isO_5, ev_isO_6, ev_isO_7, ev_isO_8, ev_z0, ev_z1, ev_z2, eq_self, show ¬ (1 : Int32) = 0 from by decide, show ¬ (2 : Int32) = 0 from by decide, show ¬ (2 : Int32) = 1 from by decide, show ¬ (0 : Int32) = 1 from by decide, show ¬ (0 : Int32) = 2 from by decide, show ¬ (1 : Int32) = 2 from by decide, show ¬ (0 : Int32) = -1 from by decide, show (0 : Int32) ≤ 1 from by decide, show (1 : Int32).toNatClampNeg = 1 from rfl, show (0 : Nat) < 2 from by omega, show (1 : Nat) < 2 from by omega, not_true_eq_false, ne_eq, not_false_eq_true, hl, ev_isA_6, he, ev_nrw_b1]
    exact c H n q (Nat.le_refl n) (Nat.le_refl n) (Nat.le_refl q) (Nat.le_refl q)
  | succ d ih =>
    intro i G As H n q a5 a6 hi hd h c
    obtain ⟨h1, f, h2, h3⟩ := id hA
    have hl : ev_lk X H S = some (.inl (6, N, f)) := ev_lk_o (jM_low h _ h1) h2
    rcases Nat.lt_or_ge N (i + 4) with hlt | hge
    · have he : Int32.ofNat N - 4 < nI i := by rw [show Int32.ofNat N = nI N from rfl, j_end (by omega) (by omega)]; exact hlt
      simp (disch := omega) only [t_L_law_27, t_L_law_29, t_L_law_30, t_L_law_31, t_L_law_32, t_L_law_33, t_L_law_1719, t_L_law_1720, ↓reduceIte, ev_k_i, ev_k_r, ev_k_l, ev_k_J, ev_k_n, ev_kr_1, ev_kr_0, ev_isK_y, ev_aG_y, ev_aS_y, ev_aN_y, ev_inA_0, ev_isA_0, ev_ft_I, ev_ft_0, ev_ft_1, ev_ft_o, ev_ft_a, ev_nb_0, ev_nb_1, and_true, true_and, if_true, if_false, not_true_eq_false, not_false_eq_true, nI_1, ev_fG_0, ev_fG_1, ev_fG_2, ev_fG_3, ev_fG_4, ev_fG_5, ev_fG_6, ev_fG_7, ev_fG_8, ev_fS_0, ev_fS_1, ev_fS_2, ev_fS_3, ev_fS_4, ev_fS_5, ev_fS_6, ev_fS_7, ev_fS_8, ev_isO_0, ev_isO_1, ev_isO_2, ev_isO_3, ev_isO_4, ev_isO_5, ev_isO_6, ev_isO_7, ev_isO_8, ev_z0, ev_z1, ev_z2, eq_self, show ¬ (1 : Int32) = 0 from by decide, show ¬ (2 : Int32) = 0 from by decide, show ¬ (2 : Int32) = 1 from by decide, show ¬ (0 : Int32) = 1 from by decide, show ¬ (0 : Int32) = 2 from by decide, show ¬ (1 : Int32) = 2 from by decide, show ¬ (0 : Int32) = -1 from by decide, show (0 : Int32) ≤ 1 from by decide, show (1 : Int32).toNatClampNeg = 1 from rfl, show (0 : Nat) < 2 from by omega, show (1 : Nat) < 2 from by omega, not_true_eq_false, ne_eq, not_false_eq_true, hl, ev_isA_6, he, ev_nrw_b1]
      exact c H n q (Nat.le_refl n) (by omega) (Nat.le_refl q) (by omega)
    · have he : ¬ Int32.ofNat N - 4 < nI i := by rw [show Int32.ofNat N = nI N from rfl, j_end (by omega) (by omega)]; omega
      obtain ⟨v0, v1, v2, v3, hS⟩ := jS_of (i := i) hA (by omega) hge
      have hs := hS H (jM_low h)
      simp (disch := omega) only [t_L_law_27, t_L_law_29, t_L_law_30, t_L_law_31, t_L_law_32, t_L_law_33, ↓reduceIte, ev_k_i, ev_k_r, ev_k_l, ev_k_J, ev_k_n, ev_kr_1, ev_kr_0, ev_isK_y, ev_aG_y, ev_aS_y, ev_aN_y, ev_inA_0, ev_isA_0, ev_ft_I, ev_ft_0, ev_ft_1, ev_ft_o, ev_ft_a, ev_nb_0, ev_nb_1, and_true, true_and, if_true, if_false, not_true_eq_false, not_false_eq_true, nI_1, ev_fG_0, ev_fG_1, ev_fG_2, ev_fG_3, ev_fG_4, ev_fG_5, ev_fG_6, ev_fG_7, ev_fG_8, ev_fS_0, ev_fS_1, ev_fS_2, ev_fS_3, ev_fS_4, ev_fS_5, ev_fS_6, ev_fS_7, ev_fS_8, ev_isO_0, ev_isO_1, ev_isO_2, ev_isO_3, ev_isO_4, ev_isO_5, ev_isO_6, ev_isO_7, ev_isO_8, ev_z0, ev_z1, ev_z2, eq_self, show ¬ (1 : Int32) = 0 from by decide, show ¬ (2 : Int32) = 0 from by decide, show ¬ (2 : Int32) = 1 from by decide, show ¬ (0 : Int32) = 1 from by decide, show ¬ (0 : Int32) = 2 from by decide, show ¬ (1 : Int32) = 2 from by decide, show ¬ (0 : Int32) = -1 from by decide, show (0 : Int32) ≤ 1 from by decide, show (1 : Int32).toNatClampNeg = 1 from rfl, show (0 : Nat) < 2 from by omega, show (1 : Nat) < 2 from by omega, not_true_eq_false, ne_eq, not_false_eq_true, hl, ev_isA_6, he]
      simp (disch := omega) only [t_L_law_36, t_L_law_37, t_L_law_39, t_L_law_40, t_L_law_42, ↓reduceIte, ev_k_i, ev_k_r, ev_k_l, ev_k_J, ev_k_n, ev_kr_1, ev_kr_0, ev_isK_y, ev_aG_y, ev_aS_y, ev_aN_y, ev_inA_0, ev_isA_0, ev_ft_I, ev_ft_0, ev_ft_1, ev_ft_o, ev_ft_a, ev_nb_0, ev_nb_1, and_true, true_and, if_true, if_false, not_true_eq_false, not_false_eq_true, nI_1, ev_fG_0, ev_fG_1, ev_fG_2, ev_fG_3, ev_fG_4, ev_fG_5, ev_fG_6, ev_fG_7, ev_fG_8, ev_fS_0, ev_fS_1, ev_fS_2, ev_fS_3, ev_fS_4, ev_fS_5, ev_fS_6, ev_fS_7, ev_fS_8, ev_isO_0, ev_isO_1, ev_isO_2, ev_isO_3, ev_isO_4, ev_isO_5, ev_isO_6, ev_isO_7, ev_isO_8, ev_z0, ev_z1, ev_z2, eq_self, show ¬ (1 : Int32) = 0 from by decide, show ¬ (2 : Int32) = 0 from by decide, show ¬ (2 : Int32) = 1 from by decide, show ¬ (0 : Int32) = 1 from by decide, show ¬ (0 : Int32) = 2 from by decide, show ¬ (1 : Int32) = 2 from by decide, show ¬ (0 : Int32) = -1 from by decide, show (0 : Int32) ≤ 1 from by decide, show (1 : Int32).toNatClampNeg = 1 from rfl, show (0 : Nat) < 2 from by omega, show (1 : Nat) < 2 from by omega, not_true_eq_false, ne_eq, not_false_eq_true, hs.1.1, hs.1.2]
      have cc : jC X zf x S i n q P := fun G1 As1 H1 n1 q1 b5 b6 hM g1 g2 g3 g4 => by
        simp (disch := omega) only [t_L_law_1713, t_L_law_1716, ↓reduceIte, ev_k_i, ev_k_r, ev_k_l, ev_k_J, ev_k_n, ev_kr_1, ev_kr_0, ev_isK_y, ev_aG_y, ev_aS_y, ev_aN_y, ev_inA_0, ev_isA_0, ev_ft_I, ev_ft_0, ev_ft_1, ev_ft_o, ev_ft_a, ev_nb_0, ev_nb_1, and_true, true_and, if_true, if_false, not_true_eq_false, not_false_eq_true, nI_1, ev_fG_0, ev_fG_1, ev_fG_2, ev_fG_3, ev_fG_4, ev_fG_5, ev_fG_6, ev_fG_7, ev_fG_8, ev_fS_0, ev_fS_1, ev_fS_2, ev_fS_3, ev_fS_4, ev_fS_5, ev_fS_6, ev_fS_7, ev_fS_8, ev_isO_0, ev_isO_1, ev_isO_2, ev_isO_3, ev_isO_4, ev_isO_5, ev_isO_6, ev_isO_7, ev_isO_8, ev_z0, ev_z1, ev_z2, eq_self, show ¬ (1 : Int32) = 0 from by decide, show ¬ (2 : Int32) = 0 from by decide, show ¬ (2 : Int32) = 1 from by decide, show ¬ (0 : Int32) = 1 from by decide, show ¬ (0 : Int32) = 2 from by decide, show ¬ (1 : Int32) = 2 from by decide, show ¬ (0 : Int32) = -1 from by decide, show (0 : Int32) ≤ 1 from by decide, show (1 : Int32).toNatClampNeg = 1 from rfl, show (0 : Nat) < 2 from by omega, show (1 : Nat) < 2 from by omega, not_true_eq_false, ne_eq, not_false_eq_true]
        rw [show nI i + 4 = nI (i + 4) from nI_add i 4]
        exact ih (i + 4) G1 As1 H1 n1 q1 b5 b6 (by omega) (by omega) hM (fun H2 n2 q2 f1 f2 f3 f4 => c H2 n2 q2 (by omega) (by omega) (by omega) (by omega))
      rw [t_L_law_43]
      by_cases hr : (v0 &&& 63).toInt < (0) ∨ (0) + ([236, 304, 356, 408, 448, 500, 540, 568, 620, 660, 700, 728, 768, 808, 848, 888, 916, 944, 984, 1024, 1064, 1092, 1120, 1148, 1176, 1204, 1232, 1284, 1297, 1310, 1335, 1360, 1388, 1401, 1429, 1469, 1509, 1537, 1565, 1593, 1618, 1646, 1674, 1687, 1700] : List Nat).length ≤ (v0 &&& 63).toInt
      · rw [if_pos hr]
        exact cc G As H n q _ _ h (Nat.le_refl n) (by omega) (Nat.le_refl q) (by omega)
      · rw [if_neg hr]
        have hr2 : ¬ ((v0 &&& 63).toInt < 0 ∨ 0 + 45 ≤ (v0 &&& 63).toInt) := hr
        exact LP_all hEM hD hK hS h cc _ (by omega)
end L83
end
section
/-! ===== the law from its start ===== -/
theorem okT_0 : okT t_0 := ⟨okL_nil, Or.inl rfl, Nat.zero_le 20, fun z => by cases z⟩
theorem jG_0 : jG g_0 := ⟨⟨fun i _ => okT_0, okL_nil, fun j _ => okL_nil, Nat.zero_le 60⟩, fun i _ => okV_nil, fun i _ => ⟨Or.inl rfl, fun z => z (Or.inl rfl)⟩⟩
section L84
variable {X : ev_E} {zf : Nat → Nat} {S : Nat} {q : Nat} {P : ev_O → ev_M → Nat → Nat → Prop}
theorem LAW_start (hEM : ev_EM X) (hD : ev_DG X) (hK : ev_KK X) (hI : ev_IC X zf) (hro : ∀ a, X.1.heap.size ≤ a → X.2.2.2.2.1 a = none) (hE1 : X.2.2.2.2.2 1 < X.1.heap.size) {N : Nat} (hA : jA X S N) (hN : N ≤ 2048) (c : ∀ H1 n1 q1, X.1.heap.size ≤ n1 → n1 ≤ X.1.heap.size + 601024 → q ≤ q1 → q1 ≤ q + 7293033 → P (.inl (some (.int 1))) H1 n1 q1) : ev_ok (ev_TT X) 309 0 [.ref S, ev_J, ev_J, ev_J, ev_J, ev_J, ev_J] [] (fun _ => none) X.1.heap.size q P := by
  generalize hx : X.1.heap.size = x
  rw [hx] at c
  simp (disch := omega) only [t_L_law_0, t_L_law_3, t_L_law_3_i, t_L_law_4, ↓reduceIte, ev_k_i, ev_k_r, ev_k_l, ev_k_J, ev_k_n, ev_kr_1, ev_kr_0, ev_isK_y, ev_aG_y, ev_aS_y, ev_aN_y, ev_inA_0, ev_isA_0, ev_ft_I, ev_ft_0, ev_ft_1, ev_ft_o, ev_ft_a, ev_nb_0, ev_nb_1, and_true, true_and, if_true, if_false, not_true_eq_false, not_false_eq_true, nI_1, ev_fG_0, ev_fG_1, ev_fG_2, ev_fG_3, ev_fG_4, ev_fG_5, ev_fG_6, ev_fG_7, ev_fG_8, ev_fS_0, ev_fS_1, ev_fS_2, ev_fS_3, ev_fS_4, ev_fS_5, ev_fS_6, ev_fS_7, ev_fS_8, ev_isO_0, ev_isO_1, ev_isO_2, ev_isO_3, ev_isO_4, ev_isO_5, ev_isO_6, ev_isO_7, ev_isO_8, ev_z0, ev_z1, ev_z2, eq_self, show ¬ (1 : Int32) = 0 from by decide, show ¬ (2 : Int32) = 0 from by decide, show ¬ (2 : Int32) = 1 from by decide, show ¬ (0 : Int32) = 1 from by decide, show ¬ (0 : Int32) = 2 from by decide, show ¬ (1 : Int32) = 2 from by decide, show ¬ (0 : Int32) = -1 from by decide, show (0 : Int32) ≤ 1 from by decide, show (1 : Int32).toNatClampNeg = 1 from rfl, show (0 : Nat) < 2 from by omega, show (1 : Nat) < 2 from by omega, not_true_eq_false, ne_eq, not_false_eq_true]
  refine C_new ev_up_s fun H1 q1 h1 h2 h3 h4 => ?_
  simp (disch := omega) only [t_L_law_7, t_L_law_8, t_L_law_11, t_L_law_11_i, t_L_law_12, ↓reduceIte, ev_k_i, ev_k_r, ev_k_l, ev_k_J, ev_k_n, ev_kr_1, ev_kr_0, ev_isK_y, ev_aG_y, ev_aS_y, ev_aN_y, ev_inA_0, ev_isA_0, ev_ft_I, ev_ft_0, ev_ft_1, ev_ft_o, ev_ft_a, ev_nb_0, ev_nb_1, and_true, true_and, if_true, if_false, not_true_eq_false, not_false_eq_true, nI_1, ev_fG_0, ev_fG_1, ev_fG_2, ev_fG_3, ev_fG_4, ev_fG_5, ev_fG_6, ev_fG_7, ev_fG_8, ev_fS_0, ev_fS_1, ev_fS_2, ev_fS_3, ev_fS_4, ev_fS_5, ev_fS_6, ev_fS_7, ev_fS_8, ev_isO_0, ev_isO_1, ev_isO_2, ev_isO_3, ev_isO_4, ev_isO_5, ev_isO_6, ev_isO_7, ev_isO_8, ev_z0, ev_z1, ev_z2, eq_self, show ¬ (1 : Int32) = 0 from by decide, show ¬ (2 : Int32) = 0 from by decide, show ¬ (2 : Int32) = 1 from by decide, show ¬ (0 : Int32) = 1 from by decide, show ¬ (0 : Int32) = 2 from by decide, show ¬ (1 : Int32) = 2 from by decide, show ¬ (0 : Int32) = -1 from by decide, show (0 : Int32) ≤ 1 from by decide, show (1 : Int32).toNatClampNeg = 1 from rfl, show (0 : Nat) < 2 from by omega, show (1 : Nat) < 2 from by omega, not_true_eq_false, ne_eq, not_false_eq_true]
  have hw1 : ∀ a, ¬ (x ≤ a ∧ a < x + 57) → H1 a = none := fun a ha => (h2 a (by omega)).trans (ev_up_n (by omega))
  refine M_new (zf := zf) hEM ⟨by omega, hro, hE1⟩ (fun a ha => (ev_up_n (by omega)).trans (hw1 a (by omega))) ev_up_s fun H2 q2 g1 g2 g3 g4 => ?_
  simp (disch := omega) only [t_L_law_15, t_L_law_16, t_L_law_19, t_L_law_19_i, t_L_law_20, t_L_law_23, t_L_law_24, t_L_law_25, t_X6_init_0, t_X6_init_1, t_X6_init_4, ↓reduceIte, ev_k_i, ev_k_r, ev_k_l, ev_k_J, ev_k_n, ev_kr_1, ev_kr_0, ev_isK_y, ev_aG_y, ev_aS_y, ev_aN_y, ev_inA_0, ev_isA_0, ev_ft_I, ev_ft_0, ev_ft_1, ev_ft_o, ev_ft_a, ev_nb_0, ev_nb_1, and_true, true_and, if_true, if_false, not_true_eq_false, not_false_eq_true, nI_1, ev_fG_0, ev_fG_1, ev_fG_2, ev_fG_3, ev_fG_4, ev_fG_5, ev_fG_6, ev_fG_7, ev_fG_8, ev_fS_0, ev_fS_1, ev_fS_2, ev_fS_3, ev_fS_4, ev_fS_5, ev_fS_6, ev_fS_7, ev_fS_8, ev_isO_0, ev_isO_1, ev_isO_2, ev_isO_3, ev_isO_4, ev_isO_5, ev_isO_6, ev_isO_7, ev_isO_8, ev_z0, ev_z1, ev_z2, eq_self, show ¬ (1 : Int32) = 0 from by decide, show ¬ (2 : Int32) = 0 from by decide, show ¬ (2 : Int32) = 1 from by decide, show ¬ (0 : Int32) = 1 from by decide, show ¬ (0 : Int32) = 2 from by decide, show ¬ (1 : Int32) = 2 from by decide, show ¬ (0 : Int32) = -1 from by decide, show (0 : Int32) ≤ 1 from by decide, show (1 : Int32).toNatClampNeg = 1 from rfl, show (0 : Nat) < 2 from by omega, show (1 : Nat) < 2 from by omega, not_true_eq_false, ne_eq, not_false_eq_true, ev_lku_s, ev_lku_n, ev_up_s, ev_up_n]
  have hw2 : ∀ a, ¬ (x ≤ a ∧ a < x + 68) → H2 a = none := fun a ha => (g2 a (by omega)).trans ((ev_up_n (by omega)).trans (hw1 a (by omega)))
  have hA0 : m_ax X zf [] := ⟨hI, fun k hk => absurd hk List.not_mem_nil, Nat.zero_le 60⟩
  have hX2 : m_cx X zf (x + 57) (fun _ => t_0) [] H2 (x + 57 + 12) := ⟨m_zok_of hA0, fun a ha => hw2 a (by omega), ⟨by omega, hro, hE1⟩, Nat.le_refl _, fun a ha => hw2 a (by omega), fun i _ => okT_0, fun i _ => Or.inl rfl⟩
  have hl3 : ev_low X (ev_up H2 (x + 57 + 11) (.inr (11, [.long 0, .null]))) := fun a ha => (ev_up_n (by omega)).trans (hw2 a (by omega))
  have hM : jM X zf x g_0 g_0 [] (ev_up H2 (x + 57 + 11) (.inr (11, [.long 0, .null]))) (x + 57 + 12) := ⟨c_cg h1 (fun a ha hb => (ev_up_n (by omega)).trans ((g2 a (by omega)).trans (ev_up_n (by omega)))), jG_0, jG_0,
    ⟨(0, 0, 0), fun _ => 0, rfl, m_aw_cl g1 hX2 (by omega) hl3 (fun a ha hb hc => ev_up_n (by omega)) (Nat.le_refl _)⟩,
    ⟨m_zok_of hA0, hl3, ⟨by omega, hro, hE1⟩, Nat.le_refl _, fun a ha => (ev_up_n (by omega)).trans (hw2 a (by omega)), fun i _ => okT_0, fun i _ => Or.inl rfl⟩, hA0, jR_0, ⟨0, .null, ev_up_s⟩, by omega⟩
  exact LAW_loop (x := x) hEM hD hK hA (by omega) 512 0 g_0 [] _ _ _ _ _ (Nat.zero_le N) (by omega) hM (fun H3 n3 q3 f1 f2 f3 f4 => c H3 n3 q3 (by omega) (by omega) (by omega) (by omega))
end L84
end
section
/-! ===== what the start holds, read off the conditions ===== -/
section L85
variable {args : Array Value} {s : State}
theorem rd_arr {tm : Term} {ty : FieldType} {N : Nat} (harr : (Cond.arrayOf tm ty).before args s = true) (hlen : (Cond.eq (.length tm) (.int (Int32.ofNat N))).before args s = true) (hN : N < 2 ^ 31) : ∃ (a : Nat) (cell : Cell), tm.eval args s none [] s = some (.ref a) ∧ s.arrayAt? a = some cell ∧ s.heap[a]? = some cell ∧ s.isArrayOf cell ty ∧ cell.vm ≠ .unknown ∧ cell.slots.size = N := by
  have hv := va_eqt hlen
  obtain ⟨a, cell, ht, hat, e⟩ := Term.length_spec hv
  obtain ⟨hcell, hkn, -, -⟩ := State.arrayAt?_spec hat
  have hsz : cell.slots.size < 2 ^ 31 := by
    simp only [Term.eval, ht, hat, Option.bind_eq_bind, Option.bind_some] at hv
    by_cases hlt : cell.slots.size < 2147483648
    · exact hlt
    · simp [hlt] at hv
  exact ⟨a, cell, ht, hat, hcell, (Cond.arrayOf_spec harr ht hcell).1, hkn, nI_inj hsz hN (Value.int.inj e).symm⟩
theorem rd_elv {tm : Term} {a : Nat} {cell : Cell} (ht : tm.eval args s none [] s = some (.ref a)) (hat : s.arrayAt? a = some cell) {j : Nat} {v : Value} (hj : j < 2 ^ 31) (h : (Term.elem tm (.int (Int32.ofNat j))).eval args s none [] s = some v) : cell.slots[j]? = some v := by
  obtain ⟨a2, i, cell2, h1, h2, h3, h4, h5⟩ := Term.elem_spec h
  cases ht.symm.trans h1
  cases hat.symm.trans h3
  have hi : i = Int32.ofNat j := by
    have e : (Term.int (Int32.ofNat j)).eval args s none [] s = some (.int (Int32.ofNat j)) := rfl
    cases h2.symm.trans e
    rfl
  have hc : i.toNatClampNeg = j := by rw [hi]; exact Int32.toNatClampNeg_ofNat_of_lt hj
  rw [hc] at h5
  exact h5
theorem rd_el {tm : Term} {a : Nat} {cell : Cell} (ht : tm.eval args s none [] s = some (.ref a)) (hat : s.arrayAt? a = some cell) {j : Nat} {v : Int32} (hj : j < 2 ^ 31) (h : (Cond.eq (.elem tm (.int (Int32.ofNat j))) (.int v)).before args s = true) : cell.slots[j]? = some (.int v) := rd_elv ht hat hj (va_eqt h)
theorem rd_at {X : ev_E} {a k N : Nat} {cell : Cell} {ty : FieldType} {f : Nat → Value} (hcell : X.1.heap[a]? = some cell) (hof : X.1.isArrayOf cell ty) (hkn : cell.vm ≠ .unknown) (hk : X.2.2.2.1 k = cell.cls) (hN : cell.slots.size = N) (hf : ∀ j, j < N → cell.slots[j]? = some (f j)) : ev_atR X a (.inl (k, N, f)) X.1.heap := ⟨cell, hcell, hk.symm, hof.1, hkn, hN, hf⟩
theorem rd_ty {cell : Cell} {ty : FieldType} (hof : s.isArrayOf cell ty) : ArrOfT s cell.cls ty := fun n z => ⟨(fun k h => by cases h), hof.2⟩
theorem rd_cls {tm : Term} {C : String} {a : Nat} {cC : ClassId} (hex : (Cond.exactly tm C).before args s = true) (ht : tm.eval args s none [] s = some (.ref a)) (hC : s.vm.findClass C = some cC) : ∃ (cell : Cell) (k : Class), s.heap[a]? = some cell ∧ cell.cls = cC ∧ cell.vm.isStatics = false ∧ s.vm.classes[cC]? = some k ∧ (k.kind = .ordinary → cell.slots.size = k.instanceTypes.size) := by
  obtain ⟨a2, c, cell, k, q1, q2, q3, q4, q5, q6, q7⟩ := Cond.exactly_spec (args := args) (first := s) (o := none) (s := s) (idx := []) (t := tm) (cls := C) hex
  cases ht.symm.trans q1
  cases hC.symm.trans q2
  exact ⟨cell, k, q3, q6, q5, q4, q7⟩
theorem rd_fld {tm : Term} {o n d : String} {v : Value} {a i : Nat} {cell : Cell} (ht : tm.eval args s none [] s = some (.ref a)) (hv : (Term.field tm o n d).eval args s none [] s = some v) (hS : SlotIs s o n d i) (hcell : s.heap[a]? = some cell) : cell.vm ≠ .unknown ∧ cell.slots[i]? = some v := by
  obtain ⟨cf, k, fi, f, cell2, h1, h2, h3, h4, h5, -⟩ := vk_OFof (A := fun _ => False) ht hv (fun _ _ h => h)
  obtain ⟨cf', kf, fi', fd, g1, g2⟩ := hS
  cases h1.symm.trans g1
  cases hcell.symm.trans h3
  rw [g2] at h5
  exact ⟨h4, h5⟩
theorem rd_slot {ws : List Cond} {C : String} {T : u_T} {N : Nat} {cC : ClassId} {iS : Nat → Nat} (hts : ∀ w ∈ ws, w.before args s = true) (hin : ∀ w ∈ u_ws C T N, w ∈ ws) (hK : u_Kn s C T N cC iS) {k : Nat} (hk : k < N) {kC : Class} (hc : s.vm.classes[cC]? = some kC) : iS k < kC.instanceTypes.size := by
  obtain ⟨cf, kf, fi, fd, g1, g2⟩ := hK.1 k hk
  rcases u_lays hts hin hk with h | h
  · obtain ⟨c, kk, c', k', i, f, h1, h2, h3, h4, h5, h6, h7, -⟩ := Cond.lays_spec h
    cases h1.symm.trans hK.2.1
    cases h2.symm.trans hc
    cases h3.symm.trans g1
    rw [← g2]
    exact (Array.getElem?_eq_some_iff.mp h7).1
  · obtain ⟨c, kk, c', k', i, f, h1, h2, h3, h4, h5, h6, h6b, h7, -⟩ := Cond.laysFinal_spec h
    cases h1.symm.trans hK.2.1
    cases h2.symm.trans hc
    cases h3.symm.trans g1
    rw [← g2]
    exact (Array.getElem?_eq_some_iff.mp h7).1
/-- a text constant: its cell, its letters' cell -/
theorem rd_str {ws : List Cond} {tm : Term} {cS : ClassId} {iS : Nat → Nat} {N : Nat} (hts : ∀ w ∈ ws, w.before args s = true) (hin : ∀ w ∈ u_ws RJ0 TJ0 4, w ∈ ws) (hK : u_Kn s RJ0 TJ0 4 cS iS) (hex : (Cond.exactly tm "java/lang/String").before args s = true) (hco : (Cond.eq (.field tm "java/lang/String" "coder" "B") (.int 0)).before args s = true)
    (harr : (Cond.arrayOf (.field tm "java/lang/String" "value" "[B") .byte).before args s = true) (hlen : (Cond.eq (.length (.field tm "java/lang/String" "value" "[B")) (.int (Int32.ofNat N))).before args s = true) (hN : N < 2 ^ 31) :
    ∃ (a b : Nat) (cell cb : Cell) (r2 r3 : Value), tm.eval args s none [] s = some (.ref a) ∧ s.heap[a]? = some cell ∧ cell.cls = cS ∧ cell.vm.isStatics = false ∧ cell.vm ≠ .unknown ∧ (∀ j : Nat, j < 4 → cell.slots[iS j]? = some (vp_V [.ref b, .int 0, r2, r3] j)) ∧
      (Term.field tm "java/lang/String" "value" "[B").eval args s none [] s = some (.ref b) ∧ s.arrayAt? b = some cb ∧ s.heap[b]? = some cb ∧ s.isArrayOf cb .byte ∧ cb.vm ≠ .unknown ∧ cb.slots.size = N := by
  obtain ⟨b, cb, e1, e2, e3, e4, e5, e6⟩ := rd_arr harr hlen hN
  obtain ⟨a, c, cell0, k0, q1, -⟩ := Cond.exactly_spec (args := args) (first := s) (o := none) (s := s) (idx := []) (t := tm) (cls := "java/lang/String") hex
  obtain ⟨cell, k, f1, f2, f3, f4, f5⟩ := rd_cls hex q1 hK.2.1
  obtain ⟨g1, g2⟩ := rd_fld q1 e1 (hK.1 0 (by omega)) f1
  obtain ⟨-, g3⟩ := rd_fld q1 (va_eqt hco) (hK.1 1 (by omega)) f1
  obtain ⟨kC, hk1, hk2⟩ := hK.2.2
  cases f4.symm.trans hk1
  have hs := f5 hk2
  have g4 : ∃ v, cell.slots[iS 2]? = some v := ⟨_, Array.getElem?_eq_getElem (by rw [hs]; exact rd_slot hts hin hK (by omega) hk1)⟩
  have g5 : ∃ v, cell.slots[iS 3]? = some v := ⟨_, Array.getElem?_eq_getElem (by rw [hs]; exact rd_slot hts hin hK (by omega) hk1)⟩
  obtain ⟨r2, g4⟩ := g4
  obtain ⟨r3, g5⟩ := g5
  refine ⟨a, b, cell, cb, r2, r3, q1, f1, f2, f3, g1, fun j hj => ?_, e1, e2, e3, e4, e5, e6⟩
  have : j = 0 ∨ j = 1 ∨ j = 2 ∨ j = 3 := by omega
  rcases this with rfl | rfl | rfl | rfl
  · exact g2
  · exact g3
  · exact g4
  · exact g5
theorem rd_ra {ty : FieldType} (h : (Cond.arrayClass ty).before args s = true) : ∃ cA, ArrOfT s cA ty ∧ s.vm.findClass ("[" ++ ty.toString) = some cA := by
  obtain ⟨c, k, comp, h1, h2, h3⟩ := Cond.arrayClass_spec (args := args) (first := s) (o := none) (s := s) (idx := []) h
  exact ⟨c, fun n z => ⟨(fun k h => by cases h), k, h2, comp, h3⟩, h1⟩
theorem rd_ro {C : String} (h : (Cond.arrayOver (.object C)).before args s = true) : ∃ cA, ArrOfT s cA (.object C) ∧ va_RA s cA (.object C) := by
  obtain ⟨comp, c, k, h1, h2, h3, h4, h5⟩ := Cond.arrayOver_spec (args := args) (first := s) (o := none) (s := s) (idx := []) h
  exact ⟨c, fun n z => ⟨(fun k h => by cases h), k, h3, comp, h4⟩, k, comp, h3, h4, h1, h5⟩
end L85
end
section
/-! ===== the cells that are only read: no two are one ===== -/
section L86
variable {s : State}
/-- which of the cells that are only read a may be -/
noncomputable def rd_tag (s : State) (a : Nat) : Nat := match s.heap[a]? with
  | none => 0
  | some cl0 => match s.vm.classes[cl0.cls]? with
    | none => 0
    | some k => match k.kind with
      | .array _ .int => 6
      | .array _ .byte => @ite _ (cl0.slots.size = 100) (Classical.propDecidable _) (@ite _ (cl0.slots[10]? = some (.int 48)) (Classical.propDecidable _) 7 8) (20 + cl0.slots.size)
      | .array _ _ => 1000 + cl0.slots.size
      | _ => @ite _ (k.instanceTypes.size = 4) (Classical.propDecidable _) 4 3
theorem rd_tag_i {a : Nat} {cell : Cell} (h : s.heap[a]? = some cell) (hof : s.isArrayOf cell .int) : rd_tag s a = 6 := by
  obtain ⟨-, k, hk, comp, hkind⟩ := hof
  unfold rd_tag
  simp only [h, hk, hkind]
theorem rd_tag_b {a : Nat} {cell : Cell} (h : s.heap[a]? = some cell) (hof : s.isArrayOf cell .byte) : rd_tag s a = @ite _ (cell.slots.size = 100) (Classical.propDecidable _) (@ite _ (cell.slots[10]? = some (.int 48)) (Classical.propDecidable _) 7 8) (20 + cell.slots.size) := by
  obtain ⟨-, k, hk, comp, hkind⟩ := hof
  unfold rd_tag
  simp only [h, hk, hkind]
theorem rd_tag_o {a : Nat} {cell : Cell} {C : String} (h : s.heap[a]? = some cell) (hof : s.isArrayOf cell (.object C)) : rd_tag s a = 1000 + cell.slots.size := by
  obtain ⟨-, k, hk, comp, hkind⟩ := hof
  unfold rd_tag
  simp only [h, hk, hkind]
theorem rd_tag_c {a : Nat} {cell : Cell} {k : Class} (h : s.heap[a]? = some cell) (hk : s.vm.classes[cell.cls]? = some k) (hkind : k.kind = .ordinary) : rd_tag s a = @ite _ (k.instanceTypes.size = 4) (Classical.propDecidable _) 4 3 := by
  unfold rd_tag
  simp only [h, hk, hkind]
theorem rd_tag_ne {a b m n : Nat} (h1 : rd_tag s a = m) (h2 : rd_tag s b = n) (h : ¬ m = n) : ¬ a = b := fun e => h (h1.symm.trans ((congrArg (rd_tag s) e).trans h2))
/-- the map of what is only read -/
noncomputable def rd_map (R : Nat → ev_C → Prop) : ev_M := fun a => @dite _ (∃ c, R a c) (Classical.propDecidable _) (fun h => some (Classical.choose h)) (fun _ => none)
theorem rd_map_y {R : Nat → ev_C → Prop} (hR : ∀ a c c', R a c → R a c' → c = c') {a : Nat} {c : ev_C} (h : R a c) : rd_map R a = some c := by
  unfold rd_map
  rw [dif_pos ⟨c, h⟩]
  exact congrArg some (hR a _ _ (Classical.choose_spec (⟨c, h⟩ : ∃ c, R a c)) h)
theorem rd_map_i {R : Nat → ev_C → Prop} {a : Nat} {c : ev_C} (h : rd_map R a = some c) : R a c := by
  unfold rd_map at h
  by_cases e : ∃ c, R a c
  · rw [dif_pos e] at h
    cases h
    exact Classical.choose_spec e
  · rw [dif_neg e] at h
    cases h
end L86
end
