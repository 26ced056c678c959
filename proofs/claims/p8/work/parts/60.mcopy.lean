/-! ===== the reference: copy ===== -/
section M60a
variable {X : ev_E} {H H1 : ev_M} {l D N N1 w w' l' : Nat} {ow ow1 : Nat → Nat} {qs qs' : m_Q} {n q : Nat} {P : ev_O → ev_M → Nat → Nat → Prop}
theorem ML_addF (hM : m_lst X H l D n ow w qs) (hL : qs.length ≤ 60) {z : Nat × Int32 × Int32} (hz : D ≤ z.1 ∧ z.1 < n ∧ ow z.1 = w ∧ m_pc z.2 (H z.1)) (hq : z.1 ∉ qs.map Prod.fst) (hf : ∀ a, n ≤ a → H a = none) (hB : ev_bs X D) (hlD : l < D) (hDn : D ≤ n)
    (k : ∀ H1 n1 q1, m_lst X H1 l D n1 (m_ow ow n w) w (qs ++ [z]) → m_fr H H1 l D n ow w → (∀ a, n1 ≤ a → H1 a = none) → n ≤ n1 → n1 ≤ n + 1 → q ≤ q1 → q1 ≤ q + 90 → (∀ a, a < n → ¬ a = l → (∀ M F, ¬ H a = some (.inl (2, M, F))) → H1 a = H a) → P (.inl (some (.int 1))) H1 n1 q1) : ev_ok (ev_TT X) 262 0 [.ref l, .ref z.1] [] H n q P := by
  obtain ⟨e, h1, h2, h3, h4⟩ := hM
  have hB2 := hB.2.2
  have hB1 := hB.1
  have hne : ∀ z : Nat × Int32 × Int32, m_pc z.2 (H z.1) → ¬ z.1 = l ∧ ¬ z.1 = e := fun z h3 => by
    obtain ⟨g, hg, -⟩ := h3
    obtain ⟨mc, g1, g2, g3⟩ := h1
    refine ⟨fun zz => ?_, fun zz => ?_⟩
    · rw [zz, g1] at hg; cases hg
    · rcases g3 with ⟨g3, -⟩ | ⟨M, F, g3, -⟩
      · rw [zz, g3] at hg; cases hg
      · rw [zz, g3] at hg; cases hg
  refine L_add h1 (by rw [m_len]; exact hL) (m_pc_el hz.2.2.2) (by omega) (hf n (Nat.le_refl n)) (hB.2.1 n (by omega)) (by omega) fun H1 e1 n1 q1 g1 g2 g3 => ?_
  have hn1 : n ≤ n1 ∧ n1 ≤ n + 1 ∧ q ≤ q1 ∧ q1 ≤ q + 90 ∧ (e1 = e ∨ (e1 = n ∧ n1 = n + 1)) := by
    rcases g3 with ⟨a, b, c, -⟩ | ⟨a, b, c, d⟩
    · exact ⟨by omega, by omega, by omega, by omega, Or.inl a⟩
    · exact ⟨by omega, by omega, c, d, Or.inr ⟨a, b⟩⟩
  have hpair : ∀ z : Nat × Int32 × Int32, D ≤ z.1 ∧ z.1 < n ∧ ow z.1 = w ∧ m_pc z.2 (H z.1) → D ≤ z.1 ∧ z.1 < n1 ∧ m_ow ow n w z.1 = w ∧ m_pc z.2 (H1 z.1) := fun z hz => by
    obtain ⟨a, b, c, d⟩ := hz
    refine ⟨a, by omega, (m_ow_l b).trans c, ?_⟩
    rw [g2 _ (hne z d).1 (Or.inl (hne z d).2) (Or.inl (by omega))]
    exact d
  have hzz := hpair z hz
  refine k H1 n1 q1 ⟨e1, ?_, ?_, fun z' hz' => ?_, ?_⟩ (fun a ha hal haw => ?_) (fun a ha => ?_) hn1.1 hn1.2.1 hn1.2.2.1 hn1.2.2.2.1 (fun a ha hal hac => ?_)
  · rw [List.map_append]
    exact g1
  · rw [List.map_append]
    refine List.nodup_append.mpr ⟨h2, List.nodup_cons.mpr ⟨List.not_mem_nil, List.nodup_nil⟩, fun a ha b hb hab => ?_⟩
    rw [List.mem_singleton.mp hb] at hab
    exact hq (hab ▸ ha)
  · rcases List.mem_append.mp hz' with h | h
    · exact hpair z' (h3 z' h)
    · rw [List.mem_singleton.mp h]
      exact hzz
  · rcases g3 with ⟨a, b, c, ⟨d, hd⟩⟩ | ⟨a, b, c, d⟩
    · right
      rcases h4 with ⟨-, -, h4⟩ | h4
      · rw [h4] at hd; cases hd
      · rw [a]
        exact ⟨h4.1, by omega, (m_ow_l h4.2.1).trans h4.2.2⟩
    · right
      exact ⟨by omega, by omega, m_ow_g (by omega)⟩
  · refine g2 a hal ?_ (Or.inl (by omega))
    rcases h4 with ⟨-, -, h4⟩ | h4
    · exact Or.inr h4
    · exact Or.inl fun z => haw (z ▸ ⟨h4.1, h4.2.2⟩)
  · refine (g2 a (by omega) ?_ (by omega)).trans (hf a (by omega))
    rcases h4 with ⟨-, -, h4⟩ | h4
    · exact Or.inr h4
    · exact Or.inl (by omega)
  · refine g2 a hal ?_ (Or.inl (by omega))
    rcases h4 with ⟨-, -, h4⟩ | h4
    · exact Or.inr h4
    · refine Or.inl fun z => ?_
      obtain ⟨mc, g1', g2', g3'⟩ := h1
      rcases g3' with ⟨-, g3', -⟩ | ⟨M, F, g3', -⟩
      · have := h4.1
        omega
      · exact hac M F (z ▸ g3')
end M60a
section M60b
variable {X : ev_E} {y i : Nat} {r r1 : Int32 × Int32 × Int32} {H H0 H1 : ev_M} {n0 q0 cN cQ : Nat} {ow ow0 : Nat → Nat} {s s1 : ev_TS} {qs : m_Q} {n q : Nat} {P : ev_O → ev_M → Nat → Nat → Prop}
theorem mc_addF (hB : ev_bs X y) (hC : m_cur X y i H0 n0 q0 ow0 cN cQ r s H n q ow qs) (hi : i < 4) (hn : y + 12 ≤ n0) (hL : qs.length ≤ 60) {z : Nat × Int32 × Int32} (hz : y + 12 ≤ z.1 ∧ z.1 < n ∧ ow z.1 = i ∧ m_pc z.2 (H z.1)) (hq : z.1 ∉ qs.map Prod.fst)
    (k : ∀ H1 n1 q1 ow1, m_cur X y i H0 n0 q0 ow0 (cN + 1) (cQ + 90) r (ps_L s (s.1 ++ [z.2])) H1 n1 q1 ow1 (qs ++ [z]) → (∀ a, a < n → ¬ a = y + 3 + 2 * i → (∀ M F, ¬ H a = some (.inl (2, M, F))) → H1 a = H a) → (∀ a, a < n → ow1 a = ow a) → n ≤ n1 → P (.inl (some (.int 1))) H1 n1 q1) : ev_ok (ev_TT X) 262 0 [.ref (y + 3 + 2 * i), .ref z.1] [] H n q P := by
  have hC0 := hC
  obtain ⟨c1, c2, c3, c4, c5, c6, c7, c8, c9, c10, c11⟩ := hC0
  have hB1 : ev_bs X (y + 12) := ⟨by have := hB.1; omega, hB.2⟩
  refine ML_addF c3 hL hz hq c7 hB1 (by omega) (by omega) fun H1 n1 q1 g1 g2 g3 g4 g5 g6 g7 g8 => k H1 n1 q1 _ (mc_frame (c2 := cN + 1) (d2 := cQ + 90) hC (fun a a1 a2 a3 a4 a5 => g2 a a1 a4 a5) (fun a ha => m_ow_l ha) ((g2 y (by omega) (by omega) (by omega)).trans c1) ((g2 _ (by omega) (by omega) (by omega)).trans c2) g1 ?_ g3 g4 (by omega) g6 (by omega)) g8 (fun a ha => m_ow_l ha) g4
  rw [List.map_append, c4]; rfl
/-- another thing made at n -/
theorem mc_newC (hB : ev_bs X y) (hi : i < 4) (hn : y + 12 ≤ n0) (hC : m_cur X y i H0 n0 q0 ow0 cN cQ r s H n q ow qs) (c : ev_C) (w d : Nat) : m_cur X y i H0 n0 q0 ow0 (cN + 1) (cQ + d) r s (ev_up H n c) (n + 1) (q + d) (m_ow ow n w) qs := by
  have hC0 := hC
  obtain ⟨c1, c2, c3, c4, c5, c6, c7, c8, c9, c10, c11⟩ := hC0
  have hB1 := hB.1
  have hB2 := hB.2.2
  refine mc_frame (c2 := cN + 1) (d2 := cQ + d) hC (fun a a1 a2 a3 a4 a5 => ev_up_n (by omega)) (fun a ha => m_ow_l ha) ((ev_up_n (by omega)).trans c1) ((ev_up_n (by omega)).trans c2) (m_lst_cg c3 (by omega) (fun a ha => ev_up_n ?_) (fun a a1 a2 a3 => (m_ow_l a2).trans a3)) c4 (fun a ha => (ev_up_n (by omega)).trans (c7 a (by omega))) (by omega) (by omega) (by omega) (by omega)
  rcases ha with rfl | ⟨a1, a2, a3⟩ | ⟨a1, a2⟩ <;> omega
/-- a thing of another owner is written, made since the beginning -/
theorem mc_oth (hB : ev_bs X y) (hi : i < 4) (hn : y + 12 ≤ n0) (hC : m_cur X y i H0 n0 q0 ow0 cN cQ r s H n q ow qs) {p : Nat} (hp : n0 ≤ p) (hpn : p < n) (ho : ¬ ow p = i) (c : ev_C) : m_cur X y i H0 n0 q0 ow0 cN cQ r s (ev_up H p c) n q ow qs := by
  have hC0 := hC
  obtain ⟨c1, c2, c3, c4, c5, c6, c7, c8, c9, c10, c11⟩ := hC0
  have hB1 := hB.1
  have hB2 := hB.2.2
  refine ⟨(ev_up_n (by omega)).trans c1, (ev_up_n (by omega)).trans c2, m_lst_cg c3 (Nat.le_refl _) (fun a ha => ev_up_n ?_) (fun a a1 a2 a3 => a3), c4, fun a a1 a2 a3 a4 a5 => (ev_up_n (by omega)).trans (c5 a a1 a2 a3 a4 a5), c6, fun a ha => (ev_up_n (by omega)).trans (c7 a ha), c8, c9, c10, c11⟩
  rcases ha with rfl | ⟨a1, a2, a3⟩ | ⟨a1, a2⟩
  · omega
  · exact fun z => ho (z ▸ a3)
  · omega
end M60b
/-- a list under whatever comes above n -/
theorem ML_old {X : ev_E} {H : ev_M} {l D N w n : Nat} {ow : Nat → Nat} {qs : m_Q} (hM : m_lst X H l D N ow w qs) (hN : N ≤ n) (hlD : l < D) (hDN : D ≤ N) : ∃ mc e, ∀ H', (∀ a, a < n → H' a = H a) → H' l = some (ev_alc mc e (qs.map fun z => Value.ref z.1).length) ∧ ev_AE X H' e (qs.map fun z => .ref z.1) := by
  obtain ⟨e, ⟨mc, h1, h2⟩, h3, h4, h5⟩ := hM
  refine ⟨mc, e, fun H' he => ⟨(he _ (by omega)).trans h1, fun v hv => ?_, ?_⟩⟩
  · obtain ⟨z, hz, rfl⟩ := List.mem_map.mp hv
    obtain ⟨a1, a2, a3, g, a4, -⟩ := h4 z hz
    exact Or.inr ⟨z.1, rfl, Or.inl ⟨2, g, (he _ (by omega)).trans a4⟩⟩
  · rw [he e (by rcases h5 with ⟨a, -⟩ | ⟨-, a, -⟩ <;> omega)]
    exact h2.2
theorem m_aw_ow {X : ev_E} {zf : Nat → Nat} {y : Nat} {r : Int32 × Int32 × Int32} {T : Nat → ev_TS} {As : List Nat} {H : ev_M} {ow ow1 : Nat → Nat} {n n2 : Nat} (hm : m_aw X zf y r T As H n ow) (hx : m_cx X zf y T As H n) {H2 : ev_M} (e : ∀ a, a < n → H2 a = H a) (h1 : n ≤ n2) (eo : ∀ a, a < n → ow1 a = ow a) : m_aw X zf y r T As H2 n2 ow1 := by
  obtain ⟨g1, ⟨f, g2, g2b⟩, g3, g4⟩ := hm
  obtain ⟨hZ, hw, hB, hn, hz, hT, hW⟩ := hx
  have hB1 := hB.1
  have hB2 := hB.2.2
  refine ⟨(e _ (by omega)).trans g1, ⟨f, (e _ (by omega)).trans g2, g2b⟩, fun j hj => ?_, ?_⟩
  · obtain ⟨a1, qs', a2, a3⟩ := g3 j hj
    refine ⟨(e _ (by omega)).trans a1, qs', m_lst_cg a2 h1 (fun a ha => e a ?_) (fun a a1 a2 a3 => (eo a a2).trans a3), a3⟩
    rcases ha with rfl | ⟨a1, a2, a3⟩ | ⟨a1, a2⟩ <;> omega
  · refine m_ask_cg g4 h1 (fun a ha => e a ?_) (fun a a1 a2 a3 => (eo a a2).trans a3) (fun v hv _ => m_zel hZ (fun a ha => (e a (by omega)).trans (hw a ha)) v hv)
    rcases ha with rfl | ⟨a1, a2, a3⟩ | ⟨a1, a2⟩ <;> omega
section M60
variable {X : ev_E} {zf : Nat → Nat} {y : Nat} {r : Int32 × Int32 × Int32} {T : Nat → ev_TS} {As : List Nat} {H : ev_M} {ow : Nat → Nat} {n q : Nat} {P : ev_O → ev_M → Nat → Nat → Prop}
theorem M_cp1 {l : Nat} {mc : Int32} {e0 : Nat} {t u : Int32} {qs : m_Q} {L : ev_PL} (hB : ev_bs X n) (hq : qs.map Prod.snd = L) (hl : L.length ≤ 20) (hpc : ∀ z ∈ qs, z.1 < n ∧ m_pc z.2 (H z.1))
    (hO : ∀ H', (∀ a, a < n → H' a = H a) → H' l = some (ev_alc mc e0 (qs.map fun z => Value.ref z.1).length) ∧ ev_AE X H' e0 (qs.map fun z => .ref z.1))
    (c : ∀ H' n' q' zs w, (∀ a, a < n → H' a = H a) → m_lst X H' n (n + 2) n' (fun _ => 7) 7 zs → zs.map Prod.snd = L → (∀ a, n' ≤ a → H' a = none) → n + 2 ≤ n' → n' ≤ n + 42 → q ≤ q' → q' ≤ q + 1847 → ev_ok (ev_TT X) 280 99 [.ref y, .int t, .int u, .ref n, .ref (n + 1), w, ev_J] [] H' n' q' P) :
    ∀ (d k : Nat) (zs : m_Q) (H' : ev_M) (n' q' : Nat) (last : Int32) (w : Value), k + d = L.length → (∀ a, a < n → H' a = H a) → m_lst X H' n (n + 2) n' (fun _ => 7) 7 zs → zs.map Prod.snd = L.take k → H' (n + 1) = some (ev_itc l k last mc) → (∀ a, n' ≤ a → H' a = none) → n + 2 ≤ n' → n' ≤ n + 2 + 2 * k → q ≤ q' → q' ≤ q + 7 + 92 * k → ev_ok (ev_TT X) 280 52 [.ref y, .int t, .int u, .ref n, .ref (n + 1), w, ev_J] [] H' n' q' P := by
  have hlen : L.length = qs.length := m_ln hq
  have hB1 := hB.1
  have hB3 := hB.2.2
  have hB2 : ev_bs X (n + 2) := ⟨by omega, hB.2⟩
  intro d
  induction d with
  | zero =>
    intro k zs H' n' q' last w hk h1 h2 h3 h4 h5 h6 h7 h8 h9
    have ek : k = qs.length := by omega
    have hik : ev_isK (ev_lk X H' (n + 1)) 3 = True := by rw [ev_lk_s h4]; exact ev_isK_y
    rw [ek] at h4
    simp (disch := omega) only [t_X8_copy_0, t_X8_copy_1, t_X8_copy_2, t_X8_copy_5, t_X8_copy_8, t_X8_copy_9, t_X8_copy_12, t_X8_copy_15, t_X8_copy_16, t_X8_copy_19, t_X8_copy_20, t_X8_copy_21, t_X8_copy_22, t_X8_copy_25, t_X8_copy_28, t_X8_copy_29, t_X8_copy_30, t_X8_copy_33, t_X8_copy_33_i, t_X8_copy_34, t_X8_copy_37, t_X8_copy_38, t_X8_copy_39, t_X8_copy_42, t_X8_copy_43, t_X8_copy_44, t_X8_copy_47, t_X8_copy_50, t_X8_copy_52, t_X8_copy_54, t_X8_copy_59, t_X8_copy_62, t_X8_copy_64, t_X8_copy_69, t_X8_copy_72, t_X8_copy_74, t_X8_copy_75, t_X8_copy_76, t_X8_copy_78, t_X8_copy_78_i, t_X8_copy_79, t_X8_copy_80, t_X8_copy_82, t_X8_copy_83, t_X8_copy_84, t_X8_copy_85, t_X8_copy_85_i, t_X8_copy_86, t_X8_copy_87, t_X8_copy_89, t_X8_copy_90, t_X8_copy_91, t_X8_copy_92, t_X8_copy_95, t_X8_copy_95_i, t_X8_copy_96, t_X8_copy_100, t_X8_copy_103, t_X8_copy_104, t_X8_copy_105, t_X8_copy_107, t_X8_copy_109, t_X8_copy_112, t_X8_copy_115, t_X8_copy_116, t_X8_copy_119, t_X8_copy_123, t_X8_copy_128, t_X8_copy_131, t_X8_copy_133, t_X8_copy_138, t_X8_copy_141, t_X8_copy_143, t_X8_copy_145, t_X8_copy_148, t_X8_copy_150, t_X8_copy_153, t_X8_copy_153_i, t_X8_copy_154, t_X8_copy_159, t_X8_copy_160, t_X8_copy_161, t_X8_copy_164, t_X8_copy_166, t_X8_copy_167, t_X8_copy_170, t_X8_copy_171, t_X8_copy_174, x_X8_copy_2, x_X8_copy_9, x_X8_copy_22, x_X8_copy_47, x_X8_copy_92, x_X8_copy_112, x_X8_copy_116, x_X8_copy_150, x_X8_copy_161, x_X8_copy_171, ↓reduceIte, ev_k_i, ev_k_r, ev_k_l, ev_k_J, ev_k_n, ev_kr_1, ev_kr_0, ev_isK_y, ev_aG_y, ev_aS_y, ev_aN_y, ev_inA_0, ev_isA_0, ev_ft_I, ev_ft_0, ev_ft_1, ev_ft_o, ev_ft_a, ev_nb_0, ev_nb_1, and_true, true_and, if_true, if_false, not_true_eq_false, not_false_eq_true, nI_1, ev_fG_0, ev_fG_1, ev_fG_2, ev_fG_3, ev_fG_4, ev_fG_5, ev_fG_6, ev_fG_7, ev_fG_8, ev_fS_0, ev_fS_1, ev_fS_2, ev_fS_3, ev_fS_4, ev_fS_5, ev_fS_6, ev_fS_7, ev_fS_8, ev_isO_0, ev_isO_1, ev_isO_2, ev_isO_3, ev_isO_4, ev_isO_5, ev_isO_6, ev_isO_7, ev_isO_8, ev_z0, ev_z1, ev_z2, eq_self, ev_ofN, show ¬ (1 : Int32) = 0 from by decide, show ¬ (2 : Int32) = 0 from by decide, show ¬ (2 : Int32) = 1 from by decide, show ¬ (0 : Int32) = 1 from by decide, show ¬ (0 : Int32) = 2 from by decide, show ¬ (1 : Int32) = 2 from by decide, show ¬ (0 : Int32) = -1 from by decide, show (0 : Int32) ≤ 1 from by decide, show (1 : Int32).toNatClampNeg = 1 from rfl, show (0 : Nat) < 2 from by omega, show (1 : Nat) < 2 from by omega, not_true_eq_false, ne_eq, not_false_eq_true, hik]
    refine I_has_n h4 (mc' := mc) (e := e0) (k := qs.length) (by rw [← m_len]; exact (hO H' h1).1) ?_
    have hc := c H' n' q' zs w h1 h2 (by rw [h3]; exact List.take_of_length_le (by omega)) h5 h6 (by omega) h8 (by omega)
    simp (disch := omega) only [t_X8_copy_0, t_X8_copy_1, t_X8_copy_2, t_X8_copy_5, t_X8_copy_8, t_X8_copy_9, t_X8_copy_12, t_X8_copy_15, t_X8_copy_16, t_X8_copy_19, t_X8_copy_20, t_X8_copy_21, t_X8_copy_22, t_X8_copy_25, t_X8_copy_28, t_X8_copy_29, t_X8_copy_30, t_X8_copy_33, t_X8_copy_33_i, t_X8_copy_34, t_X8_copy_37, t_X8_copy_38, t_X8_copy_39, t_X8_copy_42, t_X8_copy_43, t_X8_copy_44, t_X8_copy_47, t_X8_copy_50, t_X8_copy_52, t_X8_copy_54, t_X8_copy_59, t_X8_copy_62, t_X8_copy_64, t_X8_copy_69, t_X8_copy_72, t_X8_copy_74, t_X8_copy_75, t_X8_copy_76, t_X8_copy_78, t_X8_copy_78_i, t_X8_copy_79, t_X8_copy_80, t_X8_copy_82, t_X8_copy_83, t_X8_copy_84, t_X8_copy_85, t_X8_copy_85_i, t_X8_copy_86, t_X8_copy_87, t_X8_copy_89, t_X8_copy_90, t_X8_copy_91, t_X8_copy_92, t_X8_copy_95, t_X8_copy_95_i, t_X8_copy_96, t_X8_copy_100, t_X8_copy_103, t_X8_copy_104, t_X8_copy_105, t_X8_copy_107, t_X8_copy_109, t_X8_copy_112, t_X8_copy_115, t_X8_copy_116, t_X8_copy_119, t_X8_copy_123, t_X8_copy_128, t_X8_copy_131, t_X8_copy_133, t_X8_copy_138, t_X8_copy_141, t_X8_copy_143, t_X8_copy_145, t_X8_copy_148, t_X8_copy_150, t_X8_copy_153, t_X8_copy_153_i, t_X8_copy_154, t_X8_copy_159, t_X8_copy_160, t_X8_copy_161, t_X8_copy_164, t_X8_copy_166, t_X8_copy_167, t_X8_copy_170, t_X8_copy_171, t_X8_copy_174, x_X8_copy_2, x_X8_copy_9, x_X8_copy_22, x_X8_copy_47, x_X8_copy_92, x_X8_copy_112, x_X8_copy_116, x_X8_copy_150, x_X8_copy_161, x_X8_copy_171, ↓reduceIte, ev_k_i, ev_k_r, ev_k_l, ev_k_J, ev_k_n, ev_kr_1, ev_kr_0, ev_isK_y, ev_aG_y, ev_aS_y, ev_aN_y, ev_inA_0, ev_isA_0, ev_ft_I, ev_ft_0, ev_ft_1, ev_ft_o, ev_ft_a, ev_nb_0, ev_nb_1, and_true, true_and, if_true, if_false, not_true_eq_false, not_false_eq_true, nI_1, ev_fG_0, ev_fG_1, ev_fG_2, ev_fG_3, ev_fG_4, ev_fG_5, ev_fG_6, ev_fG_7, ev_fG_8, ev_fS_0, ev_fS_1, ev_fS_2, ev_fS_3, ev_fS_4, ev_fS_5, ev_fS_6, ev_fS_7, ev_fS_8, ev_isO_0, ev_isO_1, ev_isO_2, ev_isO_3, ev_isO_4, ev_isO_5, ev_isO_6, ev_isO_7, ev_isO_8, ev_z0, ev_z1, ev_z2, eq_self, ev_ofN, show ¬ (1 : Int32) = 0 from by decide, show ¬ (2 : Int32) = 0 from by decide, show ¬ (2 : Int32) = 1 from by decide, show ¬ (0 : Int32) = 1 from by decide, show ¬ (0 : Int32) = 2 from by decide, show ¬ (1 : Int32) = 2 from by decide, show ¬ (0 : Int32) = -1 from by decide, show (0 : Int32) ≤ 1 from by decide, show (1 : Int32).toNatClampNeg = 1 from rfl, show (0 : Nat) < 2 from by omega, show (1 : Nat) < 2 from by omega, not_true_eq_false, ne_eq, not_false_eq_true, hik]
    exact hc
  | succ d ih =>
    intro k zs H' n' q' last w hk h1 h2 h3 h4 h5 h6 h7 h8 h9
    have hkq : k < qs.length := by omega
    have hik : ev_isK (ev_lk X H' (n + 1)) 3 = True := by rw [ev_lk_s h4]; exact ev_isK_y
    obtain ⟨hqn, g, g0, g1, g2⟩ := hpc qs[k] (List.getElem_mem hkq)
    have g0' : H' qs[k].1 = some (.inl (0, 2, g)) := (h1 _ hqn).trans g0
    have gi : ∀ c1 c2, ev_lk X (ev_up (ev_up H' (n + 1) c1) n' c2) qs[k].1 = some (.inl (0, 2, g)) := fun c1 c2 => by
      rw [ev_lku_n (by omega), ev_lku_n (by omega)]
      exact ev_lk_s g0'
    have hak : ∀ c1, ev_isAk (ev_up H' (n + 1) c1 qs[k].1) 0 = True := fun c1 => by rw [ev_up_n (by omega), g0']; exact ev_isAk_y
    have hlk := ML_k h2
    rw [t_X8_copy_52]
    simp (disch := omega) only [t_X8_copy_0, t_X8_copy_1, t_X8_copy_2, t_X8_copy_5, t_X8_copy_8, t_X8_copy_9, t_X8_copy_12, t_X8_copy_15, t_X8_copy_16, t_X8_copy_19, t_X8_copy_20, t_X8_copy_21, t_X8_copy_22, t_X8_copy_25, t_X8_copy_28, t_X8_copy_29, t_X8_copy_30, t_X8_copy_33, t_X8_copy_33_i, t_X8_copy_34, t_X8_copy_37, t_X8_copy_38, t_X8_copy_39, t_X8_copy_42, t_X8_copy_43, t_X8_copy_44, t_X8_copy_47, t_X8_copy_50, t_X8_copy_54, t_X8_copy_59, t_X8_copy_62, t_X8_copy_64, t_X8_copy_69, t_X8_copy_72, t_X8_copy_74, t_X8_copy_75, t_X8_copy_76, t_X8_copy_78, t_X8_copy_78_i, t_X8_copy_79, t_X8_copy_80, t_X8_copy_82, t_X8_copy_83, t_X8_copy_84, t_X8_copy_85, t_X8_copy_85_i, t_X8_copy_86, t_X8_copy_87, t_X8_copy_89, t_X8_copy_90, t_X8_copy_91, t_X8_copy_92, t_X8_copy_95, t_X8_copy_95_i, t_X8_copy_96, t_X8_copy_100, t_X8_copy_103, t_X8_copy_104, t_X8_copy_105, t_X8_copy_107, t_X8_copy_109, t_X8_copy_112, t_X8_copy_115, t_X8_copy_116, t_X8_copy_119, t_X8_copy_123, t_X8_copy_128, t_X8_copy_131, t_X8_copy_133, t_X8_copy_138, t_X8_copy_141, t_X8_copy_143, t_X8_copy_145, t_X8_copy_148, t_X8_copy_150, t_X8_copy_153, t_X8_copy_153_i, t_X8_copy_154, t_X8_copy_159, t_X8_copy_160, t_X8_copy_161, t_X8_copy_164, t_X8_copy_166, t_X8_copy_167, t_X8_copy_170, t_X8_copy_171, t_X8_copy_174, x_X8_copy_2, x_X8_copy_9, x_X8_copy_22, x_X8_copy_47, x_X8_copy_92, x_X8_copy_112, x_X8_copy_116, x_X8_copy_150, x_X8_copy_161, x_X8_copy_171, ↓reduceIte, ev_k_i, ev_k_r, ev_k_l, ev_k_J, ev_k_n, ev_kr_1, ev_kr_0, ev_isK_y, ev_aG_y, ev_aS_y, ev_aN_y, ev_inA_0, ev_isA_0, ev_ft_I, ev_ft_0, ev_ft_1, ev_ft_o, ev_ft_a, ev_nb_0, ev_nb_1, and_true, true_and, if_true, if_false, not_true_eq_false, not_false_eq_true, nI_1, ev_fG_0, ev_fG_1, ev_fG_2, ev_fG_3, ev_fG_4, ev_fG_5, ev_fG_6, ev_fG_7, ev_fG_8, ev_fS_0, ev_fS_1, ev_fS_2, ev_fS_3, ev_fS_4, ev_fS_5, ev_fS_6, ev_fS_7, ev_fS_8, ev_isO_0, ev_isO_1, ev_isO_2, ev_isO_3, ev_isO_4, ev_isO_5, ev_isO_6, ev_isO_7, ev_isO_8, ev_z0, ev_z1, ev_z2, eq_self, ev_ofN, show ¬ (1 : Int32) = 0 from by decide, show ¬ (2 : Int32) = 0 from by decide, show ¬ (2 : Int32) = 1 from by decide, show ¬ (0 : Int32) = 1 from by decide, show ¬ (0 : Int32) = 2 from by decide, show ¬ (1 : Int32) = 2 from by decide, show ¬ (0 : Int32) = -1 from by decide, show (0 : Int32) ≤ 1 from by decide, show (1 : Int32).toNatClampNeg = 1 from rfl, show (0 : Nat) < 2 from by omega, show (1 : Nat) < 2 from by omega, not_true_eq_false, ne_eq, not_false_eq_true, hik]
    refine I_has_y h4 (mc' := mc) (e := e0) (k := qs.length) (by rw [← m_len]; exact (hO H' h1).1) (by omega) hkq ?_
    simp (disch := omega) only [t_X8_copy_0, t_X8_copy_1, t_X8_copy_2, t_X8_copy_5, t_X8_copy_8, t_X8_copy_9, t_X8_copy_12, t_X8_copy_15, t_X8_copy_16, t_X8_copy_19, t_X8_copy_20, t_X8_copy_21, t_X8_copy_22, t_X8_copy_25, t_X8_copy_28, t_X8_copy_29, t_X8_copy_30, t_X8_copy_33, t_X8_copy_33_i, t_X8_copy_34, t_X8_copy_37, t_X8_copy_38, t_X8_copy_39, t_X8_copy_42, t_X8_copy_43, t_X8_copy_44, t_X8_copy_47, t_X8_copy_50, t_X8_copy_54, t_X8_copy_59, t_X8_copy_62, t_X8_copy_64, t_X8_copy_69, t_X8_copy_72, t_X8_copy_74, t_X8_copy_75, t_X8_copy_76, t_X8_copy_78, t_X8_copy_78_i, t_X8_copy_79, t_X8_copy_80, t_X8_copy_82, t_X8_copy_83, t_X8_copy_84, t_X8_copy_85, t_X8_copy_85_i, t_X8_copy_86, t_X8_copy_87, t_X8_copy_89, t_X8_copy_90, t_X8_copy_91, t_X8_copy_92, t_X8_copy_95, t_X8_copy_95_i, t_X8_copy_96, t_X8_copy_100, t_X8_copy_103, t_X8_copy_104, t_X8_copy_105, t_X8_copy_107, t_X8_copy_109, t_X8_copy_112, t_X8_copy_115, t_X8_copy_116, t_X8_copy_119, t_X8_copy_123, t_X8_copy_128, t_X8_copy_131, t_X8_copy_133, t_X8_copy_138, t_X8_copy_141, t_X8_copy_143, t_X8_copy_145, t_X8_copy_148, t_X8_copy_150, t_X8_copy_153, t_X8_copy_153_i, t_X8_copy_154, t_X8_copy_159, t_X8_copy_160, t_X8_copy_161, t_X8_copy_164, t_X8_copy_166, t_X8_copy_167, t_X8_copy_170, t_X8_copy_171, t_X8_copy_174, x_X8_copy_2, x_X8_copy_9, x_X8_copy_22, x_X8_copy_47, x_X8_copy_92, x_X8_copy_112, x_X8_copy_116, x_X8_copy_150, x_X8_copy_161, x_X8_copy_171, ↓reduceIte, ev_k_i, ev_k_r, ev_k_l, ev_k_J, ev_k_n, ev_kr_1, ev_kr_0, ev_isK_y, ev_aG_y, ev_aS_y, ev_aN_y, ev_inA_0, ev_isA_0, ev_ft_I, ev_ft_0, ev_ft_1, ev_ft_o, ev_ft_a, ev_nb_0, ev_nb_1, and_true, true_and, if_true, if_false, not_true_eq_false, not_false_eq_true, nI_1, ev_fG_0, ev_fG_1, ev_fG_2, ev_fG_3, ev_fG_4, ev_fG_5, ev_fG_6, ev_fG_7, ev_fG_8, ev_fS_0, ev_fS_1, ev_fS_2, ev_fS_3, ev_fS_4, ev_fS_5, ev_fS_6, ev_fS_7, ev_fS_8, ev_isO_0, ev_isO_1, ev_isO_2, ev_isO_3, ev_isO_4, ev_isO_5, ev_isO_6, ev_isO_7, ev_isO_8, ev_z0, ev_z1, ev_z2, eq_self, ev_ofN, show ¬ (1 : Int32) = 0 from by decide, show ¬ (2 : Int32) = 0 from by decide, show ¬ (2 : Int32) = 1 from by decide, show ¬ (0 : Int32) = 1 from by decide, show ¬ (0 : Int32) = 2 from by decide, show ¬ (1 : Int32) = 2 from by decide, show ¬ (0 : Int32) = -1 from by decide, show (0 : Int32) ≤ 1 from by decide, show (1 : Int32).toNatClampNeg = 1 from rfl, show (0 : Nat) < 2 from by omega, show (1 : Nat) < 2 from by omega, not_true_eq_false, ne_eq, not_false_eq_true, hik]
    refine I_next h4 (hO H' h1).1 (hO H' h1).2 (by rw [m_len]; omega) (m_nth hkq) ?_
    have h1b : ∀ a, a < n → ev_up H' (n + 1) (ev_itc l (k + 1) (nI k) mc) a = H a := fun a ha => (ev_up_n (by omega)).trans (h1 a ha)
    have h2b : m_lst X (ev_up H' (n + 1) (ev_itc l (k + 1) (nI k) mc)) n (n + 2) n' (fun _ => 7) 7 zs := m_lst_cg h2 (Nat.le_refl _) (fun a ha => ev_up_n (by rcases ha with rfl | ⟨a1, a2, a3⟩ | ⟨a1, a2⟩ <;> omega)) (fun _ _ _ _ => rfl)
    have h4b : ev_up H' (n + 1) (ev_itc l (k + 1) (nI k) mc) (n + 1) = some (ev_itc l (k + 1) (nI k) mc) := ev_up_s
    have h5b : ∀ a, n' ≤ a → ev_up H' (n + 1) (ev_itc l (k + 1) (nI k) mc) a = none := fun a ha => (ev_up_n (by omega)).trans (h5 a ha)
    have hakb := hak (ev_itc l (k + 1) (nI k) mc)
    have gib := gi (ev_itc l (k + 1) (nI k) mc)
    generalize ev_up H' (n + 1) (ev_itc l (k + 1) (nI k) mc) = Hb at h1b h2b h4b h5b hakb gib ⊢
    have hkb := ML_k h2b
    have hkc : ∀ c, ev_isK (ev_lk X (ev_up Hb n' c) n) 4 = True := fun c => by rw [ev_lku_n (by omega)]; exact hkb
    have h2c : ∀ g', m_lst X (ev_up Hb n' (.inl (0, 2, g'))) n (n + 2) (n' + 1) (fun _ => 7) 7 zs := fun g' => m_lst_cg h2b (by omega) (fun a ha => ev_up_n (by rcases ha with rfl | ⟨a1, a2, a3⟩ | ⟨a1, a2⟩ <;> omega)) (fun _ _ _ _ => rfl)
    have hat := m_at hq hkq
    have hzl : zs.length ≤ 60 := by
      have := congrArg List.length h3
      rw [List.length_map, List.length_take] at this
      omega
    have hzn : n' ∉ zs.map Prod.fst := fun hm => by
      obtain ⟨z, hz, ez⟩ := List.mem_map.mp hm
      obtain ⟨ee, -, -, hz3, -⟩ := h2b
      have := (hz3 z hz).2.1
      omega
    simp (disch := omega) only [t_X8_copy_0, t_X8_copy_1, t_X8_copy_2, t_X8_copy_5, t_X8_copy_8, t_X8_copy_9, t_X8_copy_12, t_X8_copy_15, t_X8_copy_16, t_X8_copy_19, t_X8_copy_20, t_X8_copy_21, t_X8_copy_22, t_X8_copy_25, t_X8_copy_28, t_X8_copy_29, t_X8_copy_30, t_X8_copy_33, t_X8_copy_33_i, t_X8_copy_34, t_X8_copy_37, t_X8_copy_38, t_X8_copy_39, t_X8_copy_42, t_X8_copy_43, t_X8_copy_44, t_X8_copy_47, t_X8_copy_50, t_X8_copy_54, t_X8_copy_59, t_X8_copy_62, t_X8_copy_64, t_X8_copy_69, t_X8_copy_72, t_X8_copy_74, t_X8_copy_75, t_X8_copy_76, t_X8_copy_78, t_X8_copy_78_i, t_X8_copy_79, t_X8_copy_80, t_X8_copy_82, t_X8_copy_83, t_X8_copy_84, t_X8_copy_85, t_X8_copy_85_i, t_X8_copy_86, t_X8_copy_87, t_X8_copy_89, t_X8_copy_90, t_X8_copy_91, t_X8_copy_92, t_X8_copy_95, t_X8_copy_95_i, t_X8_copy_96, t_X8_copy_100, t_X8_copy_103, t_X8_copy_104, t_X8_copy_105, t_X8_copy_107, t_X8_copy_109, t_X8_copy_112, t_X8_copy_115, t_X8_copy_116, t_X8_copy_119, t_X8_copy_123, t_X8_copy_128, t_X8_copy_131, t_X8_copy_133, t_X8_copy_138, t_X8_copy_141, t_X8_copy_143, t_X8_copy_145, t_X8_copy_148, t_X8_copy_150, t_X8_copy_153, t_X8_copy_153_i, t_X8_copy_154, t_X8_copy_159, t_X8_copy_160, t_X8_copy_161, t_X8_copy_164, t_X8_copy_166, t_X8_copy_167, t_X8_copy_170, t_X8_copy_171, t_X8_copy_174, x_X8_copy_2, x_X8_copy_9, x_X8_copy_22, x_X8_copy_47, x_X8_copy_92, x_X8_copy_112, x_X8_copy_116, x_X8_copy_150, x_X8_copy_161, x_X8_copy_171, ↓reduceIte, ev_k_i, ev_k_r, ev_k_l, ev_k_J, ev_k_n, ev_kr_1, ev_kr_0, ev_isK_y, ev_aG_y, ev_aS_y, ev_aN_y, ev_inA_0, ev_isA_0, ev_ft_I, ev_ft_0, ev_ft_1, ev_ft_o, ev_ft_a, ev_nb_0, ev_nb_1, and_true, true_and, if_true, if_false, not_true_eq_false, not_false_eq_true, nI_1, ev_fG_0, ev_fG_1, ev_fG_2, ev_fG_3, ev_fG_4, ev_fG_5, ev_fG_6, ev_fG_7, ev_fG_8, ev_fS_0, ev_fS_1, ev_fS_2, ev_fS_3, ev_fS_4, ev_fS_5, ev_fS_6, ev_fS_7, ev_fS_8, ev_isO_0, ev_isO_1, ev_isO_2, ev_isO_3, ev_isO_4, ev_isO_5, ev_isO_6, ev_isO_7, ev_isO_8, ev_z0, ev_z1, ev_z2, eq_self, ev_ofN, show ¬ (1 : Int32) = 0 from by decide, show ¬ (2 : Int32) = 0 from by decide, show ¬ (2 : Int32) = 1 from by decide, show ¬ (0 : Int32) = 1 from by decide, show ¬ (0 : Int32) = 2 from by decide, show ¬ (1 : Int32) = 2 from by decide, show ¬ (0 : Int32) = -1 from by decide, show (0 : Int32) ≤ 1 from by decide, show (1 : Int32).toNatClampNeg = 1 from rfl, show (0 : Nat) < 2 from by omega, show (1 : Nat) < 2 from by omega, not_true_eq_false, ne_eq, not_false_eq_true, ev_lku_s, ev_lku_n, ev_up_s, ev_up_n, hakb, gib, hkb, g1, g2, show (0 : Int32) ≤ 2 from by decide, show (2 : Int32).toNatClampNeg = 2 from rfl, show 2 ≤ 100000 from by omega, ev_inA_0, ev_up_up]
    refine ML_add (h2c _) hzl (z := (n', qs[k].2)) ⟨by dsimp only; omega, by dsimp only; omega, rfl, _, ev_up_s, ?_, ?_⟩ hzn (fun a ha => (ev_up_n (by omega)).trans (h5b a (by omega))) hB2 (by omega) (by omega) fun H3 n3 q3 e1 e2 e3 e4 e5 e6 e7 => ?_
    · rw [updV_n (by decide), updV_s]
    · rw [updV_s]
    · have e2' : ∀ a, a < n' → ¬ a = n → ¬ n + 2 ≤ a → H3 a = Hb a := fun a ha hal han => (e2 a (by omega) hal (fun z => han z.1)).trans (ev_up_n (by omega))
      have hI := ih (k + 1) (zs ++ [(n', qs[k].2)]) H3 n3 q3 (nI k) (.ref qs[k].1) (by omega) (fun a ha => (e2' a (by omega) (by omega) (by omega)).trans (h1b a ha)) (m_lst_cg e1 (Nat.le_refl _) (fun _ _ => rfl) (fun _ _ _ _ => rfl)) ?_ ((e2' _ (by omega) (by omega) (by omega)).trans h4b) e3 (by omega) (by omega) (by omega) (by omega)
      · simp (disch := omega) only [t_X8_copy_0, t_X8_copy_1, t_X8_copy_2, t_X8_copy_5, t_X8_copy_8, t_X8_copy_9, t_X8_copy_12, t_X8_copy_15, t_X8_copy_16, t_X8_copy_19, t_X8_copy_20, t_X8_copy_21, t_X8_copy_22, t_X8_copy_25, t_X8_copy_28, t_X8_copy_29, t_X8_copy_30, t_X8_copy_33, t_X8_copy_33_i, t_X8_copy_34, t_X8_copy_37, t_X8_copy_38, t_X8_copy_39, t_X8_copy_42, t_X8_copy_43, t_X8_copy_44, t_X8_copy_47, t_X8_copy_50, t_X8_copy_54, t_X8_copy_59, t_X8_copy_62, t_X8_copy_64, t_X8_copy_69, t_X8_copy_72, t_X8_copy_74, t_X8_copy_75, t_X8_copy_76, t_X8_copy_78, t_X8_copy_78_i, t_X8_copy_79, t_X8_copy_80, t_X8_copy_82, t_X8_copy_83, t_X8_copy_84, t_X8_copy_85, t_X8_copy_85_i, t_X8_copy_86, t_X8_copy_87, t_X8_copy_89, t_X8_copy_90, t_X8_copy_91, t_X8_copy_92, t_X8_copy_95, t_X8_copy_95_i, t_X8_copy_96, t_X8_copy_100, t_X8_copy_103, t_X8_copy_104, t_X8_copy_105, t_X8_copy_107, t_X8_copy_109, t_X8_copy_112, t_X8_copy_115, t_X8_copy_116, t_X8_copy_119, t_X8_copy_123, t_X8_copy_128, t_X8_copy_131, t_X8_copy_133, t_X8_copy_138, t_X8_copy_141, t_X8_copy_143, t_X8_copy_145, t_X8_copy_148, t_X8_copy_150, t_X8_copy_153, t_X8_copy_153_i, t_X8_copy_154, t_X8_copy_159, t_X8_copy_160, t_X8_copy_161, t_X8_copy_164, t_X8_copy_166, t_X8_copy_167, t_X8_copy_170, t_X8_copy_171, t_X8_copy_174, x_X8_copy_2, x_X8_copy_9, x_X8_copy_22, x_X8_copy_47, x_X8_copy_92, x_X8_copy_112, x_X8_copy_116, x_X8_copy_150, x_X8_copy_161, x_X8_copy_171, ↓reduceIte, ev_k_i, ev_k_r, ev_k_l, ev_k_J, ev_k_n, ev_kr_1, ev_kr_0, ev_isK_y, ev_aG_y, ev_aS_y, ev_aN_y, ev_inA_0, ev_isA_0, ev_ft_I, ev_ft_0, ev_ft_1, ev_ft_o, ev_ft_a, ev_nb_0, ev_nb_1, and_true, true_and, if_true, if_false, not_true_eq_false, not_false_eq_true, nI_1, ev_fG_0, ev_fG_1, ev_fG_2, ev_fG_3, ev_fG_4, ev_fG_5, ev_fG_6, ev_fG_7, ev_fG_8, ev_fS_0, ev_fS_1, ev_fS_2, ev_fS_3, ev_fS_4, ev_fS_5, ev_fS_6, ev_fS_7, ev_fS_8, ev_isO_0, ev_isO_1, ev_isO_2, ev_isO_3, ev_isO_4, ev_isO_5, ev_isO_6, ev_isO_7, ev_isO_8, ev_z0, ev_z1, ev_z2, eq_self, ev_ofN, show ¬ (1 : Int32) = 0 from by decide, show ¬ (2 : Int32) = 0 from by decide, show ¬ (2 : Int32) = 1 from by decide, show ¬ (0 : Int32) = 1 from by decide, show ¬ (0 : Int32) = 2 from by decide, show ¬ (1 : Int32) = 2 from by decide, show ¬ (0 : Int32) = -1 from by decide, show (0 : Int32) ≤ 1 from by decide, show (1 : Int32).toNatClampNeg = 1 from rfl, show (0 : Nat) < 2 from by omega, show (1 : Nat) < 2 from by omega, not_true_eq_false, ne_eq, not_false_eq_true]
        exact hI
      · rw [List.map_append, h3, List.take_succ, List.getElem?_eq_getElem (by omega), ← pf_at_get (by omega), hat]
        rfl
end M60
