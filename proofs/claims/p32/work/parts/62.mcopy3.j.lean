/-! ===== joined: 62.mcopy3, 63.mtext, 64.mask, 65.mnow, 66.mbest, 67.masks, 68.mcalls, 69.mrow, 70.mkeys, 71.maddA, 72.mdigest, 73.init, 74.cnew, 75.mnew, 75h.hand ===== -/
section
/-! ===== the reference: copy, whole ===== -/
section M62a
variable {X : ev_E} {H H1 : ev_M} {l D N N1 w w' l' : Nat} {ow ow1 : Nat → Nat} {qs qs' : m_Q} {n q : Nat} {P : ev_O → ev_M → Nat → Nat → Prop}
theorem ML_clearF (hM : m_lst X H l D N ow w qs) (hE : X.2.2.2.2.2 1 < D) (hL : qs.length < 90) (k : ∀ H1, m_lst X H1 l D N ow w [] → m_fr H H1 l D N ow w → (∀ a, N ≤ a → ¬ a = l → H1 a = H a) → (∀ a, ¬ a = l → (∀ M F, ¬ H a = some (.inl (2, M, F))) → H1 a = H a) → P (.inl none) H1 n q) : ev_ok (ev_TT X) 21 0 [.ref l, ev_J, ev_J, ev_J] [] H n q P := by
  obtain ⟨e, h1, h2, h3, h4⟩ := hM
  refine L_clear h1 (by rw [m_len]; exact hL) fun H1 g1 g2 => ?_
  have hfr : ∀ a, ¬ a = l → ¬ (D ≤ a ∧ a < N ∧ ow a = w) → H1 a = H a := fun a hal haw => g2 a hal (by
    rcases h4 with ⟨-, -, h4⟩ | h4
    · exact Or.inr h4
    · exact Or.inl fun z => haw (z ▸ h4))
  refine k H1 ⟨e, g1, List.nodup_nil, fun z hz => absurd hz (List.not_mem_nil), ?_⟩ (fun a ha hal haw => hfr a hal (fun z => haw ⟨z.1, z.2.2⟩)) (fun a ha hal => hfr a hal (fun z => by omega)) (fun a hal hac => g2 a hal ?_)
  · rcases h4 with ⟨a, b, c⟩ | h4
    · refine Or.inl ⟨a, b, (g2 e (fun z => ?_) (Or.inr c)).trans c⟩
      exact ev_AT_ne h1 z.symm
    · exact Or.inr h4
  · rcases h4 with ⟨-, -, h4⟩ | h4
    · exact Or.inr h4
    · refine Or.inl fun z => ?_
      obtain ⟨mc, f1, f2, f3⟩ := h1
      rcases f3 with ⟨-, f3, -⟩ | ⟨M, F, f3, -⟩
      · have := h4.1
        omega
      · exact hac M F (z ▸ f3)
end M62a
def ev_EM (X : ev_E) : Prop := ∃ g, X.2.2.2.2.1 (X.2.2.2.2.2 1) = some (.inl (10, 0, g))
section M62b
variable {X : ev_E} {y i : Nat} {r r1 : Int32 × Int32 × Int32} {H H0 H1 : ev_M} {n0 q0 cN cQ : Nat} {ow ow0 : Nat → Nat} {s s1 : ev_TS} {qs : m_Q} {n q : Nat} {P : ev_O → ev_M → Nat → Nat → Prop}
theorem mc_clearF (hB : ev_bs X y) (hC : m_cur X y i H0 n0 q0 ow0 cN cQ r s H n q ow qs) (hi : i < 4) (hn : y + 12 ≤ n0) (hL : qs.length < 90)
    (k : ∀ H1, m_cur X y i H0 n0 q0 ow0 cN cQ r (ps_L s []) H1 n q ow [] → (∀ a, ¬ a = y + 3 + 2 * i → (∀ M F, ¬ H a = some (.inl (2, M, F))) → H1 a = H a) → P (.inl none) H1 n q) : ev_ok (ev_TT X) 21 0 [.ref (y + 3 + 2 * i), ev_J, ev_J, ev_J] [] H n q P := by
  have hC0 := hC
  obtain ⟨c1, c2, c3, c4, c5, c6, c7, c8, c9, c10, c11⟩ := hC0
  have hB1 := hB.1
  have hB2 := hB.2.2
  exact ML_clearF c3 (by omega) hL fun H1 g1 g2 g4 g5 => k H1 (mc_frame (c2 := cN) (d2 := cQ) hC (fun a a1 a2 a3 a4 a5 => g2 a a1 a4 a5) (fun _ _ => rfl) ((g2 y (by omega) (by omega) (by omega)).trans c1) ((g2 _ (by omega) (by omega) (by omega)).trans c2) g1 rfl (fun a ha => (g4 a ha (by omega)).trans (c7 a ha)) (Nat.le_refl _) (Nat.le_refl _) (Nat.le_refl _) (Nat.le_refl _)) g5
end M62b
section M62
variable {X : ev_E} {zf : Nat → Nat} {y : Nat} {r : Int32 × Int32 × Int32} {T : Nat → ev_TS} {As : List Nat} {H : ev_M} {ow : Nat → Nat} {n q : Nat} {P : ev_O → ev_M → Nat → Nat → Prop}
theorem MM_copy (hEM : ev_EM X) (hm : m_aw X zf y r T As H n ow) (hx : m_cx X zf y T As H n) {t u : Int32} (k0 : ((t < 0 ∨ nI 4 ≤ t) ∨ (u < 0 ∨ nI 4 ≤ u)) → ∀ H1, m_post X zf y H n q (1, r.2) T As H1 n q → P (.inl (some (.int 0))) H1 n q)
    (k2 : ∀ i j, i < 4 → t = nI i → j < 4 → u = nI j → ∀ H1 n1 q1, m_post X zf y H n q (0, r.2) (mg_T T j (ps_row (T j) (T i).1 0 (-1) 0 (-1))) As H1 n1 q1 → P (.inl (some (.int (nI (T i).1.length)))) H1 n1 q1) : ev_ok (ev_TT X) 279 0 [.ref y, .int t, .int u, ev_J, ev_J, ev_J, ev_J] [] H n q P := by
  have hx0 := hx
  obtain ⟨hZ, hw, hB, hn, hz, hT, hW⟩ := hx0
  have h0 := m_h0 hm
  have hl0 := m_lk0 hm
  have hk13 := m_k13 hm
  rcases pk_ix t (n := 4) (by omega) with hbt | hbt | ⟨i, hi, rfl⟩
  · simp (disch := omega) only [t_X8_copy_0, t_X8_copy_1, t_X8_copy_2, t_X8_copy_5, t_X8_copy_15, t_X8_copy_16, t_X8_copy_20, t_X8_copy_21, t_X8_copy_22, t_X8_copy_25, t_X8_copy_28, t_X8_copy_29, ↓reduceIte, ev_kr_1, ev_isK_y, true_and, not_false_eq_true, show ¬ (1 : Int32) = 0 from by decide, not_false_eq_true, M_isNo_y (Or.inl hbt), M_fails_100 h0, hl0]
    exact k0 (Or.inl (Or.inl hbt)) _ (m_post_top hm hZ hw hB hn hz (1, r.2))
  · simp (disch := omega) only [t_X8_copy_0, t_X8_copy_1, t_X8_copy_2, t_X8_copy_5, t_X8_copy_15, t_X8_copy_16, t_X8_copy_20, t_X8_copy_21, t_X8_copy_22, t_X8_copy_25, t_X8_copy_28, t_X8_copy_29, ↓reduceIte, ev_kr_1, ev_isK_y, true_and, not_false_eq_true, show ¬ (1 : Int32) = 0 from by decide, not_false_eq_true, M_isNo_y (Or.inr hbt), M_fails_100 h0, hl0]
    exact k0 (Or.inl (Or.inr hbt)) _ (m_post_top hm hZ hw hB hn hz (1, r.2))
  · rcases pk_ix u (n := 4) (by omega) with hbu | hbu | ⟨j, hj, rfl⟩
    · simp (disch := omega) only [t_X8_copy_0, t_X8_copy_1, t_X8_copy_2, t_X8_copy_5, t_X8_copy_8, t_X8_copy_9, t_X8_copy_12, t_X8_copy_15, t_X8_copy_16, t_X8_copy_20, t_X8_copy_21, t_X8_copy_22, t_X8_copy_25, t_X8_copy_28, t_X8_copy_29, ↓reduceIte, ev_kr_1, ev_isK_y, true_and, not_true_eq_false, show ¬ (1 : Int32) = 0 from by decide, not_true_eq_false, M_isNo_n hi, M_isNo_y (Or.inl hbu), M_fails_100 h0, hl0]
      exact k0 (Or.inr (Or.inl hbu)) _ (m_post_top hm hZ hw hB hn hz (1, r.2))
    · simp (disch := omega) only [t_X8_copy_0, t_X8_copy_1, t_X8_copy_2, t_X8_copy_5, t_X8_copy_8, t_X8_copy_9, t_X8_copy_12, t_X8_copy_15, t_X8_copy_16, t_X8_copy_20, t_X8_copy_21, t_X8_copy_22, t_X8_copy_25, t_X8_copy_28, t_X8_copy_29, ↓reduceIte, ev_kr_1, ev_isK_y, true_and, not_true_eq_false, show ¬ (1 : Int32) = 0 from by decide, not_true_eq_false, M_isNo_n hi, M_isNo_y (Or.inr hbu), M_fails_100 h0, hl0]
      exact k0 (Or.inr (Or.inr hbu)) _ (m_post_top hm hZ hw hB hn hz (1, r.2))
    · skip
      simp (disch := omega) only [t_X8_copy_0, t_X8_copy_1, t_X8_copy_2, t_X8_copy_5, t_X8_copy_8, t_X8_copy_9, t_X8_copy_12, t_X8_copy_19, t_X8_copy_20, t_X8_copy_21, t_X8_copy_22, t_X8_copy_25, ↓reduceIte, ev_kr_1, ev_isK_y, true_and, not_true_eq_false, not_true_eq_false, M_isNo_n hi, M_isNo_n hj, M_fails_000 h0, hl0]
      have hm1 := m_aw_top hm hZ hw hB (0, r.2)
      have hx1 := m_cx_top hx (0, r.2)
      have hup := fun (r2 : Int32 × Int32 × Int32) (T2 : Nat → ev_TS) (H2 : ev_M) (n2 q2 : Nat) => @m_post_up X zf y r2 T2 As H H2 n q (0, r.2) n2 q2
      generalize ev_up H y (m_top y (0, r.2)) = H1 at hm1 hx1 hup ⊢
      have hx1' := hx1
      obtain ⟨-, hw1, -, -, hz1, -, -⟩ := hx1'
      have hTi := hT i hi
      have hli := okL_len hTi.1
      have hB1 := hB.1
      have hB3 := hB.2.2
      have hBn : ev_bs X n := ⟨by omega, hB.2⟩
      obtain ⟨qs, hC⟩ := mc_0 (q := q) hm1 hi hz1
      have hlen := mc_len hC
      have hlq := hC.2.2.1
      obtain ⟨mc, e0, hO⟩ := ML_old (n := n) hlq (Nat.le_refl _) (by omega) (by omega)
      have hpc : ∀ z ∈ qs, z.1 < n ∧ m_pc z.2 (H1 z.1) := fun z hz' => by
        obtain ⟨e, -, -, h3, -⟩ := hlq
        exact ⟨(h3 z hz').2.1, (h3 z hz').2.2.2⟩
      simp (disch := omega) only [t_X8_copy_30, t_X8_copy_33, t_X8_copy_34]
      refine L_init ev_up_s ?_
      rw [ev_up_up]
      have hEa : ∀ a, a < n → ev_up H1 n (.inr (4, [.int 0, .ref (X.2.2.2.2.2 1), .int 0])) a = H1 a := fun a ha => ev_up_n (by omega)
      have hNa : ev_up H1 n (.inr (4, [.int 0, .ref (X.2.2.2.2.2 1), .int 0])) n = some (.inr (4, [.int 0, .ref (X.2.2.2.2.2 1), .int 0])) := ev_up_s
      have hZa : ∀ a, n + 1 ≤ a → ev_up H1 n (.inr (4, [.int 0, .ref (X.2.2.2.2.2 1), .int 0])) a = none := fun a ha => (ev_up_n (by omega)).trans (hz1 a (by omega))
      generalize ev_up H1 n (.inr (4, [.int 0, .ref (X.2.2.2.2.2 1), .int 0])) = Ha at hEa hNa hZa ⊢
      have hm2 := m_aw_ext hm1 hx1 hEa (Nat.le_succ n)
      have hl10 := m_lk0 hm2
      have hk13 := m_k13 hm2
      obtain ⟨f, hf1, hf2⟩ := m_lk1 hm2
      have hfi := hf2 i hi
      have hpi := nI_pos' (n := i) (by omega)
      have hci := nI_clamp (n := i) (by omega)
      have ht2 := ev_lk_s (X := X) (hm2.2.2.1 i hi).1
      unfold m_tbc at ht2
      have hOa := hO Ha hEa
      have hkl : ev_isK (ev_lk X Ha (y + 3 + 2 * i)) 4 = True := by rw [ev_lk_s hOa.1]; exact ev_isK_y
      simp (disch := omega) only [t_X8_copy_37, t_X8_copy_38, t_X8_copy_39, t_X8_copy_42, t_X8_copy_43, t_X8_copy_44, t_X8_copy_47, ev_k_i, ev_kr_0, ev_aG_y, and_true, true_and, ev_fG_0, ev_fG_3, ev_isO_0, ev_isO_3, hl10, hf1, hfi, hpi, hci, hi, ev_inA_5, ht2, hkl]
      refine I_iter hOa.1 (by omega) ?_
      have hEb : ∀ a, a < n + 1 → ev_up Ha (n + 1) (ev_itc (y + 3 + 2 * i) 0 (-1) mc) a = Ha a := fun a ha => ev_up_n (by omega)
      have hNb : ev_up Ha (n + 1) (ev_itc (y + 3 + 2 * i) 0 (-1) mc) (n + 1) = some (ev_itc (y + 3 + 2 * i) 0 (-1) mc) := ev_up_s
      have hZb : ∀ a, n + 2 ≤ a → ev_up Ha (n + 1) (ev_itc (y + 3 + 2 * i) 0 (-1) mc) a = none := fun a ha => (ev_up_n (by omega)).trans (hZa a (by omega))
      generalize ev_up Ha (n + 1) (ev_itc (y + 3 + 2 * i) 0 (-1) mc) = Hb at hEb hNb hZb ⊢
      have hEb2 : ∀ a, a < n → Hb a = H1 a := fun a ha => (hEb a (by omega)).trans (hEa a ha)
      have hM0 : m_lst X Hb n (n + 2) (n + 2) (fun _ => 7) 7 [] := by
        refine ⟨X.2.2.2.2.2 1, ⟨0, ?_, fun v hv => absurd hv (List.not_mem_nil), Or.inl ⟨?_, rfl, hEM, rfl⟩⟩, List.nodup_nil, fun z hz' => absurd hz' (List.not_mem_nil), Or.inl ⟨by omega, rfl, ?_⟩⟩
        · rw [hEb n (by omega), hNa]
          unfold ev_alc
          rw [show ([].map (fun z : Nat × Int32 × Int32 => Value.ref z.1)).length = 0 from rfl, nI_0]
        · rw [hEb2 _ (by omega)]
          exact hw1 _ hB3
        · rw [hEb2 _ (by omega)]
          exact hw1 _ hB3
      simp (disch := omega) only [t_X8_copy_50, ev_k_r, ev_kr_1]
      refine M_cp1 (q := q) hBn hC.2.2.2.1 hli hpc hO (fun H' n' q' zs w g1 g2 g3 g4 g5 g6 g7 g8 => ?_) (T i).1.length 0 [] Hb (n + 2) (q + 3 + 4) (-1) ev_J (Nat.zero_add _) hEb2 hM0 rfl hNb hZb (Nat.le_refl _) (by omega) (by omega) (by omega)
      obtain ⟨eA, hAT, hnd, hzs, heA⟩ := g2
      have hlz : (T i).1.length = zs.length := m_ln g3
      let ow1 : Nat → Nat := fun a => if a < n then ow a else if a ∈ zs.map Prod.fst then j else 7
      have ho1 : ∀ a, a < n → ow1 a = ow a := fun a ha => if_pos ha
      have hoz : ∀ z ∈ zs, ow1 z.1 = j := fun z hz' => by
        have h1 := (hzs z hz').1
        show (if z.1 < n then ow z.1 else if z.1 ∈ zs.map Prod.fst then j else 7) = j
        rw [if_neg (by omega), if_pos (List.mem_map_of_mem hz')]
      have hon : ∀ a, n ≤ a → (∀ z ∈ zs, ¬ z.1 = a) → ¬ ow1 a = j := fun a ha hna e => by
        have e2 : (if a < n then ow a else if a ∈ zs.map Prod.fst then j else 7) = j := e
        rw [if_neg (by omega), if_neg (fun hm' => by obtain ⟨z, h1, h2⟩ := List.mem_map.mp hm'; exact hna z h1 h2)] at e2
        omega
      have hneA : ∀ z ∈ zs, ¬ z.1 = eA := fun z hz' e => by
        obtain ⟨-, -, -, g, hg, -⟩ := hzs z hz'
        obtain ⟨mc', f1, f2, f3⟩ := hAT
        rcases f3 with ⟨f3, -⟩ | ⟨M, F, f3, -⟩
        · rw [e, f3] at hg; cases hg
        · rw [e, f3] at hg; cases hg
      have hm3 := m_aw_ow (ow1 := ow1) hm1 hx1 g1 (show n ≤ n' by omega) ho1
      have hyn' : y + 12 ≤ n' := by omega
      obtain ⟨qj, hC3⟩ := mc_0 (q := q') hm3 hj g4
      have hl13 := m_lk0 hm3
      have hk13 := m_k13 hm3
      obtain ⟨f', hf1, hf2⟩ := m_lk1 hm3
      have hfj := hf2 j hj
      have hpj := nI_pos' (n := j) (by omega)
      have hcj := nI_clamp (n := j) (by omega)
      have htj := mc_lk hC3
      unfold m_tbc at htj
      have hkl := mc_kl hC3
      have hTj := hT j hj
      have hlj := okL_len hTj.1
      have hlenj := mc_len hC3
      simp (disch := omega) only [t_X8_copy_99, t_X8_copy_100, t_X8_copy_103, t_X8_copy_104, t_X8_copy_105, t_X8_copy_107, t_X8_copy_109, t_X8_copy_112, ev_k_r, ev_aG_y, and_true, true_and, ev_fG_0, ev_fG_3, ev_isO_0, ev_isO_3, hl13, hf1, hfj, hpj, hcj, hj, ev_inA_5, htj, hkl]
      refine mc_clearF hB hC3 hj hyn' (by omega) fun H4 hC4 hF4 => ?_
      obtain ⟨mcA, hA1, hA2, hA3⟩ := hAT
      have hOA : ∀ H'' n'' q'' s' ow' qs' cN cQ, m_cur X y j H' n' q' ow1 cN cQ (0, r.2) s' H'' n'' q'' ow' qs' → (∀ z ∈ zs, H'' z.1 = H' z.1) → H'' n = some (ev_alc mcA eA (zs.map fun z => Value.ref z.1).length) ∧ ev_AE X H'' eA (zs.map fun z => .ref z.1) := by
        intro H'' n'' q'' s' ow' qs' cN cQ hc hzz
        have c5 := hc.2.2.2.2.1
        have e1 : H'' n = H' n := c5 n (by omega) (by omega) (by omega) (by omega) (fun z => hon n (Nat.le_refl n) (fun z' hz' e => by have := (hzs z' hz').1; omega) z.2)
        have e2 : H'' eA = H' eA := by
          rcases heA with ⟨a1, a2, a3⟩ | ⟨a1, a2, a3⟩
          · exact c5 eA (by omega) (by omega) (by omega) (by omega) (fun z => by omega)
          · exact c5 eA a2 (by omega) (by omega) (by omega) (fun z => hon eA (by omega) hneA z.2)
        refine ⟨e1.trans hA1, fun v hv => ?_, ?_⟩
        · obtain ⟨z, hz', rfl⟩ := List.mem_map.mp hv
          obtain ⟨-, -, -, g, hg, -⟩ := hzs z hz'
          exact Or.inr ⟨z.1, rfl, Or.inl ⟨2, g, (hzz z hz').trans hg⟩⟩
        · rw [e2]
          exact hA3
      have hzz4 : ∀ z ∈ zs, H4 z.1 = H' z.1 := fun z hz' => by
        obtain ⟨b1, -, -, g, hg, -⟩ := hzs z hz'
        exact hF4 z.1 (by omega) (fun M F e => by rw [hg] at e; cases e)
      have hO4 := hOA _ _ _ _ _ _ _ _ hC4 hzz4
      have hkA : ev_isK (ev_lk X H4 n) 4 = True := by rw [ev_lk_s hO4.1]; exact ev_isK_y
      simp (disch := omega) only [t_X8_copy_115, t_X8_copy_116, ev_kr_0, true_and, hkA]
      refine I_iter hO4.1 (by omega) ?_
      have hC5 := mc_newC hB hj hyn' hC4 (ev_itc n 0 (-1) mcA) 7 4
      have hzz5 : ∀ z ∈ zs, ev_up H4 n' (ev_itc n 0 (-1) mcA) z.1 = H' z.1 := fun z hz' => (ev_up_n (by have := (hzs z hz').2.1; omega)).trans (hzz4 z hz')
      have hN5 : ev_up H4 n' (ev_itc n 0 (-1) mcA) n' = some (ev_itc n 0 (-1) mcA) := ev_up_s
      generalize ev_up H4 n' (ev_itc n 0 (-1) mcA) = H5 at hC5 hzz5 hN5 ⊢
      simp (disch := omega) only [t_X8_copy_119, ev_k_r, ev_kr_1]
      refine M_cp2 (s := T j) (u := nI j) (t := nI i) (A := n) (eA := eA) (mc := mcA) (zs := zs) (L := (T i).1) hB hj hyn' g3 hli (fun z hz' => ⟨by have := (hzs z hz').1; omega, (hzs z hz').2.1, hoz z hz', (hzs z hz').2.2.2⟩) hnd (fun H'' n'' q'' s' ow' qs' hc hzz => hOA _ _ _ _ _ _ _ _ hc hzz) (fun H6 n6 q6 ow6 w6 hC6 hzz6 => ?_) (T i).1.length 0 H5 (n' + 1) (q' + 4) _ (-1) ev_J (Nat.zero_add _) hC5 hzz5 hN5 ?_ (Nat.lt_succ_self n')
      · have htk6 := mc_tk hC6
        simp (disch := omega) only [t_X8_copy_157, t_X8_copy_159, t_X8_copy_160, t_X8_copy_161, true_and, htk6]
        refine M_anew hB hC6 hj hyn' ev_isB_0 fun H7 hC7 => ?_
        have ht7 := hC7.2.1
        unfold m_tbc at ht7
        have hC8 := mc_fld hB hj hyn' hC7 (ps_row (T j) (T i).1 0 (-1) 0 (-1)) rfl
        have hgo : ∀ H8, m_cur X y j H' n' q' ow1 30 2000 (0, r.2) (ps_row (T j) (T i).1 0 (-1) 0 (-1)) H8 n6 q6 ow6 zs → ev_ok (ev_TT X) 279 170 [.ref y, .int (nI i), .int (nI j), .ref n, .ref (y + 2 + 2 * j), .ref n', w6] [] H8 n6 q6 P := by
          intro H8 hC8
          have hn8 : H8 n = some (ev_alc mcA eA (zs.map fun z => Value.ref z.1).length) := (hC8.2.2.2.2.1 n (by omega) (by omega) (by omega) (by omega) (fun z => hon n (Nat.le_refl n) (fun z' hz' e => by have := (hzs z' hz').1; omega) z.2)).trans hA1
          have hk8 : ev_isK (ev_lk X H8 n) 4 = True := by rw [ev_lk_s hn8]; exact ev_isK_y
          simp (disch := omega) only [t_X8_copy_170, t_X8_copy_171, true_and, hk8]
          refine L_size hn8 ?_
          rw [m_len, ← hlz]
          simp (disch := omega) only [t_X8_copy_174, ev_kr_1]
          have hx3 : m_cx X zf y T As H' n' := ⟨hZ, fun a ha => (g1 a (by omega)).trans (hw1 a ha), hB, hyn', g4, hT, hW⟩
          have hp := mc_end hm3 hZ hx3.2.1 hB hj hyn' hC8 (by omega) (by omega)
          have hc9 := hC8.2.2.2.2.2.2.2
          refine k2 i j hi rfl hj rfl H8 n6 q6 (hup _ _ _ _ _ ⟨hp.1, fun a ha => (hp.2.1 a ha).trans (g1 a (by omega)), hp.2.2.1, by omega, by omega, by omega, by omega⟩)
        simp (disch := omega) only [t_X8_copy_164, t_X8_copy_166, t_X8_copy_167, ev_kr_0, ev_ft_1, and_true, true_and, ev_fS_8, ev_isO_8, ht7]
        exact hgo _ hC8
      · show ¬ m_ow ow1 n' 7 n' = j
        rw [m_ow_g (Nat.le_refl n')]
        omega
end M62
end
section
/-! ===== the reference: text ===== -/
theorem ev_SB_re {H0 H : ev_M} {n0 k N n : Nat} (h : ev_SB H0 n0 k N H n) : ev_SB H n0 k N H n := by
  obtain ⟨b, ml, f, h1, h2, h3, h4, h5, h6, h7, h8, h9⟩ := h
  exact ⟨b, ml, f, h1, h2, h3, h4, h5, h6, h7, fun _ _ => rfl, h9⟩
theorem ev_SB_new {H0 H : ev_M} {n0 k N n : Nat} (h : ev_SB H0 n0 k N H n) (c : ev_C) : ev_SB (ev_up H n c) n0 k N (ev_up H n c) (n + 1) := by
  obtain ⟨b, ml, f, h1, h2, h3, h4, h5, h6, h7, h8, h9⟩ := h
  exact ⟨b, ml, f, h1, by omega, (ev_up_n (by omega)).trans h3, (ev_up_n (by omega)).trans h4, h5, h6, h7, fun _ _ => rfl, fun z hz => (ev_up_n (by omega)).trans (h9 z (by omega))⟩
theorem ev_SB_oth {H0 H : ev_M} {n0 k N n p : Nat} {c0 : Nat × List Value} (h : ev_SB H0 n0 k N H n) (hp : H p = some (.inr c0)) (hpn : n0 < p) (c : ev_C) : ev_SB (ev_up H p c) n0 k N (ev_up H p c) n := by
  obtain ⟨b, ml, f, h1, h2, h3, h4, h5, h6, h7, h8, h9⟩ := h
  have e1 : ¬ b = p := fun e => by rw [e, hp] at h4; cases h4
  have e2 : ¬ n ≤ p := fun e => by rw [h9 p e] at hp; cases hp
  exact ⟨b, ml, f, h1, h2, (ev_up_n (by omega)).trans h3, (ev_up_n e1).trans h4, h5, h6, h7, fun _ _ => rfl, fun z hz => (ev_up_n (by omega)).trans (h9 z hz)⟩
section M63
variable {X : ev_E} {zf : Nat → Nat} {y : Nat} {r : Int32 × Int32 × Int32} {T : Nat → ev_TS} {As : List Nat} {H : ev_M} {ow : Nat → Nat} {n q : Nat} {P : ev_O → ev_M → Nat → Nat → Prop}
theorem M_item0 (hD : ev_DG X) (hbs : X.1.heap.size ≤ n) {Hb H1 : ev_M} {k N n1 q1 p a b : Nat} {t : Int32} {g : Nat → Value} (hw0 : ev_low X Hb) (hS : ev_SB Hb n k N H1 n1) (hk : k ≤ 140) (hp : p < n) (hg : Hb p = some (.inl (0, 2, g))) (g0 : g 0 = .int (nI a)) (g1 : g 1 = .int (nI b)) (ha : a < 20) (hb : b < 100)
    (c : ∀ k1 N1 H2 n2 q2, ev_SB Hb n k1 N1 H2 n2 → k1 ≤ k + 5 → n2 ≤ n1 + 3 → q1 ≤ q2 ∧ q2 + 2 * N ≤ q1 + 2 * N1 → N ≤ N1 → N1 ≤ max N 300 → ev_ok (ev_TT X) 296 42 [.ref y, .int t, .int (nI 0), .ref n, .ref (n + 2), .ref p] [] H2 n2 q2 P) : ev_ok (ev_TT X) 296 78 [.ref y, .int t, .int (nI 0), .ref n, .ref (n + 2), .ref p] [] H1 n1 q1 P := by
  have hpl : ∀ H' n' k' N', ev_SB Hb n k' N' H' n' → ev_lk X H' p = some (.inl (0, 2, g)) := fun H' n' k' N' h => ev_lk_s ((ev_SB_fr h p hp).trans hg)
  simp (disch := omega) only [t_X8_text_78, t_X8_text_79, t_X8_text_81, t_X8_text_82, t_X8_text_83, t_X8_text_90, t_X8_text_91, t_X8_text_92, ↓reduceIte, ev_aG_y, ev_inA_0, and_true, true_and, not_false_eq_true, ev_z0, ev_z1, show ¬ (0 : Int32) = 1 from by decide, show (0 : Nat) < 2 from by omega, not_false_eq_true, hpl _ _ _ _ hS, ev_SB_k (X := X) hS, g0, ev_inA_0, show nI 0 = 0 from rfl]
  have hd1 := ev_dg_b a
  refine S_int hD hbs (ev_SB_low hS hbs hw0) hS (by omega) (by omega) fun N19 H1x n19 q19 hS1 hg1 => ?_
  unfold ev_gr at hg1
  have hC := c _ N19 H1x n19 q19 hS1 (by omega) (by omega) (by omega) (by omega) (by omega)
  simp (disch := omega) only [t_X8_text_95, t_X8_text_96, t_X8_text_97, t_X8_text_98, t_X8_text_115, ↓reduceIte, ev_kr_1, not_false_eq_true, show ¬ (0 : Int32) = 2 from by decide, not_false_eq_true, show nI 0 = 0 from rfl] at hC ⊢
  exact hC
theorem M_item1 (hD : ev_DG X) (hbs : X.1.heap.size ≤ n) {Hb H1 : ev_M} {k N n1 q1 p a b : Nat} {t : Int32} {g : Nat → Value} (hw0 : ev_low X Hb) (hS : ev_SB Hb n k N H1 n1) (hk : k ≤ 140) (hp : p < n) (hg : Hb p = some (.inl (0, 2, g))) (g0 : g 0 = .int (nI a)) (g1 : g 1 = .int (nI b)) (ha : a < 20) (hb : b < 100)
    (c : ∀ k1 N1 H2 n2 q2, ev_SB Hb n k1 N1 H2 n2 → k1 ≤ k + 5 → n2 ≤ n1 + 3 → q1 ≤ q2 ∧ q2 + 2 * N ≤ q1 + 2 * N1 → N ≤ N1 → N1 ≤ max N 300 → ev_ok (ev_TT X) 296 42 [.ref y, .int t, .int (nI 1), .ref n, .ref (n + 2), .ref p] [] H2 n2 q2 P) : ev_ok (ev_TT X) 296 78 [.ref y, .int t, .int (nI 1), .ref n, .ref (n + 2), .ref p] [] H1 n1 q1 P := by
  have hpl : ∀ H' n' k' N', ev_SB Hb n k' N' H' n' → ev_lk X H' p = some (.inl (0, 2, g)) := fun H' n' k' N' h => ev_lk_s ((ev_SB_fr h p hp).trans hg)
  simp (disch := omega) only [t_X8_text_78, t_X8_text_79, t_X8_text_81, t_X8_text_82, t_X8_text_83, t_X8_text_86, t_X8_text_87, t_X8_text_91, t_X8_text_92, ↓reduceIte, ev_aG_y, ev_inA_0, and_true, true_and, not_true_eq_false, show (0 : Int32) ≤ 1 from by decide, show (1 : Int32).toNatClampNeg = 1 from rfl, show (1 : Nat) < 2 from by omega, not_true_eq_false, hpl _ _ _ _ hS, ev_SB_k (X := X) hS, g1, ev_inA_0, show nI 1 = 1 from rfl]
  have hd1 := ev_dg_b b
  refine S_int hD hbs (ev_SB_low hS hbs hw0) hS (by omega) (by omega) fun N19 H1x n19 q19 hS1 hg1 => ?_
  unfold ev_gr at hg1
  have hC := c _ N19 H1x n19 q19 hS1 (by omega) (by omega) (by omega) (by omega) (by omega)
  simp (disch := omega) only [t_X8_text_95, t_X8_text_96, t_X8_text_97, t_X8_text_98, t_X8_text_115, ↓reduceIte, ev_kr_1, not_false_eq_true, show ¬ (1 : Int32) = 2 from by decide, not_false_eq_true, show nI 1 = 1 from rfl] at hC ⊢
  exact hC
theorem M_item2 (hD : ev_DG X) (hbs : X.1.heap.size ≤ n) {Hb H1 : ev_M} {k N n1 q1 p a b : Nat} {t : Int32} {g : Nat → Value} (hw0 : ev_low X Hb) (hS : ev_SB Hb n k N H1 n1) (hk : k ≤ 140) (hp : p < n) (hg : Hb p = some (.inl (0, 2, g))) (g0 : g 0 = .int (nI a)) (g1 : g 1 = .int (nI b)) (ha : a < 20) (hb : b < 100)
    (c : ∀ k1 N1 H2 n2 q2, ev_SB Hb n k1 N1 H2 n2 → k1 ≤ k + 5 → n2 ≤ n1 + 3 → q1 ≤ q2 ∧ q2 + 2 * N ≤ q1 + 2 * N1 → N ≤ N1 → N1 ≤ max N 300 → ev_ok (ev_TT X) 296 42 [.ref y, .int t, .int (nI 2), .ref n, .ref (n + 2), .ref p] [] H2 n2 q2 P) : ev_ok (ev_TT X) 296 78 [.ref y, .int t, .int (nI 2), .ref n, .ref (n + 2), .ref p] [] H1 n1 q1 P := by
  have hpl : ∀ H' n' k' N', ev_SB Hb n k' N' H' n' → ev_lk X H' p = some (.inl (0, 2, g)) := fun H' n' k' N' h => ev_lk_s ((ev_SB_fr h p hp).trans hg)
  simp (disch := omega) only [t_X8_text_78, t_X8_text_79, t_X8_text_81, t_X8_text_82, t_X8_text_83, t_X8_text_90, t_X8_text_91, t_X8_text_92, ↓reduceIte, ev_aG_y, ev_inA_0, and_true, true_and, not_false_eq_true, ev_z0, ev_z1, show ¬ (2 : Int32) = 1 from by decide, show (0 : Nat) < 2 from by omega, not_false_eq_true, hpl _ _ _ _ hS, ev_SB_k (X := X) hS, g0, ev_inA_0, show nI 2 = 2 from rfl]
  have hd1 := ev_dg_b a
  refine S_int hD hbs (ev_SB_low hS hbs hw0) hS (by omega) (by omega) fun N19 H1x n19 q19 hS1 hg1 => ?_
  unfold ev_gr at hg1
  simp (disch := omega) only [t_X8_text_95, t_X8_text_96, t_X8_text_97, t_X8_text_98, t_X8_text_101, t_X8_text_102, t_X8_text_104, ↓reduceIte, ev_kr_1, true_and, not_true_eq_false, not_true_eq_false, ev_SB_k (X := X) hS1]
  refine S_chr61 hS1 (by omega) fun N29 H2x n29 q29 hS2 hg2 => ?_
  unfold ev_gr at hg2
  simp (disch := omega) only [t_X8_text_107, t_X8_text_109, t_X8_text_110, t_X8_text_111, ev_kr_1, ev_aG_y, ev_inA_0, and_true, true_and, show (0 : Int32) ≤ 1 from by decide, show (1 : Int32).toNatClampNeg = 1 from rfl, show (1 : Nat) < 2 from by omega, hpl _ _ _ _ hS2, ev_SB_k (X := X) hS2, g1, ev_inA_0]
  have hd3 := ev_dg_b b
  refine S_int hD hbs (ev_SB_low hS2 hbs hw0) hS2 (by omega) (by omega) fun N39 H3x n39 q39 hS3 hg3 => ?_
  unfold ev_gr at hg3
  have hC := c _ N39 H3x n39 q39 hS3 (by omega) (by omega) (by omega) (by omega) (by omega)
  simp (disch := omega) only [t_X8_text_114, t_X8_text_115, ev_kr_1, show nI 2 = 2 from rfl] at hC ⊢
  exact hC
theorem M_txl (hD : ev_DG X) (hbs : X.1.heap.size ≤ n) (hw0 : ev_low X H) {l w : Nat} {mc : Int32} {e0 : Nat} {t : Int32} {qs : m_Q} {L : ev_PL} (hw3 : w < 3) (hq : qs.map Prod.snd = L) (hL : okL L) (hV : okV L) (hpc : ∀ z ∈ qs, z.1 < n ∧ m_pc z.2 (H z.1))
    (hO : ∀ H', (∀ a, a < n → H' a = H a) → H' l = some (ev_alc mc e0 (qs.map fun z => Value.ref z.1).length) ∧ ev_AE X H' e0 (qs.map fun z => .ref z.1))
    (c : ∀ k N H' n' q' v, (∀ z, z < n → H' z = H z) → ev_SB H' n k N H' n' → k ≤ 120 → n' ≤ n + 83 → q ≤ q' ∧ q' ≤ q + 8 + 2 * N → N ≤ 300 → ev_ok (ev_TT X) 296 118 [.ref y, .int t, .int (nI w), .ref n, .ref (n + 2), v] [] H' n' q' P) :
    ∀ (d j k N : Nat) (H' : ev_M) (n' q' : Nat) (last : Int32) (v : Value), j + d = L.length → (∀ z, z < n → H' z = H z) → ev_SB H' n k N H' n' → H' (n + 2) = some (ev_itc l j last mc) → k ≤ 6 * j → n' ≤ n + 3 + 4 * j → q ≤ q' ∧ q' ≤ q + 8 + 2 * N → N ≤ 300 → ev_ok (ev_TT X) 296 42 [.ref y, .int t, .int (nI w), .ref n, .ref (n + 2), v] [] H' n' q' P := by
  have hlen : L.length = qs.length := m_ln hq
  have hl20 := okL_len hL
  intro d
  induction d with
  | zero =>
    intro j k N H' n' q' last v hj h1 hS h4 h5 h6 h7 h8
    have ej : j = qs.length := by omega
    have hik : ev_isK (ev_lk X H' (n + 2)) 3 = True := by rw [ev_lk_s h4]; exact ev_isK_y
    rw [ej] at h4
    simp (disch := omega) only [t_X8_text_42, t_X8_text_44, true_and, hik]
    refine I_has_n h4 (mc' := mc) (e := e0) (k := qs.length) (by rw [← m_len]; exact (hO H' h1).1) ?_
    have hc := c k N H' n' q' v h1 hS (by omega) (by omega) h7 h8
    simp (disch := omega) only [t_X8_text_49, ↓reduceIte, ev_kr_1]
    exact hc
  | succ d ih =>
    intro j k N H' n' q' last v hj h1 hS h4 h5 h6 h7 h8
    have hjq : j < qs.length := by omega
    have hik : ev_isK (ev_lk X H' (n + 2)) 3 = True := by rw [ev_lk_s h4]; exact ev_isK_y
    obtain ⟨hqn, g, g0, g1, g2⟩ := hpc qs[j] (List.getElem_mem hjq)
    have hat := m_at hq hjq
    obtain ⟨a, ha, hae⟩ := okL_at hL (show j < L.length by omega)
    obtain ⟨b, hb, hbe⟩ := okV_at hV (show j < L.length by omega)
    rw [hat] at hae hbe
    rw [hae] at g1
    rw [hbe] at g2
    have g0' : H' qs[j].1 = some (.inl (0, 2, g)) := (h1 _ hqn).trans g0
    rw [t_X8_text_42]
    simp (disch := omega) only [t_X8_text_44, true_and, hik]
    refine I_has_y h4 (mc' := mc) (e := e0) (k := qs.length) (by rw [← m_len]; exact (hO H' h1).1) (by omega) hjq ?_
    simp (disch := omega) only [t_X8_text_49, t_X8_text_52, t_X8_text_54, ↓reduceIte, ev_kr_1, true_and, show ¬ (1 : Int32) = 0 from by decide, hik]
    refine I_next h4 (hO H' h1).1 (hO H' h1).2 (by rw [m_len]; omega) (m_nth hjq) ?_
    have h1b : ∀ z, z < n → ev_up H' (n + 2) (ev_itc l (j + 1) (nI j) mc) z = H z := fun z hz => (ev_up_n (by omega)).trans (h1 z hz)
    have hSb := ev_SB_oth (p := n + 2) hS h4 (by omega) (ev_itc l (j + 1) (nI j) mc)
    have h4b : ev_up H' (n + 2) (ev_itc l (j + 1) (nI j) mc) (n + 2) = some (ev_itc l (j + 1) (nI j) mc) := ev_up_s
    generalize ev_up H' (n + 2) (ev_itc l (j + 1) (nI j) mc) = Hb at h1b hSb h4b ⊢
    have hgb : Hb qs[j].1 = some (.inl (0, 2, g)) := (h1b _ hqn).trans g0
    have hakb : ev_isAk (Hb qs[j].1) 0 = True := by rw [hgb]; exact ev_isAk_y
    have hwb : ev_low X Hb := fun z hz => (h1b z (by omega)).trans (hw0 z hz)
    have hkb := ev_SB_k (X := X) hSb
    have key : ∀ k N H1 n1 q1, ev_SB Hb n k N H1 n1 → k ≤ 6 * j + 1 → n1 ≤ n + 3 + 4 * j + 1 → q ≤ q1 ∧ q1 ≤ q + 8 + 2 * N → N ≤ 300 → ev_ok (ev_TT X) 296 78 [.ref y, .int t, .int (nI w), .ref n, .ref (n + 2), .ref qs[j].1] [] H1 n1 q1 P := by
      intro k N H1 n1 q1 hS1 hk hn hq' hN
      have hT : ∀ k1 N1 H2 n2 q2, ev_SB Hb n k1 N1 H2 n2 → k1 ≤ k + 5 → n2 ≤ n1 + 3 → q1 ≤ q2 ∧ q2 + 2 * N ≤ q1 + 2 * N1 → N ≤ N1 → N1 ≤ max N 300 → ev_ok (ev_TT X) 296 42 [.ref y, .int t, .int (nI w), .ref n, .ref (n + 2), .ref qs[j].1] [] H2 n2 q2 P := by
        intro k1 N1 H2 n2 q2 a1 a2 a3 a4 a5 a6
        exact ih (j + 1) k1 N1 H2 n2 q2 (nI j) (.ref qs[j].1) (by omega) (fun z hz => (ev_SB_fr a1 z hz).trans (h1b z hz)) (ev_SB_re a1) (ev_SB_fo a1 _ _ (by omega) h4b) (by omega) (by omega) (by omega) (by omega)
      have hw' : w = 0 ∨ w = 1 ∨ w = 2 := by omega
      rcases hw' with rfl | rfl | rfl
      · exact M_item0 hD hbs hwb hS1 (by omega) hqn hgb g1 g2 ha hb hT
      · exact M_item1 hD hbs hwb hS1 (by omega) hqn hgb g1 g2 ha hb hT
      · exact M_item2 hD hbs hwb hS1 (by omega) hqn hgb g1 g2 ha hb hT
    simp (disch := omega) only [t_X8_text_59, t_X8_text_62, t_X8_text_64, t_X8_text_65, ev_k_r, ev_kr_1, true_and, hakb, hkb]
    refine S_len hSb ?_
    by_cases hz : k = 0
    · subst hz
      have hK := key 0 N Hb n' q' hSb (by omega) (by omega) h7 h8
      simp (disch := omega) only [t_X8_text_68, ↓reduceIte, ev_kr_1, nI_0, show (0 : Int32) ≤ 0 from by decide]
      exact hK
    · have hz' : ¬ nI k ≤ 0 := nI_nle (by omega) (by omega)
      simp (disch := omega) only [t_X8_text_68, t_X8_text_71, t_X8_text_72, t_X8_text_74, ↓reduceIte, ev_kr_1, true_and, hz', hkb]
      refine S_chr32 hSb (by omega) fun N1 H1 n1 q1 hS1 hg => ?_
      unfold ev_gr at hg
      have hK := key (k + 1) N1 H1 n1 q1 hS1 (by omega) (by omega) (by omega) (by omega)
      simp (disch := omega) only [t_X8_text_77, ev_kr_1]
      exact hK
theorem MM_text (hD : ev_DG X) (hV : ∀ i, i < 4 → okV (T i).1) (hm : m_aw X zf y r T As H n ow) (hx : m_cx X zf y T As H n) {t w : Int32} (k0 : t < 0 ∨ nI 4 ≤ t → ∀ H1, m_post X zf y H n q (1, r.2) T As H1 n q → P (.inl (some (.ref (X.2.2.2.2.2 (1000 + 117))))) H1 n q)
    (k1 : ∀ i, i < 4 → t = nI i → ((w < 0 ∨ nI 3 ≤ w)) → ∀ H1, m_post X zf y H n q (2, r.2) T As H1 n q → P (.inl (some (.ref (X.2.2.2.2.2 (1000 + 117))))) H1 n q)
    (k2 : ∀ i a, i < 4 → t = nI i → a < 3 → w = nI a → ∀ H1 s n1 q1, m_post X zf y H n q (0, r.2) T As H1 n1 q1 → P (.inl (some (.ref s))) H1 n1 q1) : ev_ok (ev_TT X) 296 0 [.ref y, .int t, .int w, ev_J, ev_J, ev_J] [] H n q P := by
  have hx0 := hx
  obtain ⟨hZ, hw, hB, hn, hz, hT, hW⟩ := hx0
  have h0 := m_h0 hm
  have hl0 := m_lk0 hm
  have hk13 := m_k13 hm
  rcases pk_ix t (n := 4) (by omega) with hbt | hbt | ⟨i, hi, rfl⟩
  · skip
    rcases pk_ix w (n := 3) (by omega) with hb_w | hb_w | ⟨a_w, ha_w, rfl⟩
    · skip
      simp (disch := omega) only [t_X8_text_0, t_X8_text_1, t_X8_text_2, t_X8_text_5, t_X8_text_6, t_X8_text_7, t_X8_text_10, t_X8_text_11, t_X8_text_14, t_X8_text_17, t_X8_text_19, ↓reduceIte, ev_kr_1, ev_isK_y, true_and, show ¬ (1 : Int32) = 0 from by decide, M_isNo_y (Or.inl hbt), M_isOut_y (v := w) (w := 3) (Or.inl hb_w), M_fails_110 h0, hl0]
      exact k0 (Or.inl hbt) _ (m_post_top hm hZ hw hB hn hz (1, r.2))
    · skip
      simp (disch := omega) only [t_X8_text_0, t_X8_text_1, t_X8_text_2, t_X8_text_5, t_X8_text_6, t_X8_text_7, t_X8_text_10, t_X8_text_11, t_X8_text_14, t_X8_text_17, t_X8_text_19, ↓reduceIte, ev_kr_1, ev_isK_y, true_and, show ¬ (1 : Int32) = 0 from by decide, M_isNo_y (Or.inl hbt), M_isOut_y (v := w) (w := 3) (Or.inr hb_w), M_fails_110 h0, hl0]
      exact k0 (Or.inl hbt) _ (m_post_top hm hZ hw hB hn hz (1, r.2))
    · skip
      simp (disch := omega) only [t_X8_text_0, t_X8_text_1, t_X8_text_2, t_X8_text_5, t_X8_text_6, t_X8_text_7, t_X8_text_10, t_X8_text_11, t_X8_text_14, t_X8_text_17, t_X8_text_19, ↓reduceIte, ev_kr_1, ev_isK_y, true_and, show ¬ (1 : Int32) = 0 from by decide, M_isNo_y (Or.inl hbt), M_isOut_n (v := nI a_w) (w := 3) (nI_pos (by omega)) (nI_ge (b := 3) ha_w (by omega)), M_fails_100 h0, hl0]
      exact k0 (Or.inl hbt) _ (m_post_top hm hZ hw hB hn hz (1, r.2))
  · skip
    rcases pk_ix w (n := 3) (by omega) with hb_w | hb_w | ⟨a_w, ha_w, rfl⟩
    · skip
      simp (disch := omega) only [t_X8_text_0, t_X8_text_1, t_X8_text_2, t_X8_text_5, t_X8_text_6, t_X8_text_7, t_X8_text_10, t_X8_text_11, t_X8_text_14, t_X8_text_17, t_X8_text_19, ↓reduceIte, ev_kr_1, ev_isK_y, true_and, show ¬ (1 : Int32) = 0 from by decide, M_isNo_y (Or.inr hbt), M_isOut_y (v := w) (w := 3) (Or.inl hb_w), M_fails_110 h0, hl0]
      exact k0 (Or.inr hbt) _ (m_post_top hm hZ hw hB hn hz (1, r.2))
    · skip
      simp (disch := omega) only [t_X8_text_0, t_X8_text_1, t_X8_text_2, t_X8_text_5, t_X8_text_6, t_X8_text_7, t_X8_text_10, t_X8_text_11, t_X8_text_14, t_X8_text_17, t_X8_text_19, ↓reduceIte, ev_kr_1, ev_isK_y, true_and, show ¬ (1 : Int32) = 0 from by decide, M_isNo_y (Or.inr hbt), M_isOut_y (v := w) (w := 3) (Or.inr hb_w), M_fails_110 h0, hl0]
      exact k0 (Or.inr hbt) _ (m_post_top hm hZ hw hB hn hz (1, r.2))
    · skip
      simp (disch := omega) only [t_X8_text_0, t_X8_text_1, t_X8_text_2, t_X8_text_5, t_X8_text_6, t_X8_text_7, t_X8_text_10, t_X8_text_11, t_X8_text_14, t_X8_text_17, t_X8_text_19, ↓reduceIte, ev_kr_1, ev_isK_y, true_and, show ¬ (1 : Int32) = 0 from by decide, M_isNo_y (Or.inr hbt), M_isOut_n (v := nI a_w) (w := 3) (nI_pos (by omega)) (nI_ge (b := 3) ha_w (by omega)), M_fails_100 h0, hl0]
      exact k0 (Or.inr hbt) _ (m_post_top hm hZ hw hB hn hz (1, r.2))
  · skip
    rcases pk_ix w (n := 3) (by omega) with hb_w | hb_w | ⟨a_w, ha_w, rfl⟩
    · skip
      simp (disch := omega) only [t_X8_text_0, t_X8_text_1, t_X8_text_2, t_X8_text_5, t_X8_text_6, t_X8_text_7, t_X8_text_10, t_X8_text_11, t_X8_text_14, t_X8_text_17, t_X8_text_19, ↓reduceIte, ev_kr_1, ev_isK_y, true_and, show ¬ (1 : Int32) = 0 from by decide, M_isNo_n hi, M_isOut_y (v := w) (w := 3) (Or.inl hb_w), M_fails_010 h0, hl0]
      exact k1 i hi rfl (Or.inl hb_w) _ (m_post_top hm hZ hw hB hn hz (2, r.2))
    · skip
      simp (disch := omega) only [t_X8_text_0, t_X8_text_1, t_X8_text_2, t_X8_text_5, t_X8_text_6, t_X8_text_7, t_X8_text_10, t_X8_text_11, t_X8_text_14, t_X8_text_17, t_X8_text_19, ↓reduceIte, ev_kr_1, ev_isK_y, true_and, show ¬ (1 : Int32) = 0 from by decide, M_isNo_n hi, M_isOut_y (v := w) (w := 3) (Or.inr hb_w), M_fails_010 h0, hl0]
      exact k1 i hi rfl (Or.inr hb_w) _ (m_post_top hm hZ hw hB hn hz (2, r.2))
    · skip
      simp (disch := omega) only [t_X8_text_0, t_X8_text_1, t_X8_text_2, t_X8_text_5, t_X8_text_6, t_X8_text_7, t_X8_text_10, t_X8_text_11, t_X8_text_14, ↓reduceIte, ev_kr_1, ev_isK_y, true_and, M_isNo_n hi, M_isOut_n (v := nI a_w) (w := 3) (nI_pos (by omega)) (nI_ge (b := 3) ha_w (by omega)), M_fails_000 h0, hl0]
      have hm1 := m_aw_top hm hZ hw hB (0, r.2)
      have hx1 := m_cx_top hx (0, r.2)
      have hp0 : m_post X zf y H n q (0, r.2) T As (ev_up H y (m_top y (0, r.2))) n q := m_post_top hm hZ hw hB hn hz (0, r.2)
      have hup := fun (r2 : Int32 × Int32 × Int32) (T2 : Nat → ev_TS) (H2 : ev_M) (n2 q2 : Nat) => @m_post_up X zf y r2 T2 As H H2 n q (0, r.2) n2 q2
      generalize ev_up H y (m_top y (0, r.2)) = H1 at hm1 hx1 hp0 hup ⊢
      obtain ⟨-, hw1, -, -, hz1, -, -⟩ := hx1
      have h10 := m_h0 hm1
      have hl10 := m_lk0 hm1
      have hk13 := m_k13 hm1
      obtain ⟨f, hf1, hf2⟩ := m_lk1 hm1
      have hfi := hf2 i hi
      have hpi := nI_pos' (n := i) (by omega)
      have hci := nI_clamp (n := i) (by omega)
      have hTi := hT i hi
      have hli := okL_len hTi.1
      obtain ⟨qs, hC⟩ := mc_0 (q := q) hm1 hi hz1
      have htk := mc_tk hC
      have hlk := mc_lk hC
      have ht := hC.2.1
      have hkl := mc_kl hC
      have hlen := mc_len hC
      unfold m_tbc at hlk ht
      have hx2 := m_cx_top2 hx hm1 hw1 hz1
      have hB1 := hB.1
      have hB3 := hB.2.2
      have hlq := hC.2.2.1
      obtain ⟨mc, e0, hO⟩ := ML_old (n := n) hlq (Nat.le_refl _) (by omega) (by omega)
      have hpc : ∀ z ∈ qs, z.1 < n ∧ m_pc z.2 (H1 z.1) := fun z hz' => by
        obtain ⟨e, -, -, h3, -⟩ := hlq
        exact ⟨(h3 z hz').2.1, (h3 z hz').2.2.2⟩
      simp (disch := omega) only [t_X8_text_20, t_X8_text_23, t_X8_text_24]
      refine S_init hz1 fun H2 hS => ?_
      have hE2 : ∀ a, a < n → H2 a = H1 a := ev_SB_fr hS
      have hm2 := m_aw_ext hm1 hx2 hE2 (show n ≤ n + 2 by omega)
      have hl10 := m_lk0 hm2
      have hk13 := m_k13 hm2
      obtain ⟨f, hf1, hf2⟩ := m_lk1 hm2
      have hfi := hf2 i hi
      have ht2 := ev_lk_s (X := X) (hm2.2.2.1 i hi).1
      unfold m_tbc at ht2
      have hO2 := hO H2 hE2
      have hkl : ev_isK (ev_lk X H2 (y + 3 + 2 * i)) 4 = True := by rw [ev_lk_s hO2.1]; exact ev_isK_y
      simp (disch := omega) only [t_X8_text_27, t_X8_text_28, t_X8_text_29, t_X8_text_32, t_X8_text_33, t_X8_text_34, t_X8_text_37, ev_k_i, ev_kr_0, ev_aG_y, and_true, true_and, ev_fG_0, ev_fG_3, ev_isO_0, ev_isO_3, hl10, hf1, hfi, hpi, hci, hi, ev_inA_5, ht2, hkl]
      refine I_iter hO2.1 (by omega) ?_
      have hSn := ev_SB_new hS (ev_itc (y + 3 + 2 * i) 0 (-1) mc)
      have hE3 : ∀ a, a < n → ev_up H2 (n + 2) (ev_itc (y + 3 + 2 * i) 0 (-1) mc) a = H1 a := fun a ha => (ev_up_n (by omega)).trans (hE2 a ha)
      have hN3 : ev_up H2 (n + 2) (ev_itc (y + 3 + 2 * i) 0 (-1) mc) (n + 2) = some (ev_itc (y + 3 + 2 * i) 0 (-1) mc) := ev_up_s
      generalize ev_up H2 (n + 2) (ev_itc (y + 3 + 2 * i) 0 (-1) mc) = H3 at hSn hE3 hN3 ⊢
      have hfin := M_txl (P := P) (q := q) (t := nI i) (w := a_w) (y := y) hD (by omega) hw1 ha_w hC.2.2.2.1 hTi.1 (hV i hi) hpc hO (fun k N H4 n4 q4 v b1 b2 b3 b4 b5 b6 => ?_) (T i).1.length 0 0 16 H3 (n + 3) (q + 4 + 16 + 4) (-1) ev_J (Nat.zero_add _) hE3 hSn hN3 (by omega) (by omega) (by omega) (by omega)
      · simp (disch := omega) only [t_X8_text_40, ev_k_r, ev_kr_1]
        exact hfin
      · have hkS := ev_SB_k (X := X) b2
        simp (disch := omega) only [t_X8_text_118, t_X8_text_119, true_and, hkS]
        refine S_toString b2 fun H5 d1 d2 d3 => ?_
        have hlt := ev_SB_lt b2
        simp (disch := omega) only [t_X8_text_122, ev_kr_1]
        exact k2 i a_w hi rfl ha_w rfl H5 _ _ _ (hup _ _ _ _ _ (m_post_ext hm1 hx2 (fun a ha => (d2 a ha).trans (b1 a ha)) d3 (by omega) (by omega) (by omega) (by omega)))
end M63
end
section
/-! ===== the reference: its askings are read ===== -/
def nb : Option Nat → Int32
  | none => -1
  | some j => nI j
def mu_c (As : List Nat) (fr k : Nat) : Nat := match mb As (As.getD k 0) k with
  | none => 1
  | some j => if j < fr then 1 else 0
def mu (As : List Nat) (fr : Nat) : Nat → Nat → Nat
  | 0, _ => 0
  | d + 1, k => mu_c As fr k + mu As fr d (k + 1)
theorem mu_c_le {As : List Nat} {fr k : Nat} : mu_c As fr k ≤ 1 := by
  unfold mu_c
  split
  · omega
  · split <;> omega
theorem mu_le {As : List Nat} {fr : Nat} : ∀ d k, mu As fr d k ≤ d := by
  intro d
  induction d with
  | zero => intro k; exact Nat.le_refl 0
  | succ d ih =>
    intro k
    unfold mu
    have := ih (k + 1)
    have := mu_c_le (As := As) (fr := fr) (k := k)
    omega
def md (As : List Nat) (a p : Nat) : Nat := match mb As a p with
  | none => 0
  | some l => 1 + mu As (l + 1) (p - (l + 1)) (l + 1)
theorem md_le {As : List Nat} {a p : Nat} : md As a p ≤ 1 + p := by
  unfold md
  split
  · omega
  · have := mu_le (As := As) (fr := ‹Nat› + 1) (p - (‹Nat› + 1)) (‹Nat› + 1)
    omega
def mh (As : List Nat) (c k : Nat) : Bool := decide (0 < md As (As.getD k 0) k) && decide (md As (As.getD k 0) k ≤ c)
def mkw (As : List Nat) (d p : Nat) : Nat → Nat → Option Nat
  | 0, _ => none
  | e + 1, a => if md As a p = d then some a else mkw As d p e (a + 1)
theorem mkw_lt {As : List Nat} {d p : Nat} : ∀ {e a j : Nat}, mkw As d p e a = some j → j < a + e := by
  intro e
  induction e with
  | zero => intro a j h; cases h
  | succ e ih =>
    intro a j h
    unfold mkw at h
    split at h
    · cases h; omega
    · have := ih h; omega
def m_ac (X : ev_E) (zf : Nat → Nat) (y : Nat) (As : List Nat) (H : ev_M) : Prop := (∃ a b c : Value, ev_lk X H y = some (.inr (13, [a, b, c, .ref (y + 1), .ref (y + 10)]))) ∧
  (∃ mc e, H (y + 10) = some (ev_alc mc e (As.map fun k => Value.ref (zf k)).length) ∧ ev_AE X H e (As.map fun k => .ref (zf k))) ∧ ev_IC X zf ∧ ev_low X H ∧ (∀ k ∈ As, k < 20) ∧ As.length ≤ 60
section M64
variable {X : ev_E} {zf : Nat → Nat} {y : Nat} {As : List Nat} {H : ev_M} {n q : Nat} {P : ev_O → ev_M → Nat → Nat → Prop}
theorem ac_k (ha : m_ac X zf y As H) : ev_isK (ev_lk X H y) 13 = True := by
  obtain ⟨⟨a, b, c, h⟩, -⟩ := ha
  rw [h]; exact ev_isK_y
theorem ac_kl (ha : m_ac X zf y As H) : ev_isK (ev_lk X H (y + 10)) 4 = True := by
  obtain ⟨-, ⟨mc, e, h, -⟩, -⟩ := ha
  rw [ev_lk_s h]; exact ev_isK_y
theorem ac_f (ha : m_ac X zf y As H) : ev_isO (ev_lk X H y) 13 4 = True ∧ ev_fG (ev_lk X H y) 4 = .ref (y + 10) := by
  obtain ⟨⟨a, b, c, h⟩, -⟩ := ha
  rw [h]
  exact ⟨ev_isO_4, rfl⟩
theorem ac_size (ha : m_ac X zf y As H) (c : P (.inl (some (.int (nI As.length)))) H n q) : ev_ok (ev_TT X) 24 0 [.ref (y + 10)] [] H n q P := by
  obtain ⟨-, ⟨mc, e, h, -⟩, -⟩ := ha
  refine L_size h ?_
  rw [List.length_map]
  exact c
theorem ac_lt (ha : m_ac X zf y As H) {k : Nat} (hk : k < As.length) : As.getD k 0 < 20 := by
  rw [List.getD_eq_getElem?_getD, List.getElem?_eq_getElem hk]
  exact ha.2.2.2.2.1 _ (List.getElem_mem hk)
theorem ac_get (ha : m_ac X zf y As H) {k : Nat} (hk : k < As.length) (c : P (.inl (some (.ref (zf (As.getD k 0))))) H n q) : ev_ok (ev_TT X) 128 0 [.ref (y + 10), .int (nI k)] [] H n q P := by
  obtain ⟨-, ⟨mc, e, h, h2⟩, -, -, -, hl⟩ := ha
  refine L_get h h2 (by rw [List.length_map]; omega) ?_ c
  rw [List.getElem?_map, List.getD_eq_getElem?_getD, List.getElem?_eq_getElem hk]; rfl
theorem ac_ik (ha : m_ac X zf y As H) {k : Nat} (hk : k < As.length) : ev_isK (ev_lk X H (zf (As.getD k 0))) 2 = True := by
  have h20 := ac_lt ha hk
  obtain ⟨-, -, ⟨N, cf, i1, i2, i3, i4, i5⟩, hw, -⟩ := ha
  obtain ⟨j1, j2, j3⟩ := i5 (As.getD k 0) (by omega)
  rw [ev_lk_o (hw _ j3) j2]
  exact ev_isK_y
theorem ac_int (ha : m_ac X zf y As H) {k : Nat} (hk : k < As.length) (c : P (.inl (some (.int (nI (As.getD k 0))))) H n q) : ev_ok (ev_TT X) 12 0 [.ref (zf (As.getD k 0))] [] H n q P :=
  I_int ha.2.2.1 ha.2.2.2.1 (by have := ac_lt ha hk; omega) c
theorem M_before (ha : m_ac X zf y As H) {a p : Nat} (ha20 : a < 1000) (hp : p ≤ As.length) (c : P (.inl (some (.int (nb (mb As a p))))) H n q) : ev_ok (ev_TT X) 210 0 [.ref y, .int (nI a), .int (nI p), ev_J] [] H n q P := by
  have hl60 := ha.2.2.2.2.2
  have hf := ac_f ha
  have hkl := ac_kl ha
  have key : ∀ k, k ≤ p → P (.inl (some (.int (nb (mb As a k))))) H n q → ev_ok (ev_TT X) 210 4 [.ref y, .int (nI a), .int (nI p), .int (nI k - 1)] [] H n q P := by
    intro k
    induction k with
    | zero =>
      intro hk c
      have hneg : nI 0 - 1 < 0 := by decide
      simp (disch := omega) only [t_X8_before_4, t_X8_before_5, t_X8_before_34, t_X8_before_35, ↓reduceIte, hneg]
      exact c
    | succ k ih =>
      intro hk c
      have hkl' : k < As.length := by omega
      have hpos := nI_pos (n := k) (by omega)
      have hik := ac_ik ha hkl'
      rw [nI_pred, t_X8_before_4]
      simp (disch := omega) only [t_X8_before_5, t_X8_before_8, t_X8_before_9, t_X8_before_12, t_X8_before_13, ↓reduceIte, true_and, hpos, hf.1, hf.2, hkl]
      refine ac_get ha hkl' ?_
      simp (disch := omega) only [t_X8_before_16, t_X8_before_19, ev_kr_1, true_and, hik]
      refine ac_int ha hkl' ?_
      unfold mb at c
      have hlt := ac_lt ha hkl'
      by_cases e : As.getD k 0 = a
      · rw [if_pos e] at c
        simp (disch := omega) only [t_X8_before_22, t_X8_before_23, t_X8_before_26, t_X8_before_27, ↓reduceIte, ev_kr_1, not_true_eq_false, not_true_eq_false, e]
        exact c
      · rw [if_neg e] at c
        have e2 : ¬ nI (As.getD k 0) = nI a := fun z => e (nI_inj (by omega) (by omega) z)
        have hI := ih (by omega) c
        simp (disch := omega) only [t_X8_before_22, t_X8_before_23, t_X8_before_28, t_X8_before_31, ↓reduceIte, ev_k_i, ev_kr_1, not_false_eq_true, not_false_eq_true, e2, ev_sub1]
        exact hI
  have h9 := key p (Nat.le_refl p) c
  simp (disch := omega) only [t_X8_before_0, t_X8_before_1, t_X8_before_2, t_X8_before_3, ev_k_i]
  exact h9
theorem nb_lt_n {fr : Nat} (hfr : fr < 1000) : (nI fr ≤ nb none) = False := by
  refine eq_false (fun z => ?_)
  have z2 := Int32.le_iff_toInt_le.mp z
  rw [nI_toInt (by omega), show (nb none).toInt = -1 from rfl] at z2
  omega
theorem nb_lt_s {fr j : Nat} (hfr : fr < 1000) (hj : j < 1000) : (nI fr ≤ nb (some j)) = (fr ≤ j) := propext (nI_leI (by omega) (by omega))
theorem M_unlike (ha : m_ac X zf y As H) {fr t : Nat} (hfr : fr ≤ 100) (ht : t ≤ As.length) (c : P (.inl (some (.int (nI (mu As fr (t - fr) fr))))) H n q) : ev_ok (ev_TT X) 242 0 [.ref y, .int (nI fr), .int (nI t), ev_J, ev_J] [] H n q P := by
  have hl60 := ha.2.2.2.2.2
  have hf := ac_f ha
  have hkl := ac_kl ha
  have hk13 := ac_k ha
  have key : ∀ d k s, (k + d = t ∨ (d = 0 ∧ t ≤ k)) → k ≤ 200 → P (.inl (some (.int (nI (s + mu As fr d k))))) H n q → ev_ok (ev_TT X) 242 5 [.ref y, .int (nI fr), .int (nI t), .int (nI s), .int (nI k)] [] H n q P := by
    intro d
    induction d with
    | zero =>
      intro k s hk hk2 c
      have hi2 : t ≤ k := by omega
      simp (disch := omega) only [t_X8_unlike_5, t_X8_unlike_7, t_X8_unlike_8, t_X8_unlike_53, t_X8_unlike_54, ↓reduceIte, nI_leI, hi2]
      exact c
    | succ d ih =>
      intro k s hk hk2 c
      have hi2 : ¬ t ≤ k := by omega
      have hkl' : k < As.length := by omega
      have hik := ac_ik ha hkl'
      have hlt := ac_lt ha hkl'
      rw [t_X8_unlike_5]
      simp (disch := omega) only [t_X8_unlike_7, t_X8_unlike_8, t_X8_unlike_11, t_X8_unlike_12, t_X8_unlike_13, t_X8_unlike_14, t_X8_unlike_17, t_X8_unlike_19, ↓reduceIte, true_and, nI_leI, hi2, hf.1, hf.2, hkl]
      refine ac_get ha hkl' ?_
      simp (disch := omega) only [t_X8_unlike_22, t_X8_unlike_25, ev_kr_1, true_and, hik]
      refine ac_int ha hkl' ?_
      simp (disch := omega) only [t_X8_unlike_28, t_X8_unlike_30, ev_kr_1, true_and, hk13]
      refine M_before ha (by omega) (by omega) ?_
      unfold mu mu_c at c
      rcases e : mb As (As.getD k 0) k with _ | j
      · rw [e] at c
        have hle := nb_lt_n (fr := fr) (by omega)
        have hI := ih (k + 1) (s + 1) (by omega) (by omega) (by rw [show s + 1 + mu As fr d (k + 1) = s + (1 + mu As fr d (k + 1)) from by omega]; exact c)
        simp (disch := omega) only [t_X8_unlike_33, t_X8_unlike_34, t_X8_unlike_37, t_X8_unlike_38, t_X8_unlike_42, t_X8_unlike_45, t_X8_unlike_46, t_X8_unlike_47, t_X8_unlike_50, t_X8_one_0, t_X8_one_1, t_X8_one_4, t_X8_one_5, t_X8_one_9, ↓reduceIte, ev_k_i, ev_kr_1, nI_1, show ¬ (1 : Int32) = 0 from by decide, hle]
        exact hI
      · rw [e] at c
        have hjk := mb_lt e
        have hle := nb_lt_s (fr := fr) (j := j) (by omega) (by omega)
        by_cases e2 : j < fr
        · dsimp only at c
          rw [if_pos e2] at c
          have e3 : ¬ fr ≤ j := by omega
          have hI := ih (k + 1) (s + 1) (by omega) (by omega) (by rw [show s + 1 + mu As fr d (k + 1) = s + (1 + mu As fr d (k + 1)) from by omega]; exact c)
          simp (disch := omega) only [t_X8_unlike_33, t_X8_unlike_34, t_X8_unlike_37, t_X8_unlike_38, t_X8_unlike_42, t_X8_unlike_45, t_X8_unlike_46, t_X8_unlike_47, t_X8_unlike_50, t_X8_one_0, t_X8_one_1, t_X8_one_4, t_X8_one_5, t_X8_one_9, ↓reduceIte, ev_k_i, ev_kr_1, nI_1, show ¬ (1 : Int32) = 0 from by decide, hle, e3]
          exact hI
        · dsimp only at c
          rw [if_neg e2, Nat.zero_add] at c
          have e3 : fr ≤ j := by omega
          have hI := ih (k + 1) s (by omega) (by omega) c
          simp (disch := omega) only [t_X8_unlike_33, t_X8_unlike_34, t_X8_unlike_41, t_X8_unlike_42, t_X8_unlike_45, t_X8_unlike_46, t_X8_unlike_47, t_X8_unlike_50, t_X8_one_0, t_X8_one_1, t_X8_one_8, t_X8_one_9, ↓reduceIte, ev_k_i, ev_kr_1, nI_1, hle, e3, Int32.add_zero]
          exact hI
  have h9 := key (t - fr) fr 0 (by omega) (by omega) (by rw [Nat.zero_add]; exact c)
  rw [nI_0] at h9
  simp (disch := omega) only [t_X8_unlike_0, t_X8_unlike_1, t_X8_unlike_2, t_X8_unlike_3, ev_k_i]
  exact h9
theorem M_depthOf (ha : m_ac X zf y As H) {a p : Nat} (ha20 : a < 1000) (hp : p ≤ As.length) (c : P (.inl (some (.int (nI (md As a p))))) H n q) : ev_ok (ev_TT X) 256 0 [.ref y, .int (nI a), .int (nI p), ev_J] [] H n q P := by
  have hl60 := ha.2.2.2.2.2
  have hk13 := ac_k ha
  simp (disch := omega) only [t_X8_depthOf_0, t_X8_depthOf_1, t_X8_depthOf_2, t_X8_depthOf_3, true_and, hk13]
  refine M_before ha ha20 hp ?_
  unfold md at c
  rcases e : mb As a p with _ | l
  · rw [e] at c
    unfold nb
    simp (disch := omega) only [t_X8_depthOf_6, t_X8_depthOf_7, t_X8_depthOf_8, t_X8_depthOf_9, t_X8_depthOf_12, t_X8_depthOf_13, t_X8_depthOf_26, ↓reduceIte, ev_k_i, ev_kr_1, not_true_eq_false, not_true_eq_false]
    exact c
  · rw [e] at c
    have hlt := mb_lt e
    have hm1 := ev_nm1 (show l < 2 ^ 31 by omega)
    unfold nb
    simp (disch := omega) only [t_X8_depthOf_6, t_X8_depthOf_7, t_X8_depthOf_8, t_X8_depthOf_9, t_X8_depthOf_16, t_X8_depthOf_17, t_X8_depthOf_18, t_X8_depthOf_19, t_X8_depthOf_20, t_X8_depthOf_21, t_X8_depthOf_22, ↓reduceIte, ev_k_i, ev_kr_1, true_and, not_false_eq_true, nI_1, not_false_eq_true, hk13, hm1]
    refine M_unlike ha (by omega) hp ?_
    have h1a : (1 : Int32) + nI (mu As (l + 1) (p - (l + 1)) (l + 1)) = nI (1 + mu As (l + 1) (p - (l + 1)) (l + 1)) := nI_add 1 _
    simp (disch := omega) only [t_X8_depthOf_25, t_X8_depthOf_26, ev_kr_1, h1a]
    exact c
theorem M_isHit (ha : m_ac X zf y As H) {s k : Nat} (hs : s ≤ 1000) (hk : k < As.length) (c : P (.inl (some (.int (ev_bb (mh As s k))))) H n q) : ev_ok (ev_TT X) 268 0 [.ref y, .int (nI s), .int (nI k), ev_J] [] H n q P := by
  have hl60 := ha.2.2.2.2.2
  have hf := ac_f ha
  have hkl := ac_kl ha
  have hk13 := ac_k ha
  have hik := ac_ik ha hk
  have hlt := ac_lt ha hk
  simp (disch := omega) only [t_X8_isHit_0, t_X8_isHit_1, t_X8_isHit_2, t_X8_isHit_5, t_X8_isHit_6, true_and, hf.1, hf.2, hkl]
  refine ac_get ha hk ?_
  simp (disch := omega) only [t_X8_isHit_9, t_X8_isHit_12, ev_kr_1, true_and, hik]
  refine ac_int ha hk ?_
  simp (disch := omega) only [t_X8_isHit_15, t_X8_isHit_16, ev_kr_1, true_and, hk13]
  refine M_depthOf ha (by omega) (by omega) ?_
  have hml := md_le (As := As) (a := As.getD k 0) (p := k)
  unfold mh at c
  by_cases e : 0 < md As (As.getD k 0) k
  · have e' : ¬ nI (md As (As.getD k 0) k) ≤ 0 := nI_nle e (by omega)
    rw [decide_eq_true e] at c
    by_cases e2 : md As (As.getD k 0) k ≤ s
    · rw [decide_eq_true e2] at c
      have e3 : ¬ s < md As (As.getD k 0) k := by omega
      simp (disch := omega) only [t_X8_isHit_19, t_X8_isHit_20, t_X8_isHit_21, t_X8_isHit_24, t_X8_isHit_25, t_X8_isHit_26, t_X8_isHit_29, t_X8_isHit_30, t_X8_isHit_34, ↓reduceIte, ev_k_i, ev_kr_1, ev_nb_1, true_and, e', nI_ltI, e3]
      exact c
    · rw [decide_eq_false e2] at c
      have e3 : s < md As (As.getD k 0) k := by omega
      simp (disch := omega) only [t_X8_isHit_19, t_X8_isHit_20, t_X8_isHit_21, t_X8_isHit_24, t_X8_isHit_25, t_X8_isHit_26, t_X8_isHit_33, t_X8_isHit_34, ↓reduceIte, ev_k_i, ev_kr_1, ev_nb_0, true_and, e', nI_ltI, e3]
      exact c
  · have e' : nI (md As (As.getD k 0) k) ≤ 0 := by rw [show md As (As.getD k 0) k = 0 from by omega]; decide
    rw [decide_eq_false e] at c
    simp (disch := omega) only [t_X8_isHit_19, t_X8_isHit_20, t_X8_isHit_21, t_X8_isHit_33, t_X8_isHit_34, ↓reduceIte, ev_k_i, ev_kr_1, ev_nb_0, true_and, e']
    exact c
theorem M_keyWith (ha : m_ac X zf y As H) {d p : Nat} (hd : d ≤ 1000) (hp : p ≤ As.length) (c : P (.inl (some (.int (nb (mkw As d p 20 0))))) H n q) : ev_ok (ev_TT X) 270 0 [.ref y, .int (nI d), .int (nI p), ev_J] [] H n q P := by
  have hl60 := ha.2.2.2.2.2
  have hk13 := ac_k ha
  have h20 : (20 : Int32) = nI 20 := rfl
  have key : ∀ e a, a + e = 20 → P (.inl (some (.int (nb (mkw As d p e a))))) H n q → ev_ok (ev_TT X) 270 2 [.ref y, .int (nI d), .int (nI p), .int (nI a)] [] H n q P := by
    intro e
    induction e with
    | zero =>
      intro a hae c
      have hi2 : 20 ≤ a := by omega
      simp (disch := omega) only [t_X8_keyWith_2, t_X8_keyWith_3, t_X8_keyWith_5, t_X8_keyWith_26, t_X8_keyWith_27, ↓reduceIte, h20, nI_leI, hi2]
      exact c
    | succ e ih =>
      intro a hae c
      have hi2 : ¬ 20 ≤ a := by omega
      rw [t_X8_keyWith_2]
      simp (disch := omega) only [t_X8_keyWith_3, t_X8_keyWith_5, t_X8_keyWith_8, t_X8_keyWith_9, t_X8_keyWith_10, t_X8_keyWith_11, ↓reduceIte, true_and, h20, nI_leI, hi2, hk13]
      refine M_depthOf ha (by omega) hp ?_
      have hml := md_le (As := As) (a := a) (p := p)
      unfold mkw at c
      by_cases e2 : md As a p = d
      · rw [if_pos e2] at c
        rw [e2]
        simp (disch := omega) only [t_X8_keyWith_14, t_X8_keyWith_15, t_X8_keyWith_18, t_X8_keyWith_19, ↓reduceIte, ev_kr_1, not_true_eq_false, not_true_eq_false]
        exact c
      · rw [if_neg e2] at c
        have e3 : ¬ nI (md As a p) = nI d := fun z => e2 (nI_inj (by omega) (by omega) z)
        have hI := ih (a + 1) (by omega) c
        simp (disch := omega) only [t_X8_keyWith_14, t_X8_keyWith_15, t_X8_keyWith_20, t_X8_keyWith_23, ↓reduceIte, ev_k_i, ev_kr_1, not_false_eq_true, nI_1, not_false_eq_true, e3]
        exact hI
  have h9 := key 20 0 (by omega) c
  rw [nI_0] at h9
  simp (disch := omega) only [t_X8_keyWith_0, t_X8_keyWith_1, ev_k_i]
  exact h9
end M64
end
section
/-! ===== the reference: what its askings tell ===== -/
def mkp (As : List Nat) (c a : Nat) : Bool := decide (0 < md As a As.length) && decide (md As a As.length ≤ c)
def mt_l (As : List Nat) (c a : Nat) : Nat → Nat → Nat
  | 0, k => k
  | f + 1, k => if mh As c k = true then (match mb As a k with
    | none => k
    | some j => mt_l As c a f j) else k
def mt_n (As : List Nat) (c a : Nat) : Int32 := if mkp As c a = true then (match mb As a As.length with
  | none => -1
  | some k => nI (mt_l As c a (k + 1) k)) else -1
def mm (As : List Nat) (c : Nat) : Nat → Nat → Nat
  | 0, _ => 0
  | d + 1, k => (if mh As c k = true then 0 else 1) + mm As c d (k + 1)
def ml_n (As : List Nat) (c : Nat) : Nat → Option Nat
  | 0 => none
  | k + 1 => if mh As c k = true then ml_n As c k else (match mkw As c k 20 0 with
    | none => ml_n As c k
    | some a => some a)
section M65
variable {X : ev_E} {zf : Nat → Nat} {y : Nat} {As : List Nat} {H : ev_M} {n q : Nat} {P : ev_O → ev_M → Nat → Nat → Prop}
theorem M_isKept (ha : m_ac X zf y As H) {s a : Nat} (hs : s ≤ 1000) (ha20 : a < 1000) (c : P (.inl (some (.int (ev_bb (mkp As s a))))) H n q) : ev_ok (ev_TT X) 269 0 [.ref y, .int (nI s), .int (nI a), ev_J] [] H n q P := by
  have hl60 := ha.2.2.2.2.2
  have hf := ac_f ha
  have hkl := ac_kl ha
  have hk13 := ac_k ha
  simp (disch := omega) only [t_X8_isKept_0, t_X8_isKept_1, t_X8_isKept_2, t_X8_isKept_3, t_X8_isKept_6, true_and, hf.1, hf.2, hkl]
  refine ac_size ha ?_
  simp (disch := omega) only [t_X8_isKept_9, ev_kr_1, true_and, hk13]
  refine M_depthOf ha ha20 (Nat.le_refl _) ?_
  have hml := md_le (As := As) (a := a) (p := As.length)
  unfold mkp at c
  by_cases e : 0 < md As a As.length
  · have e' : ¬ nI (md As a As.length) ≤ 0 := nI_nle e (by omega)
    rw [decide_eq_true e] at c
    by_cases e2 : md As a As.length ≤ s
    · rw [decide_eq_true e2] at c
      have e3 : ¬ s < md As a As.length := by omega
      simp (disch := omega) only [t_X8_isKept_12, t_X8_isKept_13, t_X8_isKept_14, t_X8_isKept_17, t_X8_isKept_18, t_X8_isKept_19, t_X8_isKept_22, t_X8_isKept_23, t_X8_isKept_27, ↓reduceIte, ev_k_i, ev_kr_1, ev_nb_1, true_and, e', nI_ltI, e3]
      exact c
    · rw [decide_eq_false e2] at c
      have e3 : s < md As a As.length := by omega
      simp (disch := omega) only [t_X8_isKept_12, t_X8_isKept_13, t_X8_isKept_14, t_X8_isKept_17, t_X8_isKept_18, t_X8_isKept_19, t_X8_isKept_26, t_X8_isKept_27, ↓reduceIte, ev_k_i, ev_kr_1, ev_nb_0, true_and, e', nI_ltI, e3]
      exact c
  · have e' : nI (md As a As.length) ≤ 0 := by rw [show md As a As.length = 0 from by omega]; decide
    rw [decide_eq_false e] at c
    simp (disch := omega) only [t_X8_isKept_12, t_X8_isKept_13, t_X8_isKept_14, t_X8_isKept_26, t_X8_isKept_27, ↓reduceIte, ev_k_i, ev_kr_1, ev_nb_0, true_and, e']
    exact c
theorem M_takenNow (ha : m_ac X zf y As H) {s a : Nat} (hs : s ≤ 1000) (ha20 : a < 1000) (c : P (.inl (some (.int (mt_n As s a)))) H n q) : ev_ok (ev_TT X) 283 0 [.ref y, .int (nI s), .int (nI a), ev_J] [] H n q P := by
  have hl60 := ha.2.2.2.2.2
  have hf := ac_f ha
  have hkl := ac_kl ha
  have hk13 := ac_k ha
  have hd1 : ¬ (1 : Int32) = 0 := by decide
  have key : ∀ f k, k < f → k < As.length → As.getD k 0 = a → P (.inl (some (.int (nI (mt_l As s a f k))))) H n q → ev_ok (ev_TT X) 283 24 [.ref y, .int (nI s), .int (nI a), .int (nI k)] [] H n q P := by
    intro f
    induction f with
    | zero => intro k hk; omega
    | succ f ih =>
      intro k hk hkl' hka c
      rw [t_X8_takenNow_24]
      simp (disch := omega) only [t_X8_takenNow_25, t_X8_takenNow_26, t_X8_takenNow_27, true_and, hk13]
      refine M_isHit ha hs hkl' ?_
      unfold mt_l at c
      rcases e : mh As s k with _ | _
      · rw [e, if_neg Bool.false_ne_true] at c
        simp (disch := omega) only [t_X8_takenNow_30, t_X8_takenNow_43, t_X8_takenNow_44, ↓reduceIte, ev_kr_1, ev_bb_f]
        exact c
      · rw [e, if_pos rfl] at c
        simp (disch := omega) only [t_X8_takenNow_30, t_X8_takenNow_33, t_X8_takenNow_34, t_X8_takenNow_35, t_X8_takenNow_36, ↓reduceIte, ev_kr_1, true_and, show ¬ (1 : Int32) = 0 from by decide, ev_bb_t, hk13]
        refine M_before ha ha20 (by omega) ?_
        have hpos : 0 < md As (As.getD k 0) k := by
          unfold mh at e
          exact of_decide_eq_true (Bool.and_eq_true_iff.mp e).1
        rw [hka] at hpos
        unfold md at hpos
        rcases e2 : mb As a k with _ | j
        · rw [e2] at hpos
          exact absurd hpos (Nat.lt_irrefl 0)
        · rw [e2] at c
          have hj := mb_lt e2
          have hI := ih j (by omega) (by omega) (mb_at e2) c
          unfold nb
          simp (disch := omega) only [t_X8_takenNow_39, t_X8_takenNow_40, ev_k_i, ev_kr_1]
          exact hI
  simp (disch := omega) only [t_X8_takenNow_0, t_X8_takenNow_1, t_X8_takenNow_2, t_X8_takenNow_3, true_and, hk13]
  refine M_isKept ha hs ha20 ?_
  unfold mt_n at c
  rcases e : mkp As s a with _ | _
  · rw [e, if_neg Bool.false_ne_true] at c
    simp (disch := omega) only [t_X8_takenNow_6, t_X8_takenNow_9, t_X8_takenNow_10, ↓reduceIte, ev_kr_1, not_true_eq_false, not_true_eq_false, ev_bb_f]
    exact c
  · rw [e, if_pos rfl] at c
    simp (disch := omega) only [t_X8_takenNow_6, t_X8_takenNow_11, t_X8_takenNow_12, t_X8_takenNow_13, t_X8_takenNow_14, t_X8_takenNow_17, ↓reduceIte, ev_kr_1, true_and, not_false_eq_true, show ¬ (1 : Int32) = 0 from by decide, not_false_eq_true, ev_bb_t, hf.1, hf.2, hkl]
    refine ac_size ha ?_
    simp (disch := omega) only [t_X8_takenNow_20, ev_kr_1, true_and, hk13]
    refine M_before ha ha20 (Nat.le_refl _) ?_
    have hpos : 0 < md As a As.length := by
      unfold mkp at e
      exact of_decide_eq_true (Bool.and_eq_true_iff.mp e).1
    unfold md at hpos
    rcases e2 : mb As a As.length with _ | j
    · rw [e2] at hpos
      exact absurd hpos (Nat.lt_irrefl 0)
    · rw [e2] at c
      have h9 := key (j + 1) j (Nat.lt_succ_self j) (mb_lt e2) (mb_at e2) c
      unfold nb
      simp (disch := omega) only [t_X8_takenNow_23, ev_k_i, ev_kr_1]
      exact h9
theorem M_missesNow (ha : m_ac X zf y As H) {s : Nat} (hs : s ≤ 1000) (c : P (.inl (some (.int (nI (mm As s As.length 0))))) H n q) : ev_ok (ev_TT X) 282 0 [.ref y, .int (nI s), ev_J, ev_J] [] H n q P := by
  have hl60 := ha.2.2.2.2.2
  have hf := ac_f ha
  have hkl := ac_kl ha
  have hk13 := ac_k ha
  have key : ∀ d k t, k + d = As.length → P (.inl (some (.int (nI (t + mm As s d k))))) H n q → ev_ok (ev_TT X) 282 4 [.ref y, .int (nI s), .int (nI t), .int (nI k)] [] H n q P := by
    intro d
    induction d with
    | zero =>
      intro k t hk c
      have hi2 : As.length ≤ k := by omega
      simp (disch := omega) only [t_X8_missesNow_4, t_X8_missesNow_5, t_X8_missesNow_6, t_X8_missesNow_9, true_and, hf.1, hf.2, hkl]
      refine ac_size ha ?_
      simp (disch := omega) only [t_X8_missesNow_12, t_X8_missesNow_41, t_X8_missesNow_42, ↓reduceIte, ev_kr_1, nI_leI, hi2]
      exact c
    | succ d ih =>
      intro k t hk c
      have hi2 : ¬ As.length ≤ k := by omega
      rw [t_X8_missesNow_4]
      simp (disch := omega) only [t_X8_missesNow_5, t_X8_missesNow_6, t_X8_missesNow_9, true_and, hf.1, hf.2, hkl]
      refine ac_size ha ?_
      simp (disch := omega) only [t_X8_missesNow_12, t_X8_missesNow_15, t_X8_missesNow_16, t_X8_missesNow_17, t_X8_missesNow_18, t_X8_missesNow_19, ↓reduceIte, ev_kr_1, true_and, nI_leI, hi2, hk13]
      refine M_isHit ha hs (by omega) ?_
      unfold mm at c
      rcases e : mh As s k with _ | _
      · rw [e, if_neg Bool.false_ne_true] at c
        have hI := ih (k + 1) (t + 1) (by omega) (by rw [show t + 1 + mm As s d (k + 1) = t + (1 + mm As s d (k + 1)) from by omega]; exact c)
        simp (disch := omega) only [t_X8_missesNow_22, t_X8_missesNow_25, t_X8_missesNow_26, t_X8_missesNow_30, t_X8_missesNow_33, t_X8_missesNow_34, t_X8_missesNow_35, t_X8_missesNow_38, t_X8_one_0, t_X8_one_1, t_X8_one_4, t_X8_one_5, t_X8_one_9, ↓reduceIte, ev_k_i, ev_kr_1, not_true_eq_false, nI_1, show ¬ (1 : Int32) = 0 from by decide, not_true_eq_false, ev_bb_f]
        exact hI
      · rw [e, if_pos rfl, Nat.zero_add] at c
        have hI := ih (k + 1) t (by omega) c
        simp (disch := omega) only [t_X8_missesNow_22, t_X8_missesNow_29, t_X8_missesNow_30, t_X8_missesNow_33, t_X8_missesNow_34, t_X8_missesNow_35, t_X8_missesNow_38, t_X8_one_0, t_X8_one_1, t_X8_one_8, t_X8_one_9, ↓reduceIte, ev_k_i, ev_kr_1, not_false_eq_true, nI_1, show ¬ (1 : Int32) = 0 from by decide, not_false_eq_true, ev_bb_t, Int32.add_zero]
        exact hI
  have h9 := key As.length 0 0 (Nat.zero_add _) (by rw [Nat.zero_add]; exact c)
  rw [nI_0] at h9
  simp (disch := omega) only [t_X8_missesNow_0, t_X8_missesNow_1, t_X8_missesNow_2, t_X8_missesNow_3, ev_k_i]
  exact h9
theorem M_lostNow (ha : m_ac X zf y As H) {s : Nat} (hs : s ≤ 1000) (c : P (.inl (some (.int (nb (ml_n As s As.length))))) H n q) : ev_ok (ev_TT X) 281 0 [.ref y, .int (nI s), ev_J] [] H n q P := by
  have hl60 := ha.2.2.2.2.2
  have hf := ac_f ha
  have hkl := ac_kl ha
  have hk13 := ac_k ha
  have key : ∀ k, k ≤ As.length → P (.inl (some (.int (nb (ml_n As s k))))) H n q → ev_ok (ev_TT X) 281 10 [.ref y, .int (nI s), .int (nI k - 1)] [] H n q P := by
    intro k
    induction k with
    | zero =>
      intro hk c
      have hneg : nI 0 - 1 < 0 := by decide
      simp (disch := omega) only [t_X8_lostNow_10, t_X8_lostNow_11, t_X8_lostNow_46, t_X8_lostNow_47, ↓reduceIte, hneg]
      exact c
    | succ k ih =>
      intro hk c
      have hpos := nI_pos (n := k) (by omega)
      rw [nI_pred, t_X8_lostNow_10]
      simp (disch := omega) only [t_X8_lostNow_11, t_X8_lostNow_14, t_X8_lostNow_15, t_X8_lostNow_16, t_X8_lostNow_17, ↓reduceIte, true_and, hpos, hk13]
      refine M_isHit ha hs (by omega) ?_
      unfold ml_n at c
      rcases e : mh As s k with _ | _
      · rw [e, if_neg Bool.false_ne_true] at c
        simp (disch := omega) only [t_X8_lostNow_20, t_X8_lostNow_23, t_X8_lostNow_24, t_X8_lostNow_25, t_X8_lostNow_26, ↓reduceIte, ev_kr_1, true_and, not_true_eq_false, not_true_eq_false, ev_bb_f, hk13]
        refine M_keyWith ha hs (by omega) ?_
        rcases e2 : mkw As s k 20 0 with _ | a
        · rw [e2] at c
          have hI := ih (by omega) c
          unfold nb
          simp (disch := omega) only [t_X8_lostNow_29, t_X8_lostNow_30, t_X8_lostNow_40, t_X8_lostNow_43, ↓reduceIte, ev_k_i, ev_kr_1, ev_sub1]
          exact hI
        · rw [e2] at c
          have hal := mkw_lt e2
          have hm1 := ev_nm1 (show a < 2 ^ 31 by omega)
          have hK := fun (P : ev_O → ev_M → Nat → Nat → Prop) (c : P (.inl (some (.int (nI a)))) H n q) => M_keyWith (P := P) (n := n) (q := q) ha hs (d := s) (p := k) (by omega) (by rw [e2]; exact c)
          unfold nb at c ⊢
          simp (disch := omega) only [t_X8_lostNow_29, t_X8_lostNow_30, t_X8_lostNow_33, t_X8_lostNow_34, t_X8_lostNow_35, t_X8_lostNow_36, ↓reduceIte, ev_kr_1, true_and, hm1, hk13]
          refine hK _ ?_
          simp (disch := omega) only [t_X8_lostNow_39, ev_kr_1]
          exact c
      · rw [e, if_pos rfl] at c
        have hI := ih (by omega) c
        simp (disch := omega) only [t_X8_lostNow_20, t_X8_lostNow_40, t_X8_lostNow_43, ↓reduceIte, ev_k_i, ev_kr_1, not_false_eq_true, show ¬ (1 : Int32) = 0 from by decide, not_false_eq_true, ev_bb_t, ev_sub1]
        exact hI
  have h9 := key As.length (Nat.le_refl _) c
  simp (disch := omega) only [t_X8_lostNow_0, t_X8_lostNow_1, t_X8_lostNow_4, true_and, hf.1, hf.2, hkl]
  refine ac_size ha ?_
  simp (disch := omega) only [t_X8_lostNow_7, t_X8_lostNow_8, t_X8_lostNow_9, ev_k_i, ev_kr_1]
  exact h9
end M65
end
section
/-! ===== the reference: BEST (answer left open), the house ===== -/
section M66
variable {X : ev_E} {zf : Nat → Nat} {y : Nat} {As : List Nat} {H : ev_M} {n q : Nat} {P : ev_O → ev_M → Nat → Nat → Prop}
theorem gs_tle {m : Nat} {k : Nat} : ∀ e, (gs As m e).1 k ≤ e := by
  intro e
  induction e with
  | zero => exact Nat.le_refl 0
  | succ e ih =>
    by_cases h : gk As m e
    · obtain ⟨b, h1, h2⟩ := h
      rw [gs_y h1 h2]
      show (if b < k ∧ k < e then (gs As m e).1 k + 1 else (gs As m e).1 k) ≤ e + 1
      split <;> omega
    · rw [gs_n h]; omega
theorem M_bestNow (hx : ∀ c, m_ac X zf y As (ev_up H n c)) {m : Nat} (hm1 : 1 ≤ m) (hm6 : m ≤ 6) (c : ∀ (f : Nat → Int32), P (.inl (some (.int (nI (As.length - (gs As m As.length).2))))) (ev_up H n (.inl (0, 60, fun i => .int (f i)))) (n + 1) (q + 60)) : ev_ok (ev_TT X) 231 0 [.ref y, .int (nI m), ev_J, ev_J, ev_J, ev_J, ev_J, ev_J] [] H n q P := by
  have hl60 := (hx (.inl (0, 60, fun _ => .int 0))).2.2.2.2.2
  have hm1b : (-1 : Int32) + 1 = nI 0 := by decide
  have key : ∀ (d e : Nat) (hits : Int32) (f : Nat → Int32) (w5 w6 w7 : Value), e + d = As.length → hits = nI (gs As m e).2 → (∀ k, f k = nI ((gs As m e).1 k)) → ev_ok (ev_TT X) 231 10 [.ref y, .int (nI m), .ref n, .int hits, .int (nI e), w5, w6, w7] [] (ev_up H n (.inl (0, 60, fun i => .int (f i)))) (n + 1) (q + 60) P := by
    intro d
    induction d with
    | zero =>
      intro e hits f w5 w6 w7 he hh hff
      have ha := hx (.inl (0, 60, fun i => .int (f i)))
      have hf := ac_f ha
      have hkl := ac_kl ha
      have hi2 : As.length ≤ e := by omega
      have hc := c f
      have heq : e = As.length := by omega
      rw [heq] at hh
      have hsb : nI As.length - hits = nI (As.length - (gs As m As.length).2) := by
        rw [hh]; exact nI_sub9 (gs_le _)
      simp (disch := omega) only [t_X8_bestNow_10, t_X8_bestNow_12, t_X8_bestNow_13, t_X8_bestNow_16, true_and, hf.1, hf.2, hkl]
      refine ac_size ha ?_
      simp (disch := omega) only [t_X8_bestNow_19, t_X8_bestNow_143, t_X8_bestNow_144, t_X8_bestNow_147, ↓reduceIte, ev_kr_1, true_and, nI_leI, hi2, hf.1, hf.2, hkl]
      refine ac_size ha ?_
      simp (disch := omega) only [t_X8_bestNow_150, t_X8_bestNow_151, t_X8_bestNow_152, ev_kr_1, hsb]
      exact hc
    | succ d ih =>
      intro e hits f w5 w6 w7 he hh hff
      have ha := hx (.inl (0, 60, fun i => .int (f i)))
      have hf := ac_f ha
      have hkl := ac_kl ha
      have hk13 := ac_k ha
      have hel : e < As.length := by omega
      have hi2 : ¬ As.length ≤ e := by omega
      have hik := ac_ik ha hel
      have hlt := ac_lt ha hel
      have hend : ∀ (hits : Int32) (f : Nat → Int32) (w5 w6 w7 : Value), hits = nI (gs As m (e + 1)).2 → (∀ k, f k = nI ((gs As m (e + 1)).1 k)) → ev_ok (ev_TT X) 231 137 [.ref y, .int (nI m), .ref n, .int hits, .int (nI e), w5, w6, w7] [] (ev_up H n (.inl (0, 60, fun i => .int (f i)))) (n + 1) (q + 60) P := by
        intro hits f w5 w6 w7 g1 g2
        have hI := ih (e + 1) hits f w5 w6 w7 (by omega) g1 g2
        simp (disch := omega) only [t_X8_bestNow_137, t_X8_bestNow_140, ev_k_i, nI_1]
        exact hI
      have h99 : ∀ (is : Int32) (b : Nat) (w7 : Value), mb As (As.getD e 0) e = some b → (is = 0 ∧ ¬ gk As m e ∨ is = 1 ∧ ∀ k, k < e → b < k → (gs As m e).1 k + 1 < m) → ev_ok (ev_TT X) 231 99 [.ref y, .int (nI m), .ref n, .int hits, .int (nI e), .int (nI b), .int is, w7] [] (ev_up H n (.inl (0, 60, fun i => .int (f i)))) (n + 1) (q + 60) P := by
        intro is b w7 e2 his
        have hbe := mb_lt e2
        rcases his with ⟨rfl, hng⟩ | ⟨rfl, hall⟩
        · have hE := hend hits f (.int (nI b)) (.int 0) w7 (by rw [gs_n hng]; exact hh) (by rw [gs_n hng]; exact hff)
          simp (disch := omega) only [t_X8_bestNow_99, t_X8_bestNow_101, t_X8_bestNow_104, ↓reduceIte, not_true_eq_false, not_true_eq_false]
          exact hE
        · have loop2 : ∀ (d2 k : Nat) (f : Nat → Int32), k + d2 = e → b < k → (∀ z, f z = nI (if b < z ∧ z < k then (gs As m e).1 z + 1 else (gs As m e).1 z)) → ev_ok (ev_TT X) 231 116 [.ref y, .int (nI m), .ref n, .int (hits + 1), .int (nI e), .int (nI b), .int 1, .int (nI k)] [] (ev_up H n (.inl (0, 60, fun i => .int (f i)))) (n + 1) (q + 60) P := by
            intro d2
            induction d2 with
            | zero =>
              intro k f hk hbk hff2
              have hi3 : e ≤ k := by omega
              have hke : k = e := by omega
              subst hke
              have hE := hend (hits + 1) f (.int (nI b)) (.int 1) (.int (nI k)) (by rw [gs_y e2 hall, hh, ← nI_succ]) (fun z => by rw [gs_y e2 hall]; exact hff2 z)
              simp (disch := omega) only [t_X8_bestNow_116, t_X8_bestNow_118, t_X8_bestNow_120, ↓reduceIte, nI_leI, hi3]
              exact hE
            | succ d2 ih2 =>
              intro k f hk hbk hff2
              have hi3 : ¬ e ≤ k := by omega
              have hp := nI_pos' (n := k) (by omega)
              have hc60 : k < 60 := by omega
              have eu : updV (fun i => .int (f i)) k (.int (f k + 1)) = fun i => .int (ev_fu f k (f k + 1) i) := ev_updI
              have hI := ih2 (k + 1) (ev_fu f k (f k + 1)) (by omega) (by omega) (fun z => by
                unfold ev_fu
                by_cases hz : z = k
                · subst hz
                  rw [if_pos rfl, if_pos ⟨hbk, Nat.lt_succ_self z⟩, hff2 z, if_neg (fun w => Nat.lt_irrefl _ w.2), ← nI_succ]
                · rw [if_neg hz, hff2 z]
                  by_cases hzk : b < z ∧ z < k
                  · rw [if_pos hzk, if_pos ⟨hzk.1, by omega⟩]
                  · rw [if_neg hzk, if_neg (fun w => hzk ⟨w.1, by omega⟩)])
              rw [t_X8_bestNow_116]
              simp (disch := omega) only [t_X8_bestNow_118, t_X8_bestNow_120, t_X8_bestNow_123, t_X8_bestNow_124, t_X8_bestNow_126, t_X8_bestNow_127, t_X8_bestNow_128, t_X8_bestNow_129, t_X8_bestNow_130, t_X8_bestNow_131, t_X8_bestNow_134, ↓reduceIte, ev_k_i, ev_aG_y, ev_aS_y, ev_inA_0, and_true, true_and, nI_1, nI_leI, hi3, hp, hc60, nI_clamp, ev_lku_s, ev_up_s, ev_up_up, eu, ev_inA_0]
              exact hI
          have h9 := loop2 (e - (b + 1)) (b + 1) f (by omega) (by omega) (fun z => by rw [if_neg (by omega)]; exact hff z)
          simp (disch := omega) only [t_X8_bestNow_99, t_X8_bestNow_101, t_X8_bestNow_107, t_X8_bestNow_110, t_X8_bestNow_112, t_X8_bestNow_113, t_X8_bestNow_114, ↓reduceIte, ev_k_i, ev_k_r, not_false_eq_true, nI_1, show ¬ (1 : Int32) = 0 from by decide, not_false_eq_true]
          exact h9
      have loop1 : ∀ d2 k (is : Int32) (b : Nat), mb As (As.getD e 0) e = some b → b < k → (is = 0 ∧ ¬ gk As m e ∨ is = 1 ∧ ∀ z, z < k → b < z → (gs As m e).1 z + 1 < m) → k + d2 = e → ev_ok (ev_TT X) 231 64 [.ref y, .int (nI m), .ref n, .int hits, .int (nI e), .int (nI b), .int is, .int (nI k)] [] (ev_up H n (.inl (0, 60, fun i => .int (f i)))) (n + 1) (q + 60) P := by
        intro d2
        induction d2 with
        | zero =>
          intro k is b e2 hbk his hk
          have hi3 : e ≤ k := by omega
          have hke : k = e := by omega
          have h9 := h99 is b (.int (nI k)) e2 (by rw [hke] at his; exact his)
          simp (disch := omega) only [t_X8_bestNow_64, t_X8_bestNow_66, t_X8_bestNow_68, ↓reduceIte, nI_leI, hi3]
          exact h9
        | succ d2 ih2 =>
          intro k is b e2 hbk his hk
          have hi3 : ¬ e ≤ k := by omega
          have hp := nI_pos' (n := k) (by omega)
          have hc60 : k < 60 := by omega
          rcases his with ⟨rfl, hng⟩ | ⟨rfl, hall⟩
          · have h9 := h99 0 b (.int (nI k)) e2 (Or.inl ⟨rfl, hng⟩)
            rw [t_X8_bestNow_64]
            simp (disch := omega) only [t_X8_bestNow_66, t_X8_bestNow_68, t_X8_bestNow_71, t_X8_bestNow_73, ↓reduceIte, nI_leI, hi3]
            exact h9
          · have htk := gs_tle (As := As) (m := m) (k := k) e
            have hcm : (nI m - 1 ≤ f k) = (m - 1 ≤ (gs As m e).1 k) := by
              rw [hff k, show nI m - 1 = nI (m - 1) from nI_sub9 hm1]
              exact propext (nI_leI (by omega) (by omega))
            rw [t_X8_bestNow_64]
            by_cases hcmp : nI m - 1 ≤ f k
            · have hI0 := ih2 (k + 1) 0 b e2 (by omega) (Or.inl ⟨rfl, fun z => by
                obtain ⟨b', hb', hc'⟩ := z
                cases Option.some.inj (hb'.symm.trans e2)
                have h1 := hc' k (by omega) hbk
                have h2 := hcm.mp hcmp
                omega⟩) (by omega)
              simp (disch := omega) only [t_X8_bestNow_66, t_X8_bestNow_68, t_X8_bestNow_71, t_X8_bestNow_73, t_X8_bestNow_76, t_X8_bestNow_77, t_X8_bestNow_79, t_X8_bestNow_80, t_X8_bestNow_81, t_X8_bestNow_82, t_X8_bestNow_83, t_X8_bestNow_90, t_X8_bestNow_91, t_X8_bestNow_93, t_X8_bestNow_96, ↓reduceIte, ev_k_i, ev_aG_y, ev_inA_0, and_true, true_and, nI_1, show ¬ (1 : Int32) = 0 from by decide, nI_leI, hi3, hp, hc60, nI_clamp, ev_lku_s, ev_inA_0, hcmp]
              exact hI0
            · have hI1 := ih2 (k + 1) 1 b e2 (by omega) (Or.inr ⟨rfl, fun z h1 h2 => by
                by_cases hz : z = k
                · rw [hz]
                  have h3 : ¬ m - 1 ≤ (gs As m e).1 k := fun w => hcmp (hcm.mpr w)
                  omega
                · exact hall z (by omega) h2⟩) (by omega)
              simp (disch := omega) only [t_X8_bestNow_66, t_X8_bestNow_68, t_X8_bestNow_71, t_X8_bestNow_73, t_X8_bestNow_76, t_X8_bestNow_77, t_X8_bestNow_79, t_X8_bestNow_80, t_X8_bestNow_81, t_X8_bestNow_82, t_X8_bestNow_83, t_X8_bestNow_86, t_X8_bestNow_87, t_X8_bestNow_91, t_X8_bestNow_93, t_X8_bestNow_96, ↓reduceIte, ev_k_i, ev_aG_y, ev_inA_0, and_true, true_and, nI_1, show ¬ (1 : Int32) = 0 from by decide, nI_leI, hi3, hp, hc60, nI_clamp, ev_lku_s, ev_inA_0, hcmp]
              exact hI1
      rw [t_X8_bestNow_10]
      simp (disch := omega) only [t_X8_bestNow_12, t_X8_bestNow_13, t_X8_bestNow_16, true_and, hf.1, hf.2, hkl]
      refine ac_size ha ?_
      simp (disch := omega) only [t_X8_bestNow_19, t_X8_bestNow_22, t_X8_bestNow_23, t_X8_bestNow_24, t_X8_bestNow_27, t_X8_bestNow_29, ↓reduceIte, ev_kr_1, true_and, nI_leI, hi2, hf.1, hf.2, hkl]
      refine ac_get ha hel ?_
      simp (disch := omega) only [t_X8_bestNow_32, t_X8_bestNow_35, ev_kr_1, true_and, hik]
      refine ac_int ha hel ?_
      simp (disch := omega) only [t_X8_bestNow_38, t_X8_bestNow_40, ev_kr_1, true_and, hk13]
      refine M_before ha (by omega) (by omega) ?_
      rcases e2 : mb As (As.getD e 0) e with _ | b
      · have hng : ¬ gk As m e := fun z => by
          obtain ⟨b', hb', -⟩ := z
          rw [e2] at hb'
          cases hb'
        have hE := hend hits f (.int (-1)) (.int 0) (.int (nI 0)) (by rw [gs_n hng]; exact hh) (by rw [gs_n hng]; exact hff)
        unfold nb
        by_cases hz : e = 0
        · have hz2 : e ≤ 0 := by omega
          simp (disch := omega) only [t_X8_bestNow_43, t_X8_bestNow_45, t_X8_bestNow_47, t_X8_bestNow_48, t_X8_bestNow_55, t_X8_bestNow_56, t_X8_bestNow_58, t_X8_bestNow_60, t_X8_bestNow_61, t_X8_bestNow_62, t_X8_bestNow_64, t_X8_bestNow_66, t_X8_bestNow_68, t_X8_bestNow_99, t_X8_bestNow_101, t_X8_bestNow_104, ↓reduceIte, ev_k_i, ev_kr_1, not_true_eq_false, not_true_eq_false, hm1b, nI_leI, hz2]
          exact hE
        · have hz2 : ¬ e ≤ 0 := by omega
          simp (disch := omega) only [t_X8_bestNow_43, t_X8_bestNow_45, t_X8_bestNow_47, t_X8_bestNow_48, t_X8_bestNow_55, t_X8_bestNow_56, t_X8_bestNow_58, t_X8_bestNow_60, t_X8_bestNow_61, t_X8_bestNow_62, t_X8_bestNow_64, t_X8_bestNow_66, t_X8_bestNow_68, t_X8_bestNow_71, t_X8_bestNow_73, t_X8_bestNow_99, t_X8_bestNow_101, t_X8_bestNow_104, ↓reduceIte, ev_k_i, ev_kr_1, not_true_eq_false, not_true_eq_false, hm1b, nI_leI, hz2]
          exact hE
      · have hbe := mb_lt e2
        have hmb := ev_nm1 (show b < 2 ^ 31 by omega)
        have h9 := loop1 (e - (b + 1)) (b + 1) 1 b e2 (by omega) (Or.inr ⟨rfl, fun z h1 h2 => by omega⟩) (by omega)
        unfold nb
        simp (disch := omega) only [t_X8_bestNow_43, t_X8_bestNow_45, t_X8_bestNow_47, t_X8_bestNow_48, t_X8_bestNow_51, t_X8_bestNow_52, t_X8_bestNow_56, t_X8_bestNow_58, t_X8_bestNow_60, t_X8_bestNow_61, t_X8_bestNow_62, ↓reduceIte, ev_k_i, ev_kr_1, nI_1, hmb]
        exact h9
  have h9 := key As.length 0 0 (fun _ => 0) ev_J ev_J ev_J (Nat.zero_add _) rfl (fun _ => rfl)
  rw [nI_0] at h9
  have hp60 : (0 : Int32) ≤ 60 := by decide
  have hc60 : (60 : Int32).toNatClampNeg = 60 := rfl
  have hb60 : 60 ≤ 100000 := by omega
  simp (disch := omega) only [t_X8_bestNow_0, t_X8_bestNow_2, t_X8_bestNow_4, t_X8_bestNow_5, t_X8_bestNow_6, t_X8_bestNow_7, t_X8_bestNow_8, ev_k_i, ev_k_r, and_true, true_and, hp60, hc60, hb60]
  exact h9
end M66
def mt_cnt (T : Nat → ev_TS) : Nat → Nat
  | 0 => 0
  | i + 1 => mt_cnt T i + (T i).1.length
def mho (r : Int32 × Int32 × Int32) (T : Nat → ev_TS) (As : List Nat) (a : Nat) : Int32 := if a = 0 then nI (mt_cnt T 4) else if a = 1 then nI As.length else if a = 2 then nI (mu As 0 As.length 0) else if a = 3 then r.2.1 else r.2.2
def m_ax (X : ev_E) (zf : Nat → Nat) (As : List Nat) : Prop := ev_IC X zf ∧ (∀ k ∈ As, k < 20) ∧ As.length ≤ 60
section M66b
variable {X : ev_E} {zf : Nat → Nat} {y : Nat} {r : Int32 × Int32 × Int32} {T : Nat → ev_TS} {As : List Nat} {H : ev_M} {ow : Nat → Nat} {n q : Nat} {P : ev_O → ev_M → Nat → Nat → Prop}
theorem m_ac_of (hm : m_aw X zf y r T As H n ow) (hw : ev_low X H) (hA : m_ax X zf As) : m_ac X zf y As H := by
  refine ⟨⟨_, _, _, m_lk0 hm⟩, ?_, hA.1, hw, hA.2.1, hA.2.2⟩
  obtain ⟨-, -, -, e, ⟨mc, h1, h2⟩, -⟩ := hm
  exact ⟨mc, e, h1, h2⟩
theorem M_houseNow (hm : m_aw X zf y r T As H n ow) (hx : m_cx X zf y T As H n) (hA : m_ax X zf As) {a : Nat} (haL : a < 5) (c : ∀ H1, (∀ z, z < n → H1 z = H z) → (∀ z, n + 1 ≤ z → H1 z = none) → P (.inl (some (.int (mho r T As a)))) H1 (n + 1) (q + 5)) : ev_ok (ev_TT X) 257 0 [.ref y, .int (nI a), ev_J, ev_J, ev_J, ev_J, ev_J] [] H n q P := by
  have hx0 := hx
  obtain ⟨hZ, hw, hB, hn, hz, hT, hW⟩ := hx0
  have hB1 := hB.1
  have hl0 := m_lk0 hm
  have hk13 := m_k13 hm
  obtain ⟨f, hf1, hf2⟩ := m_lk1 hm
  have hax : ∀ cc, m_ac X zf y As (ev_up H n cc) := fun cc => m_ac_of (m_aw_ext hm hx (fun a ha => ev_up_n (by omega)) (Nat.le_succ n)) (fun a ha => (ev_up_n (by omega)).trans (hw a ha)) hA
  have hl60 := hA.2.2
  have hklH := ac_kl (m_ac_of hm hw hA)
  have h5 : ∀ w, ev_ok (ev_TT X) 257 44 [.ref y, .int (nI a), .int (nI (mt_cnt T 4)), .ref (y + 1), .int (nI 4), .int (nI 4), w] [] H n q P := by
    intro w
    have hpa := nI_pos' (n := a) (by omega)
    have hca := nI_clamp (n := a) (by omega)
    have hc' : ∀ g : Nat → Value, P (.inl (some (.int (mho r T As a)))) (ev_up H n (.inl (0, 5, g))) (n + 1) (q + 5) := fun g => c _ (fun z hz => ev_up_n (by omega)) (fun z hz' => (ev_up_n (by omega)).trans (hz z (by omega)))
    have hl0' := fun cc => (ev_lku_n (X := X) (h := H) (a := n) (b := y) (c := cc) (by omega)).trans hl0
    have hk13' : ∀ cc, ev_isK (ev_lk X (ev_up H n cc) y) 13 = True := fun cc => ac_k (hax cc)
    have hkl' : ∀ cc, ev_isK (ev_lk X (ev_up H n cc) (y + 10)) 4 = True := fun cc => ac_kl (hax cc)
    have h100 : 5 ≤ 100000 := by omega
    have z0 : (0 : Int32) = nI 0 := rfl
    simp (disch := omega) only [t_X8_houseNow_44, t_X8_houseNow_45, t_X8_houseNow_47, t_X8_houseNow_48, t_X8_houseNow_49, t_X8_houseNow_50, t_X8_houseNow_51, t_X8_houseNow_52, t_X8_houseNow_53, t_X8_houseNow_54, t_X8_houseNow_57, ev_aS_y, ev_inA_0, and_true, true_and, ev_fG_4, ev_isO_4, ev_z0, ev_z1, ev_lku_n, ev_up_s, show (5 : Int32).toNatClampNeg = 5 from rfl, show (0 : Int32) ≤ 5 from by decide, hl0, h100, hklH, ev_inA_0, ev_up_up, show (0 : Nat) < 5 from by omega]
    refine ac_size (hax _) ?_
    simp (disch := omega) only [t_X8_houseNow_60, t_X8_houseNow_61, t_X8_houseNow_62, t_X8_houseNow_63, t_X8_houseNow_64, t_X8_houseNow_65, t_X8_houseNow_66, t_X8_houseNow_69, ev_kr_1, ev_aS_y, ev_inA_0, and_true, true_and, ev_fG_4, ev_isO_4, show (0 : Int32) ≤ 1 from by decide, show (1 : Int32).toNatClampNeg = 1 from rfl, ev_lku_n, ev_up_s, hl0, hklH, ev_inA_0, ev_up_up, show (1 : Nat) < 5 from by omega]
    refine ac_size (hax _) ?_
    simp (disch := omega) only [t_X8_houseNow_72, ev_kr_1, true_and, ev_lku_n, hk13, z0]
    refine M_unlike (fr := 0) (t := As.length) (hax _) (by omega) (Nat.le_refl _) ?_
    rw [Nat.sub_zero]
    simp (disch := omega) only [t_X8_houseNow_75, t_X8_houseNow_76, t_X8_houseNow_77, t_X8_houseNow_78, t_X8_houseNow_79, t_X8_houseNow_82, t_X8_houseNow_83, t_X8_houseNow_84, t_X8_houseNow_85, t_X8_houseNow_86, t_X8_houseNow_89, t_X8_houseNow_90, t_X8_houseNow_91, t_X8_houseNow_92, ev_k_i, ev_kr_1, ev_aS_y, ev_inA_0, and_true, true_and, ev_fG_1, ev_fG_2, ev_isO_1, ev_isO_2, ev_lku_n, ev_up_s, show (2 : Int32).toNatClampNeg = 2 from rfl, show (3 : Int32).toNatClampNeg = 3 from rfl, show (4 : Int32).toNatClampNeg = 4 from rfl, show (0 : Int32) ≤ 2 from by decide, show (0 : Int32) ≤ 3 from by decide, show (0 : Int32) ≤ 4 from by decide, hl0, ev_inA_0, ev_up_up, show (2 : Nat) < 5 from by omega, show (3 : Nat) < 5 from by omega, show (4 : Nat) < 5 from by omega]
    have ha' : a = 0 ∨ a = 1 ∨ a = 2 ∨ a = 3 ∨ a = 4 := by omega
    rcases ha' with rfl | rfl | rfl | rfl | rfl <;> (
      unfold mho at hc'
      simp only [show ¬ (1 : Nat) = 0 from by decide, show ¬ (2 : Nat) = 0 from by decide, show ¬ (2 : Nat) = 1 from by decide, show ¬ (3 : Nat) = 0 from by decide, show ¬ (3 : Nat) = 1 from by decide, show ¬ (3 : Nat) = 2 from by decide, show ¬ (4 : Nat) = 0 from by decide, show ¬ (4 : Nat) = 1 from by decide, show ¬ (4 : Nat) = 2 from by decide, show ¬ (4 : Nat) = 3 from by decide, ↓reduceIte] at hc'
      simp (disch := omega) only [t_X8_houseNow_93, t_X8_houseNow_94, ev_aG_y, ev_inA_0, and_true, true_and, ev_lku_s, hpa, hca, ev_inA_0, updV_s, updV_n, show (0 : Nat) < 5 from by omega, show (1 : Nat) < 5 from by omega, show (2 : Nat) < 5 from by omega, show (3 : Nat) < 5 from by omega, show (4 : Nat) < 5 from by omega]
      exact hc' _)
  have key : ∀ d i w, i + d = 4 → ev_ok (ev_TT X) 257 14 [.ref y, .int (nI a), .int (nI (mt_cnt T i)), .ref (y + 1), .int (nI 4), .int (nI i), w] [] H n q P := by
    intro d
    induction d with
    | zero =>
      intro i w hi
      have hi2 : 4 ≤ i := by omega
      have e : i = 4 := by omega
      subst e
      have h9 := h5 w
      simp (disch := omega) only [t_X8_houseNow_14, t_X8_houseNow_16, t_X8_houseNow_18, ↓reduceIte, nI_leI, hi2]
      exact h9
    | succ d ih =>
      intro i w hi
      have hi4 : i < 4 := by omega
      have hi2 : ¬ 4 ≤ i := by omega
      have hp := nI_pos' (n := i) (by omega)
      have hfi := hf2 i hi4
      obtain ⟨h1, qs, h2, h3⟩ := hm.2.2.1 i hi4
      have h1' := ev_lk_s (X := X) h1
      unfold m_tbc at h1'
      have hkl := ML_k (X := X) h2
      have hI := ih (i + 1) (.ref (y + 2 + 2 * i)) (by omega)
      have e : nI (mt_cnt T i) + nI qs.length = nI (mt_cnt T (i + 1)) := by
        rw [← m_ln h3]
        exact nI_add _ _
      rw [t_X8_houseNow_14]
      simp (disch := omega) only [t_X8_houseNow_16, t_X8_houseNow_18, t_X8_houseNow_21, t_X8_houseNow_22, t_X8_houseNow_24, t_X8_houseNow_25, t_X8_houseNow_27, t_X8_houseNow_28, t_X8_houseNow_30, t_X8_houseNow_33, ↓reduceIte, ev_k_i, ev_aG_y, and_true, true_and, ev_fG_0, ev_isO_0, nI_leI, hi2, hp, nI_clamp, hi4, hf1, hfi, ev_inA_5, h1', hkl]
      refine ML_size h2 ?_
      simp (disch := omega) only [t_X8_houseNow_36, t_X8_houseNow_37, t_X8_houseNow_38, t_X8_houseNow_41, ev_k_i, ev_kr_1, nI_1, e]
      exact hI
  have h9 := key 4 0 ev_J (by omega)
  have e0 : mt_cnt T 0 = 0 := rfl
  rw [e0, nI_0] at h9
  simp (disch := omega) only [t_X8_houseNow_0, t_X8_houseNow_1, t_X8_houseNow_2, t_X8_houseNow_3, t_X8_houseNow_6, t_X8_houseNow_7, t_X8_houseNow_8, t_X8_houseNow_9, t_X8_houseNow_11, t_X8_houseNow_12, ev_k_i, ev_k_r, ev_aN_y, true_and, ev_fG_3, ev_isO_3, ev_ofN, hl0, hf1, ev_isA_5, ev_ofN]
  exact h9
end M66b
end
section
/-! ===== the reference: an asking ===== -/
theorem m_zok_of {X : ev_E} {zf : Nat → Nat} {As : List Nat} (hA : m_ax X zf As) : m_zok X zf As := by
  intro k hk
  have h20 := hA.2.1 k hk
  obtain ⟨⟨N, cf, i1, i2, i3, i4, i5⟩, -⟩ := hA
  obtain ⟨j1, j2, j3⟩ := i5 k (by omega)
  exact ⟨j3, _, j2⟩
def mhits (d : Nat) : Int32 := if d = 0 then 0 else if d ≤ 6 then nI (7 - d) else 0
section M67
variable {X : ev_E} {zf : Nat → Nat} {y : Nat} {r : Int32 × Int32 × Int32} {T : Nat → ev_TS} {As : List Nat} {H : ev_M} {ow : Nat → Nat} {n q : Nat} {P : ev_O → ev_M → Nat → Nat → Prop}
theorem M_hitsOf {d : Nat} (hd : d ≤ 1000) (c : P (.inl (some (.int (mhits d)))) H n q) : ev_ok (ev_TT X) 64 0 [.ref y, .int (nI d)] [] H n q P := by
  have h6 : (6 : Int32) = nI 6 := rfl
  have h7 : (7 : Int32) = nI 7 := rfl
  unfold mhits at c
  by_cases e : d = 0
  · subst e
    rw [if_pos rfl] at c
    simp (disch := omega) only [t_X8_hitsOf_0, t_X8_hitsOf_1, t_X8_hitsOf_10, t_X8_hitsOf_11, t_X8_hitsOf_18, ↓reduceIte, nI_0]
    exact c
  · rw [if_neg e] at c
    have e1 : ¬ nI d = 0 := nI_ne0 (by omega) (by omega)
    by_cases e2 : d ≤ 6
    · rw [if_pos e2] at c
      have e3 : nI 7 - nI d = nI (7 - d) := pk_sub (by omega)
      simp (disch := omega) only [t_X8_hitsOf_0, t_X8_hitsOf_1, t_X8_hitsOf_4, t_X8_hitsOf_5, t_X8_hitsOf_7, t_X8_hitsOf_14, t_X8_hitsOf_16, t_X8_hitsOf_17, t_X8_hitsOf_18, ↓reduceIte, e1, h6, h7, nI_leI, e2, e3]
      exact c
    · rw [if_neg e2] at c
      simp (disch := omega) only [t_X8_hitsOf_0, t_X8_hitsOf_1, t_X8_hitsOf_4, t_X8_hitsOf_5, t_X8_hitsOf_7, t_X8_hitsOf_10, t_X8_hitsOf_11, t_X8_hitsOf_18, ↓reduceIte, e1, h6, nI_leI, e2]
      exact c
theorem m_ax_app {As : List Nat} (hA : m_ax X zf As) {a : Nat} (ha : a < 20) (hl : As.length < 60) : m_ax X zf (As ++ [a]) := by
  refine ⟨hA.1, fun k hk => ?_, by rw [List.length_append, List.length_singleton]; omega⟩
  rcases List.mem_append.mp hk with h | h
  · exact hA.2.1 k h
  · rw [List.mem_singleton.mp h]; exact ha
theorem M_asks (hm : m_aw X zf y r T As H n ow) (hx : m_cx X zf y T As H n) (hA : m_ax X zf As) {a : Nat} (ha20 : a < 20) (hl : As.length < 60)
    (c : ∀ H1 n1 q1 ow1, m_aw X zf y r T (As ++ [a]) H1 n1 ow1 → (∀ z, z < y ∨ z = y + 11 → H1 z = H z) → (∀ z, n1 ≤ z → H1 z = none) → n ≤ n1 → n1 ≤ n + 1 → q ≤ q1 → q1 ≤ q + 90 → ev_low X H1 → P (.inl (some (.int (mhits (md As a As.length))))) H1 n1 q1) : ev_ok (ev_TT X) 278 0 [.ref y, .int (nI a), ev_J] [] H n q P := by
  have hx0 := hx
  obtain ⟨hZ, hw, hB, hn, hz, hT, hW⟩ := hx0
  have hB1 := hB.1
  have hB3 := hB.2.2
  have ha := m_ac_of hm hw hA
  have hf := ac_f ha
  have hkl := ac_kl ha
  have hk13 := ac_k ha
  simp (disch := omega) only [t_X8_asks_0, t_X8_asks_1, t_X8_asks_2, t_X8_asks_3, t_X8_asks_6, true_and, hf.1, hf.2, hkl]
  refine ac_size ha ?_
  simp (disch := omega) only [t_X8_asks_9, ev_kr_1, true_and, hk13]
  refine M_depthOf ha (by omega) (Nat.le_refl _) ?_
  have hml := md_le (As := As) (a := a) (p := As.length)
  simp (disch := omega) only [t_X8_asks_12, t_X8_asks_13, t_X8_asks_14, t_X8_asks_17, t_X8_asks_18, ev_k_i, ev_kr_1, true_and, hf.1, hf.2]
  refine I_val hA.1 hw (by omega) ?_
  simp (disch := omega) only [t_X8_asks_21, ev_kr_1, true_and, hkl]
  have hm0 := hm
  obtain ⟨g1, ⟨f, g2, g2b⟩, g3, e, g4, g5⟩ := hm0
  have hzc : ∃ v, X.2.2.2.2.1 (zf a) = some (.inr (2, v)) ∧ zf a < X.1.heap.size := by
    obtain ⟨N, cf, i1, i2, i3, i4, i5⟩ := hA.1
    obtain ⟨j1, j2, j3⟩ := i5 a (by omega)
    exact ⟨_, j2, j3⟩
  obtain ⟨zv, hz1, hz2⟩ := hzc
  have hel : ev_el X H (.ref (zf a)) := Or.inr ⟨_, rfl, Or.inr ⟨2, _, rfl, rfl, zv, ev_lk_o (hw _ hz2) hz1⟩⟩
  refine L_add g4 (by rw [List.length_map]; omega) hel (by omega) (hz n (Nat.le_refl n)) (hB.2.1 n (by omega)) (by omega) fun H1 e1 n1 q1 f1 f2 f3 => ?_
  have hn1 : n ≤ n1 ∧ n1 ≤ n + 1 ∧ q ≤ q1 ∧ q1 ≤ q + 90 := by
    rcases f3 with ⟨a1, b1, c1, -⟩ | ⟨a1, b1, c1, d1⟩
    · exact ⟨by omega, by omega, by omega, by omega⟩
    · exact ⟨by omega, by omega, c1, d1⟩
  have hee : ∀ z, ¬ (y + 12 ≤ z ∧ z < n ∧ ow z = 4) → (¬ z = e ∨ H e = none) := fun z hzz => by
    rcases g5 with ⟨-, -, g5⟩ | g5
    · exact Or.inr g5
    · exact Or.inl fun zz => hzz (zz ▸ g5)
  have hlow1 : ev_low X H1 := fun z hzz => (f2 z (by omega) (hee z (fun w => by omega)) (Or.inl (by omega))).trans (hw z hzz)
  have hm1 : m_aw X zf y r T (As ++ [a]) H1 n1 (m_ow ow n 4) := by
    refine ⟨(f2 y (by omega) (hee y (fun w => by omega)) (Or.inl (by omega))).trans g1, ⟨f, (f2 _ (by omega) (hee _ (fun w => by omega)) (Or.inl (by omega))).trans g2, g2b⟩, fun j hj => ?_, e1, ?_, ?_⟩
    · obtain ⟨a1, qs', a2, a3⟩ := g3 j hj
      refine ⟨(f2 _ (by omega) (hee _ (fun w => by omega)) (Or.inl (by omega))).trans a1, qs', m_lst_cg a2 hn1.1 (fun z hzz => ?_) (fun z b1 b2 b3 => (m_ow_l b2).trans b3), a3⟩
      rcases hzz with rfl | ⟨b1, b2, b3⟩ | ⟨b1, b2⟩
      · exact f2 _ (by omega) (hee _ (fun w => by omega)) (Or.inl (by omega))
      · exact f2 z (by omega) (hee z (fun w => by omega)) (Or.inl (by omega))
      · exact f2 z (by omega) (hee z (fun w => by omega)) (Or.inl (by omega))
    · rw [List.map_append]
      exact f1
    · rcases f3 with ⟨a1, b1, c1, cc, d1⟩ | ⟨a1, b1, c1, d1⟩
      · rcases g5 with ⟨-, -, g5⟩ | g5
        · rw [g5] at d1; cases d1
        · right
          rw [a1]
          exact ⟨g5.1, by omega, (m_ow_l g5.2.1).trans g5.2.2⟩
      · right
        exact ⟨by omega, by omega, m_ow_g (by omega)⟩
  have hk1 := m_k13 hm1
  have hfr : ∀ z, z < y ∨ z = y + 11 → H1 z = H z := fun z hzz => f2 z (by omega) (hee z (fun w => by omega)) (Or.inl (by omega))
  have hfs : ∀ z, n1 ≤ z → H1 z = none := fun z hzz => (f2 z (by omega) (hee z (fun w => by omega)) (by rcases f3 with ⟨a1, b1, -⟩ | ⟨a1, b1, -⟩; exact Or.inr b1; exact Or.inl (by omega))).trans (hz z (by omega))
  simp (disch := omega) only [t_X8_asks_24_i, t_X8_asks_25, t_X8_asks_26, t_X8_asks_27, ev_kr_1, true_and, hk1]
  refine M_hitsOf (by omega) ?_
  simp (disch := omega) only [t_X8_asks_30, ev_kr_1]
  exact c H1 n1 q1 _ hm1 hfr hfs hn1.1 hn1.2.1 hn1.2.2.1 hn1.2.2.2 hlow1
end M67
end
section
/-! ===== the reference: calls on its askings ===== -/
section M68
variable {X : ev_E} {zf : Nat → Nat} {y : Nat} {r : Int32 × Int32 × Int32} {T : Nat → ev_TS} {As : List Nat} {H : ev_M} {ow : Nat → Nat} {n q : Nat} {P : ev_O → ev_M → Nat → Nat → Prop}
theorem MM_asked (hm : m_aw X zf y r T As H n ow) (hx : m_cx X zf y T As H n) (hA : m_ax X zf As) (c : ∀ H1, m_post X zf y H n q (0, r.2) T As H1 n q → P (.inl (some (.int (nI As.length)))) H1 n q) : ev_ok (ev_TT X) 115 0 [.ref y] [] H n q P := by
  have hx0 := hx
  obtain ⟨hZ, hw, hB, hn, hz, hT, hW⟩ := hx0
  have h0 := m_h0 hm
  have hl0 := m_lk0 hm
  have hk13 := m_k13 hm
  have hl60 := hA.2.2
  have ha0 := m_ac_of hm hw hA
  have hf0 := ac_f ha0
  have hkl0 := ac_kl ha0
  have hm1 := m_aw_top hm hZ hw hB (0, r.2)
  have hx1 := m_cx_top hx (0, r.2)
  have hp0 : m_post X zf y H n q (0, r.2) T As (ev_up H y (m_top y (0, r.2))) n q := m_post_top hm hZ hw hB hn hz (0, r.2)
  have hup := fun (r2 : Int32 × Int32 × Int32) (T2 : Nat → ev_TS) (As2 : List Nat) (H2 : ev_M) (n2 q2 : Nat) => @m_post_up X zf y r2 T2 As2 H H2 n q (0, r.2) n2 q2
  have hgo : ∀ H1, m_aw X zf y (0, r.2) T As H1 n ow → m_cx X zf y T As H1 n → m_post X zf y H n q (0, r.2) T As H1 n q → (∀ (r2 : Int32 × Int32 × Int32) (T2 : Nat → ev_TS) (As2 : List Nat) (H2 : ev_M) (n2 q2 : Nat), m_post X zf y H1 n q r2 T2 As2 H2 n2 q2 → m_post X zf y H n q r2 T2 As2 H2 n2 q2) → ev_ok (ev_TT X) 115 5 [.ref y] [] H1 n q P := by
    intro H1 hm1 hx1 hp0 hup
    have hw1 := hx1.2.1
    have hz1 := hx1.2.2.2.2.1
    have ha := m_ac_of hm1 hw1 hA
    have hf := ac_f ha
    have hkl := ac_kl ha
    have hk13 := ac_k ha
    have hl10 := m_lk0 hm1
    have h10 := m_h0 hm1
    simp (disch := omega) only [t_X8_asked_5, t_X8_asked_6, t_X8_asked_9, true_and, hf.1, hf.2, hkl]
    refine ac_size ha ?_
    simp (disch := omega) only [t_X8_asked_12, ev_kr_1]
    exact c _ hp0
  simp (disch := omega) only [t_X8_asked_0, t_X8_asked_1, t_X8_asked_2, ev_ft_I, and_true, true_and, ev_fS_0, ev_isO_0, h0]
  exact hgo _ hm1 hx1 hp0 hup
theorem MM_askedAt (hm : m_aw X zf y r T As H n ow) (hx : m_cx X zf y T As H n) (hA : m_ax X zf As) {p : Int32} (c0 : ¬ (0 ≤ p ∧ p < nI As.length) → ∀ H1, m_post X zf y H n q (0, r.2) T As H1 n q → P (.inl (some (.int (-1)))) H1 n q)
    (c1 : ∀ j, j < As.length → p = nI j → ∀ H1, m_post X zf y H n q (0, r.2) T As H1 n q → P (.inl (some (.int (nI (As.getD j 0))))) H1 n q) : ev_ok (ev_TT X) 209 0 [.ref y, .int p] [] H n q P := by
  have hx0 := hx
  obtain ⟨hZ, hw, hB, hn, hz, hT, hW⟩ := hx0
  have h0 := m_h0 hm
  have hl0 := m_lk0 hm
  have hk13 := m_k13 hm
  have hl60 := hA.2.2
  have ha0 := m_ac_of hm hw hA
  have hf0 := ac_f ha0
  have hkl0 := ac_kl ha0
  have hm1 := m_aw_top hm hZ hw hB (0, r.2)
  have hx1 := m_cx_top hx (0, r.2)
  have hp0 : m_post X zf y H n q (0, r.2) T As (ev_up H y (m_top y (0, r.2))) n q := m_post_top hm hZ hw hB hn hz (0, r.2)
  have hup := fun (r2 : Int32 × Int32 × Int32) (T2 : Nat → ev_TS) (As2 : List Nat) (H2 : ev_M) (n2 q2 : Nat) => @m_post_up X zf y r2 T2 As2 H H2 n q (0, r.2) n2 q2
  have hgo : ∀ H1, m_aw X zf y (0, r.2) T As H1 n ow → m_cx X zf y T As H1 n → m_post X zf y H n q (0, r.2) T As H1 n q → (∀ (r2 : Int32 × Int32 × Int32) (T2 : Nat → ev_TS) (As2 : List Nat) (H2 : ev_M) (n2 q2 : Nat), m_post X zf y H1 n q r2 T2 As2 H2 n2 q2 → m_post X zf y H n q r2 T2 As2 H2 n2 q2) → ev_ok (ev_TT X) 209 5 [.ref y, .int p] [] H1 n q P := by
    intro H1 hm1 hx1 hp0 hup
    have hw1 := hx1.2.1
    have hz1 := hx1.2.2.2.2.1
    have ha := m_ac_of hm1 hw1 hA
    have hf := ac_f ha
    have hkl := ac_kl ha
    have hk13 := ac_k ha
    have hl10 := m_lk0 hm1
    have h10 := m_h0 hm1
    simp (disch := omega) only [t_X8_askedAt_5, t_X8_askedAt_6, t_X8_askedAt_7, t_X8_askedAt_10, true_and, hf.1, hf.2, hkl]
    refine ac_size ha ?_
    rcases pk_ix p (n := As.length) (by omega) with hb | hb | ⟨j, hj, rfl⟩
    · simp (disch := omega) only [t_X8_askedAt_13, t_X8_askedAt_16, t_X8_askedAt_19, t_X8_askedAt_20, t_X8_askedAt_37, ↓reduceIte, ev_kr_1, show ¬ (1 : Int32) = 0 from by decide, M_isOut_y (Or.inl hb)]
      exact c0 (fun z => Int32.not_le.mpr hb z.1) _ hp0
    · simp (disch := omega) only [t_X8_askedAt_13, t_X8_askedAt_16, t_X8_askedAt_19, t_X8_askedAt_20, t_X8_askedAt_37, ↓reduceIte, ev_kr_1, show ¬ (1 : Int32) = 0 from by decide, M_isOut_y (Or.inr hb)]
      exact c0 (fun z => Int32.not_lt.mpr hb z.2) _ hp0
    · have hik := ac_ik ha hj
      simp (disch := omega) only [t_X8_askedAt_13, t_X8_askedAt_16, t_X8_askedAt_23, t_X8_askedAt_24, t_X8_askedAt_27, t_X8_askedAt_28, ↓reduceIte, ev_kr_1, true_and, M_isOut_i hj (by omega), hf.1, hf.2, hkl]
      refine ac_get ha hj ?_
      simp (disch := omega) only [t_X8_askedAt_31, t_X8_askedAt_34, ev_kr_1, true_and, hik]
      refine ac_int ha hj ?_
      simp (disch := omega) only [t_X8_askedAt_37, ev_kr_1]
      exact c1 j hj rfl _ hp0
  simp (disch := omega) only [t_X8_askedAt_0, t_X8_askedAt_1, t_X8_askedAt_2, ev_ft_I, and_true, true_and, ev_fS_0, ev_isO_0, h0]
  exact hgo _ hm1 hx1 hp0 hup
theorem MM_depthAt (hm : m_aw X zf y r T As H n ow) (hx : m_cx X zf y T As H n) (hA : m_ax X zf As) {p : Int32} (c0 : ¬ (0 ≤ p ∧ p < nI As.length) → ∀ H1, m_post X zf y H n q (0, r.2) T As H1 n q → P (.inl (some (.int (-1)))) H1 n q)
    (c1 : ∀ j, j < As.length → p = nI j → ∀ H1, m_post X zf y H n q (0, r.2) T As H1 n q → P (.inl (some (.int (nI (md As (As.getD j 0) j))))) H1 n q) : ev_ok (ev_TT X) 266 0 [.ref y, .int p] [] H n q P := by
  have hx0 := hx
  obtain ⟨hZ, hw, hB, hn, hz, hT, hW⟩ := hx0
  have h0 := m_h0 hm
  have hl0 := m_lk0 hm
  have hk13 := m_k13 hm
  have hl60 := hA.2.2
  have ha0 := m_ac_of hm hw hA
  have hf0 := ac_f ha0
  have hkl0 := ac_kl ha0
  have hm1 := m_aw_top hm hZ hw hB (0, r.2)
  have hx1 := m_cx_top hx (0, r.2)
  have hp0 : m_post X zf y H n q (0, r.2) T As (ev_up H y (m_top y (0, r.2))) n q := m_post_top hm hZ hw hB hn hz (0, r.2)
  have hup := fun (r2 : Int32 × Int32 × Int32) (T2 : Nat → ev_TS) (As2 : List Nat) (H2 : ev_M) (n2 q2 : Nat) => @m_post_up X zf y r2 T2 As2 H H2 n q (0, r.2) n2 q2
  have hgo : ∀ H1, m_aw X zf y (0, r.2) T As H1 n ow → m_cx X zf y T As H1 n → m_post X zf y H n q (0, r.2) T As H1 n q → (∀ (r2 : Int32 × Int32 × Int32) (T2 : Nat → ev_TS) (As2 : List Nat) (H2 : ev_M) (n2 q2 : Nat), m_post X zf y H1 n q r2 T2 As2 H2 n2 q2 → m_post X zf y H n q r2 T2 As2 H2 n2 q2) → ev_ok (ev_TT X) 266 5 [.ref y, .int p] [] H1 n q P := by
    intro H1 hm1 hx1 hp0 hup
    have hw1 := hx1.2.1
    have hz1 := hx1.2.2.2.2.1
    have ha := m_ac_of hm1 hw1 hA
    have hf := ac_f ha
    have hkl := ac_kl ha
    have hk13 := ac_k ha
    have hl10 := m_lk0 hm1
    have h10 := m_h0 hm1
    simp (disch := omega) only [t_X8_depthAt_5, t_X8_depthAt_6, t_X8_depthAt_7, t_X8_depthAt_10, true_and, hf.1, hf.2, hkl]
    refine ac_size ha ?_
    rcases pk_ix p (n := As.length) (by omega) with hb | hb | ⟨j, hj, rfl⟩
    · simp (disch := omega) only [t_X8_depthAt_13, t_X8_depthAt_16, t_X8_depthAt_19, t_X8_depthAt_20, t_X8_depthAt_42, ↓reduceIte, ev_kr_1, show ¬ (1 : Int32) = 0 from by decide, M_isOut_y (Or.inl hb)]
      exact c0 (fun z => Int32.not_le.mpr hb z.1) _ hp0
    · simp (disch := omega) only [t_X8_depthAt_13, t_X8_depthAt_16, t_X8_depthAt_19, t_X8_depthAt_20, t_X8_depthAt_42, ↓reduceIte, ev_kr_1, show ¬ (1 : Int32) = 0 from by decide, M_isOut_y (Or.inr hb)]
      exact c0 (fun z => Int32.not_lt.mpr hb z.2) _ hp0
    · have hik := ac_ik ha hj
      simp (disch := omega) only [t_X8_depthAt_13, t_X8_depthAt_16, t_X8_depthAt_23, t_X8_depthAt_24, t_X8_depthAt_25, t_X8_depthAt_28, t_X8_depthAt_29, ↓reduceIte, ev_kr_1, true_and, M_isOut_i hj (by omega), hf.1, hf.2, hkl]
      refine ac_get ha hj ?_
      simp (disch := omega) only [t_X8_depthAt_32, t_X8_depthAt_35, ev_kr_1, true_and, hik]
      refine ac_int ha hj ?_
      have hlt := ac_lt ha hj
      simp (disch := omega) only [t_X8_depthAt_38, t_X8_depthAt_39, ev_kr_1, true_and, hk13]
      refine M_depthOf ha (by omega) (by omega) ?_
      simp (disch := omega) only [t_X8_depthAt_42, ev_kr_1]
      exact c1 j hj rfl _ hp0
  simp (disch := omega) only [t_X8_depthAt_0, t_X8_depthAt_1, t_X8_depthAt_2, ev_ft_I, and_true, true_and, ev_fS_0, ev_isO_0, h0]
  exact hgo _ hm1 hx1 hp0 hup
def mwd (As : List Nat) (d : Int32) : Nat → Nat → Nat
  | 0, _ => 0
  | e + 1, k => (if nI (md As (As.getD k 0) k) = d then 1 else 0) + mwd As d e (k + 1)
theorem MM_withDepth (hm : m_aw X zf y r T As H n ow) (hx : m_cx X zf y T As H n) (hA : m_ax X zf As) {d : Int32} (c : ∀ H1, m_post X zf y H n q (0, r.2) T As H1 n q → P (.inl (some (.int (nI (mwd As d As.length 0))))) H1 n q) : ev_ok (ev_TT X) 271 0 [.ref y, .int d, ev_J, ev_J] [] H n q P := by
  have hx0 := hx
  obtain ⟨hZ, hw, hB, hn, hz, hT, hW⟩ := hx0
  have h0 := m_h0 hm
  have hl0 := m_lk0 hm
  have hk13 := m_k13 hm
  have hl60 := hA.2.2
  have ha0 := m_ac_of hm hw hA
  have hf0 := ac_f ha0
  have hkl0 := ac_kl ha0
  have hm1 := m_aw_top hm hZ hw hB (0, r.2)
  have hx1 := m_cx_top hx (0, r.2)
  have hp0 : m_post X zf y H n q (0, r.2) T As (ev_up H y (m_top y (0, r.2))) n q := m_post_top hm hZ hw hB hn hz (0, r.2)
  have hup := fun (r2 : Int32 × Int32 × Int32) (T2 : Nat → ev_TS) (As2 : List Nat) (H2 : ev_M) (n2 q2 : Nat) => @m_post_up X zf y r2 T2 As2 H H2 n q (0, r.2) n2 q2
  have hgo : ∀ H1, m_aw X zf y (0, r.2) T As H1 n ow → m_cx X zf y T As H1 n → m_post X zf y H n q (0, r.2) T As H1 n q → (∀ (r2 : Int32 × Int32 × Int32) (T2 : Nat → ev_TS) (As2 : List Nat) (H2 : ev_M) (n2 q2 : Nat), m_post X zf y H1 n q r2 T2 As2 H2 n2 q2 → m_post X zf y H n q r2 T2 As2 H2 n2 q2) → ev_ok (ev_TT X) 271 5 [.ref y, .int d, ev_J, ev_J] [] H1 n q P := by
    intro H1 hm1 hx1 hp0 hup
    have hw1 := hx1.2.1
    have hz1 := hx1.2.2.2.2.1
    have ha := m_ac_of hm1 hw1 hA
    have hf := ac_f ha
    have hkl := ac_kl ha
    have hk13 := ac_k ha
    have hl10 := m_lk0 hm1
    have h10 := m_h0 hm1
    have key : ∀ e k t, k + e = As.length → P (.inl (some (.int (nI (t + mwd As d e k))))) H1 n q → ev_ok (ev_TT X) 271 9 [.ref y, .int d, .int (nI t), .int (nI k)] [] H1 n q P := by
      intro e
      induction e with
      | zero =>
        intro k t hk c
        have hi2 : As.length ≤ k := by omega
        simp (disch := omega) only [t_X8_withDepth_9, t_X8_withDepth_10, t_X8_withDepth_11, t_X8_withDepth_14, true_and, hf.1, hf.2, hkl]
        refine ac_size ha ?_
        simp (disch := omega) only [t_X8_withDepth_17, t_X8_withDepth_60, t_X8_withDepth_61, ↓reduceIte, ev_kr_1, nI_leI, hi2]
        exact c
      | succ e ih =>
        intro k t hk c
        have hi2 : ¬ As.length ≤ k := by omega
        have hkl' : k < As.length := by omega
        have hik := ac_ik ha hkl'
        have hlt := ac_lt ha hkl'
        rw [t_X8_withDepth_9]
        simp (disch := omega) only [t_X8_withDepth_10, t_X8_withDepth_11, t_X8_withDepth_14, true_and, hf.1, hf.2, hkl]
        refine ac_size ha ?_
        simp (disch := omega) only [t_X8_withDepth_17, t_X8_withDepth_20, t_X8_withDepth_21, t_X8_withDepth_22, t_X8_withDepth_23, t_X8_withDepth_26, t_X8_withDepth_27, ↓reduceIte, ev_kr_1, true_and, nI_leI, hi2, hf.1, hf.2, hkl]
        refine ac_get ha hkl' ?_
        simp (disch := omega) only [t_X8_withDepth_30, t_X8_withDepth_33, ev_kr_1, true_and, hik]
        refine ac_int ha hkl' ?_
        simp (disch := omega) only [t_X8_withDepth_36, t_X8_withDepth_37, ev_kr_1, true_and, hk13]
        refine M_depthOf ha (by omega) (by omega) ?_
        unfold mwd at c
        by_cases e2 : nI (md As (As.getD k 0) k) = d
        · rw [if_pos e2] at c
          have hI := ih (k + 1) (t + 1) (by omega) (by rw [show t + 1 + mwd As d e (k + 1) = t + (1 + mwd As d e (k + 1)) from by omega]; exact c)
          simp (disch := omega) only [t_X8_withDepth_40, t_X8_withDepth_41, t_X8_withDepth_44, t_X8_withDepth_45, t_X8_withDepth_49, t_X8_withDepth_52, t_X8_withDepth_53, t_X8_withDepth_54, t_X8_withDepth_57, t_X8_one_0, t_X8_one_1, t_X8_one_4, t_X8_one_5, t_X8_one_9, ↓reduceIte, ev_k_i, ev_kr_1, not_true_eq_false, nI_1, show ¬ (1 : Int32) = 0 from by decide, not_true_eq_false, e2]
          exact hI
        · rw [if_neg e2, Nat.zero_add] at c
          have hI := ih (k + 1) t (by omega) c
          simp (disch := omega) only [t_X8_withDepth_40, t_X8_withDepth_41, t_X8_withDepth_48, t_X8_withDepth_49, t_X8_withDepth_52, t_X8_withDepth_53, t_X8_withDepth_54, t_X8_withDepth_57, t_X8_one_0, t_X8_one_1, t_X8_one_8, t_X8_one_9, ↓reduceIte, ev_k_i, ev_kr_1, not_false_eq_true, nI_1, not_false_eq_true, e2, Int32.add_zero]
          exact hI
    have h9 := key As.length 0 0 (Nat.zero_add _) (by rw [Nat.zero_add]; exact c _ hp0)
    rw [nI_0] at h9
    simp (disch := omega) only [t_X8_withDepth_5, t_X8_withDepth_6, t_X8_withDepth_7, t_X8_withDepth_8, ev_k_i]
    exact h9
  simp (disch := omega) only [t_X8_withDepth_0, t_X8_withDepth_1, t_X8_withDepth_2, ev_ft_I, and_true, true_and, ev_fS_0, ev_isO_0, h0]
  exact hgo _ hm1 hx1 hp0 hup
theorem MM_knock (hm : m_aw X zf y r T As H n ow) (hx : m_cx X zf y T As H n) (hA : m_ax X zf As) (c : ∀ H1, m_post X zf y H n q (0, r.2.1, r.2.2 + 1) T As H1 n q → P (.inl (some (.int (r.2.2 + 1)))) H1 n q) : ev_ok (ev_TT X) 68 0 [.ref y] [] H n q P := by
  have hx0 := hx
  obtain ⟨hZ, hw, hB, hn, hz, hT, hW⟩ := hx0
  have h0 := m_h0 hm
  have hl0 := m_lk0 hm
  have hk13 := m_k13 hm
  have hl60 := hA.2.2
  have ha0 := m_ac_of hm hw hA
  have hf0 := ac_f ha0
  have hkl0 := ac_kl ha0
  have hm1 := m_aw_top hm hZ hw hB (0, r.2)
  have hx1 := m_cx_top hx (0, r.2)
  have hp0 : m_post X zf y H n q (0, r.2) T As (ev_up H y (m_top y (0, r.2))) n q := m_post_top hm hZ hw hB hn hz (0, r.2)
  have hup := fun (r2 : Int32 × Int32 × Int32) (T2 : Nat → ev_TS) (As2 : List Nat) (H2 : ev_M) (n2 q2 : Nat) => @m_post_up X zf y r2 T2 As2 H H2 n q (0, r.2) n2 q2
  have hgo : ∀ H1, m_aw X zf y (0, r.2) T As H1 n ow → m_cx X zf y T As H1 n → m_post X zf y H n q (0, r.2) T As H1 n q → (∀ (r2 : Int32 × Int32 × Int32) (T2 : Nat → ev_TS) (As2 : List Nat) (H2 : ev_M) (n2 q2 : Nat), m_post X zf y H1 n q r2 T2 As2 H2 n2 q2 → m_post X zf y H n q r2 T2 As2 H2 n2 q2) → ev_ok (ev_TT X) 68 5 [.ref y] [] H1 n q P := by
    intro H1 hm1 hx1 hp0 hup
    have hw1 := hx1.2.1
    have hz1 := hx1.2.2.2.2.1
    have ha := m_ac_of hm1 hw1 hA
    have hf := ac_f ha
    have hkl := ac_kl ha
    have hk13 := ac_k ha
    have hl10 := m_lk0 hm1
    have h10 := m_h0 hm1
    have hE := m_aw_top hm1 hZ hw1 hB (0, r.2.1, r.2.2 + 1)
    have hP := hup _ _ _ _ _ _ (m_post_top (q := q) hm1 hZ hw1 hB hn hz1 (0, r.2.1, r.2.2 + 1))
    have hK := c _ hP
    unfold m_top at hK
    simp (disch := omega) only [t_X8_knock_5, t_X8_knock_6, t_X8_knock_7, t_X8_knock_10, t_X8_knock_11, t_X8_knock_12, t_X8_knock_15, t_X8_knock_16, t_X8_knock_19, ev_ft_I, and_true, true_and, ev_fG_2, ev_fS_2, ev_isO_2, ev_lku_s, h10, hl10]
    exact hK
  simp (disch := omega) only [t_X8_knock_0, t_X8_knock_1, t_X8_knock_2, ev_ft_I, and_true, true_and, ev_fS_0, ev_isO_0, h0]
  exact hgo _ hm1 hx1 hp0 hup
theorem MM_isSound (hm : m_aw X zf y r T As H n ow) (hx : m_cx X zf y T As H n) (hA : m_ax X zf As) (c : ∀ H1, m_post X zf y H n q (0, r.2) T As H1 n q → P (.inl (some (.int 1))) H1 n q) : ev_ok (ev_TT X) 66 0 [.ref y] [] H n q P := by
  have hx0 := hx
  obtain ⟨hZ, hw, hB, hn, hz, hT, hW⟩ := hx0
  have h0 := m_h0 hm
  have hl0 := m_lk0 hm
  have hk13 := m_k13 hm
  have hl60 := hA.2.2
  have ha0 := m_ac_of hm hw hA
  have hf0 := ac_f ha0
  have hkl0 := ac_kl ha0
  have hm1 := m_aw_top hm hZ hw hB (0, r.2)
  have hx1 := m_cx_top hx (0, r.2)
  have hp0 : m_post X zf y H n q (0, r.2) T As (ev_up H y (m_top y (0, r.2))) n q := m_post_top hm hZ hw hB hn hz (0, r.2)
  have hup := fun (r2 : Int32 × Int32 × Int32) (T2 : Nat → ev_TS) (As2 : List Nat) (H2 : ev_M) (n2 q2 : Nat) => @m_post_up X zf y r2 T2 As2 H H2 n q (0, r.2) n2 q2
  have hgo : ∀ H1, m_aw X zf y (0, r.2) T As H1 n ow → m_cx X zf y T As H1 n → m_post X zf y H n q (0, r.2) T As H1 n q → (∀ (r2 : Int32 × Int32 × Int32) (T2 : Nat → ev_TS) (As2 : List Nat) (H2 : ev_M) (n2 q2 : Nat), m_post X zf y H1 n q r2 T2 As2 H2 n2 q2 → m_post X zf y H n q r2 T2 As2 H2 n2 q2) → ev_ok (ev_TT X) 66 5 [.ref y] [] H1 n q P := by
    intro H1 hm1 hx1 hp0 hup
    have hw1 := hx1.2.1
    have hz1 := hx1.2.2.2.2.1
    have ha := m_ac_of hm1 hw1 hA
    have hf := ac_f ha
    have hkl := ac_kl ha
    have hk13 := ac_k ha
    have hl10 := m_lk0 hm1
    have h10 := m_h0 hm1
    simp (disch := omega) only [t_X8_isSound_5, t_X8_isSound_6, ev_nb_1, true_and]
    exact c _ hp0
  simp (disch := omega) only [t_X8_isSound_0, t_X8_isSound_1, t_X8_isSound_2, ev_ft_I, and_true, true_and, ev_fS_0, ev_isO_0, h0]
  exact hgo _ hm1 hx1 hp0 hup
theorem MM_forget (hm : m_aw X zf y r T As H n ow) (hx : m_cx X zf y T As H n) (hA : m_ax X zf As) (c : ∀ H1, m_post X zf y H n q (0, r.2) T [] H1 n q → P (.inl (some (.int (nI As.length)))) H1 n q) : ev_ok (ev_TT X) 116 0 [.ref y, ev_J] [] H n q P := by
  have hx0 := hx
  obtain ⟨hZ, hw, hB, hn, hz, hT, hW⟩ := hx0
  have h0 := m_h0 hm
  have hl0 := m_lk0 hm
  have hk13 := m_k13 hm
  have hl60 := hA.2.2
  have ha0 := m_ac_of hm hw hA
  have hf0 := ac_f ha0
  have hkl0 := ac_kl ha0
  have hm1 := m_aw_top hm hZ hw hB (0, r.2)
  have hx1 := m_cx_top hx (0, r.2)
  have hp0 : m_post X zf y H n q (0, r.2) T As (ev_up H y (m_top y (0, r.2))) n q := m_post_top hm hZ hw hB hn hz (0, r.2)
  have hup := fun (r2 : Int32 × Int32 × Int32) (T2 : Nat → ev_TS) (As2 : List Nat) (H2 : ev_M) (n2 q2 : Nat) => @m_post_up X zf y r2 T2 As2 H H2 n q (0, r.2) n2 q2
  have hgo : ∀ H1, m_aw X zf y (0, r.2) T As H1 n ow → m_cx X zf y T As H1 n → m_post X zf y H n q (0, r.2) T As H1 n q → (∀ (r2 : Int32 × Int32 × Int32) (T2 : Nat → ev_TS) (As2 : List Nat) (H2 : ev_M) (n2 q2 : Nat), m_post X zf y H1 n q r2 T2 As2 H2 n2 q2 → m_post X zf y H n q r2 T2 As2 H2 n2 q2) → ev_ok (ev_TT X) 116 5 [.ref y, ev_J] [] H1 n q P := by
    intro H1 hm1 hx1 hp0 hup
    have hw1 := hx1.2.1
    have hz1 := hx1.2.2.2.2.1
    have ha := m_ac_of hm1 hw1 hA
    have hf := ac_f ha
    have hkl := ac_kl ha
    have hk13 := ac_k ha
    have hl10 := m_lk0 hm1
    have h10 := m_h0 hm1
    simp (disch := omega) only [t_X8_forget_5, t_X8_forget_6, t_X8_forget_9, true_and, hf.1, hf.2, hkl]
    refine ac_size ha ?_
    simp (disch := omega) only [t_X8_forget_12, t_X8_forget_13, t_X8_forget_14, t_X8_forget_17, ev_k_r, ev_kr_1, true_and, hf.1, hf.2, hkl]
    have hm10 := hm1
    obtain ⟨g1, ⟨f, g2, g2b⟩, g3, e, g4, g5⟩ := hm10
    have hB1 := hB.1
    have hB3 := hB.2.2
    refine L_clear g4 (by rw [List.length_map]; omega) fun H2 f1 f2 => ?_
    have hee : ∀ z, ¬ (y + 12 ≤ z ∧ z < n ∧ ow z = 4) → (¬ z = e ∨ H1 e = none) := fun z hzz => by
      rcases g5 with ⟨-, -, g5⟩ | g5
      · exact Or.inr g5
      · exact Or.inl fun zz => hzz (zz ▸ g5)
    have hm2 : m_aw X zf y (0, r.2) T [] H2 n ow := by
      refine ⟨(f2 y (by omega) (hee y (fun w => by omega))).trans g1, ⟨f, (f2 _ (by omega) (hee _ (fun w => by omega))).trans g2, g2b⟩, fun j hj => ?_, e, f1, ?_⟩
      · obtain ⟨a1, qs', a2, a3⟩ := g3 j hj
        refine ⟨(f2 _ (by omega) (hee _ (fun w => by omega))).trans a1, qs', m_lst_cg a2 (Nat.le_refl _) (fun z hzz => ?_) (fun z b1 b2 b3 => b3), a3⟩
        rcases hzz with rfl | ⟨b1, b2, b3⟩ | ⟨b1, b2⟩
        · exact f2 _ (by omega) (hee _ (fun w => by omega))
        · exact f2 z (by omega) (hee z (fun w => by omega))
        · exact f2 z (by omega) (hee z (fun w => by omega))
      · rcases g5 with ⟨a1, a2, a3⟩ | g5
        · exact Or.inl ⟨a1, a2, (f2 e (fun w => ev_AT_ne g4 w.symm) (Or.inr a3)).trans a3⟩
        · exact Or.inr g5
    simp (disch := omega) only [t_X8_forget_20, t_X8_forget_21, ev_kr_0]
    exact c _ (hup _ _ _ _ _ _ ⟨⟨ow, hm2⟩, fun z hzz => f2 z (by omega) (hee z (fun w => by omega)), fun z hzz => (f2 z (by omega) (hee z (fun w => by omega))).trans (hz1 z hzz), Nat.le_refl _, by omega, Nat.le_refl _, by omega⟩)
  simp (disch := omega) only [t_X8_forget_0, t_X8_forget_1, t_X8_forget_2, ev_ft_I, and_true, true_and, ev_fS_0, ev_isO_0, h0]
  exact hgo _ hm1 hx1 hp0 hup
theorem MM_depth (hm : m_aw X zf y r T As H n ow) (hx : m_cx X zf y T As H n) (hA : m_ax X zf As) {k : Int32} (c1 : (k < 0 ∨ nI 20 ≤ k) → ∀ H1, m_post X zf y H n q (1, r.2) T As H1 n q → P (.inl (some (.int 0))) H1 n q) (c2 : ∀ a, a < 20 → k = nI a → ∀ H1, m_post X zf y H n q (0, r.2) T As H1 n q → P (.inl (some (.int (nI (md As a As.length))))) H1 n q) : ev_ok (ev_TT X) 265 0 [.ref y, .int k] [] H n q P := by
  have hx0 := hx
  obtain ⟨hZ, hw, hB, hn, hz, hT, hW⟩ := hx0
  have h0 := m_h0 hm
  have hl0 := m_lk0 hm
  have hk13 := m_k13 hm
  have hl60 := hA.2.2
  have ha0 := m_ac_of hm hw hA
  have hf0 := ac_f ha0
  have hkl0 := ac_kl ha0
  have hm1 := m_aw_top hm hZ hw hB (0, r.2)
  have hx1 := m_cx_top hx (0, r.2)
  have hp0 : m_post X zf y H n q (0, r.2) T As (ev_up H y (m_top y (0, r.2))) n q := m_post_top hm hZ hw hB hn hz (0, r.2)
  have hup := fun (r2 : Int32 × Int32 × Int32) (T2 : Nat → ev_TS) (As2 : List Nat) (H2 : ev_M) (n2 q2 : Nat) => @m_post_up X zf y r2 T2 As2 H H2 n q (0, r.2) n2 q2
  rcases pk_ix k (n := 20) (by omega) with hb | hb | ⟨a, ha20, rfl⟩
  · skip
    simp (disch := omega) only [t_X8_depth_0, t_X8_depth_1, t_X8_depth_2, t_X8_depth_4, t_X8_depth_7, t_X8_depth_8, t_X8_depth_9, t_X8_depth_12, t_X8_depth_15, t_X8_depth_16, t_X8_depth_31, ↓reduceIte, ev_kr_1, ev_isK_y, true_and, show ¬ (1 : Int32) = 0 from by decide, M_isOut_y (v := k) (w := 20) (Or.inl hb), M_fails_100 h0, hl0]
    exact c1 (Or.inl hb) _ (m_post_top hm hZ hw hB hn hz (1, r.2))
  · skip
    simp (disch := omega) only [t_X8_depth_0, t_X8_depth_1, t_X8_depth_2, t_X8_depth_4, t_X8_depth_7, t_X8_depth_8, t_X8_depth_9, t_X8_depth_12, t_X8_depth_15, t_X8_depth_16, t_X8_depth_31, ↓reduceIte, ev_kr_1, ev_isK_y, true_and, show ¬ (1 : Int32) = 0 from by decide, M_isOut_y (v := k) (w := 20) (Or.inr hb), M_fails_100 h0, hl0]
    exact c1 (Or.inr hb) _ (m_post_top hm hZ hw hB hn hz (1, r.2))
  · skip
    have hgo : ∀ H1, m_aw X zf y (0, r.2) T As H1 n ow → m_cx X zf y T As H1 n → m_post X zf y H n q (0, r.2) T As H1 n q → (∀ (r2 : Int32 × Int32 × Int32) (T2 : Nat → ev_TS) (As2 : List Nat) (H2 : ev_M) (n2 q2 : Nat), m_post X zf y H1 n q r2 T2 As2 H2 n2 q2 → m_post X zf y H n q r2 T2 As2 H2 n2 q2) → ev_ok (ev_TT X) 265 19 [.ref y, .int (nI a)] [] H1 n q P := by
      intro H1 hm1 hx1 hp0 hup
      have hw1 := hx1.2.1
      have hz1 := hx1.2.2.2.2.1
      have ha := m_ac_of hm1 hw1 hA
      have hf := ac_f ha
      have hkl := ac_kl ha
      have hk13 := ac_k ha
      have hl10 := m_lk0 hm1
      have h10 := m_h0 hm1
      simp (disch := omega) only [t_X8_depth_19, t_X8_depth_20, t_X8_depth_21, t_X8_depth_22, t_X8_depth_25, true_and, hf.1, hf.2, hkl]
      refine ac_size ha ?_
      simp (disch := omega) only [t_X8_depth_28, ev_kr_1, true_and, hk13]
      refine M_depthOf ha (by omega) (Nat.le_refl _) ?_
      simp (disch := omega) only [t_X8_depth_31, ev_kr_1]
      exact c2 a ha20 rfl _ hp0
    simp (disch := omega) only [t_X8_depth_0, t_X8_depth_1, t_X8_depth_2, t_X8_depth_4, t_X8_depth_7, t_X8_depth_8, t_X8_depth_9, t_X8_depth_12, ↓reduceIte, ev_kr_1, ev_isK_y, true_and, M_isOut_n (v := nI a) (w := 20) (nI_pos (by omega)) (nI_ge (b := 20) ha20 (by omega)), M_fails_000 h0, hl0]
    exact hgo _ hm1 hx1 hp0 hup
theorem MM_misses (hm : m_aw X zf y r T As H n ow) (hx : m_cx X zf y T As H n) (hA : m_ax X zf As) {s : Int32} (c1 : (s < 1 ∨ 6 < s) → ∀ H1, m_post X zf y H n q (1, r.2) T As H1 n q → P (.inl (some (.int 0))) H1 n q) (c2 : ∀ j, j < 6 → s = nI (j + 1) → ∀ H1, m_post X zf y H n q (0, r.2) T As H1 n q → P (.inl (some (.int (nI (mm As (j + 1) As.length 0))))) H1 n q) : ev_ok (ev_TT X) 292 0 [.ref y, .int s] [] H n q P := by
  have hx0 := hx
  obtain ⟨hZ, hw, hB, hn, hz, hT, hW⟩ := hx0
  have h0 := m_h0 hm
  have hl0 := m_lk0 hm
  have hk13 := m_k13 hm
  have hl60 := hA.2.2
  have ha0 := m_ac_of hm hw hA
  have hf0 := ac_f ha0
  have hkl0 := ac_kl ha0
  have hm1 := m_aw_top hm hZ hw hB (0, r.2)
  have hx1 := m_cx_top hx (0, r.2)
  have hp0 : m_post X zf y H n q (0, r.2) T As (ev_up H y (m_top y (0, r.2))) n q := m_post_top hm hZ hw hB hn hz (0, r.2)
  have hup := fun (r2 : Int32 × Int32 × Int32) (T2 : Nat → ev_TS) (As2 : List Nat) (H2 : ev_M) (n2 q2 : Nat) => @m_post_up X zf y r2 T2 As2 H H2 n q (0, r.2) n2 q2
  rcases ev_sz s with hb | ⟨j, hj, rfl⟩
  · skip
    simp (disch := omega) only [t_X8_misses_0, t_X8_misses_1, t_X8_misses_2, t_X8_misses_5, t_X8_misses_6, t_X8_misses_7, t_X8_misses_10, t_X8_misses_13, t_X8_misses_14, t_X8_misses_22, ↓reduceIte, ev_kr_1, ev_isK_y, true_and, show ¬ (1 : Int32) = 0 from by decide, M_isNoSize_y hb, M_fails_100 h0, hl0]
    exact c1 hb _ (m_post_top hm hZ hw hB hn hz (1, r.2))
  · skip
    have hgo : ∀ H1, m_aw X zf y (0, r.2) T As H1 n ow → m_cx X zf y T As H1 n → m_post X zf y H n q (0, r.2) T As H1 n q → (∀ (r2 : Int32 × Int32 × Int32) (T2 : Nat → ev_TS) (As2 : List Nat) (H2 : ev_M) (n2 q2 : Nat), m_post X zf y H1 n q r2 T2 As2 H2 n2 q2 → m_post X zf y H n q r2 T2 As2 H2 n2 q2) → ev_ok (ev_TT X) 292 17 [.ref y, .int (nI (j + 1))] [] H1 n q P := by
      intro H1 hm1 hx1 hp0 hup
      have hw1 := hx1.2.1
      have hz1 := hx1.2.2.2.2.1
      have ha := m_ac_of hm1 hw1 hA
      have hf := ac_f ha
      have hkl := ac_kl ha
      have hk13 := ac_k ha
      have hl10 := m_lk0 hm1
      have h10 := m_h0 hm1
      simp (disch := omega) only [t_X8_misses_17, t_X8_misses_18, t_X8_misses_19, true_and, hk13]
      refine M_missesNow ha (by omega) ?_
      simp (disch := omega) only [t_X8_misses_22, ev_kr_1]
      exact c2 j hj rfl _ hp0
    simp (disch := omega) only [t_X8_misses_0, t_X8_misses_1, t_X8_misses_2, t_X8_misses_5, t_X8_misses_6, t_X8_misses_7, t_X8_misses_10, ↓reduceIte, ev_kr_1, ev_isK_y, true_and, M_isNoSize_n hj, M_fails_000 h0, hl0]
    exact hgo _ hm1 hx1 hp0 hup
theorem MM_hits (hm : m_aw X zf y r T As H n ow) (hx : m_cx X zf y T As H n) (hA : m_ax X zf As) {s : Int32} (c1 : (s < 1 ∨ 6 < s) → ∀ H1, m_post X zf y H n q (1, r.2) T As H1 n q → P (.inl (some (.int 0))) H1 n q) (c2 : ∀ j, j < 6 → s = nI (j + 1) → ∀ H1, m_post X zf y H n q (0, r.2) T As H1 n q → P (.inl (some (.int (nI As.length - nI (mm As (j + 1) As.length 0))))) H1 n q) : ev_ok (ev_TT X) 290 0 [.ref y, .int s] [] H n q P := by
  have hx0 := hx
  obtain ⟨hZ, hw, hB, hn, hz, hT, hW⟩ := hx0
  have h0 := m_h0 hm
  have hl0 := m_lk0 hm
  have hk13 := m_k13 hm
  have hl60 := hA.2.2
  have ha0 := m_ac_of hm hw hA
  have hf0 := ac_f ha0
  have hkl0 := ac_kl ha0
  have hm1 := m_aw_top hm hZ hw hB (0, r.2)
  have hx1 := m_cx_top hx (0, r.2)
  have hp0 : m_post X zf y H n q (0, r.2) T As (ev_up H y (m_top y (0, r.2))) n q := m_post_top hm hZ hw hB hn hz (0, r.2)
  have hup := fun (r2 : Int32 × Int32 × Int32) (T2 : Nat → ev_TS) (As2 : List Nat) (H2 : ev_M) (n2 q2 : Nat) => @m_post_up X zf y r2 T2 As2 H H2 n q (0, r.2) n2 q2
  rcases ev_sz s with hb | ⟨j, hj, rfl⟩
  · skip
    simp (disch := omega) only [t_X8_hits_0, t_X8_hits_1, t_X8_hits_2, t_X8_hits_5, t_X8_hits_6, t_X8_hits_7, t_X8_hits_10, t_X8_hits_13, t_X8_hits_14, t_X8_hits_30, ↓reduceIte, ev_kr_1, ev_isK_y, true_and, show ¬ (1 : Int32) = 0 from by decide, M_isNoSize_y hb, M_fails_100 h0, hl0]
    exact c1 hb _ (m_post_top hm hZ hw hB hn hz (1, r.2))
  · skip
    have hgo : ∀ H1, m_aw X zf y (0, r.2) T As H1 n ow → m_cx X zf y T As H1 n → m_post X zf y H n q (0, r.2) T As H1 n q → (∀ (r2 : Int32 × Int32 × Int32) (T2 : Nat → ev_TS) (As2 : List Nat) (H2 : ev_M) (n2 q2 : Nat), m_post X zf y H1 n q r2 T2 As2 H2 n2 q2 → m_post X zf y H n q r2 T2 As2 H2 n2 q2) → ev_ok (ev_TT X) 290 17 [.ref y, .int (nI (j + 1))] [] H1 n q P := by
      intro H1 hm1 hx1 hp0 hup
      have hw1 := hx1.2.1
      have hz1 := hx1.2.2.2.2.1
      have ha := m_ac_of hm1 hw1 hA
      have hf := ac_f ha
      have hkl := ac_kl ha
      have hk13 := ac_k ha
      have hl10 := m_lk0 hm1
      have h10 := m_h0 hm1
      simp (disch := omega) only [t_X8_hits_17, t_X8_hits_18, t_X8_hits_21, true_and, hf.1, hf.2, hkl]
      refine ac_size ha ?_
      simp (disch := omega) only [t_X8_hits_24, t_X8_hits_25, t_X8_hits_26, ev_kr_1, true_and, hk13]
      refine M_missesNow ha (by omega) ?_
      simp (disch := omega) only [t_X8_hits_29, t_X8_hits_30, ev_kr_1]
      exact c2 j hj rfl _ hp0
    simp (disch := omega) only [t_X8_hits_0, t_X8_hits_1, t_X8_hits_2, t_X8_hits_5, t_X8_hits_6, t_X8_hits_7, t_X8_hits_10, ↓reduceIte, ev_kr_1, ev_isK_y, true_and, M_isNoSize_n hj, M_fails_000 h0, hl0]
    exact hgo _ hm1 hx1 hp0 hup
theorem MM_lost (hm : m_aw X zf y r T As H n ow) (hx : m_cx X zf y T As H n) (hA : m_ax X zf As) {s : Int32} (c1 : (s < 1 ∨ 6 < s) → ∀ H1, m_post X zf y H n q (1, r.2) T As H1 n q → P (.inl (some (.int 0))) H1 n q) (c2 : ∀ j, j < 6 → s = nI (j + 1) → ∀ H1, m_post X zf y H n q (0, r.2) T As H1 n q → P (.inl (some (.int (nb (ml_n As (j + 1) As.length))))) H1 n q) : ev_ok (ev_TT X) 291 0 [.ref y, .int s] [] H n q P := by
  have hx0 := hx
  obtain ⟨hZ, hw, hB, hn, hz, hT, hW⟩ := hx0
  have h0 := m_h0 hm
  have hl0 := m_lk0 hm
  have hk13 := m_k13 hm
  have hl60 := hA.2.2
  have ha0 := m_ac_of hm hw hA
  have hf0 := ac_f ha0
  have hkl0 := ac_kl ha0
  have hm1 := m_aw_top hm hZ hw hB (0, r.2)
  have hx1 := m_cx_top hx (0, r.2)
  have hp0 : m_post X zf y H n q (0, r.2) T As (ev_up H y (m_top y (0, r.2))) n q := m_post_top hm hZ hw hB hn hz (0, r.2)
  have hup := fun (r2 : Int32 × Int32 × Int32) (T2 : Nat → ev_TS) (As2 : List Nat) (H2 : ev_M) (n2 q2 : Nat) => @m_post_up X zf y r2 T2 As2 H H2 n q (0, r.2) n2 q2
  rcases ev_sz s with hb | ⟨j, hj, rfl⟩
  · skip
    simp (disch := omega) only [t_X8_lost_0, t_X8_lost_1, t_X8_lost_2, t_X8_lost_5, t_X8_lost_6, t_X8_lost_7, t_X8_lost_10, t_X8_lost_13, t_X8_lost_14, t_X8_lost_22, ↓reduceIte, ev_kr_1, ev_isK_y, true_and, show ¬ (1 : Int32) = 0 from by decide, M_isNoSize_y hb, M_fails_100 h0, hl0]
    exact c1 hb _ (m_post_top hm hZ hw hB hn hz (1, r.2))
  · skip
    have hgo : ∀ H1, m_aw X zf y (0, r.2) T As H1 n ow → m_cx X zf y T As H1 n → m_post X zf y H n q (0, r.2) T As H1 n q → (∀ (r2 : Int32 × Int32 × Int32) (T2 : Nat → ev_TS) (As2 : List Nat) (H2 : ev_M) (n2 q2 : Nat), m_post X zf y H1 n q r2 T2 As2 H2 n2 q2 → m_post X zf y H n q r2 T2 As2 H2 n2 q2) → ev_ok (ev_TT X) 291 17 [.ref y, .int (nI (j + 1))] [] H1 n q P := by
      intro H1 hm1 hx1 hp0 hup
      have hw1 := hx1.2.1
      have hz1 := hx1.2.2.2.2.1
      have ha := m_ac_of hm1 hw1 hA
      have hf := ac_f ha
      have hkl := ac_kl ha
      have hk13 := ac_k ha
      have hl10 := m_lk0 hm1
      have h10 := m_h0 hm1
      simp (disch := omega) only [t_X8_lost_17, t_X8_lost_18, t_X8_lost_19, true_and, hk13]
      refine M_lostNow ha (by omega) ?_
      simp (disch := omega) only [t_X8_lost_22, ev_kr_1]
      exact c2 j hj rfl _ hp0
    simp (disch := omega) only [t_X8_lost_0, t_X8_lost_1, t_X8_lost_2, t_X8_lost_5, t_X8_lost_6, t_X8_lost_7, t_X8_lost_10, ↓reduceIte, ev_kr_1, ev_isK_y, true_and, M_isNoSize_n hj, M_fails_000 h0, hl0]
    exact hgo _ hm1 hx1 hp0 hup
theorem MM_best (hm : m_aw X zf y r T As H n ow) (hx : m_cx X zf y T As H n) (hA : m_ax X zf As) {s : Int32} (c1 : (s < 1 ∨ 6 < s) → ∀ H1, m_post X zf y H n q (1, r.2) T As H1 n q → P (.inl (some (.int 0))) H1 n q) (c2 : ∀ j, j < 6 → s = nI (j + 1) → ∀ H1 n1 q1, m_post X zf y H n q (0, r.2) T As H1 n1 q1 → P (.inl (some (.int (nI (As.length - (gs As (j + 1) As.length).2))))) H1 n1 q1) : ev_ok (ev_TT X) 255 0 [.ref y, .int s] [] H n q P := by
  have hx0 := hx
  obtain ⟨hZ, hw, hB, hn, hz, hT, hW⟩ := hx0
  have h0 := m_h0 hm
  have hl0 := m_lk0 hm
  have hk13 := m_k13 hm
  have hl60 := hA.2.2
  have ha0 := m_ac_of hm hw hA
  have hf0 := ac_f ha0
  have hkl0 := ac_kl ha0
  have hm1 := m_aw_top hm hZ hw hB (0, r.2)
  have hx1 := m_cx_top hx (0, r.2)
  have hp0 : m_post X zf y H n q (0, r.2) T As (ev_up H y (m_top y (0, r.2))) n q := m_post_top hm hZ hw hB hn hz (0, r.2)
  have hup := fun (r2 : Int32 × Int32 × Int32) (T2 : Nat → ev_TS) (As2 : List Nat) (H2 : ev_M) (n2 q2 : Nat) => @m_post_up X zf y r2 T2 As2 H H2 n q (0, r.2) n2 q2
  rcases ev_sz s with hb | ⟨j, hj, rfl⟩
  · skip
    simp (disch := omega) only [t_X8_best_0, t_X8_best_1, t_X8_best_2, t_X8_best_5, t_X8_best_6, t_X8_best_7, t_X8_best_10, t_X8_best_13, t_X8_best_14, t_X8_best_22, ↓reduceIte, ev_kr_1, ev_isK_y, true_and, show ¬ (1 : Int32) = 0 from by decide, M_isNoSize_y hb, M_fails_100 h0, hl0]
    exact c1 hb _ (m_post_top hm hZ hw hB hn hz (1, r.2))
  · skip
    have hgo : ∀ H1, m_aw X zf y (0, r.2) T As H1 n ow → m_cx X zf y T As H1 n → m_post X zf y H n q (0, r.2) T As H1 n q → (∀ (r2 : Int32 × Int32 × Int32) (T2 : Nat → ev_TS) (As2 : List Nat) (H2 : ev_M) (n2 q2 : Nat), m_post X zf y H1 n q r2 T2 As2 H2 n2 q2 → m_post X zf y H n q r2 T2 As2 H2 n2 q2) → ev_ok (ev_TT X) 255 17 [.ref y, .int (nI (j + 1))] [] H1 n q P := by
      intro H1 hm1 hx1 hp0 hup
      have hw1 := hx1.2.1
      have hz1 := hx1.2.2.2.2.1
      have ha := m_ac_of hm1 hw1 hA
      have hf := ac_f ha
      have hkl := ac_kl ha
      have hk13 := ac_k ha
      have hl10 := m_lk0 hm1
      have h10 := m_h0 hm1
      have hB1 := hB.1
      have hax : ∀ cc, m_ac X zf y As (ev_up H1 n cc) := fun cc => m_ac_of (m_aw_ext hm1 hx1 (fun a ha => ev_up_n (by omega)) (Nat.le_succ n)) (fun a ha => (ev_up_n (by omega)).trans (hw1 a ha)) hA
      simp (disch := omega) only [t_X8_best_17, t_X8_best_18, t_X8_best_19, true_and, hk13]
      refine M_bestNow (m := j + 1) hax (by omega) (by omega) fun f => ?_
      simp (disch := omega) only [t_X8_best_22, ev_kr_1]
      exact c2 j hj rfl _ _ _ (hup _ _ _ _ _ _ (m_post_ext hm1 hx1 (fun a ha => ev_up_n (by omega)) (fun a ha => (ev_up_n (by omega)).trans (hz1 a (by omega))) (by omega) (by omega) (by omega) (by omega)))
    simp (disch := omega) only [t_X8_best_0, t_X8_best_1, t_X8_best_2, t_X8_best_5, t_X8_best_6, t_X8_best_7, t_X8_best_10, ↓reduceIte, ev_kr_1, ev_isK_y, true_and, M_isNoSize_n hj, M_fails_000 h0, hl0]
    exact hgo _ hm1 hx1 hp0 hup
theorem MM_keeps (hm : m_aw X zf y r T As H n ow) (hx : m_cx X zf y T As H n) (hA : m_ax X zf As) {s k : Int32} (c1 : ((s < 1 ∨ 6 < s) ∨ (k < 0 ∨ nI 20 ≤ k)) → ∀ H1, m_post X zf y H n q (1, r.2) T As H1 n q → P (.inl (some (.int 0))) H1 n q) (c2 : ∀ j a, j < 6 → s = nI (j + 1) → a < 20 → k = nI a → ∀ H1, m_post X zf y H n q (0, r.2) T As H1 n q → P (.inl (some (.int (ev_bb (mkp As (j + 1) a))))) H1 n q) : ev_ok (ev_TT X) 280 0 [.ref y, .int s, .int k] [] H n q P := by
  have hx0 := hx
  obtain ⟨hZ, hw, hB, hn, hz, hT, hW⟩ := hx0
  have h0 := m_h0 hm
  have hl0 := m_lk0 hm
  have hk13 := m_k13 hm
  have hl60 := hA.2.2
  have ha0 := m_ac_of hm hw hA
  have hf0 := ac_f ha0
  have hkl0 := ac_kl ha0
  have hm1 := m_aw_top hm hZ hw hB (0, r.2)
  have hx1 := m_cx_top hx (0, r.2)
  have hp0 : m_post X zf y H n q (0, r.2) T As (ev_up H y (m_top y (0, r.2))) n q := m_post_top hm hZ hw hB hn hz (0, r.2)
  have hup := fun (r2 : Int32 × Int32 × Int32) (T2 : Nat → ev_TS) (As2 : List Nat) (H2 : ev_M) (n2 q2 : Nat) => @m_post_up X zf y r2 T2 As2 H H2 n q (0, r.2) n2 q2
  rcases ev_sz s with hb | ⟨j, hj, rfl⟩
  · skip
    simp (disch := omega) only [t_X8_keeps_0, t_X8_keeps_1, t_X8_keeps_2, t_X8_keeps_5, t_X8_keeps_17, t_X8_keeps_18, t_X8_keeps_22, t_X8_keeps_23, t_X8_keeps_24, t_X8_keeps_27, t_X8_keeps_43, t_X8_keeps_44, ↓reduceIte, ev_kr_1, ev_isK_y, ev_nb_0, true_and, not_false_eq_true, show ¬ (1 : Int32) = 0 from by decide, not_false_eq_true, M_isNoSize_y hb, M_fails_100 h0, hl0]
    exact c1 (Or.inl hb) _ (m_post_top hm hZ hw hB hn hz (1, r.2))
  · rcases pk_ix k (n := 20) (by omega) with hb | hb | ⟨a, ha20, rfl⟩
    · skip
      simp (disch := omega) only [t_X8_keeps_0, t_X8_keeps_1, t_X8_keeps_2, t_X8_keeps_5, t_X8_keeps_8, t_X8_keeps_9, t_X8_keeps_11, t_X8_keeps_14, t_X8_keeps_17, t_X8_keeps_18, t_X8_keeps_22, t_X8_keeps_23, t_X8_keeps_24, t_X8_keeps_27, t_X8_keeps_43, t_X8_keeps_44, ↓reduceIte, ev_kr_1, ev_isK_y, ev_nb_0, true_and, not_true_eq_false, not_false_eq_true, show ¬ (1 : Int32) = 0 from by decide, not_true_eq_false, not_false_eq_true, M_isNoSize_n hj, M_isOut_y (v := k) (w := 20) (Or.inl hb), M_fails_100 h0, hl0]
      exact c1 (Or.inr (Or.inl hb)) _ (m_post_top hm hZ hw hB hn hz (1, r.2))
    · skip
      simp (disch := omega) only [t_X8_keeps_0, t_X8_keeps_1, t_X8_keeps_2, t_X8_keeps_5, t_X8_keeps_8, t_X8_keeps_9, t_X8_keeps_11, t_X8_keeps_14, t_X8_keeps_17, t_X8_keeps_18, t_X8_keeps_22, t_X8_keeps_23, t_X8_keeps_24, t_X8_keeps_27, t_X8_keeps_43, t_X8_keeps_44, ↓reduceIte, ev_kr_1, ev_isK_y, ev_nb_0, true_and, not_true_eq_false, not_false_eq_true, show ¬ (1 : Int32) = 0 from by decide, not_true_eq_false, not_false_eq_true, M_isNoSize_n hj, M_isOut_y (v := k) (w := 20) (Or.inr hb), M_fails_100 h0, hl0]
      exact c1 (Or.inr (Or.inr hb)) _ (m_post_top hm hZ hw hB hn hz (1, r.2))
    · skip
      have hgo : ∀ H1, m_aw X zf y (0, r.2) T As H1 n ow → m_cx X zf y T As H1 n → m_post X zf y H n q (0, r.2) T As H1 n q → (∀ (r2 : Int32 × Int32 × Int32) (T2 : Nat → ev_TS) (As2 : List Nat) (H2 : ev_M) (n2 q2 : Nat), m_post X zf y H1 n q r2 T2 As2 H2 n2 q2 → m_post X zf y H n q r2 T2 As2 H2 n2 q2) → ev_ok (ev_TT X) 280 30 [.ref y, .int (nI (j + 1)), .int (nI a)] [] H1 n q P := by
        intro H1 hm1 hx1 hp0 hup
        have hw1 := hx1.2.1
        have hz1 := hx1.2.2.2.2.1
        have ha := m_ac_of hm1 hw1 hA
        have hf := ac_f ha
        have hkl := ac_kl ha
        have hk13 := ac_k ha
        have hl10 := m_lk0 hm1
        have h10 := m_h0 hm1
        simp (disch := omega) only [t_X8_keeps_30, t_X8_keeps_31, t_X8_keeps_32, t_X8_keeps_33, true_and, hk13]
        refine M_isKept ha (by omega) (by omega) ?_
        have hK := c2 j a hj rfl ha20 rfl _ hp0
        rcases e : mkp As (j + 1) a with _ | _ <;> (
          rw [e] at hK
          simp (disch := omega) only [t_X8_keeps_36, t_X8_keeps_39, t_X8_keeps_40, t_X8_keeps_43, t_X8_keeps_44, ↓reduceIte, ev_kr_1, ev_nb_0, ev_nb_1, true_and, show ¬ (1 : Int32) = 0 from by decide, ev_bb_t, ev_bb_f]
          exact hK)
      simp (disch := omega) only [t_X8_keeps_0, t_X8_keeps_1, t_X8_keeps_2, t_X8_keeps_5, t_X8_keeps_8, t_X8_keeps_9, t_X8_keeps_11, t_X8_keeps_14, t_X8_keeps_21, t_X8_keeps_22, t_X8_keeps_23, t_X8_keeps_24, t_X8_keeps_27, ↓reduceIte, ev_kr_1, ev_isK_y, true_and, not_true_eq_false, not_true_eq_false, M_isNoSize_n hj, M_isOut_n (v := nI a) (w := 20) (nI_pos (by omega)) (nI_ge (b := 20) ha20 (by omega)), M_fails_000 h0, hl0]
      exact hgo _ hm1 hx1 hp0 hup
theorem MM_takenAt (hm : m_aw X zf y r T As H n ow) (hx : m_cx X zf y T As H n) (hA : m_ax X zf As) {s k : Int32} (c1 : ((s < 1 ∨ 6 < s) ∨ (k < 0 ∨ nI 20 ≤ k)) → ∀ H1, m_post X zf y H n q (1, r.2) T As H1 n q → P (.inl (some (.int 0))) H1 n q) (c2 : ∀ j a, j < 6 → s = nI (j + 1) → a < 20 → k = nI a → ∀ H1, m_post X zf y H n q (0, r.2) T As H1 n q → P (.inl (some (.int (mt_n As (j + 1) a)))) H1 n q) : ev_ok (ev_TT X) 295 0 [.ref y, .int s, .int k] [] H n q P := by
  have hx0 := hx
  obtain ⟨hZ, hw, hB, hn, hz, hT, hW⟩ := hx0
  have h0 := m_h0 hm
  have hl0 := m_lk0 hm
  have hk13 := m_k13 hm
  have hl60 := hA.2.2
  have ha0 := m_ac_of hm hw hA
  have hf0 := ac_f ha0
  have hkl0 := ac_kl ha0
  have hm1 := m_aw_top hm hZ hw hB (0, r.2)
  have hx1 := m_cx_top hx (0, r.2)
  have hp0 : m_post X zf y H n q (0, r.2) T As (ev_up H y (m_top y (0, r.2))) n q := m_post_top hm hZ hw hB hn hz (0, r.2)
  have hup := fun (r2 : Int32 × Int32 × Int32) (T2 : Nat → ev_TS) (As2 : List Nat) (H2 : ev_M) (n2 q2 : Nat) => @m_post_up X zf y r2 T2 As2 H H2 n q (0, r.2) n2 q2
  rcases ev_sz s with hb | ⟨j, hj, rfl⟩
  · skip
    simp (disch := omega) only [t_X8_takenAt_0, t_X8_takenAt_1, t_X8_takenAt_2, t_X8_takenAt_5, t_X8_takenAt_17, t_X8_takenAt_18, t_X8_takenAt_22, t_X8_takenAt_23, t_X8_takenAt_24, t_X8_takenAt_27, t_X8_takenAt_30, t_X8_takenAt_31, t_X8_takenAt_40, ↓reduceIte, ev_kr_1, ev_isK_y, true_and, not_false_eq_true, show ¬ (1 : Int32) = 0 from by decide, not_false_eq_true, M_isNoSize_y hb, M_fails_100 h0, hl0]
    exact c1 (Or.inl hb) _ (m_post_top hm hZ hw hB hn hz (1, r.2))
  · rcases pk_ix k (n := 20) (by omega) with hb | hb | ⟨a, ha20, rfl⟩
    · skip
      simp (disch := omega) only [t_X8_takenAt_0, t_X8_takenAt_1, t_X8_takenAt_2, t_X8_takenAt_5, t_X8_takenAt_8, t_X8_takenAt_9, t_X8_takenAt_11, t_X8_takenAt_14, t_X8_takenAt_17, t_X8_takenAt_18, t_X8_takenAt_22, t_X8_takenAt_23, t_X8_takenAt_24, t_X8_takenAt_27, t_X8_takenAt_30, t_X8_takenAt_31, t_X8_takenAt_40, ↓reduceIte, ev_kr_1, ev_isK_y, true_and, not_true_eq_false, show ¬ (1 : Int32) = 0 from by decide, not_true_eq_false, M_isNoSize_n hj, M_isOut_y (v := k) (w := 20) (Or.inl hb), M_fails_100 h0, hl0]
      exact c1 (Or.inr (Or.inl hb)) _ (m_post_top hm hZ hw hB hn hz (1, r.2))
    · skip
      simp (disch := omega) only [t_X8_takenAt_0, t_X8_takenAt_1, t_X8_takenAt_2, t_X8_takenAt_5, t_X8_takenAt_8, t_X8_takenAt_9, t_X8_takenAt_11, t_X8_takenAt_14, t_X8_takenAt_17, t_X8_takenAt_18, t_X8_takenAt_22, t_X8_takenAt_23, t_X8_takenAt_24, t_X8_takenAt_27, t_X8_takenAt_30, t_X8_takenAt_31, t_X8_takenAt_40, ↓reduceIte, ev_kr_1, ev_isK_y, true_and, not_true_eq_false, show ¬ (1 : Int32) = 0 from by decide, not_true_eq_false, M_isNoSize_n hj, M_isOut_y (v := k) (w := 20) (Or.inr hb), M_fails_100 h0, hl0]
      exact c1 (Or.inr (Or.inr hb)) _ (m_post_top hm hZ hw hB hn hz (1, r.2))
    · skip
      have hgo : ∀ H1, m_aw X zf y (0, r.2) T As H1 n ow → m_cx X zf y T As H1 n → m_post X zf y H n q (0, r.2) T As H1 n q → (∀ (r2 : Int32 × Int32 × Int32) (T2 : Nat → ev_TS) (As2 : List Nat) (H2 : ev_M) (n2 q2 : Nat), m_post X zf y H1 n q r2 T2 As2 H2 n2 q2 → m_post X zf y H n q r2 T2 As2 H2 n2 q2) → ev_ok (ev_TT X) 295 34 [.ref y, .int (nI (j + 1)), .int (nI a)] [] H1 n q P := by
        intro H1 hm1 hx1 hp0 hup
        have hw1 := hx1.2.1
        have hz1 := hx1.2.2.2.2.1
        have ha := m_ac_of hm1 hw1 hA
        have hf := ac_f ha
        have hkl := ac_kl ha
        have hk13 := ac_k ha
        have hl10 := m_lk0 hm1
        have h10 := m_h0 hm1
        simp (disch := omega) only [t_X8_takenAt_34, t_X8_takenAt_35, t_X8_takenAt_36, t_X8_takenAt_37, true_and, hk13]
        refine M_takenNow ha (by omega) (by omega) ?_
        simp (disch := omega) only [t_X8_takenAt_40, ev_kr_1]
        exact c2 j a hj rfl ha20 rfl _ hp0
      simp (disch := omega) only [t_X8_takenAt_0, t_X8_takenAt_1, t_X8_takenAt_2, t_X8_takenAt_5, t_X8_takenAt_8, t_X8_takenAt_9, t_X8_takenAt_11, t_X8_takenAt_14, t_X8_takenAt_21, t_X8_takenAt_22, t_X8_takenAt_23, t_X8_takenAt_24, t_X8_takenAt_27, ↓reduceIte, ev_kr_1, ev_isK_y, true_and, not_true_eq_false, not_true_eq_false, M_isNoSize_n hj, M_isOut_n (v := nI a) (w := 20) (nI_pos (by omega)) (nI_ge (b := 20) ha20 (by omega)), M_fails_000 h0, hl0]
      exact hgo _ hm1 hx1 hp0 hup
theorem MM_house (hm : m_aw X zf y r T As H n ow) (hx : m_cx X zf y T As H n) (hA : m_ax X zf As) {w : Int32} (c1 : (w < 0 ∨ nI 5 ≤ w) → ∀ H1, m_post X zf y H n q (1, r.2) T As H1 n q → P (.inl (some (.int 0))) H1 n q) (c2 : ∀ a, a < 5 → w = nI a → ∀ H1 n1 q1, m_post X zf y H n q (0, r.2) T As H1 n1 q1 → P (.inl (some (.int (mho (0, r.2) T As a)))) H1 n1 q1) : ev_ok (ev_TT X) 267 0 [.ref y, .int w] [] H n q P := by
  have hx0 := hx
  obtain ⟨hZ, hw, hB, hn, hz, hT, hW⟩ := hx0
  have h0 := m_h0 hm
  have hl0 := m_lk0 hm
  have hk13 := m_k13 hm
  have hl60 := hA.2.2
  have ha0 := m_ac_of hm hw hA
  have hf0 := ac_f ha0
  have hkl0 := ac_kl ha0
  have hm1 := m_aw_top hm hZ hw hB (0, r.2)
  have hx1 := m_cx_top hx (0, r.2)
  have hp0 : m_post X zf y H n q (0, r.2) T As (ev_up H y (m_top y (0, r.2))) n q := m_post_top hm hZ hw hB hn hz (0, r.2)
  have hup := fun (r2 : Int32 × Int32 × Int32) (T2 : Nat → ev_TS) (As2 : List Nat) (H2 : ev_M) (n2 q2 : Nat) => @m_post_up X zf y r2 T2 As2 H H2 n q (0, r.2) n2 q2
  rcases pk_ix w (n := 5) (by omega) with hb | hb | ⟨a, ha5, rfl⟩
  · skip
    simp (disch := omega) only [t_X8_house_0, t_X8_house_1, t_X8_house_2, t_X8_house_3, t_X8_house_6, t_X8_house_7, t_X8_house_8, t_X8_house_11, t_X8_house_14, t_X8_house_15, t_X8_house_23, ↓reduceIte, ev_kr_1, ev_isK_y, true_and, show ¬ (1 : Int32) = 0 from by decide, M_isOut_y (v := w) (w := 5) (Or.inl hb), M_fails_100 h0, hl0]
    exact c1 (Or.inl hb) _ (m_post_top hm hZ hw hB hn hz (1, r.2))
  · skip
    simp (disch := omega) only [t_X8_house_0, t_X8_house_1, t_X8_house_2, t_X8_house_3, t_X8_house_6, t_X8_house_7, t_X8_house_8, t_X8_house_11, t_X8_house_14, t_X8_house_15, t_X8_house_23, ↓reduceIte, ev_kr_1, ev_isK_y, true_and, show ¬ (1 : Int32) = 0 from by decide, M_isOut_y (v := w) (w := 5) (Or.inr hb), M_fails_100 h0, hl0]
    exact c1 (Or.inr hb) _ (m_post_top hm hZ hw hB hn hz (1, r.2))
  · skip
    have hgo : ∀ H1, m_aw X zf y (0, r.2) T As H1 n ow → m_cx X zf y T As H1 n → m_post X zf y H n q (0, r.2) T As H1 n q → (∀ (r2 : Int32 × Int32 × Int32) (T2 : Nat → ev_TS) (As2 : List Nat) (H2 : ev_M) (n2 q2 : Nat), m_post X zf y H1 n q r2 T2 As2 H2 n2 q2 → m_post X zf y H n q r2 T2 As2 H2 n2 q2) → ev_ok (ev_TT X) 267 18 [.ref y, .int (nI a)] [] H1 n q P := by
      intro H1 hm1 hx1 hp0 hup
      have hw1 := hx1.2.1
      have hz1 := hx1.2.2.2.2.1
      have ha := m_ac_of hm1 hw1 hA
      have hf := ac_f ha
      have hkl := ac_kl ha
      have hk13 := ac_k ha
      have hl10 := m_lk0 hm1
      have h10 := m_h0 hm1
      simp (disch := omega) only [t_X8_house_18, t_X8_house_19, t_X8_house_20, true_and, hk13]
      refine M_houseNow hm1 hx1 hA ha5 fun H2 e1 e2 => ?_
      simp (disch := omega) only [t_X8_house_23, ev_kr_1]
      exact c2 a ha5 rfl _ _ _ (hup _ _ _ _ _ _ (m_post_ext hm1 hx1 e1 e2 (by omega) (by omega) (by omega) (by omega)))
    simp (disch := omega) only [t_X8_house_0, t_X8_house_1, t_X8_house_2, t_X8_house_3, t_X8_house_6, t_X8_house_7, t_X8_house_8, t_X8_house_11, ↓reduceIte, ev_kr_1, ev_isK_y, true_and, M_isOut_n (v := nI a) (w := 5) (nI_pos (by omega)) (nI_ge (b := 5) ha5 (by omega)), M_fails_000 h0, hl0]
    exact hgo _ hm1 hx1 hp0 hup
end M68
end
section
/-! ===== the reference: ask, askRow ===== -/
def ms_row (a st : Nat) : Nat → Nat → List Nat → List Nat
  | 0, _, As => As
  | d + 1, i, As => ms_row a st d (i + 1) (As ++ [(a + i * st) % 20])
def mh_row (a st : Nat) : Nat → Nat → List Nat → Int32 → Int32
  | 0, _, _, s => s
  | d + 1, i, As, s => mh_row a st d (i + 1) (As ++ [(a + i * st) % 20]) (s + mhits (md As ((a + i * st) % 20) As.length))
section M69
variable {X : ev_E} {zf : Nat → Nat} {y : Nat} {r : Int32 × Int32 × Int32} {T : Nat → ev_TS} {As : List Nat} {H : ev_M} {ow : Nat → Nat} {n q : Nat} {P : ev_O → ev_M → Nat → Nat → Prop}
theorem MM_ask (hm : m_aw X zf y r T As H n ow) (hx : m_cx X zf y T As H n) (hA : m_ax X zf As) {k : Int32} (c1 : (k < 0 ∨ nI 20 ≤ k) → ∀ H1, m_post X zf y H n q (1, r.2) T As H1 n q → P (.inl (some (.int 0))) H1 n q) (c2 : ∀ a, a < 20 → k = nI a → As.length = 60 → ∀ H1, m_post X zf y H n q (2, r.2) T As H1 n q → P (.inl (some (.int 0))) H1 n q)
    (c3 : ∀ a, a < 20 → k = nI a → As.length < 60 → ∀ H1 n1 q1, m_post X zf y H n q (0, r.2) T (As ++ [a]) H1 n1 q1 → P (.inl (some (.int (mhits (md As a As.length))))) H1 n1 q1) : ev_ok (ev_TT X) 287 0 [.ref y, .int k] [] H n q P := by
  have hx0 := hx
  obtain ⟨hZ, hw, hB, hn, hz, hT, hW⟩ := hx0
  have h0 := m_h0 hm
  have hl0 := m_lk0 hm
  have hk13 := m_k13 hm
  have hl60 := hA.2.2
  have ha0 := m_ac_of hm hw hA
  have hf0 := ac_f ha0
  have hkl0 := ac_kl ha0
  have hm1 := m_aw_top hm hZ hw hB (0, r.2)
  have hx1 := m_cx_top hx (0, r.2)
  have hp0 : m_post X zf y H n q (0, r.2) T As (ev_up H y (m_top y (0, r.2))) n q := m_post_top hm hZ hw hB hn hz (0, r.2)
  have hup := fun (r2 : Int32 × Int32 × Int32) (T2 : Nat → ev_TS) (As2 : List Nat) (H2 : ev_M) (n2 q2 : Nat) => @m_post_up X zf y r2 T2 As2 H H2 n q (0, r.2) n2 q2
  have h60 : (60 : Int32) = nI 60 := rfl
  rcases pk_ix k (n := 20) (by omega) with hb | hb | ⟨a, ha20, rfl⟩
  · simp (disch := omega) only [t_X8_ask_0, t_X8_ask_1, t_X8_ask_2, t_X8_ask_4, t_X8_ask_7, t_X8_ask_8, t_X8_ask_11, ev_kr_1, true_and, M_isOut_y (v := k) (w := 20) (Or.inl hb), hf0.1, hf0.2, hkl0]
    refine ac_size ha0 ?_
    by_cases hf : As.length = 60
    · have e6 : nI As.length = 60 := by rw [hf]; rfl
      simp (disch := omega) only [t_X8_ask_14, t_X8_ask_16, t_X8_ask_19, t_X8_ask_20, t_X8_ask_24, t_X8_ask_25, t_X8_ask_28, t_X8_ask_31, t_X8_ask_32, t_X8_ask_40, ↓reduceIte, ev_kr_1, true_and, not_true_eq_false, show ¬ (1 : Int32) = 0 from by decide, not_true_eq_false, e6, M_fails_110 h0, hk13]
      exact c1 (Or.inl hb) _ (m_post_top hm hZ hw hB hn hz (1, r.2))
    · have e6 : ¬ nI As.length = 60 := fun z => hf (nI_inj (j := 60) (by omega) (by omega) z)
      simp (disch := omega) only [t_X8_ask_14, t_X8_ask_16, t_X8_ask_23, t_X8_ask_24, t_X8_ask_25, t_X8_ask_28, t_X8_ask_31, t_X8_ask_32, t_X8_ask_40, ↓reduceIte, ev_kr_1, true_and, not_false_eq_true, show ¬ (1 : Int32) = 0 from by decide, not_false_eq_true, e6, M_fails_100 h0, hk13]
      exact c1 (Or.inl hb) _ (m_post_top hm hZ hw hB hn hz (1, r.2))
  · simp (disch := omega) only [t_X8_ask_0, t_X8_ask_1, t_X8_ask_2, t_X8_ask_4, t_X8_ask_7, t_X8_ask_8, t_X8_ask_11, ev_kr_1, true_and, M_isOut_y (v := k) (w := 20) (Or.inr hb), hf0.1, hf0.2, hkl0]
    refine ac_size ha0 ?_
    by_cases hf : As.length = 60
    · have e6 : nI As.length = 60 := by rw [hf]; rfl
      simp (disch := omega) only [t_X8_ask_14, t_X8_ask_16, t_X8_ask_19, t_X8_ask_20, t_X8_ask_24, t_X8_ask_25, t_X8_ask_28, t_X8_ask_31, t_X8_ask_32, t_X8_ask_40, ↓reduceIte, ev_kr_1, true_and, not_true_eq_false, show ¬ (1 : Int32) = 0 from by decide, not_true_eq_false, e6, M_fails_110 h0, hk13]
      exact c1 (Or.inr hb) _ (m_post_top hm hZ hw hB hn hz (1, r.2))
    · have e6 : ¬ nI As.length = 60 := fun z => hf (nI_inj (j := 60) (by omega) (by omega) z)
      simp (disch := omega) only [t_X8_ask_14, t_X8_ask_16, t_X8_ask_23, t_X8_ask_24, t_X8_ask_25, t_X8_ask_28, t_X8_ask_31, t_X8_ask_32, t_X8_ask_40, ↓reduceIte, ev_kr_1, true_and, not_false_eq_true, show ¬ (1 : Int32) = 0 from by decide, not_false_eq_true, e6, M_fails_100 h0, hk13]
      exact c1 (Or.inr hb) _ (m_post_top hm hZ hw hB hn hz (1, r.2))
  · simp (disch := omega) only [t_X8_ask_0, t_X8_ask_1, t_X8_ask_2, t_X8_ask_4, t_X8_ask_7, t_X8_ask_8, t_X8_ask_11, ev_kr_1, true_and, M_isOut_n (v := nI a) (w := 20) (nI_pos (by omega)) (nI_ge (b := 20) ha20 (by omega)), hf0.1, hf0.2, hkl0]
    refine ac_size ha0 ?_
    by_cases hf : As.length = 60
    · have e6 : nI As.length = 60 := by rw [hf]; rfl
      simp (disch := omega) only [t_X8_ask_14, t_X8_ask_16, t_X8_ask_19, t_X8_ask_20, t_X8_ask_24, t_X8_ask_25, t_X8_ask_28, t_X8_ask_31, t_X8_ask_32, t_X8_ask_40, ↓reduceIte, ev_kr_1, true_and, not_true_eq_false, show ¬ (1 : Int32) = 0 from by decide, not_true_eq_false, e6, M_fails_010 h0, hk13]
      exact c2 a ha20 rfl hf _ (m_post_top hm hZ hw hB hn hz (2, r.2))
    · have e6 : ¬ nI As.length = 60 := fun z => hf (nI_inj (j := 60) (by omega) (by omega) z)
      have hgo : ∀ H1, m_aw X zf y (0, r.2) T As H1 n ow → m_cx X zf y T As H1 n → m_post X zf y H n q (0, r.2) T As H1 n q → (∀ (r2 : Int32 × Int32 × Int32) (T2 : Nat → ev_TS) (As2 : List Nat) (H2 : ev_M) (n2 q2 : Nat), m_post X zf y H1 n q r2 T2 As2 H2 n2 q2 → m_post X zf y H n q r2 T2 As2 H2 n2 q2) → ev_ok (ev_TT X) 287 35 [.ref y, .int (nI a)] [] H1 n q P := by
        intro H1 hm1 hx1 hp0 hup
        have hw1 := hx1.2.1
        have hz1 := hx1.2.2.2.2.1
        have ha := m_ac_of hm1 hw1 hA
        have hf := ac_f ha
        have hkl := ac_kl ha
        have hk13 := ac_k ha
        have hl10 := m_lk0 hm1
        have h10 := m_h0 hm1
        simp (disch := omega) only [t_X8_ask_35, t_X8_ask_36, t_X8_ask_37, true_and, hk13]
        refine M_asks hm1 hx1 hA ha20 (by omega) fun H2 n2 q2 ow2 e1 e2 e3 e4 e5 e6 e7 e8 => ?_
        simp (disch := omega) only [t_X8_ask_40, ev_kr_1]
        exact c3 a ha20 rfl (by omega) H2 n2 q2 (hup _ _ _ _ _ _ ⟨⟨ow2, e1⟩, e2, e3, e4, by omega, e6, by omega⟩)
      simp (disch := omega) only [t_X8_ask_14, t_X8_ask_16, t_X8_ask_23, t_X8_ask_24, t_X8_ask_25, t_X8_ask_28, ↓reduceIte, ev_kr_1, true_and, not_false_eq_true, not_false_eq_true, e6, M_fails_000 h0, hk13]
      exact hgo _ hm1 hx1 hp0 hup
theorem m_cx_of {r1 : Int32 × Int32 × Int32} {As1 : List Nat} {H1 : ev_M} {n1 : Nat} (hx : m_cx X zf y T As H n) (hA1 : m_ax X zf As1) (hw1 : ev_low X H1) (hz1 : ∀ a, n1 ≤ a → H1 a = none) (hn : n ≤ n1) : m_cx X zf y T As1 H1 n1 := by
  obtain ⟨hZ, hw, hB, hn0, hz, hT⟩ := hx
  exact ⟨m_zok_of hA1, hw1, hB, by omega, hz1, hT⟩
theorem M_rowLoop {a st mn : Nat} (ha : a < 20) (hs : st < 20) (hmn : mn ≤ 12) : ∀ (d i : Nat) (s : Int32) (As : List Nat) (H' : ev_M) (n' q' : Nat) (ow' : Nat → Nat), i + d = mn → m_aw X zf y r T As H' n' ow' → m_cx X zf y T As H' n' → m_ax X zf As → As.length + d ≤ 60 →
    (∀ H1 n1 q1 ow1, m_aw X zf y r T (ms_row a st d i As) H1 n1 ow1 → (∀ z, z < y ∨ z = y + 11 → H1 z = H' z) → (∀ z, n1 ≤ z → H1 z = none) → n' ≤ n1 → n1 ≤ n' + d → q' ≤ q1 → q1 ≤ q' + 90 * d → P (.inl (some (.int (mh_row a st d i As s)))) H1 n1 q1) → ev_ok (ev_TT X) 288 69 [.ref y, .int (nI a), .int (nI st), .int (nI mn), .int s, .int (nI i)] [] H' n' q' P := by
  intro d
  induction d with
  | zero =>
    intro i s As H' n' q' ow' hi hm hx hA hl c
    have hi2 : mn ≤ i := by omega
    have hc := c H' n' q' ow' hm (fun _ _ => rfl) hx.2.2.2.2.1 (Nat.le_refl _) (by omega) (Nat.le_refl _) (by omega)
    simp (disch := omega) only [t_X8_askRow_69, t_X8_askRow_71, t_X8_askRow_72, t_X8_askRow_99, t_X8_askRow_101, ↓reduceIte, nI_leI, hi2]
    exact hc
  | succ d ih =>
    intro i s As H' n' q' ow' hi hm hx hA hl c
    have hi2 : ¬ mn ≤ i := by omega
    have hk13 := m_k13 hm
    have hmul : i * st ≤ 12 * 20 := Nat.mul_le_mul (by omega) (by omega)
    have hrem : nI (a + i * st) - nI (a + i * st) / 20 * 20 = nI ((a + i * st) % 20) := pk_rem (d := 20) (by omega) (by omega) (by omega)
    have hm20 : (a + i * st) % 20 < 20 := Nat.mod_lt _ (by omega)
    have h20 : ¬ (20 : Int32) = 0 := by decide
    rw [t_X8_askRow_69]
    simp (disch := omega) only [t_X8_askRow_71, t_X8_askRow_72, t_X8_askRow_75, t_X8_askRow_77, t_X8_askRow_78, t_X8_askRow_79, t_X8_askRow_81, t_X8_askRow_82, t_X8_askRow_83, t_X8_askRow_84, t_X8_askRow_86, t_X8_askRow_87, ↓reduceIte, true_and, not_false_eq_true, not_false_eq_true, nI_leI, hi2, hk13, pk_mul, nI_add, hrem, h20]
    refine M_asks hm hx hA hm20 (by omega) fun H2 n2 q2 ow2 e1 e2 e3 e4 e5 e6 e7 e8 => ?_
    have hA2 := m_ax_app hA hm20 (by omega)
    have hI := ih (i + 1) (s + mhits (md As ((a + i * st) % 20) As.length)) _ H2 n2 q2 ow2 (by omega) e1 (m_cx_of (r1 := r) hx hA2 e8 e3 e4) hA2 (by rw [List.length_append, List.length_singleton]; omega) (fun H3 n3 q3 ow3 f1 f2 f3 f4 f5 f6 f7 => c H3 n3 q3 ow3 f1 (fun z hz => (f2 z hz).trans (e2 z hz)) f3 (by omega) (by omega) (by omega) (by omega))
    simp (disch := omega) only [t_X8_askRow_90, t_X8_askRow_91, t_X8_askRow_93, t_X8_askRow_96, ev_k_i, ev_kr_1, nI_1]
    exact hI
theorem MM_askRow (hm : m_aw X zf y r T As H n ow) (hx : m_cx X zf y T As H n) (hA : m_ax X zf As) {f st mn : Int32} (c1 : ((f < 0 ∨ nI 20 ≤ f) ∨ (st < 0 ∨ nI 20 ≤ st) ∨ (mn < 1 ∨ 12 < mn)) → ∀ H1, m_post X zf y H n q (1, r.2) T As H1 n q → P (.inl (some (.int 0))) H1 n q)
    (c2 : ∀ a b j, a < 20 → f = nI a → b < 20 → st = nI b → j < 12 → mn = nI (j + 1) → 60 < As.length + (j + 1) → ∀ H1, m_post X zf y H n q (2, r.2) T As H1 n q → P (.inl (some (.int 0))) H1 n q)
    (c3 : ∀ a b j, a < 20 → f = nI a → b < 20 → st = nI b → j < 12 → mn = nI (j + 1) → As.length + (j + 1) ≤ 60 → ∀ H1 n1 q1, m_post X zf y H n q (0, r.2) T (ms_row a b (j + 1) 0 As) H1 n1 q1 → P (.inl (some (.int (mh_row a b (j + 1) 0 As 0)))) H1 n1 q1) : ev_ok (ev_TT X) 288 0 [.ref y, .int f, .int st, .int mn, ev_J, ev_J] [] H n q P := by
  have hx0 := hx
  obtain ⟨hZ, hw, hB, hn, hz, hT, hW⟩ := hx0
  have h0 := m_h0 hm
  have hl0 := m_lk0 hm
  have hk13 := m_k13 hm
  have hl60 := hA.2.2
  have ha0 := m_ac_of hm hw hA
  have hf0 := ac_f ha0
  have hkl0 := ac_kl ha0
  have hm1 := m_aw_top hm hZ hw hB (0, r.2)
  have hx1 := m_cx_top hx (0, r.2)
  have hp0 : m_post X zf y H n q (0, r.2) T As (ev_up H y (m_top y (0, r.2))) n q := m_post_top hm hZ hw hB hn hz (0, r.2)
  have hup := fun (r2 : Int32 × Int32 × Int32) (T2 : Nat → ev_TS) (As2 : List Nat) (H2 : ev_M) (n2 q2 : Nat) => @m_post_up X zf y r2 T2 As2 H H2 n q (0, r.2) n2 q2
  rcases pk_ix f (n := 20) (by omega) with hb | hb | ⟨a, ha20, rfl⟩
  · skip
    simp (disch := omega) only [t_X8_askRow_0, t_X8_askRow_1, t_X8_askRow_2, t_X8_askRow_4, t_X8_askRow_7, t_X8_askRow_30, t_X8_askRow_31, t_X8_askRow_35, t_X8_askRow_36, t_X8_askRow_39, ↓reduceIte, ev_kr_1, true_and, not_false_eq_true, show ¬ (1 : Int32) = 0 from by decide, not_false_eq_true, M_isOut_y (v := f) (w := 20) (Or.inl hb), hf0.1, hf0.2, hkl0]
    refine ac_size ha0 ?_
    by_cases hsz : nI As.length + mn ≤ 60
    · simp (disch := omega) only [t_X8_askRow_42, t_X8_askRow_43, t_X8_askRow_44, t_X8_askRow_46, t_X8_askRow_53, t_X8_askRow_54, t_X8_askRow_55, t_X8_askRow_58, t_X8_askRow_61, t_X8_askRow_62, ↓reduceIte, ev_kr_1, true_and, show ¬ (1 : Int32) = 0 from by decide, hsz, M_fails_100 h0, hk13]
      exact c1 (Or.inl (Or.inl hb)) _ (m_post_top hm hZ hw hB hn hz (1, r.2))
    · simp (disch := omega) only [t_X8_askRow_42, t_X8_askRow_43, t_X8_askRow_44, t_X8_askRow_46, t_X8_askRow_49, t_X8_askRow_50, t_X8_askRow_54, t_X8_askRow_55, t_X8_askRow_58, t_X8_askRow_61, t_X8_askRow_62, ↓reduceIte, ev_kr_1, true_and, show ¬ (1 : Int32) = 0 from by decide, hsz, M_fails_110 h0, hk13]
      exact c1 (Or.inl (Or.inl hb)) _ (m_post_top hm hZ hw hB hn hz (1, r.2))
  · skip
    simp (disch := omega) only [t_X8_askRow_0, t_X8_askRow_1, t_X8_askRow_2, t_X8_askRow_4, t_X8_askRow_7, t_X8_askRow_30, t_X8_askRow_31, t_X8_askRow_35, t_X8_askRow_36, t_X8_askRow_39, ↓reduceIte, ev_kr_1, true_and, not_false_eq_true, show ¬ (1 : Int32) = 0 from by decide, not_false_eq_true, M_isOut_y (v := f) (w := 20) (Or.inr hb), hf0.1, hf0.2, hkl0]
    refine ac_size ha0 ?_
    by_cases hsz : nI As.length + mn ≤ 60
    · simp (disch := omega) only [t_X8_askRow_42, t_X8_askRow_43, t_X8_askRow_44, t_X8_askRow_46, t_X8_askRow_53, t_X8_askRow_54, t_X8_askRow_55, t_X8_askRow_58, t_X8_askRow_61, t_X8_askRow_62, ↓reduceIte, ev_kr_1, true_and, show ¬ (1 : Int32) = 0 from by decide, hsz, M_fails_100 h0, hk13]
      exact c1 (Or.inl (Or.inr hb)) _ (m_post_top hm hZ hw hB hn hz (1, r.2))
    · simp (disch := omega) only [t_X8_askRow_42, t_X8_askRow_43, t_X8_askRow_44, t_X8_askRow_46, t_X8_askRow_49, t_X8_askRow_50, t_X8_askRow_54, t_X8_askRow_55, t_X8_askRow_58, t_X8_askRow_61, t_X8_askRow_62, ↓reduceIte, ev_kr_1, true_and, show ¬ (1 : Int32) = 0 from by decide, hsz, M_fails_110 h0, hk13]
      exact c1 (Or.inl (Or.inr hb)) _ (m_post_top hm hZ hw hB hn hz (1, r.2))
  · rcases pk_ix st (n := 20) (by omega) with hb | hb | ⟨b, hb20, rfl⟩
    · skip
      simp (disch := omega) only [t_X8_askRow_0, t_X8_askRow_1, t_X8_askRow_2, t_X8_askRow_4, t_X8_askRow_7, t_X8_askRow_10, t_X8_askRow_11, t_X8_askRow_13, t_X8_askRow_16, t_X8_askRow_30, t_X8_askRow_31, t_X8_askRow_35, t_X8_askRow_36, t_X8_askRow_39, ↓reduceIte, ev_kr_1, true_and, not_true_eq_false, not_false_eq_true, show ¬ (1 : Int32) = 0 from by decide, not_true_eq_false, not_false_eq_true, M_isOut_n (v := nI a) (w := 20) (nI_pos (by omega)) (nI_ge (b := 20) ha20 (by omega)), M_isOut_y (v := st) (w := 20) (Or.inl hb), hf0.1, hf0.2, hkl0]
      refine ac_size ha0 ?_
      by_cases hsz : nI As.length + mn ≤ 60
      · simp (disch := omega) only [t_X8_askRow_42, t_X8_askRow_43, t_X8_askRow_44, t_X8_askRow_46, t_X8_askRow_53, t_X8_askRow_54, t_X8_askRow_55, t_X8_askRow_58, t_X8_askRow_61, t_X8_askRow_62, ↓reduceIte, ev_kr_1, true_and, show ¬ (1 : Int32) = 0 from by decide, hsz, M_fails_100 h0, hk13]
        exact c1 (Or.inr (Or.inl (Or.inl hb))) _ (m_post_top hm hZ hw hB hn hz (1, r.2))
      · simp (disch := omega) only [t_X8_askRow_42, t_X8_askRow_43, t_X8_askRow_44, t_X8_askRow_46, t_X8_askRow_49, t_X8_askRow_50, t_X8_askRow_54, t_X8_askRow_55, t_X8_askRow_58, t_X8_askRow_61, t_X8_askRow_62, ↓reduceIte, ev_kr_1, true_and, show ¬ (1 : Int32) = 0 from by decide, hsz, M_fails_110 h0, hk13]
        exact c1 (Or.inr (Or.inl (Or.inl hb))) _ (m_post_top hm hZ hw hB hn hz (1, r.2))
    · skip
      simp (disch := omega) only [t_X8_askRow_0, t_X8_askRow_1, t_X8_askRow_2, t_X8_askRow_4, t_X8_askRow_7, t_X8_askRow_10, t_X8_askRow_11, t_X8_askRow_13, t_X8_askRow_16, t_X8_askRow_30, t_X8_askRow_31, t_X8_askRow_35, t_X8_askRow_36, t_X8_askRow_39, ↓reduceIte, ev_kr_1, true_and, not_true_eq_false, not_false_eq_true, show ¬ (1 : Int32) = 0 from by decide, not_true_eq_false, not_false_eq_true, M_isOut_n (v := nI a) (w := 20) (nI_pos (by omega)) (nI_ge (b := 20) ha20 (by omega)), M_isOut_y (v := st) (w := 20) (Or.inr hb), hf0.1, hf0.2, hkl0]
      refine ac_size ha0 ?_
      by_cases hsz : nI As.length + mn ≤ 60
      · simp (disch := omega) only [t_X8_askRow_42, t_X8_askRow_43, t_X8_askRow_44, t_X8_askRow_46, t_X8_askRow_53, t_X8_askRow_54, t_X8_askRow_55, t_X8_askRow_58, t_X8_askRow_61, t_X8_askRow_62, ↓reduceIte, ev_kr_1, true_and, show ¬ (1 : Int32) = 0 from by decide, hsz, M_fails_100 h0, hk13]
        exact c1 (Or.inr (Or.inl (Or.inr hb))) _ (m_post_top hm hZ hw hB hn hz (1, r.2))
      · simp (disch := omega) only [t_X8_askRow_42, t_X8_askRow_43, t_X8_askRow_44, t_X8_askRow_46, t_X8_askRow_49, t_X8_askRow_50, t_X8_askRow_54, t_X8_askRow_55, t_X8_askRow_58, t_X8_askRow_61, t_X8_askRow_62, ↓reduceIte, ev_kr_1, true_and, show ¬ (1 : Int32) = 0 from by decide, hsz, M_fails_110 h0, hk13]
        exact c1 (Or.inr (Or.inl (Or.inr hb))) _ (m_post_top hm hZ hw hB hn hz (1, r.2))
    · rcases ev_mn mn with hmb | ⟨j, hj, rfl⟩
      · skip
        simp (disch := omega) only [t_X8_askRow_0, t_X8_askRow_1, t_X8_askRow_2, t_X8_askRow_4, t_X8_askRow_7, t_X8_askRow_10, t_X8_askRow_11, t_X8_askRow_13, t_X8_askRow_16, t_X8_askRow_19, t_X8_askRow_20, t_X8_askRow_21, t_X8_askRow_22, t_X8_askRow_24, t_X8_askRow_27, t_X8_askRow_30, t_X8_askRow_31, t_X8_askRow_35, t_X8_askRow_36, t_X8_askRow_39, ↓reduceIte, ev_kr_1, true_and, not_true_eq_false, show ¬ (1 : Int32) = 0 from by decide, not_true_eq_false, M_isOut_n (v := nI a) (w := 20) (nI_pos (by omega)) (nI_ge (b := 20) ha20 (by omega)), M_isOut_n (v := nI b) (w := 20) (nI_pos (by omega)) (nI_ge (b := 20) hb20 (by omega)), M_isOut_y (v := mn - 1) (w := 12) (ev_out12 hmb), hf0.1, hf0.2, hkl0]
        refine ac_size ha0 ?_
        by_cases hsz : nI As.length + mn ≤ 60
        · simp (disch := omega) only [t_X8_askRow_42, t_X8_askRow_43, t_X8_askRow_44, t_X8_askRow_46, t_X8_askRow_53, t_X8_askRow_54, t_X8_askRow_55, t_X8_askRow_58, t_X8_askRow_61, t_X8_askRow_62, ↓reduceIte, ev_kr_1, true_and, show ¬ (1 : Int32) = 0 from by decide, hsz, M_fails_100 h0, hk13]
          exact c1 (Or.inr (Or.inr hmb)) _ (m_post_top hm hZ hw hB hn hz (1, r.2))
        · simp (disch := omega) only [t_X8_askRow_42, t_X8_askRow_43, t_X8_askRow_44, t_X8_askRow_46, t_X8_askRow_49, t_X8_askRow_50, t_X8_askRow_54, t_X8_askRow_55, t_X8_askRow_58, t_X8_askRow_61, t_X8_askRow_62, ↓reduceIte, ev_kr_1, true_and, show ¬ (1 : Int32) = 0 from by decide, hsz, M_fails_110 h0, hk13]
          exact c1 (Or.inr (Or.inr hmb)) _ (m_post_top hm hZ hw hB hn hz (1, r.2))
      · simp (disch := omega) only [t_X8_askRow_0, t_X8_askRow_1, t_X8_askRow_2, t_X8_askRow_4, t_X8_askRow_7, t_X8_askRow_10, t_X8_askRow_11, t_X8_askRow_13, t_X8_askRow_16, t_X8_askRow_19, t_X8_askRow_20, t_X8_askRow_21, t_X8_askRow_22, t_X8_askRow_24, t_X8_askRow_27, t_X8_askRow_34, t_X8_askRow_35, t_X8_askRow_36, t_X8_askRow_39, ↓reduceIte, ev_kr_1, true_and, not_true_eq_false, not_true_eq_false, M_isOut_n (v := nI a) (w := 20) (nI_pos (by omega)) (nI_ge (b := 20) ha20 (by omega)), M_isOut_n (v := nI b) (w := 20) (nI_pos (by omega)) (nI_ge (b := 20) hb20 (by omega)), nI_pred, M_isOut_n (v := nI j) (w := 12) (nI_pos (by omega)) (nI_ge (b := 12) hj (by omega)), hf0.1, hf0.2, hkl0]
        refine ac_size ha0 ?_
        by_cases hsz : As.length + (j + 1) ≤ 60
        · have hsz2 : nI (As.length + (j + 1)) ≤ 60 := nI_le (b := 60) hsz (by omega)
          have hgo : ∀ H1, m_aw X zf y (0, r.2) T As H1 n ow → m_cx X zf y T As H1 n → m_post X zf y H n q (0, r.2) T As H1 n q → (∀ (r2 : Int32 × Int32 × Int32) (T2 : Nat → ev_TS) (As2 : List Nat) (H2 : ev_M) (n2 q2 : Nat), m_post X zf y H1 n q r2 T2 As2 H2 n2 q2 → m_post X zf y H n q r2 T2 As2 H2 n2 q2) → ev_ok (ev_TT X) 288 63 [.ref y, .int (nI a), .int (nI b), .int (nI (j + 1)), ev_J, ev_J] [] H1 n q P := by
            intro H1 hm1 hx1 hp0 hup
            have hw1 := hx1.2.1
            have hz1 := hx1.2.2.2.2.1
            have ha := m_ac_of hm1 hw1 hA
            have hf := ac_f ha
            have hkl := ac_kl ha
            have hk13 := ac_k ha
            have hl10 := m_lk0 hm1
            have h10 := m_h0 hm1
            have hL := M_rowLoop (X := X) (P := P) ha20 hb20 (mn := j + 1) (by omega) (j + 1) 0 0 As H1 n q ow (by omega) hm1 hx1 hA hsz (fun H2 n2 q2 ow2 e1 e2 e3 e4 e5 e6 e7 => c3 a b j ha20 rfl hb20 rfl hj rfl hsz H2 n2 q2 (hup _ _ _ _ _ _ ⟨⟨ow2, e1⟩, e2, e3, e4, by omega, e6, by omega⟩))
            rw [nI_0] at hL
            simp (disch := omega) only [t_X8_askRow_63, t_X8_askRow_64, t_X8_askRow_66, t_X8_askRow_67, ev_k_i]
            exact hL
          simp (disch := omega) only [t_X8_askRow_42, t_X8_askRow_43, t_X8_askRow_44, t_X8_askRow_46, t_X8_askRow_53, t_X8_askRow_54, t_X8_askRow_55, t_X8_askRow_58, ↓reduceIte, ev_kr_1, true_and, nI_add, hsz2, M_fails_000 h0, hk13]
          exact hgo _ hm1 hx1 hp0 hup
        · have hsz2 : ¬ nI (As.length + (j + 1)) ≤ 60 := nI_ge (a := 60) (by omega) (by omega)
          simp (disch := omega) only [t_X8_askRow_42, t_X8_askRow_43, t_X8_askRow_44, t_X8_askRow_46, t_X8_askRow_49, t_X8_askRow_50, t_X8_askRow_54, t_X8_askRow_55, t_X8_askRow_58, t_X8_askRow_61, t_X8_askRow_62, ↓reduceIte, ev_kr_1, true_and, show ¬ (1 : Int32) = 0 from by decide, nI_add, hsz2, M_fails_010 h0, hk13]
          exact c2 a b j ha20 rfl hb20 rfl hj rfl (by omega) _ (m_post_top hm hZ hw hB hn hz (2, r.2))
end M69
end
section
/-! ===== the reference: texts of its askings ===== -/
def ev_K (X : ev_E) (c k : Nat) : Prop := ∃ (b : Nat) (r : List Value) (kd : Nat) (f : Nat → Value), X.2.2.2.2.1 (X.2.2.2.2.2 c) = some (.inr (0, .ref b :: .int 0 :: r)) ∧ X.2.2.2.2.1 b = some (.inl (kd, k, f)) ∧ kd < 20 ∧ ev_aT kd = .byte ∧ (∀ i, i < k → fits .byte (f i) = true) ∧ X.2.2.2.2.2 c < X.1.heap.size ∧ b < X.1.heap.size
theorem ev_K_St {X : ev_E} {H : ev_M} {c k : Nat} (h : ev_K X c k) (hw : ev_low X H) : ev_St X H (X.2.2.2.2.2 c) k := by
  obtain ⟨b, r, kd, f, h1, h2, h3, h4, h5, h6, h7⟩ := h
  exact ⟨b, r, kd, f, ev_lk_o (hw _ h6) h1, ev_lk_o (hw _ h7) h2, h3, h4, h5⟩
def ev_KK (X : ev_E) : Prop := ev_K X (1000 + 117) 0 ∧ ev_K X (1000 + 195) 1
section M70
variable {X : ev_E} {zf : Nat → Nat} {y : Nat} {r : Int32 × Int32 × Int32} {T : Nat → ev_TS} {As : List Nat} {H : ev_M} {ow : Nat → Nat} {n q : Nat} {P : ev_O → ev_M → Nat → Nat → Prop}
theorem M_keys (hD : ev_DG X) (hSC : ev_KK X) (hm : m_aw X zf y r T As H n ow) (hx : m_cx X zf y T As H n) (hA : m_ax X zf As) {w : Nat} (hw20 : w ≤ 20)
    (c : ∀ H1 s n1 q1, (∀ z, z < n → H1 z = H z) → (∀ z, n1 ≤ z → H1 z = none) → n ≤ n1 → n1 ≤ n + 160 → q ≤ q1 → q1 ≤ q + 8000 → P (.inl (some (.ref s))) H1 n1 q1) : ev_ok (ev_TT X) 306 0 [.ref y, .int (nI w), ev_J, ev_J] [] H n q P := by
  have hx0 := hx
  obtain ⟨hZ, hw, hB, hn, hz, hT, hW⟩ := hx0
  have hB1 := hB.1
  have hl60 := hA.2.2
  have h1a : nI 1 = 1 := rfl
  have key : ∀ e d (s k : Nat) (H' : ev_M) (n' q' : Nat), d + e = w + 1 → 1 ≤ d → (∀ z, z < n → H' z = H z) → (∀ z, n' ≤ z → H' z = none) → n ≤ n' → n' ≤ n + 8 * (d - 1) → q ≤ q' → q' ≤ q + 400 * (d - 1) → ev_St X H' s k → s < n' → k ≤ 3 * (d - 1) → ev_ok (ev_TT X) 306 5 [.ref y, .int (nI w), .ref s, .int (nI d)] [] H' n' q' P := by
    intro e
    induction e with
    | zero =>
      intro d s k H' n' q' hd hd1 h1 h2 h3 h4 h5 h6 h7 h8 h9
      have hi2 : w < d := by omega
      have hc := c H' s n' q' h1 h2 h3 (by omega) h5 (by omega)
      simp (disch := omega) only [t_X8_keys_5, t_X8_keys_6, t_X8_keys_7, t_X8_keys_77, t_X8_keys_78, ↓reduceIte, nI_ltI, hi2]
      exact hc
    | succ e ih =>
      intro d s k H' n' q' hd hd1 h1 h2 h3 h4 h5 h6 h7 h8 h9
      have hi2 : ¬ w < d := by omega
      have hac : ∀ H'' n'', (∀ z, z < n → H'' z = H z) → n ≤ n'' → m_ac X zf y As H'' := fun H'' n'' e1 e2 => m_ac_of (m_aw_ext hm hx e1 e2) (fun z hzz => (e1 z (by omega)).trans (hw z hzz)) hA
      have hlow : ∀ H'', (∀ z, z < n → H'' z = H z) → ev_low X H'' := fun H'' e1 z hzz => (e1 z (by omega)).trans (hw z hzz)
      have ha := hac H' n' h1 h3
      have hf := ac_f ha
      have hkl := ac_kl ha
      have hk13 := ac_k ha
      have hc := c H' s n' q' h1 h2 h3 (by omega) h5 (by omega)
      rw [t_X8_keys_5]
      simp (disch := omega) only [t_X8_keys_6, t_X8_keys_7, t_X8_keys_10, t_X8_keys_11, t_X8_keys_12, t_X8_keys_13, t_X8_keys_16, ↓reduceIte, true_and, nI_ltI, hi2, hf.1, hf.2, hkl]
      refine ac_size ha ?_
      simp (disch := omega) only [t_X8_keys_19, ev_kr_1, true_and, hk13]
      refine M_keyWith ha (by omega) (Nat.le_refl _) ?_
      rcases e2 : mkw As d As.length 20 0 with _ | a
      · unfold nb
        simp (disch := omega) only [t_X8_keys_22, t_X8_keys_23, t_X8_keys_77, t_X8_keys_78, ↓reduceIte, ev_kr_1]
        exact hc
      · have hal := mkw_lt e2
        have hm1 := ev_nm1 (show a < 2 ^ 31 by omega)
        unfold nb
        simp (disch := omega) only [t_X8_keys_22, t_X8_keys_23, t_X8_keys_26, t_X8_keys_29, t_X8_keys_30, ↓reduceIte, ev_kr_1, hm1]
        refine S_init h2 fun H1 hS0 => ?_
        have g1 : ∀ z, z < n → H1 z = H z := fun z hzz => (ev_SB_fr hS0 z (by omega)).trans (h1 z hzz)
        have ha1 := hac H1 (n' + 2) g1 (by omega)
        have hf1 := ac_f ha1
        have hkl1 := ac_kl ha1
        have hk131 := ac_k ha1
        have hkS0 := ev_SB_k (X := X) hS0
        simp (disch := omega) only [t_X8_keys_33, t_X8_keys_34, t_X8_keys_35, t_X8_keys_36, t_X8_keys_39, ev_kr_0, true_and, hf1.1, hf1.2, hkl1]
        refine ac_size ha1 ?_
        simp (disch := omega) only [t_X8_keys_42, ev_kr_1, true_and, hk131]
        refine M_keyWith ha1 (by omega) (Nat.le_refl _) ?_
        rw [e2]
        unfold nb
        simp (disch := omega) only [t_X8_keys_45, ev_kr_1, true_and, hkS0]
        refine S_int hD (by omega) (hlow H1 g1) hS0 (by omega) (by omega) fun N2 H2 n2 q2 hS2 hg2 => ?_
        have hdg := ev_dg_b a
        unfold ev_gr at hg2
        have g2 : ∀ z, z < n → H2 z = H z := fun z hzz => (ev_SB_fr hS2 z (by omega)).trans (h1 z hzz)
        have hkS2 := ev_SB_k (X := X) hS2
        have hro : ∀ z, n' ≤ z → X.2.2.2.2.1 z = none := fun z hzz => hB.2.1 z (by omega)
        have hcg : ∀ (Ha : ev_M) (t kk : Nat), ev_St X H' t kk → (∀ z, z < n' → Ha z = H' z) → ev_St X Ha t kk := fun Ha t kk ht he => ev_St_cg ht h2 hro he
        -- the blank or nothing
        have hmid : ∀ (sp kk : Nat), kk ≤ 1 → ¬ sp = n' → ev_St X H' sp kk → ev_ok (ev_TT X) 306 60 [.ref y, .int (nI w), .ref s, .int (nI d)] [.ref sp, .ref n'] H2 n2 q2 P := by
          intro sp kk hkk hspn hsp
          simp (disch := omega) only [t_X8_keys_60, true_and, hkS2]
          refine S_str hS2 (by omega) (fun Ha he => hcg Ha sp kk hsp fun z hzz => (he z hzz).trans (ev_SB_fr hS2 z hzz)) hspn fun N3 H3 n3 q3 hS3 hg3 => ?_
          unfold ev_gr at hg3
          have hkS3 := ev_SB_k (X := X) hS3
          simp (disch := omega) only [t_X8_keys_63, t_X8_keys_64, ev_kr_1, true_and, hkS3]
          refine S_str hS3 (by omega) (fun Ha he => hcg Ha s k h7 fun z hzz => (he z hzz).trans (ev_SB_fr hS3 z hzz)) (by omega) fun N4 H4 n4 q4 hS4 hg4 => ?_
          unfold ev_gr at hg4
          have hkS4 := ev_SB_k (X := X) hS4
          simp (disch := omega) only [t_X8_keys_67, ev_kr_1, true_and, hkS4]
          refine S_toString hS4 fun H5 b1 b2 b3 => ?_
          have hlt := ev_SB_lt hS4
          have hI := ih (d + 1) n4 _ H5 (n4 + 2) (q4 + 4 + (0 + ev_dg a + kk + k)) (by omega) (by omega) (fun z hzz => (b2 z (by omega)).trans (h1 z hzz)) b3 (by omega) (by omega) (by omega) (by omega) b1 (by omega) (by omega)
          simp (disch := omega) only [t_X8_keys_70, t_X8_keys_71, t_X8_keys_74, ev_k_i, ev_k_r, ev_kr_1, nI_1]
          exact hI
        by_cases hd2 : d = 1
        · have hM := hmid (X.2.2.2.2.2 (1000 + 117)) 0 (by omega) (by have := hSC.1; obtain ⟨b, r, kd, f, -, -, -, -, -, z6, -⟩ := this; omega) (ev_K_St hSC.1 (hlow H' h1))
          have e3 : nI d = 1 := by rw [hd2]; rfl
          rw [e3] at hM ⊢
          simp (disch := omega) only [t_X8_keys_48, t_X8_keys_49, t_X8_keys_50, t_X8_keys_53, t_X8_keys_55, ↓reduceIte, ev_kr_1, not_true_eq_false, not_true_eq_false]
          exact hM
        · have hM := hmid (X.2.2.2.2.2 (1000 + 195)) 1 (by omega) (by have := hSC.2; obtain ⟨b, r, kd, f, -, -, -, -, -, z6, -⟩ := this; omega) (ev_K_St hSC.2 (hlow H' h1))
          have e3 : ¬ nI d = 1 := fun z => hd2 (nI_inj (j := 1) (by omega) (by omega) z)
          simp (disch := omega) only [t_X8_keys_48, t_X8_keys_49, t_X8_keys_50, t_X8_keys_58, ↓reduceIte, ev_kr_1, not_false_eq_true, not_false_eq_true, e3]
          exact hM
  have h9 := key w 1 (X.2.2.2.2.2 (1000 + 117)) 0 H n q (by omega) (Nat.le_refl 1) (fun _ _ => rfl) hz (Nat.le_refl _) (by omega) (Nat.le_refl _) (by omega) (ev_K_St hSC.1 hw) (by have := hSC.1; obtain ⟨b, r, kd, f, -, -, -, -, -, z6, -⟩ := this; omega) (by omega)
  rw [h1a] at h9
  simp (disch := omega) only [t_X8_keys_0, t_X8_keys_2, t_X8_keys_3, t_X8_keys_4, ev_k_i, ev_k_r]
  exact h9
theorem MM_kept (hD : ev_DG X) (hSC : ev_KK X) (hm : m_aw X zf y r T As H n ow) (hx : m_cx X zf y T As H n) (hA : m_ax X zf As) {s : Int32} (c1 : (s < 1 ∨ 6 < s) → ∀ H1 v, m_post X zf y H n q (1, r.2) T As H1 n q → P (.inl (some (.ref v))) H1 n q) (c2 : ∀ j, j < 6 → s = nI (j + 1) → ∀ H1 v n1 q1, m_post X zf y H n q (0, r.2) T As H1 n1 q1 → P (.inl (some (.ref v))) H1 n1 q1) : ev_ok (ev_TT X) 307 0 [.ref y, .int s] [] H n q P := by
  have hx0 := hx
  obtain ⟨hZ, hw, hB, hn, hz, hT, hW⟩ := hx0
  have h0 := m_h0 hm
  have hl0 := m_lk0 hm
  have hk13 := m_k13 hm
  have hl60 := hA.2.2
  have ha0 := m_ac_of hm hw hA
  have hf0 := ac_f ha0
  have hkl0 := ac_kl ha0
  have hm1 := m_aw_top hm hZ hw hB (0, r.2)
  have hx1 := m_cx_top hx (0, r.2)
  have hp0 : m_post X zf y H n q (0, r.2) T As (ev_up H y (m_top y (0, r.2))) n q := m_post_top hm hZ hw hB hn hz (0, r.2)
  have hup := fun (r2 : Int32 × Int32 × Int32) (T2 : Nat → ev_TS) (As2 : List Nat) (H2 : ev_M) (n2 q2 : Nat) => @m_post_up X zf y r2 T2 As2 H H2 n q (0, r.2) n2 q2
  rcases ev_sz s with hb | ⟨j, hj, rfl⟩
  · skip
    simp (disch := omega) only [t_X8_kept_0, t_X8_kept_1, t_X8_kept_2, t_X8_kept_5, t_X8_kept_6, t_X8_kept_7, t_X8_kept_10, t_X8_kept_13, t_X8_kept_15, t_X8_kept_23, ↓reduceIte, ev_kr_1, ev_isK_y, true_and, show ¬ (1 : Int32) = 0 from by decide, M_isNoSize_y hb, M_fails_100 h0, hl0]
    exact c1 hb _ _ (m_post_top hm hZ hw hB hn hz (1, r.2))
  · skip
    have hgo : ∀ H1, m_aw X zf y (0, r.2) T As H1 n ow → m_cx X zf y T As H1 n → m_post X zf y H n q (0, r.2) T As H1 n q → (∀ (r2 : Int32 × Int32 × Int32) (T2 : Nat → ev_TS) (As2 : List Nat) (H2 : ev_M) (n2 q2 : Nat), m_post X zf y H1 n q r2 T2 As2 H2 n2 q2 → m_post X zf y H n q r2 T2 As2 H2 n2 q2) → ev_ok (ev_TT X) 307 18 [.ref y, .int (nI (j + 1))] [] H1 n q P := by
      intro H1 hm1 hx1 hp0 hup
      have hw1 := hx1.2.1
      have hz1 := hx1.2.2.2.2.1
      have ha := m_ac_of hm1 hw1 hA
      have hf := ac_f ha
      have hkl := ac_kl ha
      have hk13 := ac_k ha
      have hl10 := m_lk0 hm1
      have h10 := m_h0 hm1
      simp (disch := omega) only [t_X8_kept_18, t_X8_kept_19, t_X8_kept_20, true_and, hk13]
      refine M_keys hD hSC hm1 hx1 hA (by omega) fun H2 v n2 q2 e1 e2 e3 e4 e5 e6 => ?_
      simp (disch := omega) only [t_X8_kept_23, ev_kr_1]
      exact c2 j hj rfl H2 v n2 q2 (hup _ _ _ _ _ _ (m_post_ext hm1 hx1 e1 e2 e3 (by omega) e5 (by omega)))
    simp (disch := omega) only [t_X8_kept_0, t_X8_kept_1, t_X8_kept_2, t_X8_kept_5, t_X8_kept_6, t_X8_kept_7, t_X8_kept_10, ↓reduceIte, ev_kr_1, ev_isK_y, true_and, M_isNoSize_n hj, M_fails_000 h0, hl0]
    exact hgo _ hm1 hx1 hp0 hup
theorem MM_stack (hD : ev_DG X) (hSC : ev_KK X) (hm : m_aw X zf y r T As H n ow) (hx : m_cx X zf y T As H n) (hA : m_ax X zf As) (c : ∀ H1 v n1 q1, m_post X zf y H n q (0, r.2) T As H1 n1 q1 → P (.inl (some (.ref v))) H1 n1 q1) : ev_ok (ev_TT X) 308 0 [.ref y] [] H n q P := by
  have hx0 := hx
  obtain ⟨hZ, hw, hB, hn, hz, hT, hW⟩ := hx0
  have h0 := m_h0 hm
  have hl0 := m_lk0 hm
  have hk13 := m_k13 hm
  have hl60 := hA.2.2
  have ha0 := m_ac_of hm hw hA
  have hf0 := ac_f ha0
  have hkl0 := ac_kl ha0
  have hm1 := m_aw_top hm hZ hw hB (0, r.2)
  have hx1 := m_cx_top hx (0, r.2)
  have hp0 : m_post X zf y H n q (0, r.2) T As (ev_up H y (m_top y (0, r.2))) n q := m_post_top hm hZ hw hB hn hz (0, r.2)
  have hup := fun (r2 : Int32 × Int32 × Int32) (T2 : Nat → ev_TS) (As2 : List Nat) (H2 : ev_M) (n2 q2 : Nat) => @m_post_up X zf y r2 T2 As2 H H2 n q (0, r.2) n2 q2
  have hgo : ∀ H1, m_aw X zf y (0, r.2) T As H1 n ow → m_cx X zf y T As H1 n → m_post X zf y H n q (0, r.2) T As H1 n q → (∀ (r2 : Int32 × Int32 × Int32) (T2 : Nat → ev_TS) (As2 : List Nat) (H2 : ev_M) (n2 q2 : Nat), m_post X zf y H1 n q r2 T2 As2 H2 n2 q2 → m_post X zf y H n q r2 T2 As2 H2 n2 q2) → ev_ok (ev_TT X) 308 5 [.ref y] [] H1 n q P := by
    intro H1 hm1 hx1 hp0 hup
    have hw1 := hx1.2.1
    have hz1 := hx1.2.2.2.2.1
    have ha := m_ac_of hm1 hw1 hA
    have hf := ac_f ha
    have hkl := ac_kl ha
    have hk13 := ac_k ha
    have hl10 := m_lk0 hm1
    have h10 := m_h0 hm1
    have h20 : (20 : Int32) = nI 20 := rfl
    have hk := fun P c => M_keys (P := P) (q := q) hD hSC hm1 hx1 hA (w := 20) (by omega) c
    rw [← h20] at hk
    simp (disch := omega) only [t_X8_stack_5, t_X8_stack_6, t_X8_stack_8, true_and, hk13]
    refine hk _ fun H2 v n2 q2 e1 e2 e3 e4 e5 e6 => ?_
    simp (disch := omega) only [t_X8_stack_11, ev_kr_1]
    exact c H2 v n2 q2 (hup _ _ _ _ _ _ (m_post_ext hm1 hx1 e1 e2 e3 (by omega) e5 (by omega)))
  simp (disch := omega) only [t_X8_stack_0, t_X8_stack_1, t_X8_stack_2, ev_ft_I, and_true, true_and, ev_fS_0, ev_isO_0, h0]
  exact hgo _ hm1 hx1 hp0 hup
end M70
end
section
/-! ===== the reference: digest, answer left open ===== -/
section M71
variable {X : ev_E} {zf : Nat → Nat} {y : Nat} {r : Int32 × Int32 × Int32} {T : Nat → ev_TS} {As : List Nat} {H : ev_M} {ow : Nat → Nat} {n q : Nat} {P : ev_O → ev_M → Nat → Nat → Prop}
theorem M_addA (hm : m_aw X zf y r T As H n ow) (hx : m_cx X zf y T As H n) (hA : m_ax X zf As) {d0 : Int64} (c : ∀ d H1 n1 q1, (∀ z, z < n → H1 z = H z) → (∀ z, n1 ≤ z → H1 z = none) → n ≤ n1 → n1 ≤ n + 7 → q ≤ q1 → q1 ≤ q + 365 → P (.inl (some (.long d))) H1 n1 q1) : ev_ok (ev_TT X) 286 0 [.ref y, .long d0, ev_J, ev_J, ev_J, ev_J, ev_J] [] H n q P := by
  have hx0 := hx
  obtain ⟨hZ, hw, hB, hn, hz, hT, hW⟩ := hx0
  have hl60 := hA.2.2
  have hB1 := hB.1
  have hmm : ∀ H'' n'', (∀ z, z < n → H'' z = H z) → n ≤ n'' → m_aw X zf y r T As H'' n'' ow := fun H'' n'' e1 e2 => m_aw_ext hm hx e1 e2
  have hlow : ∀ H'', (∀ z, z < n → H'' z = H z) → ev_low X H'' := fun H'' e1 z hzz => (e1 z (by omega)).trans (hw z hzz)
  have hac : ∀ H'' n'', (∀ z, z < n → H'' z = H z) → n ≤ n'' → m_ac X zf y As H'' := fun H'' n'' e1 e2 => m_ac_of (hmm H'' n'' e1 e2) (hlow H'' e1) hA
  have hxx : ∀ H'' n'', (∀ z, z < n → H'' z = H z) → n ≤ n'' → (∀ z, n'' ≤ z → H'' z = none) → m_cx X zf y T As H'' n'' := fun H'' n'' e1 e2 e3 => m_cx_of (r1 := r) hx hA (hlow H'' e1) e3 e2
  have h6' : (6 : Int32) = nI 6 := rfl
  have h20' : (20 : Int32) = nI 20 := rfl
  have h2' : (2 : Int32) = nI 2 := rfl
  have loop4 : ∀ e a (d : Int64) (j : Nat) H' n' q', a + e = 20 → j < 6 → (∀ z, z < n → H' z = H z) → n ≤ n' → (∀ (d : Int64), ev_ok (ev_TT X) 286 192 [.ref y, .long d0, ev_J, .long d, ev_J, .int (nI (j + 1)), .int (nI 20)] [] H' n' q' P) → ev_ok (ev_TT X) 286 163 [.ref y, .long d0, ev_J, .long d, ev_J, .int (nI (j + 1)), .int (nI a)] [] H' n' q' P := by
    intro e
    induction e with
    | zero =>
      intro a d j H' n' q' hae hj g1 g3 k
      have hi2 : 20 ≤ a := by omega
      have ea : a = 20 := by omega
      subst ea
      have h9 := k d
      simp (disch := omega) only [t_X8_addAskings_163, t_X8_addAskings_165, t_X8_addAskings_167, ↓reduceIte, h20', nI_leI, hi2]
      exact h9
    | succ e ih =>
      intro a d j H' n' q' hae hj g1 g3 k
      have hi2 : ¬ 20 ≤ a := by omega
      have ha := hac H' n' g1 g3
      have hf := ac_f ha
      have hkl := ac_kl ha
      have hk13 := ac_k ha
      rw [t_X8_addAskings_163]
      simp (disch := omega) only [t_X8_addAskings_165, t_X8_addAskings_167, t_X8_addAskings_170, t_X8_addAskings_171, t_X8_addAskings_174, t_X8_addAskings_175, t_X8_addAskings_176, t_X8_addAskings_178, t_X8_addAskings_180, ↓reduceIte, true_and, h20', nI_leI, hi2, hk13]
      refine M_takenNow ha (by omega) (by omega) ?_
      simp (disch := omega) only [t_X8_addAskings_183, t_X8_addAskings_184, t_X8_addAskings_185, t_X8_addAskings_186, t_X8_addAskings_189, ev_k_i, ev_k_J, ev_kr_1, nI_1]
      exact ih (a + 1) _ j H' n' q' (by omega) hj g1 g3 k
  have loop3 : ∀ e j (d : Int64) H' n' q' w, j + e = 6 → (∀ z, z < n → H' z = H z) → (∀ z, n' ≤ z → H' z = none) → n ≤ n' → n' ≤ n + (1 + j) → q ≤ q' → q' ≤ q + (5 + 60 * j) → ev_ok (ev_TT X) 286 115 [.ref y, .long d0, ev_J, .long d, ev_J, .int (nI (j + 1)), w] [] H' n' q' P := by
    intro e
    induction e with
    | zero =>
      intro j d H' n' q' w hj g1 g2 g3 g4 g5 g6
      have hi2 : 6 < j + 1 := by omega
      have h9 := fun d => c d H' n' q' g1 g2 g3 (by omega) g5 (by omega)
      simp (disch := omega) only [t_X8_addAskings_115, t_X8_addAskings_117, t_X8_addAskings_119, t_X8_addAskings_198, t_X8_addAskings_199, ↓reduceIte, h6', nI_ltI, hi2]
      exact h9 _
    | succ e ih =>
      intro j d H' n' q' w hj g1 g2 g3 g4 g5 g6
      have hi2 : ¬ 6 < j + 1 := by omega
      have ha := hac H' n' g1 g3
      have hf := ac_f ha
      have hkl := ac_kl ha
      have hk13 := ac_k ha
      have hext : ∀ cc, m_ac X zf y As (ev_up H' n' cc) := fun cc => hac _ (n' + 1) (fun z hzz => (ev_up_n (by omega)).trans (g1 z hzz)) (by omega)
      rw [t_X8_addAskings_115]
      simp (disch := omega) only [t_X8_addAskings_117, t_X8_addAskings_119, t_X8_addAskings_122, t_X8_addAskings_123, t_X8_addAskings_126, t_X8_addAskings_127, t_X8_addAskings_128, t_X8_addAskings_130, ↓reduceIte, true_and, h6', nI_ltI, hi2, hk13]
      refine M_missesNow ha (by omega) ?_
      simp (disch := omega) only [t_X8_addAskings_133, t_X8_addAskings_134, t_X8_addAskings_135, t_X8_addAskings_138, t_X8_addAskings_139, t_X8_addAskings_140, t_X8_addAskings_142, ev_kr_1, true_and, hk13]
      refine M_bestNow (m := j + 1) hext (by omega) (by omega) fun f => ?_
      generalize nI (As.length - (gs As (j + 1) As.length).2) = v
      have g1b : ∀ z, z < n → ev_up H' n' (.inl (0, 60, fun i => .int (f i))) z = H z := fun z hzz => (ev_up_n (by omega)).trans (g1 z hzz)
      have g2b : ∀ z, n' + 1 ≤ z → ev_up H' n' (.inl (0, 60, fun i => .int (f i))) z = none := fun z hzz => (ev_up_n (by omega)).trans (g2 z (by omega))
      have ha2 := hext (.inl (0, 60, fun i => .int (f i)))
      generalize ev_up H' n' (.inl (0, 60, fun i => .int (f i))) = Hb at g1b g2b ha2 ⊢
      have hk13 := ac_k ha2
      simp (disch := omega) only [t_X8_addAskings_145, t_X8_addAskings_146, t_X8_addAskings_147, t_X8_addAskings_150, t_X8_addAskings_151, t_X8_addAskings_152, t_X8_addAskings_154, ev_kr_1, true_and, hk13]
      refine M_lostNow ha2 (by omega) ?_
      simp (disch := omega) only [t_X8_addAskings_157, t_X8_addAskings_158, t_X8_addAskings_159, t_X8_addAskings_160, t_X8_addAskings_161, ev_k_i, ev_k_J, ev_kr_1]
      have hL := fun d => loop4 20 0 d j Hb (n' + 1) (q' + 60) (by omega) (by omega) g1b (by omega) (fun d => by
        have hI := ih (j + 1) d Hb (n' + 1) (q' + 60) (.int (nI 20)) (by omega) g1b g2b (by omega) (by omega) (by omega) (by omega)
        simp (disch := omega) only [t_X8_addAskings_192, t_X8_addAskings_195, ev_k_J, nI_1]
        exact hI)
      rw [nI_0] at hL
      exact hL _
  have loop2 : ∀ t (d : Int64) H' n' q' w, t ≤ 200 → (∀ z, z < n → H' z = H z) → (∀ z, n' ≤ z → H' z = none) → n ≤ n' → n' ≤ n + 1 → q ≤ q' → q' ≤ q + 5 → (ev_ok (ev_TT X) 286 80 [.ref y, .long d0, ev_J, .long d, ev_J, .int (nI t), w] [] H' n' q' P) := by
    intro t
    induction t with
    | zero =>
      intro d H' n' q' w ht g1 g2 g3 g4 g5 g6
      have hi2 : nI 0 ≤ 0 := by decide
      have h9 := loop3 6 0 d H' n' q' w (by omega) g1 g2 g3 (by omega) g5 (by omega)
      rw [show nI (0 + 1) = 1 from rfl] at h9
      simp (disch := omega) only [t_X8_addAskings_80, t_X8_addAskings_82, t_X8_addAskings_112, t_X8_addAskings_113, ↓reduceIte, ev_k_J, hi2]
      exact h9
    | succ t ih =>
      intro d H' n' q' w ht g1 g2 g3 g4 g5 g6
      have hi2 : ¬ nI (t + 1) ≤ 0 := nI_nle (by omega) (by omega)
      have ha := hac H' n' g1 g3
      have hf := ac_f ha
      have hkl := ac_kl ha
      have hk13 := ac_k ha
      rw [t_X8_addAskings_80]
      simp (disch := omega) only [t_X8_addAskings_82, t_X8_addAskings_85, t_X8_addAskings_86, t_X8_addAskings_89, t_X8_addAskings_90, t_X8_addAskings_91, t_X8_addAskings_93, t_X8_addAskings_94, t_X8_addAskings_97, ↓reduceIte, true_and, hi2, hf.1, hf.2, hkl]
      refine ac_size ha ?_
      simp (disch := omega) only [t_X8_addAskings_100, ev_kr_1, true_and, hk13]
      refine M_keyWith ha (by omega) (Nat.le_refl _) ?_
      have hd1 : nI (t + 1) + (-1) = nI t := pk_m1 t
      simp (disch := omega) only [t_X8_addAskings_103, t_X8_addAskings_104, t_X8_addAskings_105, t_X8_addAskings_106, t_X8_addAskings_109, ev_k_J, ev_kr_1, hd1]
      exact ih _ H' n' q' w (by omega) g1 g2 g3 g4 g5 g6
  have loop1 : ∀ e k (d : Int64) w, k + e = As.length → ev_ok (ev_TT X) 286 5 [.ref y, .long d0, ev_J, .long d, ev_J, .int (nI k), w] [] H n q P := by
    have g1 : ∀ z, z < n → H z = H z := fun _ _ => rfl
    have ha := hac H n g1 (Nat.le_refl n)
    have hf := ac_f ha
    have hkl := ac_kl ha
    have hk13 := ac_k ha
    intro e
    induction e with
    | zero =>
      intro k d w hk
      have hi2 : As.length ≤ k := by omega
      simp (disch := omega) only [t_X8_addAskings_5, t_X8_addAskings_7, t_X8_addAskings_8, t_X8_addAskings_11, true_and, hf.1, hf.2, hkl]
      refine ac_size ha ?_
      simp (disch := omega) only [t_X8_addAskings_14, t_X8_addAskings_73, t_X8_addAskings_74, t_X8_addAskings_75, ↓reduceIte, ev_kr_1, true_and, nI_leI, hi2, hk13]
      refine M_houseNow hm hx hA (a := 2) (by omega) fun H1 e1 e2 => ?_
      have hmu := mu_le (As := As) (fr := 0) As.length 0
      have hL := loop2 (mu As 0 As.length 0) d H1 (n + 1) (q + 5) w (by omega) e1 e2 (by omega) (by omega) (by omega) (by omega)
      have e9 : mho r T As 2 = nI (mu As 0 As.length 0) := rfl
      rw [e9]
      simp (disch := omega) only [t_X8_addAskings_78, ev_k_J, ev_kr_1]
      exact hL
    | succ e ih =>
      intro k d w hk
      have hi2 : ¬ As.length ≤ k := by omega
      have hkl' : k < As.length := by omega
      have hik := ac_ik ha hkl'
      have hlt := ac_lt ha hkl'
      rw [t_X8_addAskings_5]
      simp (disch := omega) only [t_X8_addAskings_7, t_X8_addAskings_8, t_X8_addAskings_11, true_and, hf.1, hf.2, hkl]
      refine ac_size ha ?_
      simp (disch := omega) only [t_X8_addAskings_14, t_X8_addAskings_17, t_X8_addAskings_18, t_X8_addAskings_21, t_X8_addAskings_22, t_X8_addAskings_23, t_X8_addAskings_26, t_X8_addAskings_28, ↓reduceIte, ev_kr_1, true_and, nI_leI, hi2, hf.1, hf.2, hkl]
      refine ac_get ha hkl' ?_
      simp (disch := omega) only [t_X8_addAskings_31, t_X8_addAskings_34, ev_kr_1, true_and, hik]
      refine ac_int ha hkl' ?_
      simp (disch := omega) only [t_X8_addAskings_37, t_X8_addAskings_38, t_X8_addAskings_39, t_X8_addAskings_42, t_X8_addAskings_43, t_X8_addAskings_44, t_X8_addAskings_45, t_X8_addAskings_48, t_X8_addAskings_50, ev_kr_1, true_and, hf.1, hf.2, hkl]
      refine ac_get ha hkl' ?_
      simp (disch := omega) only [t_X8_addAskings_53, t_X8_addAskings_56, ev_kr_1, true_and, hik]
      refine ac_int ha hkl' ?_
      simp (disch := omega) only [t_X8_addAskings_59, t_X8_addAskings_61, ev_kr_1, true_and, hk13]
      refine M_depthOf ha (by omega) (by omega) ?_
      simp (disch := omega) only [t_X8_addAskings_64, t_X8_addAskings_65, t_X8_addAskings_66, t_X8_addAskings_67, t_X8_addAskings_70, ev_k_J, ev_kr_1, nI_1]
      exact ih (k + 1) _ w (by omega)
  have h9 := loop1 As.length 0 d0 ev_J (Nat.zero_add _)
  rw [nI_0] at h9
  simp (disch := omega) only [t_X8_addAskings_0, t_X8_addAskings_1, t_X8_addAskings_2, t_X8_addAskings_3, ev_k_J]
  exact h9
end M71
end
section
/-! ===== the reference: digest whole, answer left open ===== -/
section M72
variable {X : ev_E} {zf : Nat → Nat} {y : Nat} {r : Int32 × Int32 × Int32} {T : Nat → ev_TS} {As : List Nat} {H : ev_M} {ow : Nat → Nat} {n q : Nat} {P : ev_O → ev_M → Nat → Nat → Prop}
theorem M_digest (hm : m_aw X zf y r T As H n ow) (hx : m_cx X zf y T As H n) (hA : m_ax X zf As) (c : ∀ d H1 n1 q1, (∀ z, z < n → H1 z = H z) → (∀ z, n1 ≤ z → H1 z = none) → n ≤ n1 → n1 ≤ n + 60 → q ≤ q1 → q1 ≤ q + 700 → P (.inl (some (.long d))) H1 n1 q1) : ev_ok (ev_TT X) 301 5 [.ref y, ev_J, ev_J, ev_J, ev_J] [] H n q P := by
  have hx0 := hx
  obtain ⟨hZ, hw, hB, hn, hz, hT, hW⟩ := hx0
  have hl60 := hA.2.2
  have hB1 := hB.1
  have hmm : ∀ H'' n'', (∀ z, z < n → H'' z = H z) → n ≤ n'' → m_aw X zf y r T As H'' n'' ow := fun H'' n'' e1 e2 => m_aw_ext hm hx e1 e2
  have hlow : ∀ H'', (∀ z, z < n → H'' z = H z) → ev_low X H'' := fun H'' e1 z hzz => (e1 z (by omega)).trans (hw z hzz)
  have hac : ∀ H'' n'', (∀ z, z < n → H'' z = H z) → n ≤ n'' → m_ac X zf y As H'' := fun H'' n'' e1 e2 => m_ac_of (hmm H'' n'' e1 e2) (hlow H'' e1) hA
  have hxx : ∀ H'' n'', (∀ z, z < n → H'' z = H z) → n ≤ n'' → (∀ z, n'' ≤ z → H'' z = none) → m_cx X zf y T As H'' n'' := fun H'' n'' e1 e2 e3 => m_cx_of (r1 := r) hx hA (hlow H'' e1) e3 e2
  have h5' : (5 : Int32) = nI 5 := rfl
  have h4' : (4 : Int32) = nI 4 := rfl
  have fin : ∀ (d : Int64) w3 w4 H' n' q', (∀ z, z < n → H' z = H z) → (∀ z, n' ≤ z → H' z = none) → n ≤ n' → n' ≤ n + 45 → q ≤ q' → q' ≤ q + 205 → ev_ok (ev_TT X) 301 154 [.ref y, .long d, ev_J, w3, w4] [] H' n' q' P := by
    intro d w3 w4 H' n' q' g1 g2 g3 g4 g5 g6
    have hm' := hmm H' n' g1 g3
    have hx' := hxx H' n' g1 g3 g2
    have hl10 := m_lk0 hm'
    have hk13 := m_k13 hm'
    simp (disch := omega) only [t_X8_digest_154, t_X8_digest_155, t_X8_digest_156, true_and, hk13]
    refine M_addA hm' hx' hA fun d2 H2 n2 q2 e1 e2 e3 e4 e5 e6 => ?_
    have h9 := fun d => c d H2 n2 q2 (fun z hzz => (e1 z (by omega)).trans (g1 z hzz)) e2 (by omega) (by omega) (by omega) (by omega)
    simp (disch := omega) only [t_X8_digest_159, t_X8_digest_162, t_X8_digest_163, t_X8_digest_164, t_X8_digest_165, ev_kr_1]
    exact h9 _
  have key : ∀ e i (d : Int64) w4 H' n' q', i + e = 4 → (∀ z, z < n → H' z = H z) → (∀ z, n' ≤ z → H' z = none) → n ≤ n' → n' ≤ n + (5 + 10 * i) → q ≤ q' → q' ≤ q + (25 + 45 * i) → ev_ok (ev_TT X) 301 37 [.ref y, .long d, ev_J, .int (nI i), w4] [] H' n' q' P := by
    intro e
    induction e with
    | zero =>
      intro i d w4 H' n' q' hie g1 g2 g3 g4 g5 g6
      have hi2 : 4 ≤ i := by omega
      have h9 := fin d (.int (nI i)) w4 H' n' q' g1 g2 g3 (by omega) g5 (by omega)
      simp (disch := omega) only [t_X8_digest_37, t_X8_digest_38, t_X8_digest_39, ↓reduceIte, h4', nI_leI, hi2]
      exact h9
    | succ e ih =>
      intro i d w4 H' n' q' hie g1 g2 g3 g4 g5 g6
      have hi : i < 4 := by omega
      have hi2 : ¬ 4 ≤ i := by omega
      have hend : ∀ (d : Int64) w4 H' n' q', (∀ z, z < n → H' z = H z) → (∀ z, n' ≤ z → H' z = none) → n ≤ n' → n' ≤ n + (5 + 10 * (i + 1)) → q ≤ q' → q' ≤ q + (25 + 45 * (i + 1)) → ev_ok (ev_TT X) 301 151 [.ref y, .long d, ev_J, .int (nI (i + 1)), w4] [] H' n' q' P := by
        intro d w4 H' n' q' g1 g2 g3 g4 g5 g6
        have hI := ih (i + 1) d w4 H' n' q' (by omega) g1 g2 g3 (by omega) g5 (by omega)
        simp (disch := omega) only [t_X8_digest_151]
        exact hI
      have l114 : ∀ (d : Int64) w4 H' n' q', (∀ z, z < n → H' z = H z) → (∀ z, n' ≤ z → H' z = none) → n ≤ n' → n' ≤ n + (5 + 10 * (i + 1)) → q ≤ q' → q' ≤ q + (25 + 45 * (i + 1)) → ev_ok (ev_TT X) 301 114 [.ref y, .long d, ev_J, .int (nI i), w4] [] H' n' q' P := by
        intro d w4 H' n' q' g1 g2 g3 g4 g5 g6
        have hm' := hmm H' n' g1 g3
        have hx' := hxx H' n' g1 g3 g2
        have hl10 := m_lk0 hm'
        have hk13 := m_k13 hm'
        obtain ⟨f, hf1, hf2⟩ := m_lk1 hm'
        have hfi := hf2 i hi
        have hpi := nI_pos' (n := i) (by omega)
        have hci := nI_clamp (n := i) (by omega)
        have hTi := hT i hi
        have hli := okL_len hTi.1
        obtain ⟨qs, hC⟩ := mc_0 (q := q') hm' hi g2
        have htk := mc_tk hC
        have hlk := mc_lk hC
        have hkl := mc_kl hC
        have hlen := mc_len hC
        unfold m_tbc at hlk
        have hkd := m_kd (hW i hi)
        have hend' := fun d => hend d w4 H' n' q' g1 g2 g3 g4 g5 g6
        simp (disch := omega) only [t_X8_digest_114, t_X8_digest_115, t_X8_digest_118, t_X8_digest_119, t_X8_digest_120, t_X8_digest_123, t_X8_digest_124, t_X8_digest_125, ev_isK_y, ev_aG_y, and_true, true_and, ev_fG_3, ev_isO_3, hl10, hf1, hfi, hpi, hci, hi, ev_inA_5, hlk]
        refine M_hasMoreT hC hli (by have := hTi.2.2.1; omega) hkd ?_
        unfold m_wk at hlk
        rcases hb : ((T i).2.2.1.1 && !(T i).2.2.1.2.1 && decide ((T i).2.2.2.2 < (T i).1.length)) with _ | _ <;> (
          rcases h1 : (T i).2.2.1.1 with _ | _
          · rw [h1] at hlk
            rw [if_neg Bool.false_ne_true] at hlk
            simp (disch := omega) only [t_X8_digest_128, t_X8_digest_131, t_X8_digest_132, t_X8_digest_133, t_X8_digest_136, t_X8_digest_137, t_X8_digest_138, t_X8_digest_139, t_X8_digest_142, t_X8_digest_145, t_X8_digest_146, t_X8_digest_147, t_X8_digest_148, t_X8_one_0, t_X8_one_1, t_X8_one_4, t_X8_one_5, t_X8_one_8, t_X8_one_9, t_X8_isStaleNow_0, t_X8_isStaleNow_1, t_X8_isStaleNow_4, t_X8_isStaleNow_5, t_X8_isStaleNow_6, t_X8_isStaleNow_9, t_X8_isStaleNow_10, t_X8_isStaleNow_29, t_X8_isStaleNow_30, ↓reduceIte, ev_k_r, ev_k_J, ev_kr_1, ev_isK_y, ev_aG_y, ev_nb_0, and_true, true_and, nI_1, ev_fG_3, ev_fG_5, ev_isO_3, ev_isO_5, show ¬ (1 : Int32) = 0 from by decide, hl10, hf1, hfi, hpi, hci, hi, ev_inA_5, hlk, ev_bb_t, ev_bb_f]
            exact hend' _
          · rw [h1] at hlk
            rw [if_pos rfl] at hlk
            rcases h2 : (T i).2.2.1.2.1 with _ | _ <;> (
              rw [h2] at hlk
              simp (disch := omega) only [t_X8_digest_128, t_X8_digest_131, t_X8_digest_132, t_X8_digest_133, t_X8_digest_136, t_X8_digest_137, t_X8_digest_138, t_X8_digest_139, t_X8_digest_142, t_X8_digest_145, t_X8_digest_146, t_X8_digest_147, t_X8_digest_148, t_X8_one_0, t_X8_one_1, t_X8_one_4, t_X8_one_5, t_X8_one_8, t_X8_one_9, t_X8_isStaleNow_0, t_X8_isStaleNow_1, t_X8_isStaleNow_4, t_X8_isStaleNow_5, t_X8_isStaleNow_6, t_X8_isStaleNow_9, t_X8_isStaleNow_10, t_X8_isStaleNow_13, t_X8_isStaleNow_14, t_X8_isStaleNow_17, t_X8_isStaleNow_18, t_X8_isStaleNow_19, t_X8_isStaleNow_22, t_X8_isStaleNow_25, t_X8_isStaleNow_26, t_X8_isStaleNow_29, t_X8_isStaleNow_30, ↓reduceIte, ev_k_r, ev_k_J, ev_kr_1, ev_isK_y, ev_aG_y, ev_nb_0, ev_nb_1, and_true, true_and, nI_1, ev_fG_3, ev_fG_5, ev_fG_8, ev_isO_3, ev_isO_5, ev_isO_8, show ¬ (1 : Int32) = 0 from by decide, hl10, hf1, hfi, hpi, hci, hi, ev_inA_5, hlk, ev_bb_t, ev_bb_f, hkd]
              exact hend' _))
      have l75 : ∀ e2 p (d : Int64) H' n' q', p + e2 = (T i).1.length → (∀ z, z < n → H' z = H z) → (∀ z, n' ≤ z → H' z = none) → n ≤ n' → n' ≤ n + (5 + 10 * (i + 1)) → q ≤ q' → q' ≤ q + (25 + 45 * (i + 1)) → ev_ok (ev_TT X) 301 75 [.ref y, .long d, ev_J, .int (nI i), .int (nI p)] [] H' n' q' P := by
        intro e2
        induction e2 with
        | zero =>
          intro p d H' n' q' hp g1 g2 g3 g4 g5 g6
          have h9 := l114 d (.int (nI p)) H' n' q' g1 g2 g3 g4 g5 g6
          have hm' := hmm H' n' g1 g3
          have hx' := hxx H' n' g1 g3 g2
          have hl10 := m_lk0 hm'
          have hk13 := m_k13 hm'
          obtain ⟨f, hf1, hf2⟩ := m_lk1 hm'
          have hfi := hf2 i hi
          have hpi := nI_pos' (n := i) (by omega)
          have hci := nI_clamp (n := i) (by omega)
          have hTi := hT i hi
          have hli := okL_len hTi.1
          obtain ⟨qs, hC⟩ := mc_0 (q := q') hm' hi g2
          have htk := mc_tk hC
          have hlk := mc_lk hC
          have hkl := mc_kl hC
          have hlen := mc_len hC
          unfold m_tbc at hlk
          have hi3 : qs.length ≤ p := by omega
          simp (disch := omega) only [t_X8_digest_75, t_X8_digest_77, t_X8_digest_78, t_X8_digest_81, t_X8_digest_82, t_X8_digest_83, t_X8_digest_86, ev_aG_y, and_true, true_and, ev_fG_0, ev_fG_3, ev_isO_0, ev_isO_3, hl10, hf1, hfi, hpi, hci, hi, ev_inA_5, hlk, hkl]
          refine ML_size hC.2.2.1 ?_
          simp (disch := omega) only [t_X8_digest_89, ↓reduceIte, ev_kr_1, nI_leI, hi3]
          exact h9
        | succ e2 ih2 =>
          intro p d H' n' q' hp g1 g2 g3 g4 g5 g6
          have hI := fun d => ih2 (p + 1) d H' n' q' (by omega) g1 g2 g3 g4 g5 g6
          have hm' := hmm H' n' g1 g3
          have hx' := hxx H' n' g1 g3 g2
          have hl10 := m_lk0 hm'
          have hk13 := m_k13 hm'
          obtain ⟨f, hf1, hf2⟩ := m_lk1 hm'
          have hfi := hf2 i hi
          have hpi := nI_pos' (n := i) (by omega)
          have hci := nI_clamp (n := i) (by omega)
          have hTi := hT i hi
          have hli := okL_len hTi.1
          obtain ⟨qs, hC⟩ := mc_0 (q := q') hm' hi g2
          have htk := mc_tk hC
          have hlk := mc_lk hC
          have hkl := mc_kl hC
          have hlen := mc_len hC
          unfold m_tbc at hlk
          have hi3 : ¬ qs.length ≤ p := by omega
          rw [t_X8_digest_75]
          simp (disch := omega) only [t_X8_digest_77, t_X8_digest_78, t_X8_digest_81, t_X8_digest_82, t_X8_digest_83, t_X8_digest_86, ev_aG_y, and_true, true_and, ev_fG_0, ev_fG_3, ev_isO_0, ev_isO_3, hl10, hf1, hfi, hpi, hci, hi, ev_inA_5, hlk, hkl]
          refine ML_size hC.2.2.1 ?_
          simp (disch := omega) only [t_X8_digest_89, t_X8_digest_92, t_X8_digest_93, t_X8_digest_96, t_X8_digest_97, t_X8_digest_98, t_X8_digest_99, t_X8_digest_101, t_X8_digest_102, ↓reduceIte, ev_kr_1, ev_isK_y, true_and, hl10, nI_leI, hi3]
          refine M_told hm' hx' hi (Or.inr (Or.inr rfl)) ?_
          simp (disch := omega) only [t_X8_digest_105, t_X8_digest_106, t_X8_digest_107, t_X8_digest_108, t_X8_digest_111, ev_k_i, ev_k_r, ev_kr_1, nI_1]
          exact hI _
      have l45 : ∀ e2 a (d : Int64) H' n' q', a + e2 = 5 → (∀ z, z < n → H' z = H z) → (∀ z, n' ≤ z → H' z = none) → n ≤ n' → n' ≤ n + (5 + 10 * i + 2 * a) → q ≤ q' → q' ≤ q + (25 + 45 * i + 9 * a) → ev_ok (ev_TT X) 301 45 [.ref y, .long d, ev_J, .int (nI i), .int (nI a)] [] H' n' q' P := by
        intro e2
        induction e2 with
        | zero =>
          intro a d H' n' q' hp g1 g2 g3 g4 g5 g6
          have hi3 : 5 ≤ a := by omega
          have h9 := l75 _ 0 d H' n' q' (Nat.zero_add _) g1 g2 g3 (by omega) g5 (by omega)
          rw [nI_0] at h9
          simp (disch := omega) only [t_X8_digest_45, t_X8_digest_47, t_X8_digest_48, t_X8_digest_72, t_X8_digest_73, ↓reduceIte, ev_k_i, h5', nI_leI, hi3]
          exact h9
        | succ e2 ih2 =>
          intro a d H' n' q' hp g1 g2 g3 g4 g5 g6
          have hi3 : ¬ 5 ≤ a := by omega
          have hm' := hmm H' n' g1 g3
          have hx' := hxx H' n' g1 g3 g2
          have hl10 := m_lk0 hm'
          have hk13 := m_k13 hm'
          rw [t_X8_digest_45]
          simp (disch := omega) only [t_X8_digest_47, t_X8_digest_48, t_X8_digest_51, t_X8_digest_52, t_X8_digest_55, t_X8_digest_56, t_X8_digest_57, t_X8_digest_58, t_X8_digest_60, ↓reduceIte, true_and, h5', nI_leI, hi3, hk13]
          refine M_tabNow hm' hx' hi (by omega) fun H2 e1 e3 => ?_
          have hI := fun d => ih2 (a + 1) d H2 (n' + 2) (q' + 9) (by omega) (fun z hzz => (e1 z (by omega)).trans (g1 z hzz)) e3 (by omega) (by omega) (by omega) (by omega)
          simp (disch := omega) only [t_X8_digest_63, t_X8_digest_64, t_X8_digest_65, t_X8_digest_66, t_X8_digest_69, ev_k_i, ev_k_r, ev_kr_1, nI_1]
          exact hI _
      have h9 := l45 5 0 d H' n' q' (by omega) g1 g2 g3 (by omega) g5 (by omega)
      rw [nI_0] at h9
      rw [t_X8_digest_37]
      simp (disch := omega) only [t_X8_digest_38, t_X8_digest_39, t_X8_digest_42, t_X8_digest_43, ↓reduceIte, ev_k_i, h4', nI_leI, hi2]
      exact h9
  have l11 : ∀ e a (d : Int64) H' n' q', a + e = 5 → (∀ z, z < n → H' z = H z) → (∀ z, n' ≤ z → H' z = none) → n ≤ n' → n' ≤ n + a → q ≤ q' → q' ≤ q + (5 * a) → ev_ok (ev_TT X) 301 11 [.ref y, .long d, ev_J, .int (nI a), ev_J] [] H' n' q' P := by
    intro e
    induction e with
    | zero =>
      intro a d H' n' q' hp g1 g2 g3 g4 g5 g6
      have hi3 : 5 ≤ a := by omega
      have h9 := key 4 0 d ev_J H' n' q' (by omega) g1 g2 g3 (by omega) g5 (by omega)
      rw [nI_0] at h9
      simp (disch := omega) only [t_X8_digest_11, t_X8_digest_12, t_X8_digest_13, t_X8_digest_35, t_X8_digest_36, ↓reduceIte, ev_k_J, h5', nI_leI, hi3]
      exact h9
    | succ e ih =>
      intro a d H' n' q' hp g1 g2 g3 g4 g5 g6
      have hi3 : ¬ 5 ≤ a := by omega
      have hm' := hmm H' n' g1 g3
      have hx' := hxx H' n' g1 g3 g2
      have hl10 := m_lk0 hm'
      have hk13 := m_k13 hm'
      rw [t_X8_digest_11]
      simp (disch := omega) only [t_X8_digest_12, t_X8_digest_13, t_X8_digest_16, t_X8_digest_17, t_X8_digest_20, t_X8_digest_21, t_X8_digest_22, t_X8_digest_23, ↓reduceIte, true_and, h5', nI_leI, hi3, hk13]
      refine M_houseNow hm' hx' hA (by omega) fun H2 e1 e3 => ?_
      have hI := fun d => ih (a + 1) d H2 (n' + 1) (q' + 5) (by omega) (fun z hzz => (e1 z (by omega)).trans (g1 z hzz)) e3 (by omega) (by omega) (by omega) (by omega)
      simp (disch := omega) only [t_X8_digest_26, t_X8_digest_27, t_X8_digest_28, t_X8_digest_29, t_X8_digest_32, ev_k_r, ev_k_J, ev_kr_1, nI_1]
      exact hI _
  have h9 := fun d => l11 5 0 d H n q (by omega) (fun _ _ => rfl) hz (Nat.le_refl _) (by omega) (Nat.le_refl _) (by omega)
  rw [nI_0] at h9
  simp (disch := omega) only [t_X8_digest_5, t_X8_digest_8, t_X8_digest_9, t_X8_digest_10, ev_k_r, ev_k_J]
  exact h9 _
theorem MM_digest (hm : m_aw X zf y r T As H n ow) (hx : m_cx X zf y T As H n) (hA : m_ax X zf As) (c : ∀ d H1 n1 q1, m_post X zf y H n q (0, r.2) T As H1 n1 q1 → P (.inl (some (.long d))) H1 n1 q1) : ev_ok (ev_TT X) 301 0 [.ref y, ev_J, ev_J, ev_J, ev_J] [] H n q P := by
  have hx0 := hx
  obtain ⟨hZ, hw, hB, hn, hz, hT, hW⟩ := hx0
  have h0 := m_h0 hm
  have hl0 := m_lk0 hm
  have hk13 := m_k13 hm
  have hl60 := hA.2.2
  have ha0 := m_ac_of hm hw hA
  have hf0 := ac_f ha0
  have hkl0 := ac_kl ha0
  have hm1 := m_aw_top hm hZ hw hB (0, r.2)
  have hx1 := m_cx_top hx (0, r.2)
  have hp0 : m_post X zf y H n q (0, r.2) T As (ev_up H y (m_top y (0, r.2))) n q := m_post_top hm hZ hw hB hn hz (0, r.2)
  have hup := fun (r2 : Int32 × Int32 × Int32) (T2 : Nat → ev_TS) (As2 : List Nat) (H2 : ev_M) (n2 q2 : Nat) => @m_post_up X zf y r2 T2 As2 H H2 n q (0, r.2) n2 q2
  have hgo : ∀ H1, m_aw X zf y (0, r.2) T As H1 n ow → m_cx X zf y T As H1 n → m_post X zf y H n q (0, r.2) T As H1 n q → (∀ (r2 : Int32 × Int32 × Int32) (T2 : Nat → ev_TS) (As2 : List Nat) (H2 : ev_M) (n2 q2 : Nat), m_post X zf y H1 n q r2 T2 As2 H2 n2 q2 → m_post X zf y H n q r2 T2 As2 H2 n2 q2) → ev_ok (ev_TT X) 301 5 [.ref y, ev_J, ev_J, ev_J, ev_J] [] H1 n q P := by
    intro H1 hm1 hx1 hp0 hup
    have hw1 := hx1.2.1
    have hz1 := hx1.2.2.2.2.1
    have ha := m_ac_of hm1 hw1 hA
    have hf := ac_f ha
    have hkl := ac_kl ha
    have hk13 := ac_k ha
    have hl10 := m_lk0 hm1
    have h10 := m_h0 hm1
    refine M_digest hm1 hx1 hA fun d H2 n2 q2 e1 e2 e3 e4 e5 e6 => ?_
    exact c d H2 n2 q2 (hup _ _ _ _ _ _ (m_post_ext hm1 hx1 e1 e2 e3 (by omega) e5 (by omega)))
  simp (disch := omega) only [t_X8_digest_0, t_X8_digest_1, t_X8_digest_2, ev_ft_I, and_true, true_and, ev_fS_0, ev_isO_0, h0]
  exact hgo _ hm1 hx1 hp0 hup
end M72
end
section
/-! ===== the class is made ===== -/
section I73
variable {X : ev_E} {H : ev_M} {r t w a x n q : Nat} {b m : Int32} {P : ev_O → ev_M → Nat → Nat → Prop}
theorem R_init (hr : H r = some (.inr (7, [.null, .null, .int 0, .int 0, .int 0, .int 0, .int 0]))) (hb : ev_isB b) (c : ∀ H1, c_row H1 r [] b m 0 (-1) → (∀ a, (a < r ∨ r + 3 ≤ a) → H1 a = H a) → P (.inl none) H1 (r + 3) (q + 40)) : ev_ok (ev_TT X) 37 0 [.ref r, .int b, .int m] [] H (r + 1) q P := by
  have h1 : ¬ r = r + 1 := by omega
  have h2 : ¬ r = r + 1 + 1 := by omega
  have hf := ev_ft_B hb
  rcases hb with rfl | rfl <;> (
    simp (disch := omega) only [t_X2_init_0, t_X2_init_1, t_X2_init_4, t_X2_init_5, t_X2_init_7, t_X2_init_9, t_X2_init_12, t_X2_init_13, t_X2_init_15, t_X2_init_17, t_X2_init_20, t_X2_init_21, t_X2_init_22, t_X2_init_25, t_X2_init_26, t_X2_init_27, t_X2_init_30, t_X2_init_31, t_X2_init_32, t_X2_init_35, t_X2_init_36, t_X2_init_37, t_X2_init_40, t_X2_init_41, t_X2_init_42, t_X2_init_45, ev_ft_I, ev_ft_0, ev_ft_1, ev_ft_a, and_true, true_and, ev_fS_0, ev_fS_1, ev_fS_2, ev_fS_3, ev_fS_4, ev_fS_5, ev_fS_6, ev_isO_0, ev_isO_1, ev_isO_2, ev_isO_3, ev_isO_4, ev_isO_5, ev_isO_6, ev_up_s, ev_up_n, ev_up_up, show (0 : Int32) ≤ 20 from by decide, show (20 : Int32).toNatClampNeg = 20 from rfl, show 20 ≤ 100000 from by omega, hr]
    refine c _ ⟨fun _ => 0, fun _ => 0, fun i z hz => by simp at hz, (ev_row_t ?_ ?_ ?_).symm⟩ (fun a ha => ?_)
    · simp (disch := omega) only [ev_up_s]; rfl
    · simp (disch := omega) only [ev_up_s, ev_up_n]
    · simp (disch := omega) only [ev_up_s, ev_up_n]
    · simp (disch := omega) only [ev_up_n])
theorem T_init (ht : H t = some (.inr (8, [.null, .null]))) (htn : ¬ t = n) (c : ∀ H1, H1 t = some (.inr (8, [.ref r, .ref n])) → H1 n = some (ev_wkc r false false false 0 0) → (∀ a, ¬ a = t → ¬ a = n → H1 a = H a) → P (.inl none) H1 (n + 1) (q + 6)) : ev_ok (ev_TT X) 96 0 [.ref t, .ref r] [] H n q P := by
  have hnt : ¬ n = t := fun z => htn z.symm
  simp (disch := omega) only [t_X3_init_0, t_X3_init_1, t_X3_init_4, t_X3_init_5, t_X3_init_6, t_X3_init_9, t_X3_init_10, t_X3_init_13, t_X3_init_14, t_X3_init_15, t_X3_init_18, t_X3_init_21, t_X4_init_0, t_X4_init_1, t_X4_init_4, t_X4_init_5, t_X4_init_6, t_X4_init_9, t_X4_init_10, t_X4_init_11, t_X4_init_14, t_X4_init_15, t_X4_init_16, t_X4_init_19, t_X4_init_20, t_X4_init_21, t_X4_init_24, t_X4_init_25, t_X4_init_26, t_X4_init_29, t_X4_init_30, t_X4_init_31, t_X4_init_34, ev_kr_0, ev_ft_I, ev_ft_0, ev_ft_o, and_true, true_and, ev_fS_0, ev_fS_1, ev_fS_2, ev_fS_3, ev_fS_4, ev_fS_5, ev_isO_0, ev_isO_1, ev_isO_2, ev_isO_3, ev_isO_4, ev_isO_5, ev_up_s, ev_up_n, ev_up_up, ht]
  refine c _ ?_ ?_ (fun a h1 h2 => ?_)
  · simp (disch := assumption) only [ev_up_s, ev_up_n]
  · simp (disch := assumption) only [ev_up_s, ev_up_n]
    rfl
  · simp (disch := assumption) only [ev_up_s, ev_up_n]
theorem K_init (hw : H w = some (.inr (6, [.null, .int 0, .int 0]))) (c : ∀ H1, c_kee H1 w (w + 1) ([], m, 0, -1, 0, 0) → (∀ a, (a < w ∨ w + 4 ≤ a) → H1 a = H a) → P (.inl none) H1 (w + 4) (q + 47)) : ev_ok (ev_TT X) 90 0 [.ref w, .int m] [] H (w + 1) q P := by
  have h1 : ¬ w = w + 1 := by omega
  have h2 : ¬ w + 1 = w := by omega
  simp (disch := omega) only [t_X1_init_0, t_X1_init_1, t_X1_init_4, t_X1_init_5, t_X1_init_6, t_X1_init_9, t_X1_init_10, t_X1_init_11, t_X1_init_14, t_X1_init_15, t_X1_init_18, t_X1_init_19, t_X1_init_20, t_X1_init_21, ev_ft_I, and_true, true_and, ev_fS_1, ev_fS_2, ev_isO_1, ev_isO_2, ev_up_s, ev_up_up, hw]
  refine R_init ev_up_s ev_isB_1 fun H1 hR hF => ?_
  have hw1 : H1 w = some (.inr (6, [.null, .int 0, .int 0])) := by
    rw [hF w (by omega)]
    simp (disch := omega) only [ev_up_s, ev_up_n]
  simp (disch := omega) only [t_X1_init_24, t_X1_init_27, ev_kr_0, ev_ft_o, and_true, true_and, ev_fS_0, ev_isO_0, hw1]
  refine c _ ⟨ev_up_s, c_row_cg hR (fun a ha1 ha2 => ev_up_n (by omega))⟩ (fun a ha => ?_)
  rw [ev_up_n (by omega), hF a (by omega)]
  simp (disch := omega) only [ev_up_n]
theorem A_init (ha : H a = some (.inr (5, [.null, .null, .null, .null, .null, .int 0]))) (c : ∀ H1, c_ask H1 a (fun _ => 0, fun _ => 0, 0) → (∀ z, (z < a ∨ a + 6 ≤ z) → H1 z = H z) → P (.inl none) H1 (a + 6) (q + 192)) : ev_ok (ev_TT X) 31 0 [.ref a] [] H (a + 1) q P := by
  simp (disch := omega) only [t_X0_init_0, t_X0_init_1, t_X0_init_4, t_X0_init_5, t_X0_init_7, t_X0_init_9, t_X0_init_12, t_X0_init_13, t_X0_init_15, t_X0_init_17, t_X0_init_20, t_X0_init_21, t_X0_init_23, t_X0_init_25, t_X0_init_28, t_X0_init_29, t_X0_init_31, t_X0_init_33, t_X0_init_36, t_X0_init_37, t_X0_init_39, t_X0_init_41, t_X0_init_44, t_X0_init_45, t_X0_init_46, t_X0_init_49, ev_ft_I, ev_ft_a, and_true, true_and, ev_fS_0, ev_fS_1, ev_fS_2, ev_fS_3, ev_fS_4, ev_fS_5, ev_isO_0, ev_isO_1, ev_isO_2, ev_isO_3, ev_isO_4, ev_isO_5, ev_up_s, ev_up_n, ev_up_up, show (0 : Int32) ≤ 6 from by decide, show (0 : Int32) ≤ 60 from by decide, show (6 : Int32).toNatClampNeg = 6 from rfl, show (60 : Int32).toNatClampNeg = 60 from rfl, show 6 ≤ 100000 from by omega, show 60 ≤ 100000 from by omega, ha]
  refine c _ ⟨fun _ => 0, fun _ => 0, fun _ => 0, (ev_ask_t ?_ ?_ ?_ ?_ ?_ ?_).symm, okN_0⟩ (fun z hz => ?_)
  all_goals simp (disch := omega) only [ev_up_s, ev_up_n]
  rfl
end I73
end
section
/-! ===== the class is made, whole ===== -/
def t_0 : ev_TS := ([], (0, -1, 0, -1), (false, false, false), 0, 0)
def g_0 : ev_CS := (fun _ => t_0, ([], 0, -1), (fun j => ([], nI (j + 1), 0, -1, 0, 0)), (fun _ => 0, fun _ => 0, 0), 0, 0)
def c_p1 (x i : Nat) (H0 H : ev_M) : Prop := H x = some (.inr (10, [.ref (x + 1), .ref (x + 2), .ref (x + 8), .ref (x + 11), .ref (x + 12), .int 0, .int 0])) ∧ c_ask H (x + 2) (fun _ => 0, fun _ => 0, 0) ∧ c_row H (x + 8) [] 1 (-1) 0 (-1) ∧ H (x + 11) = some (.inl (4, 6, fun _ => .null)) ∧ H (x + 12) = some (.inl (0, 6, fun _ => .int 0)) ∧
  (∃ f : Nat → Value, H (x + 1) = some (.inl (3, 4, f)) ∧ ∀ j, j < i → f j = .ref (x + 13 + 5 * j)) ∧ (∀ j, j < i → c_tab H (x + 13 + 5 * j) (x + 14 + 5 * j) t_0) ∧ ∀ a, (a < x ∨ x + 13 + 5 * i ≤ a) → H a = H0 a
def c_p2 (x j : Nat) (H0 H : ev_M) : Prop := H x = some (.inr (10, [.ref (x + 1), .ref (x + 2), .ref (x + 8), .ref (x + 11), .ref (x + 12), .int 0, .int 0])) ∧ c_ask H (x + 2) (fun _ => 0, fun _ => 0, 0) ∧ c_row H (x + 8) [] 1 (-1) 0 (-1) ∧ H (x + 12) = some (.inl (0, 6, fun _ => .int 0)) ∧
  (∃ f : Nat → Value, H (x + 1) = some (.inl (3, 4, f)) ∧ ∀ j, j < 4 → f j = .ref (x + 13 + 5 * j)) ∧ (∀ j, j < 4 → c_tab H (x + 13 + 5 * j) (x + 14 + 5 * j) t_0) ∧
  (∃ f : Nat → Value, H (x + 11) = some (.inl (4, 6, f)) ∧ ∀ j', j' < j → f j' = .ref (x + 33 + 4 * j')) ∧ (∀ j', j' < j → c_kee H (x + 33 + 4 * j') (x + 34 + 4 * j') ([], nI (j' + 1), 0, -1, 0, 0)) ∧ ∀ a, (a < x ∨ x + 33 + 4 * j ≤ a) → H a = H0 a
section I74
variable {X : ev_E} {H : ev_M} {x n q : Nat} {P : ev_O → ev_M → Nat → Nat → Prop}
theorem C_i2 {H0 : ev_M} {q0 : Nat} (c : ∀ H1 q1, c_p2 x 6 H0 H1 → q0 ≤ q1 → q1 ≤ q0 + 2000 → P (.inl none) H1 (x + 57) q1) : ∀ (e j q : Nat) (H : ev_M), j + e = 6 → c_p2 x j H0 H → q0 ≤ q → q ≤ q0 + 1000 + 60 * j → ev_ok (ev_TT X) 152 100 [.ref x, .int (nI j)] [] H (x + 33 + 4 * j) q P := by
  have h6' : (6 : Int32) = nI 6 := rfl
  intro e
  induction e with
  | zero =>
    intro j q H hj hp h1 h2
    have e : j = 6 := by omega
    subst e
    have hi2 : 6 ≤ 6 := Nat.le_refl 6
    have h9 := c H q hp h1 (by omega)
    simp (disch := omega) only [t_X5_init_100, t_X5_init_101, t_X5_init_103, t_X5_init_128, ↓reduceIte, h6', nI_leI, hi2]
    exact h9
  | succ e ih =>
    intro j q H hj hp h1 h2
    have hj6 : j < 6 := by omega
    have hi2 : ¬ 6 ≤ j := by omega
    have hpj := nI_pos' (n := j) (by omega)
    have hcj := nI_clamp (n := j) (by omega)
    obtain ⟨p1, p2, p3, p5, p6, p7, ⟨f, p8, p8b⟩, p9, p10⟩ := hp
    have p1' := ev_lk_s (X := X) p1
    have e1 : nI j + 1 = nI (j + 1) := nI_1 j
    rw [t_X5_init_100]
    simp (disch := omega) only [t_X5_init_101, t_X5_init_103, t_X5_init_106, t_X5_init_107, t_X5_init_110, t_X5_init_111, t_X5_init_114, t_X5_init_115, t_X5_init_116, t_X5_init_117, t_X5_init_118, ↓reduceIte, true_and, ev_fG_3, ev_isO_3, h6', nI_leI, hi2, p1', e1]
    refine K_init (w := x + 33 + 4 * j) ev_up_s fun H1 k1 k2 => ?_
    have hF : ∀ a, (a < x + 33 + 4 * j ∨ x + 37 + 4 * j ≤ a) → H1 a = H a := fun a ha => (k2 a (by omega)).trans (ev_up_n (by omega))
    have hk1 := k1.1
    have h11 : H1 (x + 11) = some (.inl (4, 6, f)) := (hF _ (by omega)).trans p8
    have hex : (∃ n f, H1 (x + 11) = some (.inl (4, n, f))) := ⟨6, f, h11⟩
    have hex2 : ∃ fs, H1 (x + 33 + 4 * j) = some (.inr (6, fs)) := ⟨_, hk1⟩
    have hIa : (ev_inA (H1 (x + 11)) (nI j) FieldType.isReference ∧ (∃ n f, H1 (x + 11) = some (.inl (4, n, f))) ∧ ∃ fs, H1 (x + 33 + 4 * j) = some (.inr (6, fs))) := by
      refine ⟨?_, hex, hex2⟩
      rw [h11, ev_inA_4, hcj]
      exact ⟨hpj, hj6⟩
    have hI := ih (j + 1) (q + 3 + 47) (ev_up H1 (x + 11) (.inl (4, 6, updV f j (.ref (x + 33 + 4 * j))))) (by omega) ?_ (by omega) (by omega)
    · rw [show x + 33 + 4 * (j + 1) = x + 33 + 4 * j + 4 from by omega] at hI
      simp (disch := omega) only [t_X5_init_121, t_X5_init_122, t_X5_init_125, ev_k_r, ev_kr_0, nI_1]
      refine ⟨hIa, ?_⟩
      rw [h11, ev_aS_y, hcj]
      exact hI
    · have hG : ∀ a, ¬ a = x + 11 → (a < x + 33 + 4 * j ∨ x + 37 + 4 * j ≤ a) → ev_up H1 (x + 11) (.inl (4, 6, updV f j (.ref (x + 33 + 4 * j)))) a = H a := fun a ha1 ha2 => (ev_up_n ha1).trans (hF a ha2)
      refine ⟨(hG _ (by omega) (by omega)).trans p1, c_ask_cg p2 (fun a a1 a2 => hG a (by omega) (by omega)), c_row_cg p3 (fun a a1 a2 => hG a (by omega) (by omega)), (hG _ (by omega) (by omega)).trans p5, ?_, fun i hi => ?_, ⟨_, ev_up_s, fun j' hj' => ?_⟩, fun j' hj' => ?_, fun a ha => (hG a (by omega) (by omega)).trans (p10 a (by omega))⟩
      · obtain ⟨f', p6, p6b⟩ := p6
        exact ⟨f', (hG _ (by omega) (by omega)).trans p6, p6b⟩
      · have := c_tab_cg (t := x + 13 + 5 * i) (H1 := ev_up H1 (x + 11) (.inl (4, 6, updV f j (.ref (x + 33 + 4 * j))))) (by rw [show x + 13 + 5 * i + 1 = x + 14 + 5 * i from by omega]; exact p7 i hi) (fun a a1 a2 => hG a (by omega) (by omega))
        rw [show x + 13 + 5 * i + 1 = x + 14 + 5 * i from by omega] at this
        exact this
      · by_cases e2 : j' = j
        · rw [e2, updV_s]
        · rw [updV_n e2]
          exact p8b j' (by omega)
      · by_cases e2 : j' = j
        · subst e2
          have := c_kee_cg (w := x + 33 + 4 * j') (H1 := ev_up H1 (x + 11) (.inl (4, 6, updV f j' (.ref (x + 33 + 4 * j'))))) k1 (fun a a1 a2 => ev_up_n (by omega))
          rw [show x + 33 + 4 * j' + 1 = x + 34 + 4 * j' from by omega] at this
          exact this
        · have := c_kee_cg (w := x + 33 + 4 * j') (H1 := ev_up H1 (x + 11) (.inl (4, 6, updV f j (.ref (x + 33 + 4 * j))))) (by rw [show x + 33 + 4 * j' + 1 = x + 34 + 4 * j' from by omega]; exact p9 j' (by omega)) (fun a a1 a2 => hG a (by omega) (by omega))
          rw [show x + 33 + 4 * j' + 1 = x + 34 + 4 * j' from by omega] at this
          exact this
theorem C_i1 {H0 : ev_M} {q0 : Nat} (c : ∀ H1 q1, c_p1 x 4 H0 H1 → q0 ≤ q1 → q1 ≤ q0 + 1000 → ev_ok (ev_TT X) 152 98 [.ref x, .int (nI 4)] [] H1 (x + 33) q1 P) : ∀ (e i q : Nat) (H : ev_M), i + e = 4 → c_p1 x i H0 H → q0 ≤ q → q ≤ q0 + 500 + 60 * i → ev_ok (ev_TT X) 152 65 [.ref x, .int (nI i)] [] H (x + 13 + 5 * i) q P := by
  have h4' : (4 : Int32) = nI 4 := rfl
  intro e
  induction e with
  | zero =>
    intro i q H hi hp h1 h2
    have e : i = 4 := by omega
    subst e
    have hi2 : 4 ≤ 4 := Nat.le_refl 4
    have h9 := c H q hp h1 (by omega)
    simp (disch := omega) only [t_X5_init_65, t_X5_init_66, t_X5_init_67, ↓reduceIte, h4', nI_leI, hi2]
    exact h9
  | succ e ih =>
    intro i q H hi hp h1 h2
    have hi4 : i < 4 := by omega
    have hi2 : ¬ 4 ≤ i := by omega
    have hpi := nI_pos' (n := i) (by omega)
    have hci := nI_clamp (n := i) (by omega)
    obtain ⟨p1, p2, p3, p4, p5, ⟨f, p6, p6b⟩, p7, p8⟩ := hp
    have p1' := ev_lk_s (X := X) p1
    rw [t_X5_init_65]
    simp (disch := omega) only [t_X5_init_66, t_X5_init_67, t_X5_init_70, t_X5_init_71, t_X5_init_74, t_X5_init_75, t_X5_init_78, t_X5_init_79, t_X5_init_82, t_X5_init_83, t_X5_init_84, t_X5_init_85, ↓reduceIte, true_and, ev_fG_0, ev_isO_0, h4', nI_leI, hi2, p1']
    refine R_init (r := x + 13 + 5 * i + 1) ev_up_s ev_isB_0 fun H1 k1 k2 => ?_
    simp (disch := omega) only [t_X5_init_88, ev_kr_0]
    have hF : ∀ a, (a < x + 13 + 5 * i ∨ x + 17 + 5 * i ≤ a) → H1 a = H a := fun a ha => (k2 a (by omega)).trans ((ev_up_n (by omega)).trans (ev_up_n (by omega)))
    have ht1 : H1 (x + 13 + 5 * i) = some (.inr (8, [.null, .null])) := (k2 _ (by omega)).trans ((ev_up_n (by omega)).trans ev_up_s)
    refine T_init ht1 (by omega) fun H2 l1 l2 l3 => ?_
    have hF2 : ∀ a, (a < x + 13 + 5 * i ∨ x + 18 + 5 * i ≤ a) → H2 a = H a := fun a ha => (l3 a (by omega) (by omega)).trans (hF a (by omega))
    have h11 : H2 (x + 1) = some (.inl (3, 4, f)) := (hF2 _ (by omega)).trans p6
    have hIa : (ev_inA (H2 (x + 1)) (nI i) FieldType.isReference ∧ (∃ n f, H2 (x + 1) = some (.inl (3, n, f))) ∧ ∃ fs, H2 (x + 13 + 5 * i) = some (.inr (8, fs))) := by
      refine ⟨?_, ⟨4, f, h11⟩, ⟨_, l1⟩⟩
      rw [h11, ev_inA_3, hci]
      exact ⟨hpi, hi4⟩
    have hI := ih (i + 1) (q + 2 + 7 + 40 + 6) (ev_up H2 (x + 1) (.inl (3, 4, updV f i (.ref (x + 13 + 5 * i))))) (by omega) ?_ (by omega) (by omega)
    · rw [show x + 13 + 5 * (i + 1) = x + 13 + 5 * i + 1 + 3 + 1 from by omega] at hI
      simp (disch := omega) only [t_X5_init_91, t_X5_init_92, t_X5_init_95, ev_k_r, ev_kr_0, nI_1]
      refine ⟨hIa, ?_⟩
      rw [h11, ev_aS_y, hci]
      exact hI
    · have hG : ∀ a, ¬ a = x + 1 → (a < x + 13 + 5 * i ∨ x + 18 + 5 * i ≤ a) → ev_up H2 (x + 1) (.inl (3, 4, updV f i (.ref (x + 13 + 5 * i)))) a = H a := fun a ha1 ha2 => (ev_up_n ha1).trans (hF2 a ha2)
      refine ⟨(hG _ (by omega) (by omega)).trans p1, c_ask_cg p2 (fun a a1 a2 => hG a (by omega) (by omega)), c_row_cg p3 (fun a a1 a2 => hG a (by omega) (by omega)), (hG _ (by omega) (by omega)).trans p4, (hG _ (by omega) (by omega)).trans p5, ⟨_, ev_up_s, fun j' hj' => ?_⟩, fun j' hj' => ?_, fun a ha => (hG a (by omega) (by omega)).trans (p8 a (by omega))⟩
      · by_cases e2 : j' = i
        · rw [e2, updV_s]
        · rw [updV_n e2]
          exact p6b j' (by omega)
      · by_cases e2 : j' = i
        · subst e2
          refine ⟨?_, ?_, ?_⟩
          · rw [ev_up_n (by omega), l1, show x + 13 + 5 * j' + 1 = x + 14 + 5 * j' from by omega]
            unfold ev_tbc
            rfl
          · refine c_row_cg (H := H1) ?_ (fun a a1 a2 => (ev_up_n (by omega)).trans (l3 a (by omega) (by omega)))
            rw [show x + 14 + 5 * j' = x + 13 + 5 * j' + 1 from by omega]
            exact k1
          · rw [ev_up_n (by omega), show x + 14 + 5 * j' + 3 = x + 13 + 5 * j' + 1 + 3 from by omega, l2, show x + 13 + 5 * j' + 1 = x + 14 + 5 * j' from by omega]
            rfl
        · have := c_tab_cg (t := x + 13 + 5 * j') (H1 := ev_up H2 (x + 1) (.inl (3, 4, updV f i (.ref (x + 13 + 5 * i))))) (by rw [show x + 13 + 5 * j' + 1 = x + 14 + 5 * j' from by omega]; exact p7 j' (by omega)) (fun a a1 a2 => hG a (by omega) (by omega))
          rw [show x + 13 + 5 * j' + 1 = x + 14 + 5 * j' from by omega] at this
          exact this
theorem C_new (hx : H x = some (.inr (10, [.null, .null, .null, .null, .null, .int 0, .int 0]))) (c : ∀ H1 q1, c_all x g_0 H1 → (∀ a, (a < x ∨ x + 57 ≤ a) → H1 a = H a) → q ≤ q1 → q1 ≤ q + 2000 → P (.inl none) H1 (x + 57) q1) : ev_ok (ev_TT X) 152 0 [.ref x, ev_J] [] H (x + 1) q P := by
  have e1 : ¬ x = x + 1 := by omega
  simp (disch := omega) only [t_X5_init_0, t_X5_init_1, t_X5_init_4, t_X5_init_5, t_X5_init_6, t_X5_init_9, t_X5_init_12, t_X5_init_13, t_X5_init_16, t_X5_init_17, ev_ft_a, and_true, true_and, ev_fS_0, ev_isO_0, ev_up_n, show (0 : Int32) ≤ 4 from by decide, show (4 : Int32).toNatClampNeg = 4 from rfl, show 4 ≤ 100000 from by omega, hx]
  refine A_init (a := x + 2) ev_up_s fun H1 k1 k2 => ?_
  have hx1 : H1 x = some (.inr (10, [.ref (x + 1), .null, .null, .null, .null, .int 0, .int 0])) := by
    rw [k2 x (by omega)]
    simp (disch := omega) only [ev_up_s, ev_up_n]
  have hx2 : H1 (x + 1) = some (.inl (3, 4, fun _ => .null)) := by
    rw [k2 (x + 1) (by omega)]
    simp (disch := omega) only [ev_up_s, ev_up_n]
  have hF1 : ∀ a, (a < x ∨ x + 8 ≤ a) → H1 a = H a := fun a ha => by
    rw [k2 a (by omega)]
    simp (disch := omega) only [ev_up_n]
  simp (disch := omega) only [t_X5_init_20, t_X5_init_23, t_X5_init_24, t_X5_init_27, t_X5_init_28, t_X5_init_29, t_X5_init_30, ev_kr_0, ev_ft_o, and_true, true_and, ev_fS_1, ev_isO_1, hx1]
  refine R_init (r := x + 8) ev_up_s ev_isB_1 fun H2 l1 l2 => ?_
  have hx3 : H2 x = some (.inr (10, [.ref (x + 1), .ref (x + 2), .null, .null, .null, .int 0, .int 0])) := by
    rw [l2 x (by omega)]
    simp (disch := omega) only [ev_up_s, ev_up_n]
  have hF2 : ∀ a, ¬ a = x → (a < x + 8 ∨ x + 11 ≤ a) → H2 a = H1 a := fun a ha1 ha => by
    rw [l2 a (by omega)]
    simp (disch := omega) only [ev_up_n]
  have fin : ∀ H3 q3, c_p1 x 0 H H3 → q ≤ q3 → q3 ≤ q + 500 → ev_ok (ev_TT X) 152 65 [.ref x, .int (nI 0)] [] H3 (x + 13) q3 P := by
    intro H3 q3 hp hq1 hq2
    refine C_i1 (q0 := q) (fun H4 q4 p4 a1 a2 => ?_) 4 0 q3 H3 (by omega) hp hq1 (by omega)
    obtain ⟨p1, p2, p3, p4', p5, p6, p7, p8⟩ := p4
    have h9 := C_i2 (X := X) (P := P) (x := x) (H0 := H) (q0 := q) (fun H5 q5 p5 b1 b2 => ?_) 6 0 q4 H4 (by omega) ⟨p1, p2, p3, p5, p6, p7, ⟨_, p4', fun j hj => by omega⟩, fun j hj => by omega, fun a ha => p8 a (by omega)⟩ a1 (by omega)
    · rw [nI_0] at h9
      simp (disch := omega) only [t_X5_init_98, t_X5_init_99, ev_k_r]
      exact h9
    · obtain ⟨s1, s2, s3, s5, s6, s7, s8, s9, s10⟩ := p5
      exact c H5 q5 ⟨s1, s6, s2, s3, s8, ⟨_, s5⟩, s7, s9⟩ (fun a ha => s10 a (by omega)) b1 b2
  have hN := fun H3 q3 hp h1 h2 => fin H3 q3 hp h1 h2
  rw [nI_0] at hN
  have e3 : ¬ x = x + 8 + 3 := by omega
  have e4 : ¬ x = x + 8 + 3 + 1 := by omega
  simp (disch := omega) only [t_X5_init_33, t_X5_init_36, t_X5_init_37, t_X5_init_39, t_X5_init_42, t_X5_init_45, t_X5_init_46, t_X5_init_48, t_X5_init_50, t_X5_init_53, t_X5_init_54, t_X5_init_55, t_X5_init_58, t_X5_init_59, t_X5_init_60, t_X5_init_63, t_X5_init_64, ev_k_r, ev_kr_0, ev_ft_I, ev_ft_o, ev_ft_a, and_true, true_and, ev_fS_2, ev_fS_3, ev_fS_4, ev_fS_5, ev_fS_6, ev_isO_2, ev_isO_3, ev_isO_4, ev_isO_5, ev_isO_6, ev_up_s, ev_up_n, ev_up_up, show (0 : Int32) ≤ 6 from by decide, show (6 : Int32).toNatClampNeg = 6 from rfl, show 6 ≤ 100000 from by omega, hx3]
  refine hN _ _ ⟨?_, c_ask_cg k1 (fun a a1 a2 => ?_), c_row_cg l1 (fun a a1 a2 => ?_), ?_, ?_, ⟨fun _ => .null, ?_, fun j hj => by omega⟩, fun j hj => by omega, fun a ha => ?_⟩ (by omega) (by omega)
  · simp (disch := omega) only [ev_up_s]
  · simp (disch := omega) only [ev_up_n]
    exact hF2 a (by omega) (by omega)
  · simp (disch := omega) only [ev_up_n]
  · simp (disch := omega) only [ev_up_s, ev_up_n]
  · simp (disch := omega) only [ev_up_s, ev_up_n]
  · simp (disch := omega) only [ev_up_n]
    rw [hF2 (x + 1) (by omega) (by omega)]
    exact hx2
  · simp (disch := omega) only [ev_up_n]
    rw [hF2 a (by omega) (by omega)]
    exact hF1 a (by omega)
end I74
end
section
/-! ===== the reference is made ===== -/
section I75
variable {X : ev_E} {zf : Nat → Nat} {H : ev_M} {t y n q : Nat} {P : ev_O → ev_M → Nat → Nat → Prop}
theorem MT_init (ht : H t = some (.inr (12, [.null, .int 0, .int 0, .int 0, .int 0, .int 0, .int 0, .int 0, .int 0]))) (c : ∀ H1, H1 t = some (m_tbc (t + 1) t_0) → H1 (t + 1) = some (ev_alc 0 (X.2.2.2.2.2 1) 0) → (∀ a, ¬ a = t → ¬ a = t + 1 → H1 a = H a) → P (.inl none) H1 (t + 2) (q + 3)) : ev_ok (ev_TT X) 206 0 [.ref t] [] H (t + 1) q P := by
  have e1 : ¬ t = t + 1 := by omega
  have e2 : ¬ t + 1 = t := by omega
  simp (disch := omega) only [t_X7_init_0, t_X7_init_1, t_X7_init_4, t_X7_init_5, t_X7_init_8, t_X7_init_9]
  refine L_init ev_up_s ?_
  rw [ev_up_up]
  simp (disch := omega) only [t_X7_init_12, t_X7_init_15, t_X7_init_16, t_X7_init_17, t_X7_init_20, t_X7_init_21, t_X7_init_22, t_X7_init_25, t_X7_init_26, t_X7_init_27, t_X7_init_30, ev_kr_0, ev_ft_I, ev_ft_o, and_true, true_and, ev_fS_0, ev_fS_2, ev_fS_4, ev_fS_5, ev_isO_0, ev_isO_2, ev_isO_4, ev_isO_5, ev_up_s, ev_up_n, ev_up_up, ht]
  refine c _ ?_ ?_ (fun a h1 h2 => ?_)
  · simp (disch := omega) only [ev_up_s]
    rfl
  · simp (disch := omega) only [ev_up_s, ev_up_n]
    rfl
  · simp (disch := assumption) only [ev_up_s, ev_up_n]
theorem M_new (hEM : ev_EM X) (hB : ev_bs X y) (hw : ev_low X H) (hy : H y = some (.inr (13, [.int 0, .int 0, .int 0, .null, .null]))) (c : ∀ H1 q1, m_aw X zf y (0, 0, 0) (fun _ => t_0) [] H1 (y + 12) (fun _ => 0) → (∀ a, (a < y ∨ y + 11 ≤ a) → H1 a = H a) → q ≤ q1 → q1 ≤ q + 300 → P (.inl none) H1 (y + 11) q1) : ev_ok (ev_TT X) 234 0 [.ref y] [] H (y + 1) q P := by
  have hB1 := hB.1
  have hB3 := hB.2.2
  have ey : ¬ y = y + 1 := by omega
  have ey2 : ¬ y + 1 = y := by omega
  simp (disch := omega) only [t_X8_init_0, t_X8_init_1, t_X8_init_4, t_X8_init_5, t_X8_init_6, t_X8_init_9, t_X8_init_10, t_X8_init_11, t_X8_init_14, t_X8_init_15, and_true, true_and, show (0 : Int32) ≤ 4 from by decide, show (4 : Int32).toNatClampNeg = 4 from rfl, show 4 ≤ 100000 from by omega]
  refine MT_init (t := y + 2) ev_up_s fun H0 a0 b0 c0 => ?_
  have r0 : H0 (y + 1) = some (.inl (5, 4, fun _ => .null)) := by
    rw [c0 (y + 1) (by omega) (by omega), ev_up_n (by omega)]
    exact ev_up_s
  have y0 : H0 y = some (.inr (13, [.int 0, .int 0, .int 0, .null, .null])) := by
    rw [c0 y (by omega) (by omega), ev_up_n (by omega), ev_up_n (by omega)]
    exact hy
  have f0 : ∀ a, ¬ a = y + 1 → ¬ a = y + 2 → ¬ a = y + 3 → H0 a = H a := fun a z1 z2 z3 => (c0 a z2 z3).trans ((ev_up_n z2).trans (ev_up_n z1))
  have i0 : (ev_inA (H0 (y + 1)) 0 FieldType.isReference ∧ (∃ n f, H0 (y + 1) = some (.inl (5, n, f))) ∧ ∃ fs, H0 (y + 2) = some (.inr (12, fs))) := by
    refine ⟨?_, ⟨4, _, r0⟩, ⟨_, a0⟩⟩
    rw [r0, ev_inA_5]
    decide
  have s0 : ev_aS (H0 (y + 1)) 0 (.ref (y + 2)) = .inl (5, 4, updV (fun _ => .null) 0 (.ref (y + 2))) := by rw [r0, ev_aS_y]; rfl
  simp (disch := omega) only [t_X8_init_18, ev_kr_0]
  refine ⟨i0, ?_⟩
  rw [s0]
  simp (disch := omega) only [t_X8_init_19, t_X8_init_20, t_X8_init_21, t_X8_init_24, t_X8_init_25]
  refine MT_init (t := y + 4) ev_up_s fun H1 a1 b1 c1 => ?_
  have r1 : H1 (y + 1) = some (.inl (5, 4, updV (fun _ => .null) 0 (.ref (y + 2)))) := by
    rw [c1 (y + 1) (by omega) (by omega), ev_up_n (by omega)]
    exact ev_up_s
  have y1 : H1 y = some (.inr (13, [.int 0, .int 0, .int 0, .null, .null])) := by
    rw [c1 y (by omega) (by omega), ev_up_n (by omega), ev_up_n (by omega)]
    exact y0
  have f1 : ∀ a, ¬ a = y + 1 → ¬ a = y + 4 → ¬ a = y + 5 → H1 a = H0 a := fun a z1 z2 z3 => (c1 a z2 z3).trans ((ev_up_n z2).trans (ev_up_n z1))
  have i1 : (ev_inA (H1 (y + 1)) 1 FieldType.isReference ∧ (∃ n f, H1 (y + 1) = some (.inl (5, n, f))) ∧ ∃ fs, H1 (y + 4) = some (.inr (12, fs))) := by
    refine ⟨?_, ⟨4, _, r1⟩, ⟨_, a1⟩⟩
    rw [r1, ev_inA_5]
    decide
  have s1 : ev_aS (H1 (y + 1)) 1 (.ref (y + 4)) = .inl (5, 4, updV (updV (fun _ => .null) 0 (.ref (y + 2))) 1 (.ref (y + 4))) := by rw [r1, ev_aS_y]; rfl
  simp (disch := omega) only [t_X8_init_28, ev_kr_0]
  refine ⟨i1, ?_⟩
  rw [s1]
  simp (disch := omega) only [t_X8_init_29, t_X8_init_30, t_X8_init_31, t_X8_init_34, t_X8_init_35]
  refine MT_init (t := y + 6) ev_up_s fun H2 a2 b2 c2 => ?_
  have r2 : H2 (y + 1) = some (.inl (5, 4, updV (updV (fun _ => .null) 0 (.ref (y + 2))) 1 (.ref (y + 4)))) := by
    rw [c2 (y + 1) (by omega) (by omega), ev_up_n (by omega)]
    exact ev_up_s
  have y2 : H2 y = some (.inr (13, [.int 0, .int 0, .int 0, .null, .null])) := by
    rw [c2 y (by omega) (by omega), ev_up_n (by omega), ev_up_n (by omega)]
    exact y1
  have f2 : ∀ a, ¬ a = y + 1 → ¬ a = y + 6 → ¬ a = y + 7 → H2 a = H1 a := fun a z1 z2 z3 => (c2 a z2 z3).trans ((ev_up_n z2).trans (ev_up_n z1))
  have i2 : (ev_inA (H2 (y + 1)) 2 FieldType.isReference ∧ (∃ n f, H2 (y + 1) = some (.inl (5, n, f))) ∧ ∃ fs, H2 (y + 6) = some (.inr (12, fs))) := by
    refine ⟨?_, ⟨4, _, r2⟩, ⟨_, a2⟩⟩
    rw [r2, ev_inA_5]
    decide
  have s2 : ev_aS (H2 (y + 1)) 2 (.ref (y + 6)) = .inl (5, 4, updV (updV (updV (fun _ => .null) 0 (.ref (y + 2))) 1 (.ref (y + 4))) 2 (.ref (y + 6))) := by rw [r2, ev_aS_y]; rfl
  simp (disch := omega) only [t_X8_init_38, ev_kr_0]
  refine ⟨i2, ?_⟩
  rw [s2]
  simp (disch := omega) only [t_X8_init_39, t_X8_init_40, t_X8_init_41, t_X8_init_44, t_X8_init_45]
  refine MT_init (t := y + 8) ev_up_s fun H3 a3 b3 c3 => ?_
  have r3 : H3 (y + 1) = some (.inl (5, 4, updV (updV (updV (fun _ => .null) 0 (.ref (y + 2))) 1 (.ref (y + 4))) 2 (.ref (y + 6)))) := by
    rw [c3 (y + 1) (by omega) (by omega), ev_up_n (by omega)]
    exact ev_up_s
  have y3 : H3 y = some (.inr (13, [.int 0, .int 0, .int 0, .null, .null])) := by
    rw [c3 y (by omega) (by omega), ev_up_n (by omega), ev_up_n (by omega)]
    exact y2
  have f3 : ∀ a, ¬ a = y + 1 → ¬ a = y + 8 → ¬ a = y + 9 → H3 a = H2 a := fun a z1 z2 z3 => (c3 a z2 z3).trans ((ev_up_n z2).trans (ev_up_n z1))
  have i3 : (ev_inA (H3 (y + 1)) 3 FieldType.isReference ∧ (∃ n f, H3 (y + 1) = some (.inl (5, n, f))) ∧ ∃ fs, H3 (y + 8) = some (.inr (12, fs))) := by
    refine ⟨?_, ⟨4, _, r3⟩, ⟨_, a3⟩⟩
    rw [r3, ev_inA_5]
    decide
  have s3 : ev_aS (H3 (y + 1)) 3 (.ref (y + 8)) = .inl (5, 4, updV (updV (updV (updV (fun _ => .null) 0 (.ref (y + 2))) 1 (.ref (y + 4))) 2 (.ref (y + 6))) 3 (.ref (y + 8))) := by rw [r3, ev_aS_y]; rfl
  simp (disch := omega) only [t_X8_init_48, ev_kr_0]
  refine ⟨i3, ?_⟩
  rw [s3]
  have y3' : ev_up H3 (y + 1) (.inl (5, 4, updV (updV (updV (updV (fun _ => .null) 0 (.ref (y + 2))) 1 (.ref (y + 4))) 2 (.ref (y + 6))) 3 (.ref (y + 8)))) y = some (.inr (13, [.int 0, .int 0, .int 0, .null, .null])) := (ev_up_n (by omega)).trans y3
  simp (disch := omega) only [t_X8_init_49, t_X8_init_52, t_X8_init_53, t_X8_init_56, t_X8_init_57, ev_ft_a, and_true, true_and, ev_fS_3, ev_isO_3, y3']
  refine L_init ev_up_s ?_
  rw [ev_up_up]
  simp (disch := omega) only [t_X8_init_60, t_X8_init_63, ev_kr_0, ev_ft_o, and_true, true_and, ev_fS_4, ev_isO_4, ev_up_s, ev_up_n]
  have nn : H (X.2.2.2.2.2 1) = none := hw _ hB3
  refine c _ _ ?_ (fun a ha => ?_) (by omega) (by omega)
  · have hl : ∀ H' l, (H' (X.2.2.2.2.2 1) = none) → H' l = some (ev_alc 0 (X.2.2.2.2.2 1) 0) → ev_AT X H' l (X.2.2.2.2.2 1) [] := fun H' l e1 e2 => ⟨0, e2, fun v hv => absurd hv (List.not_mem_nil), Or.inl ⟨e1, rfl, hEM, rfl⟩⟩
    refine ⟨?_, ⟨updV (updV (updV (updV (fun _ => .null) 0 (.ref (y + 2))) 1 (.ref (y + 4))) 2 (.ref (y + 6))) 3 (.ref (y + 8)), ?_, fun i hi => ?_⟩, fun i hi => ?_, X.2.2.2.2.2 1, ?_, Or.inl ⟨by omega, rfl, ?_⟩⟩
    · simp (disch := omega) only [ev_up_s]
      rfl
    · simp (disch := omega) only [ev_up_s, ev_up_n]
    · rcases (show i = 0 ∨ i = 1 ∨ i = 2 ∨ i = 3 by omega) with rfl | rfl | rfl | rfl <;> rfl
    · rcases (show i = 0 ∨ i = 1 ∨ i = 2 ∨ i = 3 by omega) with rfl | rfl | rfl | rfl <;> refine ⟨?_, [], ⟨X.2.2.2.2.2 1, hl _ _ ?_ ?_, List.nodup_nil, fun z hz => absurd hz (List.not_mem_nil), Or.inl ⟨by omega, rfl, ?_⟩⟩, rfl⟩
      · simp (disch := omega) only [ev_up_n]
        rw [f3 _ (by omega) (by omega) (by omega)]
        rw [f2 _ (by omega) (by omega) (by omega)]
        rw [f1 _ (by omega) (by omega) (by omega)]
        exact a0
      · simp (disch := omega) only [ev_up_n]
        rw [f3 _ (by omega) (by omega) (by omega), f2 _ (by omega) (by omega) (by omega), f1 _ (by omega) (by omega) (by omega), f0 _ (by omega) (by omega) (by omega)]
        exact nn
      · simp (disch := omega) only [ev_up_n]
        rw [f3 _ (by omega) (by omega) (by omega)]
        rw [f2 _ (by omega) (by omega) (by omega)]
        rw [f1 _ (by omega) (by omega) (by omega)]
        exact b0
      · simp (disch := omega) only [ev_up_n]
        rw [f3 _ (by omega) (by omega) (by omega), f2 _ (by omega) (by omega) (by omega), f1 _ (by omega) (by omega) (by omega), f0 _ (by omega) (by omega) (by omega)]
        exact nn
      · simp (disch := omega) only [ev_up_n]
        rw [f3 _ (by omega) (by omega) (by omega)]
        rw [f2 _ (by omega) (by omega) (by omega)]
        exact a1
      · simp (disch := omega) only [ev_up_n]
        rw [f3 _ (by omega) (by omega) (by omega), f2 _ (by omega) (by omega) (by omega), f1 _ (by omega) (by omega) (by omega), f0 _ (by omega) (by omega) (by omega)]
        exact nn
      · simp (disch := omega) only [ev_up_n]
        rw [f3 _ (by omega) (by omega) (by omega)]
        rw [f2 _ (by omega) (by omega) (by omega)]
        exact b1
      · simp (disch := omega) only [ev_up_n]
        rw [f3 _ (by omega) (by omega) (by omega), f2 _ (by omega) (by omega) (by omega), f1 _ (by omega) (by omega) (by omega), f0 _ (by omega) (by omega) (by omega)]
        exact nn
      · simp (disch := omega) only [ev_up_n]
        rw [f3 _ (by omega) (by omega) (by omega)]
        exact a2
      · simp (disch := omega) only [ev_up_n]
        rw [f3 _ (by omega) (by omega) (by omega), f2 _ (by omega) (by omega) (by omega), f1 _ (by omega) (by omega) (by omega), f0 _ (by omega) (by omega) (by omega)]
        exact nn
      · simp (disch := omega) only [ev_up_n]
        rw [f3 _ (by omega) (by omega) (by omega)]
        exact b2
      · simp (disch := omega) only [ev_up_n]
        rw [f3 _ (by omega) (by omega) (by omega), f2 _ (by omega) (by omega) (by omega), f1 _ (by omega) (by omega) (by omega), f0 _ (by omega) (by omega) (by omega)]
        exact nn
      · simp (disch := omega) only [ev_up_n]
        exact a3
      · simp (disch := omega) only [ev_up_n]
        rw [f3 _ (by omega) (by omega) (by omega), f2 _ (by omega) (by omega) (by omega), f1 _ (by omega) (by omega) (by omega), f0 _ (by omega) (by omega) (by omega)]
        exact nn
      · simp (disch := omega) only [ev_up_n]
        exact b3
      · simp (disch := omega) only [ev_up_n]
        rw [f3 _ (by omega) (by omega) (by omega), f2 _ (by omega) (by omega) (by omega), f1 _ (by omega) (by omega) (by omega), f0 _ (by omega) (by omega) (by omega)]
        exact nn
    · refine hl _ _ ?_ ?_
      · simp (disch := omega) only [ev_up_n]
        rw [f3 _ (by omega) (by omega) (by omega), f2 _ (by omega) (by omega) (by omega), f1 _ (by omega) (by omega) (by omega), f0 _ (by omega) (by omega) (by omega)]
        exact nn
      · simp (disch := omega) only [ev_up_s, ev_up_n]
        unfold ev_alc
        rw [nI_0]
    · simp (disch := omega) only [ev_up_n]
      rw [f3 _ (by omega) (by omega) (by omega), f2 _ (by omega) (by omega) (by omega), f1 _ (by omega) (by omega) (by omega), f0 _ (by omega) (by omega) (by omega)]
      exact nn
  · simp (disch := omega) only [ev_up_n]
    rw [f3 _ (by omega) (by omega) (by omega), f2 _ (by omega) (by omega) (by omega), f1 _ (by omega) (by omega) (by omega), f0 _ (by omega) (by omega) (by omega)]
end I75
end
section
/-! ===== the steps behind the exception handlers; set, once more (the refused branch knows the value is good) ===== -/
theorem t_L_clear_14 {X : ev_E} {st : List Value} {lo : List Value} {h : ev_M} {n q : Nat} {P : ev_O → ev_M → Nat → Nat → Prop} : ev_ok (ev_TT X) 131 14 lo st h n q P ↔ ev_ok (ev_TT X) 131 15 lo ((.int (1)) :: st) h n q P := ev_goR er_L_clear (ev_m4 (ev_m4 ev_mh)) rfl
theorem t_L_clear_15 {X : ev_E} {x : Int32} {lo : List Value} {h : ev_M} {n q : Nat} {P : ev_O → ev_M → Nat → Nat → Prop} : ev_ok (ev_TT X) 131 15 lo [.int x] h n q P ↔ P (.inl (some (.int x))) h n q := (ev_reG (congrFun (ev_rwm er_L_clear (ev_m4 (ev_m4 (ev_m1 ev_mh)))) _)).trans ⟨fun k => k.2, fun k => ⟨rfl, k⟩⟩
theorem t_L_has_23 {X : ev_E} {st : List Value} {lo : List Value} {h : ev_M} {n q : Nat} {P : ev_O → ev_M → Nat → Nat → Prop} : ev_ok (ev_TT X) 132 23 lo st h n q P ↔ ev_ok (ev_TT X) 132 24 lo ((.int (1)) :: st) h n q P := ev_goR er_L_has (ev_m4 (ev_m4 (ev_m4 ev_mh))) rfl
theorem t_L_has_24 {X : ev_E} {x : Int32} {lo : List Value} {h : ev_M} {n q : Nat} {P : ev_O → ev_M → Nat → Nat → Prop} : ev_ok (ev_TT X) 132 24 lo [.int x] h n q P ↔ P (.inl (some (.int x))) h n q := (ev_reG (congrFun (ev_rwm er_L_has (ev_m4 (ev_m4 (ev_m4 (ev_m1 ev_mh))))) _)).trans ⟨fun k => k.2, fun k => ⟨rfl, k⟩⟩
theorem t_L_has_27 {X : ev_E} {st : List Value} {lo : List Value} {h : ev_M} {n q : Nat} {P : ev_O → ev_M → Nat → Nat → Prop} : ev_ok (ev_TT X) 132 27 lo st h n q P ↔ ev_ok (ev_TT X) 132 28 lo ((.int (2)) :: st) h n q P := ev_goR er_L_has (ev_m4 (ev_m4 (ev_m4 (ev_m1 (ev_m1 (ev_m1 ev_mh)))))) rfl
theorem t_L_has_28 {X : ev_E} {x : Int32} {lo : List Value} {h : ev_M} {n q : Nat} {P : ev_O → ev_M → Nat → Nat → Prop} : ev_ok (ev_TT X) 132 28 lo [.int x] h n q P ↔ P (.inl (some (.int x))) h n q := (ev_reG (congrFun (ev_rwm er_L_has (ev_m16 ev_mh)) _)).trans ⟨fun k => k.2, fun k => ⟨rfl, k⟩⟩
theorem t_L_house_14 {X : ev_E} {st : List Value} {lo : List Value} {h : ev_M} {n q : Nat} {P : ev_O → ev_M → Nat → Nat → Prop} : ev_ok (ev_TT X) 133 14 lo st h n q P ↔ ev_ok (ev_TT X) 133 15 lo ((.int (1)) :: st) h n q P := ev_goR er_L_house (ev_m4 (ev_m4 ev_mh)) rfl
theorem t_L_house_15 {X : ev_E} {x : Int32} {lo : List Value} {h : ev_M} {n q : Nat} {P : ev_O → ev_M → Nat → Nat → Prop} : ev_ok (ev_TT X) 133 15 lo [.int x] h n q P ↔ P (.inl (some (.int x))) h n q := (ev_reG (congrFun (ev_rwm er_L_house (ev_m4 (ev_m4 (ev_m1 ev_mh)))) _)).trans ⟨fun k => k.2, fun k => ⟨rfl, k⟩⟩
theorem t_L_isStale_21 {X : ev_E} {st : List Value} {lo : List Value} {h : ev_M} {n q : Nat} {P : ev_O → ev_M → Nat → Nat → Prop} : ev_ok (ev_TT X) 134 21 lo st h n q P ↔ ev_ok (ev_TT X) 134 22 lo ((.int (1)) :: st) h n q P := ev_goR er_L_isStale (ev_m4 (ev_m4 (ev_m1 (ev_m1 (ev_m1 ev_mh))))) rfl
theorem t_L_isStale_22 {X : ev_E} {x : Int32} {lo : List Value} {h : ev_M} {n q : Nat} {P : ev_O → ev_M → Nat → Nat → Prop} : ev_ok (ev_TT X) 134 22 lo [.int x] h n q P ↔ P (.inl (some (.int x))) h n q := (ev_reG (congrFun (ev_rwm er_L_isStale (ev_m4 (ev_m4 (ev_m4 ev_mh)))) _)).trans ⟨fun k => k.2, fun k => ⟨rfl, k⟩⟩
theorem t_L_ofTable_16 {X : ev_E} {st : List Value} {lo : List Value} {h : ev_M} {n q : Nat} {P : ev_O → ev_M → Nat → Nat → Prop} : ev_ok (ev_TT X) 135 16 lo st h n q P ↔ ev_ok (ev_TT X) 135 17 lo ((.int (1)) :: st) h n q P := ev_goR er_L_ofTable (ev_m4 (ev_m4 (ev_m1 ev_mh))) rfl
theorem t_L_ofTable_17 {X : ev_E} {x : Int32} {lo : List Value} {h : ev_M} {n q : Nat} {P : ev_O → ev_M → Nat → Nat → Prop} : ev_ok (ev_TT X) 135 17 lo [.int x] h n q P ↔ P (.inl (some (.int x))) h n q := (ev_reG (congrFun (ev_rwm er_L_ofTable (ev_m4 (ev_m4 (ev_m1 (ev_m1 ev_mh))))) _)).trans ⟨fun k => k.2, fun k => ⟨rfl, k⟩⟩
theorem t_L_ofTable_20 {X : ev_E} {st : List Value} {lo : List Value} {h : ev_M} {n q : Nat} {P : ev_O → ev_M → Nat → Nat → Prop} : ev_ok (ev_TT X) 135 20 lo st h n q P ↔ ev_ok (ev_TT X) 135 21 lo ((.int (2)) :: st) h n q P := ev_goR er_L_ofTable (ev_m4 (ev_m4 (ev_m4 ev_mh))) rfl
theorem t_L_ofTable_21 {X : ev_E} {x : Int32} {lo : List Value} {h : ev_M} {n q : Nat} {P : ev_O → ev_M → Nat → Nat → Prop} : ev_ok (ev_TT X) 135 21 lo [.int x] h n q P ↔ P (.inl (some (.int x))) h n q := (ev_reG (congrFun (ev_rwm er_L_ofTable (ev_m4 (ev_m4 (ev_m4 (ev_m1 ev_mh))))) _)).trans ⟨fun k => k.2, fun k => ⟨rfl, k⟩⟩
theorem t_L_placeOf_16 {X : ev_E} {st : List Value} {lo : List Value} {h : ev_M} {n q : Nat} {P : ev_O → ev_M → Nat → Nat → Prop} : ev_ok (ev_TT X) 136 16 lo st h n q P ↔ ev_ok (ev_TT X) 136 17 lo ((.int (1)) :: st) h n q P := ev_goR er_L_placeOf (ev_m4 (ev_m4 (ev_m1 ev_mh))) rfl
theorem t_L_placeOf_17 {X : ev_E} {x : Int32} {lo : List Value} {h : ev_M} {n q : Nat} {P : ev_O → ev_M → Nat → Nat → Prop} : ev_ok (ev_TT X) 136 17 lo [.int x] h n q P ↔ P (.inl (some (.int x))) h n q := (ev_reG (congrFun (ev_rwm er_L_placeOf (ev_m4 (ev_m4 (ev_m1 (ev_m1 ev_mh))))) _)).trans ⟨fun k => k.2, fun k => ⟨rfl, k⟩⟩
theorem t_L_placeOf_20 {X : ev_E} {st : List Value} {lo : List Value} {h : ev_M} {n q : Nat} {P : ev_O → ev_M → Nat → Nat → Prop} : ev_ok (ev_TT X) 136 20 lo st h n q P ↔ ev_ok (ev_TT X) 136 21 lo ((.int (2)) :: st) h n q P := ev_goR er_L_placeOf (ev_m4 (ev_m4 (ev_m4 ev_mh))) rfl
theorem t_L_placeOf_21 {X : ev_E} {x : Int32} {lo : List Value} {h : ev_M} {n q : Nat} {P : ev_O → ev_M → Nat → Nat → Prop} : ev_ok (ev_TT X) 136 21 lo [.int x] h n q P ↔ P (.inl (some (.int x))) h n q := (ev_reG (congrFun (ev_rwm er_L_placeOf (ev_m4 (ev_m4 (ev_m4 (ev_m1 ev_mh))))) _)).trans ⟨fun k => k.2, fun k => ⟨rfl, k⟩⟩
theorem t_L_size_14 {X : ev_E} {st : List Value} {lo : List Value} {h : ev_M} {n q : Nat} {P : ev_O → ev_M → Nat → Nat → Prop} : ev_ok (ev_TT X) 137 14 lo st h n q P ↔ ev_ok (ev_TT X) 137 15 lo ((.int (1)) :: st) h n q P := ev_goR er_L_size (ev_m4 (ev_m4 ev_mh)) rfl
theorem t_L_size_15 {X : ev_E} {x : Int32} {lo : List Value} {h : ev_M} {n q : Nat} {P : ev_O → ev_M → Nat → Nat → Prop} : ev_ok (ev_TT X) 137 15 lo [.int x] h n q P ↔ P (.inl (some (.int x))) h n q := (ev_reG (congrFun (ev_rwm er_L_size (ev_m4 (ev_m4 (ev_m1 ev_mh)))) _)).trans ⟨fun k => k.2, fun k => ⟨rfl, k⟩⟩
theorem t_L_walk_16 {X : ev_E} {st : List Value} {lo : List Value} {h : ev_M} {n q : Nat} {P : ev_O → ev_M → Nat → Nat → Prop} : ev_ok (ev_TT X) 138 16 lo st h n q P ↔ ev_ok (ev_TT X) 138 17 lo ((.int (1)) :: st) h n q P := ev_goR er_L_walk (ev_m4 (ev_m4 (ev_m1 ev_mh))) rfl
theorem t_L_walk_17 {X : ev_E} {x : Int32} {lo : List Value} {h : ev_M} {n q : Nat} {P : ev_O → ev_M → Nat → Nat → Prop} : ev_ok (ev_TT X) 138 17 lo [.int x] h n q P ↔ P (.inl (some (.int x))) h n q := (ev_reG (congrFun (ev_rwm er_L_walk (ev_m4 (ev_m4 (ev_m1 (ev_m1 ev_mh))))) _)).trans ⟨fun k => k.2, fun k => ⟨rfl, k⟩⟩
theorem t_L_walk_20 {X : ev_E} {st : List Value} {lo : List Value} {h : ev_M} {n q : Nat} {P : ev_O → ev_M → Nat → Nat → Prop} : ev_ok (ev_TT X) 138 20 lo st h n q P ↔ ev_ok (ev_TT X) 138 21 lo ((.int (2)) :: st) h n q P := ev_goR er_L_walk (ev_m4 (ev_m4 (ev_m4 ev_mh))) rfl
theorem t_L_walk_21 {X : ev_E} {x : Int32} {lo : List Value} {h : ev_M} {n q : Nat} {P : ev_O → ev_M → Nat → Nat → Prop} : ev_ok (ev_TT X) 138 21 lo [.int x] h n q P ↔ P (.inl (some (.int x))) h n q := (ev_reG (congrFun (ev_rwm er_L_walk (ev_m4 (ev_m4 (ev_m4 (ev_m1 ev_mh))))) _)).trans ⟨fun k => k.2, fun k => ⟨rfl, k⟩⟩
theorem t_L_best_14 {X : ev_E} {st : List Value} {lo : List Value} {h : ev_M} {n q : Nat} {P : ev_O → ev_M → Nat → Nat → Prop} : ev_ok (ev_TT X) 179 14 lo st h n q P ↔ ev_ok (ev_TT X) 179 15 lo ((.int (1)) :: st) h n q P := ev_goR er_L_best (ev_m4 (ev_m4 ev_mh)) rfl
theorem t_L_best_15 {X : ev_E} {x : Int32} {lo : List Value} {h : ev_M} {n q : Nat} {P : ev_O → ev_M → Nat → Nat → Prop} : ev_ok (ev_TT X) 179 15 lo [.int x] h n q P ↔ P (.inl (some (.int x))) h n q := (ev_reG (congrFun (ev_rwm er_L_best (ev_m4 (ev_m4 (ev_m1 ev_mh)))) _)).trans ⟨fun k => k.2, fun k => ⟨rfl, k⟩⟩
theorem t_L_depth_14 {X : ev_E} {st : List Value} {lo : List Value} {h : ev_M} {n q : Nat} {P : ev_O → ev_M → Nat → Nat → Prop} : ev_ok (ev_TT X) 180 14 lo st h n q P ↔ ev_ok (ev_TT X) 180 15 lo ((.int (1)) :: st) h n q P := ev_goR er_L_depth (ev_m4 (ev_m4 ev_mh)) rfl
theorem t_L_depth_15 {X : ev_E} {x : Int32} {lo : List Value} {h : ev_M} {n q : Nat} {P : ev_O → ev_M → Nat → Nat → Prop} : ev_ok (ev_TT X) 180 15 lo [.int x] h n q P ↔ P (.inl (some (.int x))) h n q := (ev_reG (congrFun (ev_rwm er_L_depth (ev_m4 (ev_m4 (ev_m1 ev_mh)))) _)).trans ⟨fun k => k.2, fun k => ⟨rfl, k⟩⟩
theorem t_L_eldest_14 {X : ev_E} {st : List Value} {lo : List Value} {h : ev_M} {n q : Nat} {P : ev_O → ev_M → Nat → Nat → Prop} : ev_ok (ev_TT X) 181 14 lo st h n q P ↔ ev_ok (ev_TT X) 181 15 lo ((.int (1)) :: st) h n q P := ev_goR er_L_eldest (ev_m4 (ev_m4 ev_mh)) rfl
theorem t_L_eldest_15 {X : ev_E} {x : Int32} {lo : List Value} {h : ev_M} {n q : Nat} {P : ev_O → ev_M → Nat → Nat → Prop} : ev_ok (ev_TT X) 181 15 lo [.int x] h n q P ↔ P (.inl (some (.int x))) h n q := (ev_reG (congrFun (ev_rwm er_L_eldest (ev_m4 (ev_m4 (ev_m1 ev_mh)))) _)).trans ⟨fun k => k.2, fun k => ⟨rfl, k⟩⟩
theorem t_L_hasMore_21 {X : ev_E} {st : List Value} {lo : List Value} {h : ev_M} {n q : Nat} {P : ev_O → ev_M → Nat → Nat → Prop} : ev_ok (ev_TT X) 182 21 lo st h n q P ↔ ev_ok (ev_TT X) 182 22 lo ((.int (1)) :: st) h n q P := ev_goR er_L_hasMore (ev_m4 (ev_m4 (ev_m1 (ev_m1 (ev_m1 ev_mh))))) rfl
theorem t_L_hasMore_22 {X : ev_E} {x : Int32} {lo : List Value} {h : ev_M} {n q : Nat} {P : ev_O → ev_M → Nat → Nat → Prop} : ev_ok (ev_TT X) 182 22 lo [.int x] h n q P ↔ P (.inl (some (.int x))) h n q := (ev_reG (congrFun (ev_rwm er_L_hasMore (ev_m4 (ev_m4 (ev_m4 ev_mh)))) _)).trans ⟨fun k => k.2, fun k => ⟨rfl, k⟩⟩
theorem t_L_hits_14 {X : ev_E} {st : List Value} {lo : List Value} {h : ev_M} {n q : Nat} {P : ev_O → ev_M → Nat → Nat → Prop} : ev_ok (ev_TT X) 183 14 lo st h n q P ↔ ev_ok (ev_TT X) 183 15 lo ((.int (1)) :: st) h n q P := ev_goR er_L_hits (ev_m4 (ev_m4 ev_mh)) rfl
theorem t_L_hits_15 {X : ev_E} {x : Int32} {lo : List Value} {h : ev_M} {n q : Nat} {P : ev_O → ev_M → Nat → Nat → Prop} : ev_ok (ev_TT X) 183 15 lo [.int x] h n q P ↔ P (.inl (some (.int x))) h n q := (ev_reG (congrFun (ev_rwm er_L_hits (ev_m4 (ev_m4 (ev_m1 ev_mh)))) _)).trans ⟨fun k => k.2, fun k => ⟨rfl, k⟩⟩
theorem t_L_keeps_23 {X : ev_E} {st : List Value} {lo : List Value} {h : ev_M} {n q : Nat} {P : ev_O → ev_M → Nat → Nat → Prop} : ev_ok (ev_TT X) 184 23 lo st h n q P ↔ ev_ok (ev_TT X) 184 24 lo ((.int (1)) :: st) h n q P := ev_goR er_L_keeps (ev_m4 (ev_m4 (ev_m4 ev_mh))) rfl
theorem t_L_keeps_24 {X : ev_E} {x : Int32} {lo : List Value} {h : ev_M} {n q : Nat} {P : ev_O → ev_M → Nat → Nat → Prop} : ev_ok (ev_TT X) 184 24 lo [.int x] h n q P ↔ P (.inl (some (.int x))) h n q := (ev_reG (congrFun (ev_rwm er_L_keeps (ev_m4 (ev_m4 (ev_m4 (ev_m1 ev_mh))))) _)).trans ⟨fun k => k.2, fun k => ⟨rfl, k⟩⟩
theorem t_L_keyAt_16 {X : ev_E} {st : List Value} {lo : List Value} {h : ev_M} {n q : Nat} {P : ev_O → ev_M → Nat → Nat → Prop} : ev_ok (ev_TT X) 185 16 lo st h n q P ↔ ev_ok (ev_TT X) 185 17 lo ((.int (1)) :: st) h n q P := ev_goR er_L_keyAt (ev_m4 (ev_m4 (ev_m1 ev_mh))) rfl
theorem t_L_keyAt_17 {X : ev_E} {x : Int32} {lo : List Value} {h : ev_M} {n q : Nat} {P : ev_O → ev_M → Nat → Nat → Prop} : ev_ok (ev_TT X) 185 17 lo [.int x] h n q P ↔ P (.inl (some (.int x))) h n q := (ev_reG (congrFun (ev_rwm er_L_keyAt (ev_m4 (ev_m4 (ev_m1 (ev_m1 ev_mh))))) _)).trans ⟨fun k => k.2, fun k => ⟨rfl, k⟩⟩
theorem t_L_latest_14 {X : ev_E} {st : List Value} {lo : List Value} {h : ev_M} {n q : Nat} {P : ev_O → ev_M → Nat → Nat → Prop} : ev_ok (ev_TT X) 186 14 lo st h n q P ↔ ev_ok (ev_TT X) 186 15 lo ((.int (1)) :: st) h n q P := ev_goR er_L_latest (ev_m4 (ev_m4 ev_mh)) rfl
theorem t_L_latest_15 {X : ev_E} {x : Int32} {lo : List Value} {h : ev_M} {n q : Nat} {P : ev_O → ev_M → Nat → Nat → Prop} : ev_ok (ev_TT X) 186 15 lo [.int x] h n q P ↔ P (.inl (some (.int x))) h n q := (ev_reG (congrFun (ev_rwm er_L_latest (ev_m4 (ev_m4 (ev_m1 ev_mh)))) _)).trans ⟨fun k => k.2, fun k => ⟨rfl, k⟩⟩
theorem t_L_lost_14 {X : ev_E} {st : List Value} {lo : List Value} {h : ev_M} {n q : Nat} {P : ev_O → ev_M → Nat → Nat → Prop} : ev_ok (ev_TT X) 187 14 lo st h n q P ↔ ev_ok (ev_TT X) 187 15 lo ((.int (1)) :: st) h n q P := ev_goR er_L_lost (ev_m4 (ev_m4 ev_mh)) rfl
theorem t_L_lost_15 {X : ev_E} {x : Int32} {lo : List Value} {h : ev_M} {n q : Nat} {P : ev_O → ev_M → Nat → Nat → Prop} : ev_ok (ev_TT X) 187 15 lo [.int x] h n q P ↔ P (.inl (some (.int x))) h n q := (ev_reG (congrFun (ev_rwm er_L_lost (ev_m4 (ev_m4 (ev_m1 ev_mh)))) _)).trans ⟨fun k => k.2, fun k => ⟨rfl, k⟩⟩
theorem t_L_make_18 {X : ev_E} {st : List Value} {lo : List Value} {h : ev_M} {n q : Nat} {P : ev_O → ev_M → Nat → Nat → Prop} : ev_ok (ev_TT X) 188 18 lo st h n q P ↔ ev_ok (ev_TT X) 188 19 lo ((.int (1)) :: st) h n q P := ev_goR er_L_make (ev_m4 (ev_m4 (ev_m1 (ev_m1 ev_mh)))) rfl
theorem t_L_make_19 {X : ev_E} {x : Int32} {lo : List Value} {h : ev_M} {n q : Nat} {P : ev_O → ev_M → Nat → Nat → Prop} : ev_ok (ev_TT X) 188 19 lo [.int x] h n q P ↔ P (.inl (some (.int x))) h n q := (ev_reG (congrFun (ev_rwm er_L_make (ev_m4 (ev_m4 (ev_m1 (ev_m1 (ev_m1 ev_mh)))))) _)).trans ⟨fun k => k.2, fun k => ⟨rfl, k⟩⟩
theorem t_L_make_22 {X : ev_E} {st : List Value} {lo : List Value} {h : ev_M} {n q : Nat} {P : ev_O → ev_M → Nat → Nat → Prop} : ev_ok (ev_TT X) 188 22 lo st h n q P ↔ ev_ok (ev_TT X) 188 23 lo ((.int (2)) :: st) h n q P := ev_goR er_L_make (ev_m4 (ev_m4 (ev_m4 (ev_m1 ev_mh)))) rfl
theorem t_L_make_23 {X : ev_E} {x : Int32} {lo : List Value} {h : ev_M} {n q : Nat} {P : ev_O → ev_M → Nat → Nat → Prop} : ev_ok (ev_TT X) 188 23 lo [.int x] h n q P ↔ P (.inl (some (.int x))) h n q := (ev_reG (congrFun (ev_rwm er_L_make (ev_m4 (ev_m4 (ev_m4 (ev_m1 (ev_m1 ev_mh)))))) _)).trans ⟨fun k => k.2, fun k => ⟨rfl, k⟩⟩
theorem t_L_misses_14 {X : ev_E} {st : List Value} {lo : List Value} {h : ev_M} {n q : Nat} {P : ev_O → ev_M → Nat → Nat → Prop} : ev_ok (ev_TT X) 189 14 lo st h n q P ↔ ev_ok (ev_TT X) 189 15 lo ((.int (1)) :: st) h n q P := ev_goR er_L_misses (ev_m4 (ev_m4 ev_mh)) rfl
theorem t_L_misses_15 {X : ev_E} {x : Int32} {lo : List Value} {h : ev_M} {n q : Nat} {P : ev_O → ev_M → Nat → Nat → Prop} : ev_ok (ev_TT X) 189 15 lo [.int x] h n q P ↔ P (.inl (some (.int x))) h n q := (ev_reG (congrFun (ev_rwm er_L_misses (ev_m4 (ev_m4 (ev_m1 ev_mh)))) _)).trans ⟨fun k => k.2, fun k => ⟨rfl, k⟩⟩
theorem t_L_pairAt_16 {X : ev_E} {st : List Value} {lo : List Value} {h : ev_M} {n q : Nat} {P : ev_O → ev_M → Nat → Nat → Prop} : ev_ok (ev_TT X) 190 16 lo st h n q P ↔ ev_ok (ev_TT X) 190 17 lo ((.int (1)) :: st) h n q P := ev_goR er_L_pairAt (ev_m4 (ev_m4 (ev_m1 ev_mh))) rfl
theorem t_L_pairAt_17 {X : ev_E} {x : Int32} {lo : List Value} {h : ev_M} {n q : Nat} {P : ev_O → ev_M → Nat → Nat → Prop} : ev_ok (ev_TT X) 190 17 lo [.int x] h n q P ↔ P (.inl (some (.int x))) h n q := (ev_reG (congrFun (ev_rwm er_L_pairAt (ev_m4 (ev_m4 (ev_m1 (ev_m1 ev_mh))))) _)).trans ⟨fun k => k.2, fun k => ⟨rfl, k⟩⟩
theorem t_L_set_18 {X : ev_E} {st : List Value} {lo : List Value} {h : ev_M} {n q : Nat} {P : ev_O → ev_M → Nat → Nat → Prop} : ev_ok (ev_TT X) 191 18 lo st h n q P ↔ ev_ok (ev_TT X) 191 19 lo ((.int (1)) :: st) h n q P := ev_goR er_L_set (ev_m4 (ev_m4 (ev_m1 (ev_m1 ev_mh)))) rfl
theorem t_L_set_19 {X : ev_E} {x : Int32} {lo : List Value} {h : ev_M} {n q : Nat} {P : ev_O → ev_M → Nat → Nat → Prop} : ev_ok (ev_TT X) 191 19 lo [.int x] h n q P ↔ P (.inl (some (.int x))) h n q := (ev_reG (congrFun (ev_rwm er_L_set (ev_m4 (ev_m4 (ev_m1 (ev_m1 (ev_m1 ev_mh)))))) _)).trans ⟨fun k => k.2, fun k => ⟨rfl, k⟩⟩
theorem t_L_set_22 {X : ev_E} {st : List Value} {lo : List Value} {h : ev_M} {n q : Nat} {P : ev_O → ev_M → Nat → Nat → Prop} : ev_ok (ev_TT X) 191 22 lo st h n q P ↔ ev_ok (ev_TT X) 191 23 lo ((.int (2)) :: st) h n q P := ev_goR er_L_set (ev_m4 (ev_m4 (ev_m4 (ev_m1 ev_mh)))) rfl
theorem t_L_set_23 {X : ev_E} {x : Int32} {lo : List Value} {h : ev_M} {n q : Nat} {P : ev_O → ev_M → Nat → Nat → Prop} : ev_ok (ev_TT X) 191 23 lo [.int x] h n q P ↔ P (.inl (some (.int x))) h n q := (ev_reG (congrFun (ev_rwm er_L_set (ev_m4 (ev_m4 (ev_m4 (ev_m1 (ev_m1 ev_mh)))))) _)).trans ⟨fun k => k.2, fun k => ⟨rfl, k⟩⟩
theorem t_L_takenAt_16 {X : ev_E} {st : List Value} {lo : List Value} {h : ev_M} {n q : Nat} {P : ev_O → ev_M → Nat → Nat → Prop} : ev_ok (ev_TT X) 192 16 lo st h n q P ↔ ev_ok (ev_TT X) 192 17 lo ((.int (1)) :: st) h n q P := ev_goR er_L_takenAt (ev_m4 (ev_m4 (ev_m1 ev_mh))) rfl
theorem t_L_takenAt_17 {X : ev_E} {x : Int32} {lo : List Value} {h : ev_M} {n q : Nat} {P : ev_O → ev_M → Nat → Nat → Prop} : ev_ok (ev_TT X) 192 17 lo [.int x] h n q P ↔ P (.inl (some (.int x))) h n q := (ev_reG (congrFun (ev_rwm er_L_takenAt (ev_m4 (ev_m4 (ev_m1 (ev_m1 ev_mh))))) _)).trans ⟨fun k => k.2, fun k => ⟨rfl, k⟩⟩
theorem t_L_valueAt_16 {X : ev_E} {st : List Value} {lo : List Value} {h : ev_M} {n q : Nat} {P : ev_O → ev_M → Nat → Nat → Prop} : ev_ok (ev_TT X) 193 16 lo st h n q P ↔ ev_ok (ev_TT X) 193 17 lo ((.int (1)) :: st) h n q P := ev_goR er_L_valueAt (ev_m4 (ev_m4 (ev_m1 ev_mh))) rfl
theorem t_L_valueAt_17 {X : ev_E} {x : Int32} {lo : List Value} {h : ev_M} {n q : Nat} {P : ev_O → ev_M → Nat → Nat → Prop} : ev_ok (ev_TT X) 193 17 lo [.int x] h n q P ↔ P (.inl (some (.int x))) h n q := (ev_reG (congrFun (ev_rwm er_L_valueAt (ev_m4 (ev_m4 (ev_m1 (ev_m1 ev_mh))))) _)).trans ⟨fun k => k.2, fun k => ⟨rfl, k⟩⟩
theorem t_L_copy_16 {X : ev_E} {st : List Value} {lo : List Value} {h : ev_M} {n q : Nat} {P : ev_O → ev_M → Nat → Nat → Prop} : ev_ok (ev_TT X) 220 16 lo st h n q P ↔ ev_ok (ev_TT X) 220 17 lo ((.int (1)) :: st) h n q P := ev_goR er_L_copy (ev_m4 (ev_m4 (ev_m1 ev_mh))) rfl
theorem t_L_copy_17 {X : ev_E} {x : Int32} {lo : List Value} {h : ev_M} {n q : Nat} {P : ev_O → ev_M → Nat → Nat → Prop} : ev_ok (ev_TT X) 220 17 lo [.int x] h n q P ↔ P (.inl (some (.int x))) h n q := (ev_reG (congrFun (ev_rwm er_L_copy (ev_m4 (ev_m4 (ev_m1 (ev_m1 ev_mh))))) _)).trans ⟨fun k => k.2, fun k => ⟨rfl, k⟩⟩
theorem t_L_cut_14 {X : ev_E} {st : List Value} {lo : List Value} {h : ev_M} {n q : Nat} {P : ev_O → ev_M → Nat → Nat → Prop} : ev_ok (ev_TT X) 221 14 lo st h n q P ↔ ev_ok (ev_TT X) 221 15 lo ((.int (1)) :: st) h n q P := ev_goR er_L_cut (ev_m4 (ev_m4 ev_mh)) rfl
theorem t_L_cut_15 {X : ev_E} {x : Int32} {lo : List Value} {h : ev_M} {n q : Nat} {P : ev_O → ev_M → Nat → Nat → Prop} : ev_ok (ev_TT X) 221 15 lo [.int x] h n q P ↔ P (.inl (some (.int x))) h n q := (ev_reG (congrFun (ev_rwm er_L_cut (ev_m4 (ev_m4 (ev_m1 ev_mh)))) _)).trans ⟨fun k => k.2, fun k => ⟨rfl, k⟩⟩
theorem t_L_remove_16 {X : ev_E} {st : List Value} {lo : List Value} {h : ev_M} {n q : Nat} {P : ev_O → ev_M → Nat → Nat → Prop} : ev_ok (ev_TT X) 222 16 lo st h n q P ↔ ev_ok (ev_TT X) 222 17 lo ((.int (1)) :: st) h n q P := ev_goR er_L_remove (ev_m4 (ev_m4 (ev_m1 ev_mh))) rfl
theorem t_L_remove_17 {X : ev_E} {x : Int32} {lo : List Value} {h : ev_M} {n q : Nat} {P : ev_O → ev_M → Nat → Nat → Prop} : ev_ok (ev_TT X) 222 17 lo [.int x] h n q P ↔ P (.inl (some (.int x))) h n q := (ev_reG (congrFun (ev_rwm er_L_remove (ev_m4 (ev_m4 (ev_m1 (ev_m1 ev_mh))))) _)).trans ⟨fun k => k.2, fun k => ⟨rfl, k⟩⟩
theorem t_L_remove_20 {X : ev_E} {st : List Value} {lo : List Value} {h : ev_M} {n q : Nat} {P : ev_O → ev_M → Nat → Nat → Prop} : ev_ok (ev_TT X) 222 20 lo st h n q P ↔ ev_ok (ev_TT X) 222 21 lo ((.int (2)) :: st) h n q P := ev_goR er_L_remove (ev_m4 (ev_m4 (ev_m4 ev_mh))) rfl
theorem t_L_remove_21 {X : ev_E} {x : Int32} {lo : List Value} {h : ev_M} {n q : Nat} {P : ev_O → ev_M → Nat → Nat → Prop} : ev_ok (ev_TT X) 222 21 lo [.int x] h n q P ↔ P (.inl (some (.int x))) h n q := (ev_reG (congrFun (ev_rwm er_L_remove (ev_m4 (ev_m4 (ev_m4 (ev_m1 ev_mh))))) _)).trans ⟨fun k => k.2, fun k => ⟨rfl, k⟩⟩
theorem t_L_step_14 {X : ev_E} {st : List Value} {lo : List Value} {h : ev_M} {n q : Nat} {P : ev_O → ev_M → Nat → Nat → Prop} : ev_ok (ev_TT X) 223 14 lo st h n q P ↔ ev_ok (ev_TT X) 223 15 lo ((.int (1)) :: st) h n q P := ev_goR er_L_step (ev_m4 (ev_m4 ev_mh)) rfl
theorem t_L_step_15 {X : ev_E} {x : Int32} {lo : List Value} {h : ev_M} {n q : Nat} {P : ev_O → ev_M → Nat → Nat → Prop} : ev_ok (ev_TT X) 223 15 lo [.int x] h n q P ↔ P (.inl (some (.int x))) h n q := (ev_reG (congrFun (ev_rwm er_L_step (ev_m4 (ev_m4 (ev_m1 ev_mh)))) _)).trans ⟨fun k => k.2, fun k => ⟨rfl, k⟩⟩
theorem t_L_get_16 {X : ev_E} {st : List Value} {lo : List Value} {h : ev_M} {n q : Nat} {P : ev_O → ev_M → Nat → Nat → Prop} : ev_ok (ev_TT X) 249 16 lo st h n q P ↔ ev_ok (ev_TT X) 249 17 lo ((.int (1)) :: st) h n q P := ev_goR er_L_get (ev_m4 (ev_m4 (ev_m1 ev_mh))) rfl
theorem t_L_get_17 {X : ev_E} {x : Int32} {lo : List Value} {h : ev_M} {n q : Nat} {P : ev_O → ev_M → Nat → Nat → Prop} : ev_ok (ev_TT X) 249 17 lo [.int x] h n q P ↔ P (.inl (some (.int x))) h n q := (ev_reG (congrFun (ev_rwm er_L_get (ev_m4 (ev_m4 (ev_m1 (ev_m1 ev_mh))))) _)).trans ⟨fun k => k.2, fun k => ⟨rfl, k⟩⟩
theorem t_L_get_20 {X : ev_E} {st : List Value} {lo : List Value} {h : ev_M} {n q : Nat} {P : ev_O → ev_M → Nat → Nat → Prop} : ev_ok (ev_TT X) 249 20 lo st h n q P ↔ ev_ok (ev_TT X) 249 21 lo ((.int (2)) :: st) h n q P := ev_goR er_L_get (ev_m4 (ev_m4 (ev_m4 ev_mh))) rfl
theorem t_L_get_21 {X : ev_E} {x : Int32} {lo : List Value} {h : ev_M} {n q : Nat} {P : ev_O → ev_M → Nat → Nat → Prop} : ev_ok (ev_TT X) 249 21 lo [.int x] h n q P ↔ P (.inl (some (.int x))) h n q := (ev_reG (congrFun (ev_rwm er_L_get (ev_m4 (ev_m4 (ev_m4 (ev_m1 ev_mh))))) _)).trans ⟨fun k => k.2, fun k => ⟨rfl, k⟩⟩
theorem t_L_getOr_18 {X : ev_E} {st : List Value} {lo : List Value} {h : ev_M} {n q : Nat} {P : ev_O → ev_M → Nat → Nat → Prop} : ev_ok (ev_TT X) 250 18 lo st h n q P ↔ ev_ok (ev_TT X) 250 19 lo ((.int (1)) :: st) h n q P := ev_goR er_L_getOr (ev_m4 (ev_m4 (ev_m1 (ev_m1 ev_mh)))) rfl
theorem t_L_getOr_19 {X : ev_E} {x : Int32} {lo : List Value} {h : ev_M} {n q : Nat} {P : ev_O → ev_M → Nat → Nat → Prop} : ev_ok (ev_TT X) 250 19 lo [.int x] h n q P ↔ P (.inl (some (.int x))) h n q := (ev_reG (congrFun (ev_rwm er_L_getOr (ev_m4 (ev_m4 (ev_m1 (ev_m1 (ev_m1 ev_mh)))))) _)).trans ⟨fun k => k.2, fun k => ⟨rfl, k⟩⟩
theorem t_L_getOr_22 {X : ev_E} {st : List Value} {lo : List Value} {h : ev_M} {n q : Nat} {P : ev_O → ev_M → Nat → Nat → Prop} : ev_ok (ev_TT X) 250 22 lo st h n q P ↔ ev_ok (ev_TT X) 250 23 lo ((.int (2)) :: st) h n q P := ev_goR er_L_getOr (ev_m4 (ev_m4 (ev_m4 (ev_m1 ev_mh)))) rfl
theorem t_L_getOr_23 {X : ev_E} {x : Int32} {lo : List Value} {h : ev_M} {n q : Nat} {P : ev_O → ev_M → Nat → Nat → Prop} : ev_ok (ev_TT X) 250 23 lo [.int x] h n q P ↔ P (.inl (some (.int x))) h n q := (ev_reG (congrFun (ev_rwm er_L_getOr (ev_m4 (ev_m4 (ev_m4 (ev_m1 (ev_m1 ev_mh)))))) _)).trans ⟨fun k => k.2, fun k => ⟨rfl, k⟩⟩
theorem t_L_put_18 {X : ev_E} {st : List Value} {lo : List Value} {h : ev_M} {n q : Nat} {P : ev_O → ev_M → Nat → Nat → Prop} : ev_ok (ev_TT X) 251 18 lo st h n q P ↔ ev_ok (ev_TT X) 251 19 lo ((.int (1)) :: st) h n q P := ev_goR er_L_put (ev_m4 (ev_m4 (ev_m1 (ev_m1 ev_mh)))) rfl
theorem t_L_put_19 {X : ev_E} {x : Int32} {lo : List Value} {h : ev_M} {n q : Nat} {P : ev_O → ev_M → Nat → Nat → Prop} : ev_ok (ev_TT X) 251 19 lo [.int x] h n q P ↔ P (.inl (some (.int x))) h n q := (ev_reG (congrFun (ev_rwm er_L_put (ev_m4 (ev_m4 (ev_m1 (ev_m1 (ev_m1 ev_mh)))))) _)).trans ⟨fun k => k.2, fun k => ⟨rfl, k⟩⟩
theorem t_L_put_22 {X : ev_E} {st : List Value} {lo : List Value} {h : ev_M} {n q : Nat} {P : ev_O → ev_M → Nat → Nat → Prop} : ev_ok (ev_TT X) 251 22 lo st h n q P ↔ ev_ok (ev_TT X) 251 23 lo ((.int (2)) :: st) h n q P := ev_goR er_L_put (ev_m4 (ev_m4 (ev_m4 (ev_m1 ev_mh)))) rfl
theorem t_L_put_23 {X : ev_E} {x : Int32} {lo : List Value} {h : ev_M} {n q : Nat} {P : ev_O → ev_M → Nat → Nat → Prop} : ev_ok (ev_TT X) 251 23 lo [.int x] h n q P ↔ P (.inl (some (.int x))) h n q := (ev_reG (congrFun (ev_rwm er_L_put (ev_m4 (ev_m4 (ev_m4 (ev_m1 (ev_m1 ev_mh)))))) _)).trans ⟨fun k => k.2, fun k => ⟨rfl, k⟩⟩
theorem t_L_rest_14 {X : ev_E} {st : List Value} {lo : List Value} {h : ev_M} {n q : Nat} {P : ev_O → ev_M → Nat → Nat → Prop} : ev_ok (ev_TT X) 252 14 lo st h n q P ↔ ev_ok (ev_TT X) 252 15 lo ((.int (1)) :: st) h n q P := ev_goR er_L_rest (ev_m4 (ev_m4 ev_mh)) rfl
theorem t_L_rest_15 {X : ev_E} {x : Int32} {lo : List Value} {h : ev_M} {n q : Nat} {P : ev_O → ev_M → Nat → Nat → Prop} : ev_ok (ev_TT X) 252 15 lo [.int x] h n q P ↔ P (.inl (some (.int x))) h n q := (ev_reG (congrFun (ev_rwm er_L_rest (ev_m4 (ev_m4 (ev_m1 ev_mh)))) _)).trans ⟨fun k => k.2, fun k => ⟨rfl, k⟩⟩
theorem t_L_putIfAbsent_18 {X : ev_E} {st : List Value} {lo : List Value} {h : ev_M} {n q : Nat} {P : ev_O → ev_M → Nat → Nat → Prop} : ev_ok (ev_TT X) 262 18 lo st h n q P ↔ ev_ok (ev_TT X) 262 19 lo ((.int (1)) :: st) h n q P := ev_goR er_L_putIfAbsent (ev_m4 (ev_m4 (ev_m1 (ev_m1 ev_mh)))) rfl
theorem t_L_putIfAbsent_19 {X : ev_E} {x : Int32} {lo : List Value} {h : ev_M} {n q : Nat} {P : ev_O → ev_M → Nat → Nat → Prop} : ev_ok (ev_TT X) 262 19 lo [.int x] h n q P ↔ P (.inl (some (.int x))) h n q := (ev_reG (congrFun (ev_rwm er_L_putIfAbsent (ev_m4 (ev_m4 (ev_m1 (ev_m1 (ev_m1 ev_mh)))))) _)).trans ⟨fun k => k.2, fun k => ⟨rfl, k⟩⟩
theorem t_L_putIfAbsent_22 {X : ev_E} {st : List Value} {lo : List Value} {h : ev_M} {n q : Nat} {P : ev_O → ev_M → Nat → Nat → Prop} : ev_ok (ev_TT X) 262 22 lo st h n q P ↔ ev_ok (ev_TT X) 262 23 lo ((.int (2)) :: st) h n q P := ev_goR er_L_putIfAbsent (ev_m4 (ev_m4 (ev_m4 (ev_m1 ev_mh)))) rfl
theorem t_L_putIfAbsent_23 {X : ev_E} {x : Int32} {lo : List Value} {h : ev_M} {n q : Nat} {P : ev_O → ev_M → Nat → Nat → Prop} : ev_ok (ev_TT X) 262 23 lo [.int x] h n q P ↔ P (.inl (some (.int x))) h n q := (ev_reG (congrFun (ev_rwm er_L_putIfAbsent (ev_m4 (ev_m4 (ev_m4 (ev_m1 (ev_m1 ev_mh)))))) _)).trans ⟨fun k => k.2, fun k => ⟨rfl, k⟩⟩
theorem t_L_putIfAbsent_26 {X : ev_E} {st : List Value} {lo : List Value} {h : ev_M} {n q : Nat} {P : ev_O → ev_M → Nat → Nat → Prop} : ev_ok (ev_TT X) 262 26 lo st h n q P ↔ ev_ok (ev_TT X) 262 27 lo ((.int (3)) :: st) h n q P := ev_goR er_L_putIfAbsent (ev_m16 ev_mh) rfl
theorem t_L_putIfAbsent_27 {X : ev_E} {x : Int32} {lo : List Value} {h : ev_M} {n q : Nat} {P : ev_O → ev_M → Nat → Nat → Prop} : ev_ok (ev_TT X) 262 27 lo [.int x] h n q P ↔ P (.inl (some (.int x))) h n q := (ev_reG (congrFun (ev_rwm er_L_putIfAbsent (ev_m16 (ev_m1 ev_mh))) _)).trans ⟨fun k => k.2, fun k => ⟨rfl, k⟩⟩
theorem t_L_ask_14 {X : ev_E} {st : List Value} {lo : List Value} {h : ev_M} {n q : Nat} {P : ev_O → ev_M → Nat → Nat → Prop} : ev_ok (ev_TT X) 275 14 lo st h n q P ↔ ev_ok (ev_TT X) 275 15 lo ((.int (1)) :: st) h n q P := ev_goR er_L_ask (ev_m4 (ev_m4 ev_mh)) rfl
theorem t_L_ask_15 {X : ev_E} {x : Int32} {lo : List Value} {h : ev_M} {n q : Nat} {P : ev_O → ev_M → Nat → Nat → Prop} : ev_ok (ev_TT X) 275 15 lo [.int x] h n q P ↔ P (.inl (some (.int x))) h n q := (ev_reG (congrFun (ev_rwm er_L_ask (ev_m4 (ev_m4 (ev_m1 ev_mh)))) _)).trans ⟨fun k => k.2, fun k => ⟨rfl, k⟩⟩
theorem t_L_ask_17 {X : ev_E} {st : List Value} {lo : List Value} {h : ev_M} {n q : Nat} {P : ev_O → ev_M → Nat → Nat → Prop} : ev_ok (ev_TT X) 275 17 lo st h n q P ↔ ev_ok (ev_TT X) 275 18 lo ((.int (2)) :: st) h n q P := ev_goR er_L_ask (ev_m4 (ev_m4 (ev_m1 (ev_m1 (ev_m1 ev_mh))))) rfl
theorem t_L_ask_18 {X : ev_E} {x : Int32} {lo : List Value} {h : ev_M} {n q : Nat} {P : ev_O → ev_M → Nat → Nat → Prop} : ev_ok (ev_TT X) 275 18 lo [.int x] h n q P ↔ P (.inl (some (.int x))) h n q := (ev_reG (congrFun (ev_rwm er_L_ask (ev_m4 (ev_m4 (ev_m4 ev_mh)))) _)).trans ⟨fun k => k.2, fun k => ⟨rfl, k⟩⟩
theorem t_L_askRow_18 {X : ev_E} {st : List Value} {lo : List Value} {h : ev_M} {n q : Nat} {P : ev_O → ev_M → Nat → Nat → Prop} : ev_ok (ev_TT X) 276 18 lo st h n q P ↔ ev_ok (ev_TT X) 276 19 lo ((.int (1)) :: st) h n q P := ev_goR er_L_askRow (ev_m4 (ev_m4 (ev_m1 (ev_m1 ev_mh)))) rfl
theorem t_L_askRow_19 {X : ev_E} {x : Int32} {lo : List Value} {h : ev_M} {n q : Nat} {P : ev_O → ev_M → Nat → Nat → Prop} : ev_ok (ev_TT X) 276 19 lo [.int x] h n q P ↔ P (.inl (some (.int x))) h n q := (ev_reG (congrFun (ev_rwm er_L_askRow (ev_m4 (ev_m4 (ev_m1 (ev_m1 (ev_m1 ev_mh)))))) _)).trans ⟨fun k => k.2, fun k => ⟨rfl, k⟩⟩
theorem t_L_askRow_22 {X : ev_E} {st : List Value} {lo : List Value} {h : ev_M} {n q : Nat} {P : ev_O → ev_M → Nat → Nat → Prop} : ev_ok (ev_TT X) 276 22 lo st h n q P ↔ ev_ok (ev_TT X) 276 23 lo ((.int (2)) :: st) h n q P := ev_goR er_L_askRow (ev_m4 (ev_m4 (ev_m4 (ev_m1 ev_mh)))) rfl
theorem t_L_askRow_23 {X : ev_E} {x : Int32} {lo : List Value} {h : ev_M} {n q : Nat} {P : ev_O → ev_M → Nat → Nat → Prop} : ev_ok (ev_TT X) 276 23 lo [.int x] h n q P ↔ P (.inl (some (.int x))) h n q := (ev_reG (congrFun (ev_rwm er_L_askRow (ev_m4 (ev_m4 (ev_m4 (ev_m1 (ev_m1 ev_mh)))))) _)).trans ⟨fun k => k.2, fun k => ⟨rfl, k⟩⟩
theorem t_L_kept_13 {X : ev_E} {st : List Value} {lo : List Value} {h : ev_M} {n q : Nat} {P : ev_O → ev_M → Nat → Nat → Prop} : ev_ok (ev_TT X) 304 13 lo st h n q P ↔ ev_ok (ev_TT X) 304 14 lo ((.int (1)) :: st) h n q P := ev_goR er_L_kept (ev_m4 (ev_m1 (ev_m1 (ev_m1 ev_mh)))) rfl
theorem t_L_kept_14 {X : ev_E} {x : Int32} {lo : List Value} {h : ev_M} {n q : Nat} {P : ev_O → ev_M → Nat → Nat → Prop} : ev_ok (ev_TT X) 304 14 lo [.int x] h n q P ↔ P (.inl (some (.int x))) h n q := (ev_reG (congrFun (ev_rwm er_L_kept (ev_m4 (ev_m4 ev_mh))) _)).trans ⟨fun k => k.2, fun k => ⟨rfl, k⟩⟩
theorem t_L_text_15 {X : ev_E} {st : List Value} {lo : List Value} {h : ev_M} {n q : Nat} {P : ev_O → ev_M → Nat → Nat → Prop} : ev_ok (ev_TT X) 305 15 lo st h n q P ↔ ev_ok (ev_TT X) 305 16 lo ((.int (1)) :: st) h n q P := ev_goR er_L_text (ev_m4 (ev_m4 ev_mh)) rfl
theorem t_L_text_16 {X : ev_E} {x : Int32} {lo : List Value} {h : ev_M} {n q : Nat} {P : ev_O → ev_M → Nat → Nat → Prop} : ev_ok (ev_TT X) 305 16 lo [.int x] h n q P ↔ P (.inl (some (.int x))) h n q := (ev_reG (congrFun (ev_rwm er_L_text (ev_m4 (ev_m4 (ev_m1 ev_mh)))) _)).trans ⟨fun k => k.2, fun k => ⟨rfl, k⟩⟩
theorem t_L_text_19 {X : ev_E} {st : List Value} {lo : List Value} {h : ev_M} {n q : Nat} {P : ev_O → ev_M → Nat → Nat → Prop} : ev_ok (ev_TT X) 305 19 lo st h n q P ↔ ev_ok (ev_TT X) 305 20 lo ((.int (2)) :: st) h n q P := ev_goR er_L_text (ev_m4 (ev_m4 (ev_m1 (ev_m1 (ev_m1 ev_mh))))) rfl
theorem t_L_text_20 {X : ev_E} {x : Int32} {lo : List Value} {h : ev_M} {n q : Nat} {P : ev_O → ev_M → Nat → Nat → Prop} : ev_ok (ev_TT X) 305 20 lo [.int x] h n q P ↔ P (.inl (some (.int x))) h n q := (ev_reG (congrFun (ev_rwm er_L_text (ev_m4 (ev_m4 (ev_m4 ev_mh)))) _)).trans ⟨fun k => k.2, fun k => ⟨rfl, k⟩⟩
section H75
variable {X : ev_E} {x : Nat} {G : ev_CS} {H : ev_M} {n q : Nat} {P : ev_O → ev_M → Nat → Nat → Prop}
theorem C_set2 (hc : c_all x G H) (hG : okG G) {t p v : Int32} (k0 : t < 0 ∨ nI 4 ≤ t → P (.inr 0) H (n + 1) (q + 6))
    (k_v : ∀ i, i < 4 → t = nI i → (v < 0 ∨ nI 100 ≤ v) → P (.inr 1) H (n + 1) (q + 6))
    (kR : ∀ i a, i < 4 → t = nI i → a < 100 → v = nI a → ¬ (0 ≤ p ∧ p < nI (G.1 i).1.length) → ∀ H1, c_all x (pg_rf G) H1 → c_fr x H H1 → P (.inl (some (.int (-9)))) H1 n q)
    (k2 : ∀ i j a_v, i < 4 → t = nI i → j < (G.1 i).1.length → p = nI j → a_v < 100 → v = nI a_v → ∀ H1, c_all x (pg_T G i (ps_gen ((G.1 i).1.set j ((pf_at (G.1 i).1 j).1, v)) (G.1 i).2.1.1 (G.1 i).2.1.2.1 (G.1 i).2.1.2.2.1 (G.1 i).2.1.2.2.2 (G.1 i).2.2.1.1 (G.1 i).2.2.1.2.1 (G.1 i).2.2.1.2.2 (G.1 i).2.2.2.1 (G.1 i).2.2.2.2)) H1 → c_fr x H H1 → P (.inl (some (.int (pf_at (G.1 i).1 j).2))) H1 n q) : ev_ok (ev_TT X) 160 0 [.ref x, .int t, .int p, .int v, ev_J] [] H n q P := by
  have hk := c_all_k (X := X) hc
  rcases pk_ix t (n := 4) (by omega) with h | h | ⟨i, hi, rfl⟩
  · simp (disch := omega) only [t_X5_set_0, t_X5_set_1, t_X5_set_2, x_X5_set_2, true_and, hk, C_tableOf_n (Or.inl h)]
    exact k0 (Or.inl h)
  · simp (disch := omega) only [t_X5_set_0, t_X5_set_1, t_X5_set_2, x_X5_set_2, true_and, hk, C_tableOf_n (Or.inr h)]
    exact k0 (Or.inr h)
  · rcases pk_ix v (n := 100) (by omega) with h | h | ⟨a_v, ha_v, rfl⟩
    · simp (disch := omega) only [t_X5_set_0, t_X5_set_1, t_X5_set_2, t_X5_set_5, t_X5_set_7, t_X5_set_8, x_X5_set_8, ev_k_i, ev_kr_1, true_and, hk, C_tableOf_y hc hi, C_dVal_n (Or.inl h)]
      exact k_v i hi rfl (Or.inl h)
    · simp (disch := omega) only [t_X5_set_0, t_X5_set_1, t_X5_set_2, t_X5_set_5, t_X5_set_7, t_X5_set_8, x_X5_set_8, ev_k_i, ev_kr_1, true_and, hk, C_tableOf_y hc hi, C_dVal_n (Or.inr h)]
      exact k_v i hi rfl (Or.inr h)
    · skip
      obtain ⟨h1, h2, h3⟩ := hc.2.2.2.2.2.2.1 i hi
      have hT := hG.1 i hi
      unfold ev_tbc at h1
      have h3k : ev_isK (ev_lk X H (x + 14 + 5 * i + 3)) 9 = True := by rw [ev_lk_s h3]; exact ev_isK_y
      have h2k := ev_rL_k (X := X) h2
      have h2b := ev_rL_b (X := X) h2
      have hl := okL_len hT.1
      have hkn : (G.1 i).2.2.2.2 < 2 ^ 31 := by have := hT.2.2.1; omega
      simp (disch := omega) only [t_X5_set_0, t_X5_set_1, t_X5_set_2, t_X5_set_5, t_X5_set_7, t_X5_set_8, t_X5_set_11, t_X5_set_13, t_X5_set_16, t_X5_set_17, ev_k_i, ev_kr_1, ev_kr_0, true_and, ev_fG_0, ev_isO_0, hk, C_tableOf_y hc hi, C_dVal_y ha_v, ev_lk_s h1, h2k]
      refine R_isPlace h2 hl ?_
      unfold ev_b
      by_cases e : 0 ≤ p ∧ p < nI (G.1 i).1.length
      · rw [if_pos e]
        obtain ⟨j, hj, rfl⟩ := (ev_pl (by omega)).mp e
        simp (disch := omega) only [t_X5_set_20, t_X5_set_28, t_X5_set_30, t_X5_set_33, t_X5_set_34, t_X5_set_35, ↓reduceIte, ev_kr_1, true_and, not_false_eq_true, ev_fG_0, ev_isO_0, ev_z2, ev_lk_s h1, h2k]
        refine R_chg h2 hl hj fun H1 hH1 => ?_
        simp (disch := omega) only [t_X5_set_38, ev_kr_1]
        have hE := c_tab_gen (bg := (G.1 i).2.2.1.1) (old := (G.1 i).2.2.1.2.1) (cd := (G.1 i).2.2.1.2.2) (kd := (G.1 i).2.2.2.1) (k := (G.1 i).2.2.2.2) hc hi (by rw [ev_up_t (by exact h3)]; exact hH1)
        exact k2 i j a_v hi rfl hj rfl ha_v rfl H1 hE.1 hE.2
      · rw [if_neg e]
        simp (disch := omega) only [t_X5_set_20, t_X5_set_23, t_X5_set_24, ↓reduceIte, ev_kr_1, true_and, not_true_eq_false, hk]
        refine C_refuse hc fun H1 hE1 hE2 => ?_
        simp (disch := omega) only [t_X5_set_27, ev_kr_1]
        exact kR i a_v hi rfl ha_v rfl e H1 hE1 hE2
end H75
section H75b
variable {X : ev_E} {zf : Nat → Nat} {y : Nat} {r : Int32 × Int32 × Int32} {T : Nat → ev_TS} {As : List Nat} {H : ev_M} {ow : Nat → Nat} {n q : Nat} {P : ev_O → ev_M → Nat → Nat → Prop}
theorem MM_set2 (hm : m_aw X zf y r T As H n ow) (hx : m_cx X zf y T As H n) {t p v : Int32} (k0 : t < 0 ∨ nI 4 ≤ t → ∀ H1, m_post X zf y H n q (1, r.2) T As H1 n q → P (.inl (some (.int 0))) H1 n q)
    (k1 : ∀ i, i < 4 → t = nI i → ((v < 0 ∨ nI 100 ≤ v)) → ∀ H1, m_post X zf y H n q (2, r.2) T As H1 n q → P (.inl (some (.int 0))) H1 n q)
    (kR : ∀ i a, i < 4 → t = nI i → a < 100 → v = nI a → ¬ (0 ≤ p ∧ p < nI (T i).1.length) → ∀ H1, m_post X zf y H n q (0, r.2.1 + 1, r.2.2) T As H1 n q → P (.inl (some (.int (-9)))) H1 n q)
    (k2 : ∀ i j a, i < 4 → t = nI i → j < (T i).1.length → p = nI j → a < 100 → v = nI a → ∀ H1 n1 q1, m_post X zf y H n q (0, r.2) (mg_T T i (ps_gen ((T i).1.set j ((pf_at (T i).1 j).1, v)) (T i).2.1.1 (T i).2.1.2.1 (T i).2.1.2.2.1 (T i).2.1.2.2.2 (T i).2.2.1.1 (T i).2.2.1.2.1 (T i).2.2.1.2.2 (T i).2.2.2.1 (T i).2.2.2.2)) As H1 n1 q1 → P (.inl (some (.int (pf_at (T i).1 j).2))) H1 n1 q1) : ev_ok (ev_TT X) 213 0 [.ref y, .int t, .int p, .int v, ev_J] [] H n q P := by
  have hx0 := hx
  obtain ⟨hZ, hw, hB, hn, hz, hT, hW⟩ := hx0
  have h0 := m_h0 hm
  have hl0 := m_lk0 hm
  have hk13 := m_k13 hm
  rcases pk_ix t (n := 4) (by omega) with hbt | hbt | ⟨i, hi, rfl⟩
  · skip
    rcases pk_ix v (n := 100) (by omega) with hb_v | hb_v | ⟨a_v, ha_v, rfl⟩
    · skip
      simp (disch := omega) only [t_X8_set_0, t_X8_set_1, t_X8_set_2, t_X8_set_5, t_X8_set_6, t_X8_set_8, t_X8_set_11, t_X8_set_12, t_X8_set_15, t_X8_set_18, t_X8_set_19, ↓reduceIte, ev_kr_1, ev_isK_y, true_and, show ¬ (1 : Int32) = 0 from by decide, M_isNo_y (Or.inl hbt), M_isOut_y (v := v) (w := 100) (Or.inl hb_v), M_fails_110 h0, hl0]
      exact k0 (Or.inl hbt) _ (m_post_top hm hZ hw hB hn hz (1, r.2))
    · skip
      simp (disch := omega) only [t_X8_set_0, t_X8_set_1, t_X8_set_2, t_X8_set_5, t_X8_set_6, t_X8_set_8, t_X8_set_11, t_X8_set_12, t_X8_set_15, t_X8_set_18, t_X8_set_19, ↓reduceIte, ev_kr_1, ev_isK_y, true_and, show ¬ (1 : Int32) = 0 from by decide, M_isNo_y (Or.inl hbt), M_isOut_y (v := v) (w := 100) (Or.inr hb_v), M_fails_110 h0, hl0]
      exact k0 (Or.inl hbt) _ (m_post_top hm hZ hw hB hn hz (1, r.2))
    · skip
      simp (disch := omega) only [t_X8_set_0, t_X8_set_1, t_X8_set_2, t_X8_set_5, t_X8_set_6, t_X8_set_8, t_X8_set_11, t_X8_set_12, t_X8_set_15, t_X8_set_18, t_X8_set_19, ↓reduceIte, ev_kr_1, ev_isK_y, true_and, show ¬ (1 : Int32) = 0 from by decide, M_isNo_y (Or.inl hbt), M_isOut_n (v := nI a_v) (w := 100) (nI_pos (by omega)) (nI_ge (b := 100) ha_v (by omega)), M_fails_100 h0, hl0]
      exact k0 (Or.inl hbt) _ (m_post_top hm hZ hw hB hn hz (1, r.2))
  · skip
    rcases pk_ix v (n := 100) (by omega) with hb_v | hb_v | ⟨a_v, ha_v, rfl⟩
    · skip
      simp (disch := omega) only [t_X8_set_0, t_X8_set_1, t_X8_set_2, t_X8_set_5, t_X8_set_6, t_X8_set_8, t_X8_set_11, t_X8_set_12, t_X8_set_15, t_X8_set_18, t_X8_set_19, ↓reduceIte, ev_kr_1, ev_isK_y, true_and, show ¬ (1 : Int32) = 0 from by decide, M_isNo_y (Or.inr hbt), M_isOut_y (v := v) (w := 100) (Or.inl hb_v), M_fails_110 h0, hl0]
      exact k0 (Or.inr hbt) _ (m_post_top hm hZ hw hB hn hz (1, r.2))
    · skip
      simp (disch := omega) only [t_X8_set_0, t_X8_set_1, t_X8_set_2, t_X8_set_5, t_X8_set_6, t_X8_set_8, t_X8_set_11, t_X8_set_12, t_X8_set_15, t_X8_set_18, t_X8_set_19, ↓reduceIte, ev_kr_1, ev_isK_y, true_and, show ¬ (1 : Int32) = 0 from by decide, M_isNo_y (Or.inr hbt), M_isOut_y (v := v) (w := 100) (Or.inr hb_v), M_fails_110 h0, hl0]
      exact k0 (Or.inr hbt) _ (m_post_top hm hZ hw hB hn hz (1, r.2))
    · skip
      simp (disch := omega) only [t_X8_set_0, t_X8_set_1, t_X8_set_2, t_X8_set_5, t_X8_set_6, t_X8_set_8, t_X8_set_11, t_X8_set_12, t_X8_set_15, t_X8_set_18, t_X8_set_19, ↓reduceIte, ev_kr_1, ev_isK_y, true_and, show ¬ (1 : Int32) = 0 from by decide, M_isNo_y (Or.inr hbt), M_isOut_n (v := nI a_v) (w := 100) (nI_pos (by omega)) (nI_ge (b := 100) ha_v (by omega)), M_fails_100 h0, hl0]
      exact k0 (Or.inr hbt) _ (m_post_top hm hZ hw hB hn hz (1, r.2))
  · skip
    rcases pk_ix v (n := 100) (by omega) with hb_v | hb_v | ⟨a_v, ha_v, rfl⟩
    · skip
      simp (disch := omega) only [t_X8_set_0, t_X8_set_1, t_X8_set_2, t_X8_set_5, t_X8_set_6, t_X8_set_8, t_X8_set_11, t_X8_set_12, t_X8_set_15, t_X8_set_18, t_X8_set_19, ↓reduceIte, ev_kr_1, ev_isK_y, true_and, show ¬ (1 : Int32) = 0 from by decide, M_isNo_n hi, M_isOut_y (v := v) (w := 100) (Or.inl hb_v), M_fails_010 h0, hl0]
      exact k1 i hi rfl (Or.inl hb_v) _ (m_post_top hm hZ hw hB hn hz (2, r.2))
    · skip
      simp (disch := omega) only [t_X8_set_0, t_X8_set_1, t_X8_set_2, t_X8_set_5, t_X8_set_6, t_X8_set_8, t_X8_set_11, t_X8_set_12, t_X8_set_15, t_X8_set_18, t_X8_set_19, ↓reduceIte, ev_kr_1, ev_isK_y, true_and, show ¬ (1 : Int32) = 0 from by decide, M_isNo_n hi, M_isOut_y (v := v) (w := 100) (Or.inr hb_v), M_fails_010 h0, hl0]
      exact k1 i hi rfl (Or.inr hb_v) _ (m_post_top hm hZ hw hB hn hz (2, r.2))
    · skip
      simp (disch := omega) only [t_X8_set_0, t_X8_set_1, t_X8_set_2, t_X8_set_5, t_X8_set_6, t_X8_set_8, t_X8_set_11, t_X8_set_12, t_X8_set_15, ↓reduceIte, ev_kr_1, ev_isK_y, true_and, M_isNo_n hi, M_isOut_n (v := nI a_v) (w := 100) (nI_pos (by omega)) (nI_ge (b := 100) ha_v (by omega)), M_fails_000 h0, hl0]
      have hm1 := m_aw_top hm hZ hw hB (0, r.2)
      have hx1 := m_cx_top hx (0, r.2)
      have hp0 : m_post X zf y H n q (0, r.2) T As (ev_up H y (m_top y (0, r.2))) n q := m_post_top hm hZ hw hB hn hz (0, r.2)
      have hup := fun (r2 : Int32 × Int32 × Int32) (T2 : Nat → ev_TS) (H2 : ev_M) (n2 q2 : Nat) => @m_post_up X zf y r2 T2 As H H2 n q (0, r.2) n2 q2
      generalize ev_up H y (m_top y (0, r.2)) = H1 at hm1 hx1 hp0 hup ⊢
      obtain ⟨-, hw1, -, -, hz1, -, -⟩ := hx1
      have h10 := m_h0 hm1
      have hl10 := m_lk0 hm1
      have hk13 := m_k13 hm1
      obtain ⟨f, hf1, hf2⟩ := m_lk1 hm1
      have hfi := hf2 i hi
      have hpi := nI_pos' (n := i) (by omega)
      have hci := nI_clamp (n := i) (by omega)
      have hTi := hT i hi
      have hli := okL_len hTi.1
      obtain ⟨qs, hC⟩ := mc_0 (q := q) hm1 hi hz1
      have htk := mc_tk hC
      have hlk := mc_lk hC
      have ht := hC.2.1
      have hkl := mc_kl hC
      have hlen := mc_len hC
      unfold m_tbc at hlk ht
      have hx2 := m_cx_top2 hx hm1 hw1 hz1
      simp (disch := omega) only [t_X8_set_20, t_X8_set_21, t_X8_set_22, t_X8_set_25, t_X8_set_26, t_X8_set_27, t_X8_set_30, ev_aG_y, and_true, true_and, ev_fG_0, ev_fG_3, ev_isO_0, ev_isO_3, hl10, hf1, hfi, hpi, hci, hi, ev_inA_5, hlk, hkl]
      refine ML_size hC.2.2.1 ?_
      rcases pk_ix p (n := qs.length) (by omega) with hb | hb | ⟨j, hj, rfl⟩
      · simp (disch := omega) only [t_X8_set_33, t_X8_set_36, t_X8_set_39, t_X8_set_40, t_X8_set_43, ↓reduceIte, ev_kr_1, ev_isK_y, true_and, show ¬ (1 : Int32) = 0 from by decide, hl10, M_isOut_y (Or.inl hb), M_no h10]
        exact kR i a_v hi rfl ha_v rfl (fun z => Int32.not_le.mpr hb z.1) _ (hup _ _ _ _ _ (m_post_top hm1 hZ hw1 hB hn hz1 _))
      · simp (disch := omega) only [t_X8_set_33, t_X8_set_36, t_X8_set_39, t_X8_set_40, t_X8_set_43, ↓reduceIte, ev_kr_1, ev_isK_y, true_and, show ¬ (1 : Int32) = 0 from by decide, hl10, M_isOut_y (Or.inr hb), M_no h10]
        exact kR i a_v hi rfl ha_v rfl (fun z => by rw [hlen] at z; exact Int32.not_lt.mpr hb z.2) _ (hup _ _ _ _ _ (m_post_top hm1 hZ hw1 hB hn hz1 _))
      · have hK := k2 i j a_v hi rfl (by omega) rfl ha_v rfl
        obtain ⟨g, g0, g1, g2⟩ := mc_pair hC hj
        have hak : ev_isAk (H1 qs[j].1) 0 = True := by rw [g0]; exact ev_isAk_y
        simp (disch := omega) only [t_X8_set_33, t_X8_set_36, t_X8_set_44, t_X8_set_45, t_X8_set_48, t_X8_set_49, t_X8_set_50, t_X8_set_53, t_X8_set_54, ↓reduceIte, ev_kr_1, ev_aG_y, and_true, true_and, ev_fG_0, ev_fG_3, ev_isO_0, ev_isO_3, hl10, hf1, hfi, hpi, hci, hi, ev_inA_5, hlk, hkl, M_isOut_i hj (by omega)]
        refine ML_get hC.2.2.1 (by omega) hj ?_
        simp (disch := omega) only [t_X8_set_57, t_X8_set_60, t_X8_set_61, t_X8_set_62, t_X8_set_64, t_X8_set_65, t_X8_set_68, t_X8_set_69, t_X8_set_70, t_X8_set_73, t_X8_set_74, ev_k_i, ev_kr_1, ev_aG_y, ev_inA_0, and_true, true_and, ev_fG_0, ev_fG_3, ev_isO_0, ev_isO_3, show (0 : Int32) ≤ 1 from by decide, show (1 : Int32).toNatClampNeg = 1 from rfl, show (1 : Nat) < 2 from by omega, hl10, hf1, hfi, hpi, hci, hi, ev_inA_5, hlk, hkl, hak, ev_lk_s g0, g2]
        refine ML_get hC.2.2.1 (by omega) hj ?_
        simp (disch := omega) only [t_X8_set_77, t_X8_set_80, t_X8_set_81, t_X8_set_82, t_X8_set_83, t_X8_set_85, ev_kr_1, ev_aS_y, ev_inA_0, and_true, true_and, show (0 : Int32) ≤ 1 from by decide, show (1 : Int32).toNatClampNeg = 1 from rfl, show (1 : Nat) < 2 from by omega, ev_isAk_y, g0]
        exact hK _ _ _ (hup _ _ _ _ _ (mc_end hm1 hZ hw1 hB hi hn (mc_setv hB hi hn hC hj g0 (nI a_v)) (by omega) (by omega)))
end H75b
end
