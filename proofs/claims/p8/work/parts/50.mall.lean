/-! ===== the reference: one picture of it ===== -/
theorem pf_at_get {L : ev_PL} {j : Nat} (hj : j < L.length) : pf_at L j = L[j] := by
  unfold pf_at
  rw [List.getD_eq_getElem?_getD, List.getElem?_eq_getElem hj]; rfl
theorem pf_none {L : ev_PL} {k : Int32} (h : ∀ j, j < L.length → ¬ (pf_at L j).1 = k) : pf_find L k = none := by
  unfold pf_find
  rw [List.findIdx?_eq_none_iff]
  intro x hx
  obtain ⟨j, hj, rfl⟩ := List.getElem_of_mem hx
  have := h j hj
  rw [pf_at_get hj] at this
  exact decide_eq_false this
theorem pf_some {L : ev_PL} {k : Int32} {i : Nat} (hi : i < L.length) (he : (pf_at L i).1 = k) (h : ∀ j, j < i → ¬ (pf_at L j).1 = k) : pf_find L k = some i := by
  unfold pf_find
  rw [List.findIdx?_eq_some_iff_getElem]
  refine ⟨hi, ?_, fun j hj => ?_⟩
  · rw [pf_at_get hi] at he
    exact decide_eq_true he
  · have := h j hj
    rw [pf_at_get (by omega)] at this
    simp [this]
theorem m_at {qs : m_Q} {L : ev_PL} (hq : qs.map Prod.snd = L) {j : Nat} (hj : j < qs.length) : pf_at L j = qs[j].2 := by
  subst hq
  rw [pf_at_get (by rw [List.length_map]; exact hj), List.getElem_map]
theorem m_ln {qs : m_Q} {L : ev_PL} (hq : qs.map Prod.snd = L) : L.length = qs.length := by
  subst hq
  exact List.length_map _
def m_wk (s : ev_TS) : Int32 := if s.2.2.1.1 = true then s.2.2.2.1 else -1
def m_tbc (l : Nat) (s : ev_TS) : ev_C := .inr (12, [.ref l, .int s.2.1.1, .int s.2.1.2.1, .int s.2.1.2.2.1, .int s.2.1.2.2.2, .int (m_wk s), .int (nI s.2.2.2.2), .int (ev_bb s.2.2.1.2.2), .int (ev_bb s.2.2.1.2.1)])
def m_top (y : Nat) (r : Int32 × Int32 × Int32) : ev_C := .inr (13, [.int r.1, .int r.2.1, .int r.2.2, .ref (y + 1), .ref (y + 10)])
def m_ask (X : ev_E) (H : ev_M) (l D N : Nat) (ow : Nat → Nat) (zf : Nat → Nat) (As : List Nat) : Prop := ∃ e : Nat, ev_AT X H l e (As.map fun k => .ref (zf k)) ∧ ((e < D ∧ e = X.2.2.2.2.2 1 ∧ H e = none) ∨ (D ≤ e ∧ e < N ∧ ow e = 4))
def m_arr (y : Nat) (H : ev_M) : Prop := ∃ f : Nat → Value, H (y + 1) = some (.inl (5, 4, f)) ∧ ∀ i, i < 4 → f i = .ref (y + 2 + 2 * i)
/-- the reference at y, its four tables, its askings; what lies from y + 12 on is owned by the table ow tells, or (4) by the askings -/
def m_aw (X : ev_E) (zf : Nat → Nat) (y : Nat) (r : Int32 × Int32 × Int32) (T : Nat → ev_TS) (As : List Nat) (H : ev_M) (N : Nat) (ow : Nat → Nat) : Prop := H y = some (m_top y r) ∧ m_arr y H ∧
  (∀ i, i < 4 → H (y + 2 + 2 * i) = some (m_tbc (y + 3 + 2 * i) (T i)) ∧ ∃ qs, m_lst X H (y + 3 + 2 * i) (y + 12) N ow i qs ∧ qs.map Prod.snd = (T i).1) ∧ m_ask X H (y + 10) (y + 12) N ow zf As
def m_all (X : ev_E) (zf : Nat → Nat) (y : Nat) (r : Int32 × Int32 × Int32) (T : Nat → ev_TS) (As : List Nat) (H : ev_M) (N : Nat) : Prop := ∃ ow, m_aw X zf y r T As H N ow
def m_post (X : ev_E) (zf : Nat → Nat) (y : Nat) (H : ev_M) (n q : Nat) (r : Int32 × Int32 × Int32) (T : Nat → ev_TS) (As : List Nat) (H1 : ev_M) (n1 q1 : Nat) : Prop := m_all X zf y r T As H1 n1 ∧ (∀ a, a < y ∨ a = y + 11 → H1 a = H a) ∧ (∀ a, n1 ≤ a → H1 a = none) ∧ n ≤ n1 ∧ n1 ≤ n + 900 ∧ q ≤ q1 ∧ q1 ≤ q + 12000
def mg_T (T : Nat → ev_TS) (i : Nat) (s : ev_TS) : Nat → ev_TS := fun i' => if i' = i then s else T i'
/-- where an operation on table i stands: what it has changed since H0, n0, q0 -/
def m_cur (X : ev_E) (y i : Nat) (H0 : ev_M) (n0 q0 : Nat) (ow0 : Nat → Nat) (cN cQ : Nat) (r : Int32 × Int32 × Int32) (s : ev_TS) (H : ev_M) (n q : Nat) (ow : Nat → Nat) (qs : m_Q) : Prop :=
  H y = some (m_top y r) ∧ H (y + 2 + 2 * i) = some (m_tbc (y + 3 + 2 * i) s) ∧ m_lst X H (y + 3 + 2 * i) (y + 12) n ow i qs ∧ qs.map Prod.snd = s.1 ∧
  (∀ a, a < n0 → ¬ a = y → ¬ a = y + 2 + 2 * i → ¬ a = y + 3 + 2 * i → ¬ (y + 12 ≤ a ∧ ow0 a = i) → H a = H0 a) ∧ (∀ a, a < n0 → ow a = ow0 a) ∧ (∀ a, n ≤ a → H a = none) ∧ n0 ≤ n ∧ n ≤ n0 + cN ∧ q0 ≤ q ∧ q ≤ q0 + cQ
section M50
variable {X : ev_E} {zf : Nat → Nat} {y i : Nat} {r r1 : Int32 × Int32 × Int32} {T : Nat → ev_TS} {As : List Nat} {H H0 H1 : ev_M} {N n0 q0 cN cQ : Nat} {ow ow0 : Nat → Nat} {s s1 : ev_TS} {qs : m_Q} {n q : Nat} {P : ev_O → ev_M → Nat → Nat → Prop}
theorem m_ask_cg {ow1 : Nat → Nat} {l D N1 : Nat} (hM : m_ask X H l D N ow zf As) (hN : N ≤ N1) (e : ∀ a, (a = l ∨ (D ≤ a ∧ a < N ∧ ow a = 4) ∨ (a < D ∧ a = X.2.2.2.2.2 1)) → H1 a = H a) (eo : ∀ a, D ≤ a → a < N → ow a = 4 → ow1 a = 4) (hel : ∀ v ∈ As.map (fun k => Value.ref (zf k)), ev_el X H v → ev_el X H1 v) : m_ask X H1 l D N1 ow1 zf As := by
  obtain ⟨e0, h1, h4⟩ := hM
  have e00 : H1 e0 = H e0 := e e0 (by rcases h4 with ⟨a, b, c⟩ | ⟨a, b, c⟩; exact Or.inr (Or.inr ⟨a, b⟩); exact Or.inr (Or.inl ⟨a, b, c⟩))
  have hel0 : ∀ v ∈ As.map (fun k => Value.ref (zf k)), ev_el X H v := by
    obtain ⟨mc, g1, g2, g3⟩ := h1
    exact g2
  refine ⟨e0, ev_AT_cg h1 (e l (Or.inl rfl)) e00 (fun v hv => hel v hv (hel0 v hv)), ?_⟩
  rcases h4 with ⟨a, b, c⟩ | ⟨a, b, c⟩
  · exact Or.inl ⟨a, b, e00.trans c⟩
  · exact Or.inr ⟨a, by omega, eo _ a b c⟩
theorem mc_0 (hm : m_aw X zf y r T As H n ow) (hi : i < 4) (hz : ∀ a, n ≤ a → H a = none) : ∃ qs, m_cur X y i H n q ow 0 0 r (T i) H n q ow qs := by
  obtain ⟨h1, h2, h3, h4⟩ := hm
  obtain ⟨g1, qs, g2, g3⟩ := h3 i hi
  exact ⟨qs, h1, g1, g2, g3, fun _ _ _ _ _ _ => rfl, fun _ _ => rfl, hz, Nat.le_refl _, by omega, Nat.le_refl _, by omega⟩
/-- an Integer of the cache is an element whatever the heap -/
def m_zok (X : ev_E) (zf : Nat → Nat) (As : List Nat) : Prop := ∀ k ∈ As, zf k < X.1.heap.size ∧ ∃ v, X.2.2.2.2.1 (zf k) = some (.inr (2, v))
theorem m_zel (hZ : m_zok X zf As) (hw : ev_low X H) : ∀ v ∈ As.map (fun k => Value.ref (zf k)), ev_el X H v := by
  intro v hv
  obtain ⟨k, hk, rfl⟩ := List.mem_map.mp hv
  obtain ⟨h1, w, h2⟩ := hZ k hk
  exact Or.inr ⟨_, rfl, Or.inr ⟨2, _, rfl, rfl, w, ev_lk_o (hw _ h1) h2⟩⟩
theorem mc_end (hm : m_aw X zf y r T As H n ow) (hZ : m_zok X zf As) (hw : ev_low X H) (hB : ev_bs X y) (hi : i < 4) (hn : y + 12 ≤ n) {n1 q1 : Nat} {ow1 : Nat → Nat} (hC : m_cur X y i H n q ow cN cQ r1 s1 H1 n1 q1 ow1 qs) (hcN : cN ≤ 900) (hcQ : cQ ≤ 12000) : m_post X zf y H n q r1 (mg_T T i s1) As H1 n1 q1 := by
  obtain ⟨h1, ⟨f, h2, h2b⟩, h3, h4⟩ := hm
  obtain ⟨c1, c2, c3, c4, c5, c6, c7, c8, c9, c10, c11⟩ := hC
  have hB1 := hB.1
  have hB2 := hB.2.2
  have hlow : ∀ a, a < X.1.heap.size → H1 a = H a := fun a ha => c5 a (by omega) (by omega) (by omega) (by omega) (fun z => by omega)
  refine ⟨⟨ow1, c1, ⟨f, (c5 _ (by omega) (by omega) (by omega) (by omega) (fun z => by omega)).trans h2, h2b⟩, fun j hj => ?_, ?_⟩, fun a ha => ?_, c7, c8, by omega, c10, by omega⟩
  · unfold mg_T
    by_cases e : j = i
    · subst e
      rw [if_pos rfl]
      exact ⟨c2, qs, c3, c4⟩
    · rw [if_neg e]
      obtain ⟨g1, qs', g2, g3⟩ := h3 j hj
      refine ⟨(c5 _ (by omega) (by omega) (by omega) (by omega) (fun z => by omega)).trans g1, qs', m_lst_cg g2 c8 (fun a ha => ?_) (fun a a1 a2 a3 => (c6 a a2).trans a3), g3⟩
      rcases ha with rfl | ⟨a1, a2, a3⟩ | ⟨a1, a2⟩
      · exact c5 _ (by omega) (by omega) (by omega) (by omega) (fun z => by omega)
      · exact c5 a a2 (by omega) (by omega) (by omega) (fun z => e (a3.symm.trans z.2))
      · exact hlow a (by omega)
  · refine m_ask_cg h4 c8 (fun a ha => ?_) (fun a a1 a2 a3 => (c6 a a2).trans a3) (fun v hv _ => m_zel hZ (fun a ha => (hlow a ha).trans (hw a ha)) v hv)
    rcases ha with rfl | ⟨a1, a2, a3⟩ | ⟨a1, a2⟩
    · exact c5 _ (by omega) (by omega) (by omega) (by omega) (fun z => by omega)
    · exact c5 a a2 (by omega) (by omega) (by omega) (fun z => by omega)
    · exact hlow a (by omega)
  · exact c5 a (by omega) (by omega) (by omega) (by omega) (fun z => by omega)
/-- only the first cell is written -/
theorem m_post_top (hm : m_aw X zf y r T As H n ow) (hZ : m_zok X zf As) (hw : ev_low X H) (hB : ev_bs X y) (hn : y + 12 ≤ n) (hz : ∀ a, n ≤ a → H a = none) (r1 : Int32 × Int32 × Int32) : m_post X zf y H n q r1 T As (ev_up H y (m_top y r1)) n q := by
  obtain ⟨h1, ⟨f, h2, h2b⟩, h3, h4⟩ := hm
  have hB1 := hB.1
  have hB2 := hB.2.2
  refine ⟨⟨ow, ev_up_s, ⟨f, (ev_up_n (by omega)).trans h2, h2b⟩, fun j hj => ?_, ?_⟩, fun a ha => ev_up_n (by omega), fun a ha => (ev_up_n (by omega)).trans (hz a ha), Nat.le_refl _, by omega, Nat.le_refl _, by omega⟩
  · obtain ⟨g1, qs', g2, g3⟩ := h3 j hj
    refine ⟨(ev_up_n (by omega)).trans g1, qs', m_lst_cg g2 (Nat.le_refl _) (fun a ha => ev_up_n ?_) (fun a a1 a2 a3 => a3), g3⟩
    rcases ha with rfl | ⟨a1, a2, a3⟩ | ⟨a1, a2⟩ <;> omega
  · refine m_ask_cg h4 (Nat.le_refl _) (fun a ha => ev_up_n ?_) (fun a a1 a2 a3 => a3) (fun v hv _ => m_zel hZ (fun a ha => (ev_up_n (by omega)).trans (hw a ha)) v hv)
    rcases ha with rfl | ⟨a1, a2, a3⟩ | ⟨a1, a2⟩ <;> omega
theorem m_aw_top (hm : m_aw X zf y r T As H n ow) (hZ : m_zok X zf As) (hw : ev_low X H) (hB : ev_bs X y) (r1 : Int32 × Int32 × Int32) : m_aw X zf y r1 T As (ev_up H y (m_top y r1)) n ow := by
  obtain ⟨h1, ⟨f, h2, h2b⟩, h3, h4⟩ := hm
  have hB1 := hB.1
  have hB2 := hB.2.2
  refine ⟨ev_up_s, ⟨f, (ev_up_n (by omega)).trans h2, h2b⟩, fun j hj => ?_, ?_⟩
  · obtain ⟨g1, qs', g2, g3⟩ := h3 j hj
    refine ⟨(ev_up_n (by omega)).trans g1, qs', m_lst_cg g2 (Nat.le_refl _) (fun a ha => ev_up_n ?_) (fun a a1 a2 a3 => a3), g3⟩
    rcases ha with rfl | ⟨a1, a2, a3⟩ | ⟨a1, a2⟩ <;> omega
  · refine m_ask_cg h4 (Nat.le_refl _) (fun a ha => ev_up_n ?_) (fun a a1 a2 a3 => a3) (fun v hv _ => m_zel hZ (fun a ha => (ev_up_n (by omega)).trans (hw a ha)) v hv)
    rcases ha with rfl | ⟨a1, a2, a3⟩ | ⟨a1, a2⟩ <;> omega
/-- a field of the table's own cell -/
theorem mc_fld (hB : ev_bs X y) (hi : i < 4) (hn : y + 12 ≤ n0) (hC : m_cur X y i H0 n0 q0 ow0 cN cQ r s H n q ow qs) (s1 : ev_TS) (hs : s1.1 = s.1) : m_cur X y i H0 n0 q0 ow0 cN cQ r s1 (ev_up H (y + 2 + 2 * i) (m_tbc (y + 3 + 2 * i) s1)) n q ow qs := by
  obtain ⟨c1, c2, c3, c4, c5, c6, c7, c8, c9, c10, c11⟩ := hC
  have hB1 := hB.1
  have hB2 := hB.2.2
  refine ⟨(ev_up_n (by omega)).trans c1, ev_up_s, m_lst_cg c3 (Nat.le_refl _) (fun a ha => ev_up_n ?_) (fun a a1 a2 a3 => a3), c4.trans hs.symm, fun a a1 a2 a3 a4 a5 => (ev_up_n a3).trans (c5 a a1 a2 a3 a4 a5), c6, fun a ha => (ev_up_n (by omega)).trans (c7 a ha), c8, c9, c10, c11⟩
  rcases ha with rfl | ⟨a1, a2, a3⟩ | ⟨a1, a2⟩ <;> omega
theorem mc_tp (hB : ev_bs X y) (hi : i < 4) (hn : y + 12 ≤ n0) (hC : m_cur X y i H0 n0 q0 ow0 cN cQ r s H n q ow qs) (r1 : Int32 × Int32 × Int32) : m_cur X y i H0 n0 q0 ow0 cN cQ r1 s (ev_up H y (m_top y r1)) n q ow qs := by
  obtain ⟨c1, c2, c3, c4, c5, c6, c7, c8, c9, c10, c11⟩ := hC
  have hB1 := hB.1
  have hB2 := hB.2.2
  refine ⟨ev_up_s, (ev_up_n (by omega)).trans c2, m_lst_cg c3 (Nat.le_refl _) (fun a ha => ev_up_n ?_) (fun a a1 a2 a3 => a3), c4, fun a a1 a2 a3 a4 a5 => (ev_up_n a2).trans (c5 a a1 a2 a3 a4 a5), c6, fun a ha => (ev_up_n (by omega)).trans (c7 a ha), c8, c9, c10, c11⟩
  rcases ha with rfl | ⟨a1, a2, a3⟩ | ⟨a1, a2⟩ <;> omega
end M50
