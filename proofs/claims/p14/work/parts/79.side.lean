/-! ===== class and reference side by side ===== -/
section L79
variable {X : ev_E} {zf : Nat → Nat} {x : Nat} {r : Int32 × Int32 × Int32} {T : Nat → ev_TS} {G G0 G1 : ev_CS} {As As1 : List Nat} {H H1 H2 : ev_M} {ow : Nat → Nat} {n q n1 q1 n2 : Nat}
theorem m_aw_cl (hm : m_aw X zf (x + 57) r T As H n ow) (hx : m_cx X zf (x + 57) T As H n) (hxs : X.1.heap.size ≤ x) (hw2 : ev_low X H2) (e : ∀ a, (a < x ∨ x + 57 ≤ a) → ¬ a = x + 68 → a < n → H2 a = H a) (h1 : n ≤ n2) : m_aw X zf (x + 57) r T As H2 n2 ow := by
  obtain ⟨g1, ⟨f, g2, g2b⟩, g3, g4⟩ := hm
  obtain ⟨hZ, hw, hB, hn, hz, hT, hW⟩ := hx
  have hB1 := hB.1
  have hB2 := hB.2.2
  refine ⟨(e _ (by omega) (by omega) (by omega)).trans g1, ⟨f, (e _ (by omega) (by omega) (by omega)).trans g2, g2b⟩, fun j hj => ?_, ?_⟩
  · obtain ⟨a1, qs', a2, a3⟩ := g3 j hj
    refine ⟨(e _ (by omega) (by omega) (by omega)).trans a1, qs', m_lst_cg a2 h1 (fun a ha => ?_) (fun a a1 a2 a3 => a3), a3⟩
    rcases ha with rfl | ⟨a1, a2, a3⟩ | ⟨a1, a2⟩
    · exact e _ (by omega) (by omega) (by omega)
    · exact e _ (by omega) (by omega) (by omega)
    · exact e _ (by omega) (by omega) (by omega)
  · refine m_ask_cg g4 h1 (fun a ha => ?_) (fun a a1 a2 a3 => a3) (fun v hv _ => m_zel hZ hw2 v hv)
    rcases ha with rfl | ⟨a1, a2, a3⟩ | ⟨a1, a2⟩
    · exact e _ (by omega) (by omega) (by omega)
    · exact e _ (by omega) (by omega) (by omega)
    · exact e _ (by omega) (by omega) (by omega)
/-- the class (at G), the reference (at G0 and the askings As), the law's Out -/
def jM (X : ev_E) (zf : Nat → Nat) (x : Nat) (G G0 : ev_CS) (As : List Nat) (H : ev_M) (n : Nat) : Prop := c_all x G H ∧ jG G ∧ jG G0 ∧ (∃ r ow, r.2 = G0.2.2.2.2 ∧ m_aw X zf (x + 57) r G0.1 As H n ow) ∧ m_cx X zf (x + 57) G0.1 As H n ∧ m_ax X zf As ∧ jR G0 As ∧ (∃ l s, H (x + 68) = some (.inr (11, [.long l, s]))) ∧ X.1.heap.size ≤ x
theorem jM_class (h : jM X zf x G G0 As H n) (hc : c_all x G1 H1) (hJ : jG G1) (hf : ∀ a, (a < x ∨ x + 57 ≤ a) → ¬ a = x + 68 → a < n → H1 a = H a) (ho : ∃ l s, H1 (x + 68) = some (.inr (11, [.long l, s]))) (hz1 : ∀ a, n1 ≤ a → H1 a = none) (hn1 : n ≤ n1) : jM X zf x G1 G0 As H1 n1 := by
  obtain ⟨-, -, h3, ⟨r, ow, h4, h5⟩, h6, h7, h8, -, h10⟩ := h
  have hx := h6
  obtain ⟨hZ, hw, hB, hn, hz, hT, hW⟩ := hx
  have hw1 : ev_low X H1 := fun a ha => (hf a (by omega) (by omega) (by omega)).trans (hw a ha)
  exact ⟨hc, hJ, h3, ⟨r, ow, h4, m_aw_cl h5 h6 h10 hw1 hf hn1⟩, ⟨hZ, hw1, hB, by omega, hz1, hT, hW⟩, h7, h8, ho, h10⟩
theorem jM_ref (h : jM X zf x G G0 As H n) (hp : m_post X zf (x + 57) H n q r G.1 As1 H1 n1 q1) (hr : r.2 = G.2.2.2.2) (hA : m_ax X zf As1) (hl : jR G As1) : jM X zf x G G As1 H1 n1 := by
  obtain ⟨h1, h2, h3, -, h6, h7, h8, ⟨l, s, h9⟩, h10⟩ := h
  obtain ⟨⟨ow, p1⟩, p2, p3, p4, p5, p6, p7⟩ := hp
  obtain ⟨hZ, hw, hB, hn, hz, hT, hW⟩ := h6
  exact ⟨c_cg h1 (fun a ha hb => p2 a (by omega)), h2, h2, ⟨r, ow, hr, p1⟩, ⟨m_zok_of hA, fun a ha => (p2 a (by omega)).trans (hw a ha), hB, by omega, p3, h2.1.1, fun i hi => (h2.2.2 i hi).1⟩, hA, hl, ⟨l, s, (p2 _ (by omega)).trans h9⟩, h10⟩
theorem jM_low (h : jM X zf x G G0 As H n) : ev_low X H := h.2.2.2.2.1.2.1
theorem jM_z (h : jM X zf x G G0 As H n) : ∀ a, n ≤ a → H a = none := h.2.2.2.2.1.2.2.2.2.1
theorem jM_n (h : jM X zf x G G0 As H n) : x + 69 ≤ n := by have := h.2.2.2.2.1.2.2.2.1; omega
/-- the four numbers of the script from i on -/
def jS (X : ev_E) (S i : Nat) (v0 v1 v2 v3 : Int32) : Prop := ∀ H, ev_low X H → (ev_inA (ev_lk X H S) (nI i) ev_tI = True ∧ ev_aG (ev_lk X H S) (nI i) = .int v0) ∧ (ev_inA (ev_lk X H S) (nI (i + 1)) ev_tI = True ∧ ev_aG (ev_lk X H S) (nI (i + 1)) = .int v1) ∧ (ev_inA (ev_lk X H S) (nI i + 2) ev_tI = True ∧ ev_aG (ev_lk X H S) (nI i + 2) = .int v2) ∧ (ev_inA (ev_lk X H S) (nI i + 3) ev_tI = True ∧ ev_aG (ev_lk X H S) (nI i + 3) = .int v3)
/-- what the law does next, once a call is done -/
def jC (X : ev_E) (zf : Nat → Nat) (x S i n q : Nat) (P : ev_O → ev_M → Nat → Nat → Prop) : Prop := ∀ G1 As1 H1 n1 q1 a5 a6, jM X zf x G1 G1 As1 H1 n1 → n ≤ n1 → n1 ≤ n + 1000 → q ≤ q1 → q1 ≤ q + 12900 → ev_ok (ev_TT X) 310 1742 [.ref S, .ref x, .ref (x + 57), .ref (x + 68), .int (nI i), a5, a6] [] H1 n1 q1 P
end L79
