/-! ===== the whole of the class: its cells, from x on ===== -/
abbrev ev_TS : Type := ev_PL × (Int32 × Int32 × Int32 × Int32) × (Bool × Bool × Bool) × Int32 × Nat
abbrev ev_KS : Type := ev_PL × Int32 × Int32 × Int32 × Int32 × Int32
abbrev ev_CS : Type := (Nat → ev_TS) × (ev_PL × Int32 × Int32) × (Nat → ev_KS) × ((Nat → Int32) × (Nat → Int32) × Nat) × Int32 × Int32
def c_row (H : ev_M) (r : Nat) (L : ev_PL) (b m lm ll : Int32) : Prop := ev_rL H r L b m lm ll H
def c_wk (s : ev_TS) (r : Nat) : ev_C := ev_wkc r s.2.2.1.1 s.2.2.1.2.1 s.2.2.1.2.2 s.2.2.2.1 s.2.2.2.2
def c_tab (H : ev_M) (t r : Nat) (s : ev_TS) : Prop := H t = some (ev_tbc r) ∧ c_row H r s.1 s.2.1.1 s.2.1.2.1 s.2.1.2.2.1 s.2.1.2.2.2 ∧ H (r + 3) = some (c_wk s r)
def c_kee (H : ev_M) (w r : Nat) (s : ev_KS) : Prop := H w = some (ev_kec r s.2.2.2.2.1 s.2.2.2.2.2) ∧ c_row H r s.1 1 s.2.1 s.2.2.1 s.2.2.2.1
def c_ask (H : ev_M) (a : Nat) (s : (Nat → Int32) × (Nat → Int32) × Nat) : Prop := ∃ ne hk hn : Nat → Int32, H = ev_ask H a s.1 s.2.1 ne hk hn s.2.2 ∧ okN s.1 ne s.2.2
def c_top (x : Nat) (rf kn : Int32) : ev_C := .inr (10, [.ref (x + 1), .ref (x + 2), .ref (x + 8), .ref (x + 11), .ref (x + 12), .int rf, .int kn])
def c_all (x : Nat) (G : ev_CS) (H : ev_M) : Prop := H x = some (c_top x G.2.2.2.2.1 G.2.2.2.2.2) ∧ (∃ f : Nat → Value, H (x + 1) = some (.inl (3, 4, f)) ∧ ∀ i, i < 4 → f i = .ref (x + 13 + 5 * i)) ∧ c_ask H (x + 2) G.2.2.2.1 ∧
  c_row H (x + 8) G.2.1.1 1 (-1) G.2.1.2.1 G.2.1.2.2 ∧ (∃ f : Nat → Value, H (x + 11) = some (.inl (4, 6, f)) ∧ ∀ j, j < 6 → f j = .ref (x + 33 + 4 * j)) ∧ (∃ be : Nat → Int32, H (x + 12) = some (.inl (0, 6, fun i => .int (be i)))) ∧
  (∀ i, i < 4 → c_tab H (x + 13 + 5 * i) (x + 14 + 5 * i) (G.1 i)) ∧ ∀ j, j < 6 → c_kee H (x + 33 + 4 * j) (x + 34 + 4 * j) (G.2.2.1 j)
theorem c_row_of {h H : ev_M} {r : Nat} {L : ev_PL} {b m lm ll : Int32} (hH : ev_rL h r L b m lm ll H) : c_row H r L b m lm ll := ev_rL_self hH
theorem c_row_cg {H H1 : ev_M} {r : Nat} {L : ev_PL} {b m lm ll : Int32} (h : c_row H r L b m lm ll) (e : ∀ a, r ≤ a → a < r + 3 → H1 a = H a) : c_row H1 r L b m lm ll := by
  obtain ⟨kf, vf, hR, hH⟩ := h
  refine ⟨kf, vf, hR, (ev_row_t ?_ ?_ ?_).symm⟩
  · rw [e r (by omega) (by omega), hH]; exact ev_row_0
  · rw [e (r + 1) (by omega) (by omega), hH]; exact ev_row_1
  · rw [e (r + 2) (by omega) (by omega), hH]; exact ev_row_2
theorem c_ask_cg {H H1 : ev_M} {a : Nat} {s : (Nat → Int32) × (Nat → Int32) × Nat} (h : c_ask H a s) (e : ∀ x, a ≤ x → x < a + 6 → H1 x = H x) : c_ask H1 a s := by
  obtain ⟨ne, hk, hn, hH, hN⟩ := h
  refine ⟨ne, hk, hn, (ev_ask_t ?_ ?_ ?_ ?_ ?_ ?_).symm, hN⟩
  · rw [e a (by omega) (by omega), hH]; exact ev_ask_0
  · rw [e (a + 1) (by omega) (by omega), hH]; exact ev_ask_1
  · rw [e (a + 2) (by omega) (by omega), hH]; exact ev_ask_2
  · rw [e (a + 3) (by omega) (by omega), hH]; exact ev_ask_3
  · rw [e (a + 4) (by omega) (by omega), hH]; exact ev_ask_4
  · rw [e (a + 5) (by omega) (by omega), hH]; exact ev_ask_5
theorem c_tab_cg {H H1 : ev_M} {t : Nat} {s : ev_TS} (h : c_tab H t (t + 1) s) (e : ∀ a, t ≤ a → a < t + 5 → H1 a = H a) : c_tab H1 t (t + 1) s := by
  obtain ⟨h1, h2, h3⟩ := h
  exact ⟨(e t (by omega) (by omega)).trans h1, c_row_cg h2 (fun a ha hb => e a (by omega) (by omega)), (e (t + 1 + 3) (by omega) (by omega)).trans h3⟩
theorem c_kee_cg {H H1 : ev_M} {w : Nat} {s : ev_KS} (h : c_kee H w (w + 1) s) (e : ∀ a, w ≤ a → a < w + 4 → H1 a = H a) : c_kee H1 w (w + 1) s := by
  obtain ⟨h1, h2⟩ := h
  exact ⟨(e w (by omega) (by omega)).trans h1, c_row_cg h2 (fun a ha hb => e a (by omega) (by omega))⟩
section CA
variable {x : Nat} {G : ev_CS} {H H1 : ev_M}
theorem c_upT (h : c_all x G H) {i : Nat} (hi : i < 4) {s : ev_TS} (e : ∀ a, (a < x + 13 + 5 * i ∨ x + 18 + 5 * i ≤ a) → H1 a = H a) (hn : c_tab H1 (x + 13 + 5 * i) (x + 14 + 5 * i) s) : c_all x (fun i' => if i' = i then s else G.1 i', G.2) H1 := by
  obtain ⟨h0, ⟨f1, h1, h1b⟩, h2, h3, ⟨f4, h4, h4b⟩, ⟨be, h5⟩, h6, h7⟩ := h
  exact ⟨(e x (by omega)).trans h0, ⟨f1, (e (x + 1) (by omega)).trans h1, h1b⟩, c_ask_cg h2 (fun a ha hb => e a (by omega)), c_row_cg h3 (fun a ha hb => e a (by omega)), ⟨f4, (e (x + 11) (by omega)).trans h4, h4b⟩, ⟨be, (e (x + 12) (by omega)).trans h5⟩, fun i' hi' => by
    by_cases ei : i' = i
    · subst ei
      dsimp only
      rw [if_pos rfl]
      exact hn
    · dsimp only
      rw [if_neg ei, show x + 14 + 5 * i' = x + 13 + 5 * i' + 1 by omega]
      exact c_tab_cg (by rw [show x + 13 + 5 * i' + 1 = x + 14 + 5 * i' by omega]; exact h6 i' hi') (fun a ha hb => e a (by omega)), fun j' hj' => by rw [show x + 34 + 4 * j' = x + 33 + 4 * j' + 1 by omega]; exact c_kee_cg (by rw [show x + 33 + 4 * j' + 1 = x + 34 + 4 * j' by omega]; exact h7 j' hj') (fun a ha hb => e a (by omega))⟩
theorem c_upK (h : c_all x G H) {j : Nat} (hj : j < 6) {s : ev_KS} (e : ∀ a, (a < x + 33 + 4 * j ∨ x + 37 + 4 * j ≤ a) → H1 a = H a) (hn : c_kee H1 (x + 33 + 4 * j) (x + 34 + 4 * j) s) : c_all x (G.1, G.2.1, (fun j' => if j' = j then s else G.2.2.1 j'), G.2.2.2) H1 := by
  obtain ⟨h0, ⟨f1, h1, h1b⟩, h2, h3, ⟨f4, h4, h4b⟩, ⟨be, h5⟩, h6, h7⟩ := h
  exact ⟨(e x (by omega)).trans h0, ⟨f1, (e (x + 1) (by omega)).trans h1, h1b⟩, c_ask_cg h2 (fun a ha hb => e a (by omega)), c_row_cg h3 (fun a ha hb => e a (by omega)), ⟨f4, (e (x + 11) (by omega)).trans h4, h4b⟩, ⟨be, (e (x + 12) (by omega)).trans h5⟩, fun i' hi' => by rw [show x + 14 + 5 * i' = x + 13 + 5 * i' + 1 by omega]; exact c_tab_cg (by rw [show x + 13 + 5 * i' + 1 = x + 14 + 5 * i' by omega]; exact h6 i' hi') (fun a ha hb => e a (by omega)), fun j' hj' => by
    by_cases ej : j' = j
    · subst ej
      dsimp only
      rw [if_pos rfl]
      exact hn
    · dsimp only
      rw [if_neg ej, show x + 34 + 4 * j' = x + 33 + 4 * j' + 1 by omega]
      exact c_kee_cg (by rw [show x + 33 + 4 * j' + 1 = x + 34 + 4 * j' by omega]; exact h7 j' hj') (fun a ha hb => e a (by omega))⟩
theorem c_upS (h : c_all x G H) {L : ev_PL} {lm ll : Int32} (e : ∀ a, (a < x + 8 ∨ x + 11 ≤ a) → H1 a = H a) (hn : c_row H1 (x + 8) L 1 (-1) lm ll) : c_all x (G.1, (L, lm, ll), G.2.2) H1 := by
  obtain ⟨h0, ⟨f1, h1, h1b⟩, h2, h3, ⟨f4, h4, h4b⟩, ⟨be, h5⟩, h6, h7⟩ := h
  exact ⟨(e x (by omega)).trans h0, ⟨f1, (e (x + 1) (by omega)).trans h1, h1b⟩, c_ask_cg h2 (fun a ha hb => e a (by omega)), hn, ⟨f4, (e (x + 11) (by omega)).trans h4, h4b⟩, ⟨be, (e (x + 12) (by omega)).trans h5⟩, fun i' hi' => by rw [show x + 14 + 5 * i' = x + 13 + 5 * i' + 1 by omega]; exact c_tab_cg (by rw [show x + 13 + 5 * i' + 1 = x + 14 + 5 * i' by omega]; exact h6 i' hi') (fun a ha hb => e a (by omega)), fun j' hj' => by rw [show x + 34 + 4 * j' = x + 33 + 4 * j' + 1 by omega]; exact c_kee_cg (by rw [show x + 33 + 4 * j' + 1 = x + 34 + 4 * j' by omega]; exact h7 j' hj') (fun a ha hb => e a (by omega))⟩
theorem c_upA (h : c_all x G H) {s : (Nat → Int32) × (Nat → Int32) × Nat} (e : ∀ a, (a < x + 2 ∨ x + 8 ≤ a) → H1 a = H a) (hn : c_ask H1 (x + 2) s) : c_all x (G.1, G.2.1, G.2.2.1, s, G.2.2.2.2) H1 := by
  obtain ⟨h0, ⟨f1, h1, h1b⟩, h2, h3, ⟨f4, h4, h4b⟩, ⟨be, h5⟩, h6, h7⟩ := h
  exact ⟨(e x (by omega)).trans h0, ⟨f1, (e (x + 1) (by omega)).trans h1, h1b⟩, hn, c_row_cg h3 (fun a ha hb => e a (by omega)), ⟨f4, (e (x + 11) (by omega)).trans h4, h4b⟩, ⟨be, (e (x + 12) (by omega)).trans h5⟩, fun i' hi' => by rw [show x + 14 + 5 * i' = x + 13 + 5 * i' + 1 by omega]; exact c_tab_cg (by rw [show x + 13 + 5 * i' + 1 = x + 14 + 5 * i' by omega]; exact h6 i' hi') (fun a ha hb => e a (by omega)), fun j' hj' => by rw [show x + 34 + 4 * j' = x + 33 + 4 * j' + 1 by omega]; exact c_kee_cg (by rw [show x + 33 + 4 * j' + 1 = x + 34 + 4 * j' by omega]; exact h7 j' hj') (fun a ha hb => e a (by omega))⟩
theorem c_up0 (h : c_all x G H) {rf kn : Int32} (e : ∀ a, (a < x ∨ x + 1 ≤ a) → H1 a = H a) (hn : H1 x = some (c_top x rf kn)) : c_all x (G.1, G.2.1, G.2.2.1, G.2.2.2.1, rf, kn) H1 := by
  obtain ⟨h0, ⟨f1, h1, h1b⟩, h2, h3, ⟨f4, h4, h4b⟩, ⟨be, h5⟩, h6, h7⟩ := h
  exact ⟨hn, ⟨f1, (e (x + 1) (by omega)).trans h1, h1b⟩, c_ask_cg h2 (fun a ha hb => e a (by omega)), c_row_cg h3 (fun a ha hb => e a (by omega)), ⟨f4, (e (x + 11) (by omega)).trans h4, h4b⟩, ⟨be, (e (x + 12) (by omega)).trans h5⟩, fun i' hi' => by rw [show x + 14 + 5 * i' = x + 13 + 5 * i' + 1 by omega]; exact c_tab_cg (by rw [show x + 13 + 5 * i' + 1 = x + 14 + 5 * i' by omega]; exact h6 i' hi') (fun a ha hb => e a (by omega)), fun j' hj' => by rw [show x + 34 + 4 * j' = x + 33 + 4 * j' + 1 by omega]; exact c_kee_cg (by rw [show x + 33 + 4 * j' + 1 = x + 34 + 4 * j' by omega]; exact h7 j' hj') (fun a ha hb => e a (by omega))⟩
theorem c_upB (h : c_all x G H) {be' : Nat → Int32} (e : ∀ a, (a < x + 12 ∨ x + 13 ≤ a) → H1 a = H a) (hn : H1 (x + 12) = some (.inl (0, 6, fun i => .int (be' i)))) : c_all x G H1 := by
  obtain ⟨h0, ⟨f1, h1, h1b⟩, h2, h3, ⟨f4, h4, h4b⟩, ⟨be, h5⟩, h6, h7⟩ := h
  exact ⟨(e x (by omega)).trans h0, ⟨f1, (e (x + 1) (by omega)).trans h1, h1b⟩, c_ask_cg h2 (fun a ha hb => e a (by omega)), c_row_cg h3 (fun a ha hb => e a (by omega)), ⟨f4, (e (x + 11) (by omega)).trans h4, h4b⟩, ⟨be', hn⟩, fun i' hi' => by rw [show x + 14 + 5 * i' = x + 13 + 5 * i' + 1 by omega]; exact c_tab_cg (by rw [show x + 13 + 5 * i' + 1 = x + 14 + 5 * i' by omega]; exact h6 i' hi') (fun a ha hb => e a (by omega)), fun j' hj' => by rw [show x + 34 + 4 * j' = x + 33 + 4 * j' + 1 by omega]; exact c_kee_cg (by rw [show x + 33 + 4 * j' + 1 = x + 34 + 4 * j' by omega]; exact h7 j' hj') (fun a ha hb => e a (by omega))⟩
theorem c_cg (h : c_all x G H) (e : ∀ a, x ≤ a → a < x + 57 → H1 a = H a) : c_all x G H1 := by
  obtain ⟨h0, ⟨f1, h1, h1b⟩, h2, h3, ⟨f4, h4, h4b⟩, ⟨be, h5⟩, h6, h7⟩ := h
  exact ⟨(e x (by omega) (by omega)).trans h0, ⟨f1, (e (x + 1) (by omega) (by omega)).trans h1, h1b⟩, c_ask_cg h2 (fun a ha hb => e a (by omega) (by omega)), c_row_cg h3 (fun a ha hb => e a (by omega) (by omega)), ⟨f4, (e (x + 11) (by omega) (by omega)).trans h4, h4b⟩, ⟨be, (e (x + 12) (by omega) (by omega)).trans h5⟩,
    fun i' hi' => by rw [show x + 14 + 5 * i' = x + 13 + 5 * i' + 1 by omega]; exact c_tab_cg (by rw [show x + 13 + 5 * i' + 1 = x + 14 + 5 * i' by omega]; exact h6 i' hi') (fun a ha hb => e a (by omega) (by omega)),
    fun j' hj' => by rw [show x + 34 + 4 * j' = x + 33 + 4 * j' + 1 by omega]; exact c_kee_cg (by rw [show x + 33 + 4 * j' + 1 = x + 34 + 4 * j' by omega]; exact h7 j' hj') (fun a ha hb => e a (by omega) (by omega))⟩
end CA
