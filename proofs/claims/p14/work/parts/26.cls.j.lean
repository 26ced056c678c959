/-! ===== joined: 26.cls, 27.keys, 28.calls, 29.calls2, 30.calls3, 31.calls4, 32.ask1, 33.ask2, 34.ask3, 35.keepers, 36.forget, 37.askrow, 38.askrow2, 39.askat ===== -/
section
/-! ===== the whole of the class: its cells, from x on ===== -/
abbrev ev_TS : Type := ev_PL × (Int32 × Int32 × Int32 × Int32) × (Bool × Bool × Bool) × Int32 × Nat
abbrev ev_KS : Type := ev_PL × Int32 × Int32 × Int32 × Int32 × Int32
abbrev ev_CS : Type := (Nat → ev_TS) × (ev_PL × Int32 × Int32) × (Nat → ev_KS) × ((Nat → Int32) × (Nat → Int32) × Nat) × Int32 × Int32
def c_row (H : ev_M) (r : Nat) (L : ev_PL) (b m lm ll : Int32) : Prop := ev_rL H r L b m lm ll H
def c_wk (s : ev_TS) (r : Nat) : ev_C := ev_wkc r s.2.2.1.1 s.2.2.1.2.1 s.2.2.1.2.2 s.2.2.2.1 s.2.2.2.2
def c_tab (H : ev_M) (t r : Nat) (s : ev_TS) : Prop := H t = some (ev_tbc r) ∧ c_row H r s.1 s.2.1.1 s.2.1.2.1 s.2.1.2.2.1 s.2.1.2.2.2 ∧ H (r + 3) = some (c_wk s r)
def c_kee (H : ev_M) (w r : Nat) (s : ev_KS) : Prop := H w = some (ev_kec r s.2.2.2.2.1 s.2.2.2.2.2) ∧ c_row H r s.1 1 s.2.1 s.2.2.1 s.2.2.2.1
def c_ask (H : ev_M) (a : Nat) (s : (Nat → Int32) × (Nat → Int32) × Nat) : Prop := ∃ ne hk hn : Nat → Int32, H = ev_ask H a s.1 s.2.1 ne hk hn s.2.2 ∧ okN s.1 ne s.2.2
def c_top (x : Nat) (rf kn : Int32) : ev_C := .inr (10, [.ref (x + 1), .ref (x + 2), .ref (x + 8), .ref (x + 11), .ref (x + 12), .int rf, .int kn])
def c_all (x : Nat) (G : ev_CS) (H : ev_M) : Prop := H x = some (c_top x G.2.2.2.2.1 G.2.2.2.2.2) ∧ (∃ f : Nat → Value, H (x + 1) = some (.inl (3, 4, f)) ∧ ∀ i, i < 4 → f i = .ref (x + 13 + 5 * i)) ∧ c_ask H (x + 2) G.2.2.2.1 ∧
  c_row H (x + 8) G.2.1.1 1 (-1) G.2.1.2.1 G.2.1.2.2 ∧ (∃ f : Nat → Value, H (x + 11) = some (.inl (4, 6, f)) ∧ ∀ j, j < 6 → f j = .ref (x + 33 + 4 * j)) ∧ (∃ be : Nat → Int32, H (x + 12) = some (.inl (0, 6, fun i => .int (be i)))) ∧
  (∀ i, i < 4 → c_tab H (x + 13 + 5 * i) (x + 14 + 5 * i) (G.1 i)) ∧ ∀ j, j < 6 → c_kee H (x + 33 + 4 * j) (x + 34 + 4 * j) (G.2.2.1 j)
theorem c_row_of {h H : ev_M} {r : Nat} {L : ev_PL} {b m lm ll : Int32} (hH : ev_rL h r L b m lm ll H) : c_row H r L b m lm ll := ev_rL_self hH
theorem c_row_cg {H H1 : ev_M} {r : Nat} {L : ev_PL} {b m lm ll : Int32} (h : c_row H r L b m lm ll) (e : ∀ a, r ≤ a → a < r + 3 → H1 a = H a) : c_row H1 r L b m lm ll := by
  obtain ⟨kf, vf, hR, hH⟩ := h
  refine ⟨kf, vf, hR, (ev_row_t ?_ ?_ ?_).symm⟩
  · rw [e r (by omega) (by omega), hH]; exact ev_row_0
  · rw [e (r + 1) (by omega) (by omega), hH]; exact ev_row_1
  · rw [e (r + 2) (by omega) (by omega), hH]; exact ev_row_2
theorem c_ask_cg {H H1 : ev_M} {a : Nat} {s : (Nat → Int32) × (Nat → Int32) × Nat} (h : c_ask H a s) (e : ∀ x, a ≤ x → x < a + 6 → H1 x = H x) : c_ask H1 a s := by
  obtain ⟨ne, hk, hn, hH, hN⟩ := h
  refine ⟨ne, hk, hn, (ev_ask_t ?_ ?_ ?_ ?_ ?_ ?_).symm, hN⟩
  · rw [e a (by omega) (by omega), hH]; exact ev_ask_0
  · rw [e (a + 1) (by omega) (by omega), hH]; exact ev_ask_1
  · rw [e (a + 2) (by omega) (by omega), hH]; exact ev_ask_2
  · rw [e (a + 3) (by omega) (by omega), hH]; exact ev_ask_3
  · rw [e (a + 4) (by omega) (by omega), hH]; exact ev_ask_4
  · rw [e (a + 5) (by omega) (by omega), hH]; exact ev_ask_5
theorem c_tab_cg {H H1 : ev_M} {t : Nat} {s : ev_TS} (h : c_tab H t (t + 1) s) (e : ∀ a, t ≤ a → a < t + 5 → H1 a = H a) : c_tab H1 t (t + 1) s := by
  obtain ⟨h1, h2, h3⟩ := h
  exact ⟨(e t (by omega) (by omega)).trans h1, c_row_cg h2 (fun a ha hb => e a (by omega) (by omega)), (e (t + 1 + 3) (by omega) (by omega)).trans h3⟩
theorem c_kee_cg {H H1 : ev_M} {w : Nat} {s : ev_KS} (h : c_kee H w (w + 1) s) (e : ∀ a, w ≤ a → a < w + 4 → H1 a = H a) : c_kee H1 w (w + 1) s := by
  obtain ⟨h1, h2⟩ := h
  exact ⟨(e w (by omega) (by omega)).trans h1, c_row_cg h2 (fun a ha hb => e a (by omega) (by omega))⟩
section CA
variable {x : Nat} {G : ev_CS} {H H1 : ev_M}
theorem c_upT (h : c_all x G H) {i : Nat} (hi : i < 4) {s : ev_TS} (e : ∀ a, (a < x + 13 + 5 * i ∨ x + 18 + 5 * i ≤ a) → H1 a = H a) (hn : c_tab H1 (x + 13 + 5 * i) (x + 14 + 5 * i) s) : c_all x (fun i' => if i' = i then s else G.1 i', G.2) H1 := by
  obtain ⟨h0, ⟨f1, h1, h1b⟩, h2, h3, ⟨f4, h4, h4b⟩, ⟨be, h5⟩, h6, h7⟩ := h
  exact ⟨(e x (by omega)).trans h0, ⟨f1, (e (x + 1) (by omega)).trans h1, h1b⟩, c_ask_cg h2 (fun a ha hb => e a (by omega)), c_row_cg h3 (fun a ha hb => e a (by omega)), ⟨f4, (e (x + 11) (by omega)).trans h4, h4b⟩, ⟨be, (e (x + 12) (by omega)).trans h5⟩, fun i' hi' => by
    by_cases ei : i' = i
    · subst ei
      dsimp only
      rw [if_pos rfl]
      exact hn
    · dsimp only
      rw [if_neg ei, show x + 14 + 5 * i' = x + 13 + 5 * i' + 1 by omega]
      exact c_tab_cg (by rw [show x + 13 + 5 * i' + 1 = x + 14 + 5 * i' by omega]; exact h6 i' hi') (fun a ha hb => e a (by omega)), fun j' hj' => by rw [show x + 34 + 4 * j' = x + 33 + 4 * j' + 1 by omega]; exact c_kee_cg (by rw [show x + 33 + 4 * j' + 1 = x + 34 + 4 * j' by omega]; exact h7 j' hj') (fun a ha hb => e a (by omega))⟩
theorem c_upK (h : c_all x G H) {j : Nat} (hj : j < 6) {s : ev_KS} (e : ∀ a, (a < x + 33 + 4 * j ∨ x + 37 + 4 * j ≤ a) → H1 a = H a) (hn : c_kee H1 (x + 33 + 4 * j) (x + 34 + 4 * j) s) : c_all x (G.1, G.2.1, (fun j' => if j' = j then s else G.2.2.1 j'), G.2.2.2) H1 := by
  obtain ⟨h0, ⟨f1, h1, h1b⟩, h2, h3, ⟨f4, h4, h4b⟩, ⟨be, h5⟩, h6, h7⟩ := h
  exact ⟨(e x (by omega)).trans h0, ⟨f1, (e (x + 1) (by omega)).trans h1, h1b⟩, c_ask_cg h2 (fun a ha hb => e a (by omega)), c_row_cg h3 (fun a ha hb => e a (by omega)), ⟨f4, (e (x + 11) (by omega)).trans h4, h4b⟩, ⟨be, (e (x + 12) (by omega)).trans h5⟩, fun i' hi' => by rw [show x + 14 + 5 * i' = x + 13 + 5 * i' + 1 by omega]; exact c_tab_cg (by rw [show x + 13 + 5 * i' + 1 = x + 14 + 5 * i' by omega]; exact h6 i' hi') (fun a ha hb => e a (by omega)), fun j' hj' => by
    by_cases ej : j' = j
    · subst ej
      dsimp only
      rw [if_pos rfl]
      exact hn
    · dsimp only
      rw [if_neg ej, show x + 34 + 4 * j' = x + 33 + 4 * j' + 1 by omega]
      exact c_kee_cg (by rw [show x + 33 + 4 * j' + 1 = x + 34 + 4 * j' by omega]; exact h7 j' hj') (fun a ha hb => e a (by omega))⟩
theorem c_upS (h : c_all x G H) {L : ev_PL} {lm ll : Int32} (e : ∀ a, (a < x + 8 ∨ x + 11 ≤ a) → H1 a = H a) (hn : c_row H1 (x + 8) L 1 (-1) lm ll) : c_all x (G.1, (L, lm, ll), G.2.2) H1 := by
  obtain ⟨h0, ⟨f1, h1, h1b⟩, h2, h3, ⟨f4, h4, h4b⟩, ⟨be, h5⟩, h6, h7⟩ := h
  exact ⟨(e x (by omega)).trans h0, ⟨f1, (e (x + 1) (by omega)).trans h1, h1b⟩, c_ask_cg h2 (fun a ha hb => e a (by omega)), hn, ⟨f4, (e (x + 11) (by omega)).trans h4, h4b⟩, ⟨be, (e (x + 12) (by omega)).trans h5⟩, fun i' hi' => by rw [show x + 14 + 5 * i' = x + 13 + 5 * i' + 1 by omega]; exact c_tab_cg (by rw [show x + 13 + 5 * i' + 1 = x + 14 + 5 * i' by omega]; exact h6 i' hi') (fun a ha hb => e a (by omega)), fun j' hj' => by rw [show x + 34 + 4 * j' = x + 33 + 4 * j' + 1 by omega]; exact c_kee_cg (by rw [show x + 33 + 4 * j' + 1 = x + 34 + 4 * j' by omega]; exact h7 j' hj') (fun a ha hb => e a (by omega))⟩
theorem c_upA (h : c_all x G H) {s : (Nat → Int32) × (Nat → Int32) × Nat} (e : ∀ a, (a < x + 2 ∨ x + 8 ≤ a) → H1 a = H a) (hn : c_ask H1 (x + 2) s) : c_all x (G.1, G.2.1, G.2.2.1, s, G.2.2.2.2) H1 := by
  obtain ⟨h0, ⟨f1, h1, h1b⟩, h2, h3, ⟨f4, h4, h4b⟩, ⟨be, h5⟩, h6, h7⟩ := h
  exact ⟨(e x (by omega)).trans h0, ⟨f1, (e (x + 1) (by omega)).trans h1, h1b⟩, hn, c_row_cg h3 (fun a ha hb => e a (by omega)), ⟨f4, (e (x + 11) (by omega)).trans h4, h4b⟩, ⟨be, (e (x + 12) (by omega)).trans h5⟩, fun i' hi' => by rw [show x + 14 + 5 * i' = x + 13 + 5 * i' + 1 by omega]; exact c_tab_cg (by rw [show x + 13 + 5 * i' + 1 = x + 14 + 5 * i' by omega]; exact h6 i' hi') (fun a ha hb => e a (by omega)), fun j' hj' => by rw [show x + 34 + 4 * j' = x + 33 + 4 * j' + 1 by omega]; exact c_kee_cg (by rw [show x + 33 + 4 * j' + 1 = x + 34 + 4 * j' by omega]; exact h7 j' hj') (fun a ha hb => e a (by omega))⟩
theorem c_up0 (h : c_all x G H) {rf kn : Int32} (e : ∀ a, (a < x ∨ x + 1 ≤ a) → H1 a = H a) (hn : H1 x = some (c_top x rf kn)) : c_all x (G.1, G.2.1, G.2.2.1, G.2.2.2.1, rf, kn) H1 := by
  obtain ⟨h0, ⟨f1, h1, h1b⟩, h2, h3, ⟨f4, h4, h4b⟩, ⟨be, h5⟩, h6, h7⟩ := h
  exact ⟨hn, ⟨f1, (e (x + 1) (by omega)).trans h1, h1b⟩, c_ask_cg h2 (fun a ha hb => e a (by omega)), c_row_cg h3 (fun a ha hb => e a (by omega)), ⟨f4, (e (x + 11) (by omega)).trans h4, h4b⟩, ⟨be, (e (x + 12) (by omega)).trans h5⟩, fun i' hi' => by rw [show x + 14 + 5 * i' = x + 13 + 5 * i' + 1 by omega]; exact c_tab_cg (by rw [show x + 13 + 5 * i' + 1 = x + 14 + 5 * i' by omega]; exact h6 i' hi') (fun a ha hb => e a (by omega)), fun j' hj' => by rw [show x + 34 + 4 * j' = x + 33 + 4 * j' + 1 by omega]; exact c_kee_cg (by rw [show x + 33 + 4 * j' + 1 = x + 34 + 4 * j' by omega]; exact h7 j' hj') (fun a ha hb => e a (by omega))⟩
theorem c_upB (h : c_all x G H) {be' : Nat → Int32} (e : ∀ a, (a < x + 12 ∨ x + 13 ≤ a) → H1 a = H a) (hn : H1 (x + 12) = some (.inl (0, 6, fun i => .int (be' i)))) : c_all x G H1 := by
  obtain ⟨h0, ⟨f1, h1, h1b⟩, h2, h3, ⟨f4, h4, h4b⟩, ⟨be, h5⟩, h6, h7⟩ := h
  exact ⟨(e x (by omega)).trans h0, ⟨f1, (e (x + 1) (by omega)).trans h1, h1b⟩, c_ask_cg h2 (fun a ha hb => e a (by omega)), c_row_cg h3 (fun a ha hb => e a (by omega)), ⟨f4, (e (x + 11) (by omega)).trans h4, h4b⟩, ⟨be', hn⟩, fun i' hi' => by rw [show x + 14 + 5 * i' = x + 13 + 5 * i' + 1 by omega]; exact c_tab_cg (by rw [show x + 13 + 5 * i' + 1 = x + 14 + 5 * i' by omega]; exact h6 i' hi') (fun a ha hb => e a (by omega)), fun j' hj' => by rw [show x + 34 + 4 * j' = x + 33 + 4 * j' + 1 by omega]; exact c_kee_cg (by rw [show x + 33 + 4 * j' + 1 = x + 34 + 4 * j' by omega]; exact h7 j' hj') (fun a ha hb => e a (by omega))⟩
theorem c_cg (h : c_all x G H) (e : ∀ a, x ≤ a → a < x + 57 → H1 a = H a) : c_all x G H1 := by
  obtain ⟨h0, ⟨f1, h1, h1b⟩, h2, h3, ⟨f4, h4, h4b⟩, ⟨be, h5⟩, h6, h7⟩ := h
  exact ⟨(e x (by omega) (by omega)).trans h0, ⟨f1, (e (x + 1) (by omega) (by omega)).trans h1, h1b⟩, c_ask_cg h2 (fun a ha hb => e a (by omega) (by omega)), c_row_cg h3 (fun a ha hb => e a (by omega) (by omega)), ⟨f4, (e (x + 11) (by omega) (by omega)).trans h4, h4b⟩, ⟨be, (e (x + 12) (by omega) (by omega)).trans h5⟩,
    fun i' hi' => by rw [show x + 14 + 5 * i' = x + 13 + 5 * i' + 1 by omega]; exact c_tab_cg (by rw [show x + 13 + 5 * i' + 1 = x + 14 + 5 * i' by omega]; exact h6 i' hi') (fun a ha hb => e a (by omega) (by omega)),
    fun j' hj' => by rw [show x + 34 + 4 * j' = x + 33 + 4 * j' + 1 by omega]; exact c_kee_cg (by rw [show x + 33 + 4 * j' + 1 = x + 34 + 4 * j' by omega]; exact h7 j' hj') (fun a ha hb => e a (by omega) (by omega))⟩
end CA
end
section
/-! ===== rows whose keys are apart ===== -/
def okL (L : ev_PL) : Prop := (L.map Prod.fst).Nodup ∧ ∀ x ∈ L, x.1 ∈ (List.range 20).map nI
theorem okL_len {L : ev_PL} (h : okL L) : L.length ≤ 20 := by
  have h1 : L.map Prod.fst ⊆ (List.range 20).map nI := fun a ha => by
    obtain ⟨x, hx, rfl⟩ := List.mem_map.mp ha
    exact h.2 x hx
  have h2 := List.Nodup.length_le_of_subset h.1 h1
  rw [List.length_map, List.length_map, List.length_range] at h2
  exact h2
theorem okL_key {a : Nat} (h : a < 20) : nI a ∈ (List.range 20).map nI := List.mem_map.mpr ⟨a, List.mem_range.mpr h, rfl⟩
theorem okL_nil : okL [] := ⟨List.nodup_nil, fun x hx => absurd hx (List.not_mem_nil)⟩
theorem okL_app {L : ev_PL} (h : okL L) {k v : Int32} (hk : k ∈ (List.range 20).map nI) (hn : ∀ x ∈ L, ¬ x.1 = k) : okL (L ++ [(k, v)]) := by
  refine ⟨?_, fun x hx => ?_⟩
  · rw [List.map_append]
    refine List.nodup_append.mpr ⟨h.1, List.nodup_cons.mpr ⟨List.not_mem_nil, List.nodup_nil⟩, fun a ha b hb => ?_⟩
    obtain ⟨x, hx, rfl⟩ := List.mem_map.mp ha
    rw [List.mem_singleton.mp hb]
    exact hn x hx
  · rcases List.mem_append.mp hx with hx | hx
    · exact h.2 x hx
    · rw [List.mem_singleton.mp hx]
      exact hk
theorem okL_new {L : ev_PL} (h : okL L) {k : Int32} (hk : k ∈ (List.range 20).map nI) (e : pf_find L k = none) : (∀ v, okL (L ++ [(k, v)])) ∧ L.length < 20 := by
  have hn : ∀ x ∈ L, ¬ x.1 = k := fun x hx => by
    unfold pf_find at e
    rw [List.findIdx?_eq_none_iff] at e
    exact of_decide_eq_false (e x hx)
  have h1 := fun v => okL_app (v := v) h hk hn
  refine ⟨h1, ?_⟩
  have h2 := okL_len (h1 0)
  rw [List.length_append] at h2
  simp only [List.length_cons, List.length_nil] at h2
  omega
theorem okL_del {L : ev_PL} (h : okL L) (j : Nat) : okL (L.eraseIdx j) :=
  ⟨List.Nodup.sublist ((List.eraseIdx_sublist L j).map Prod.fst) h.1, fun x hx => h.2 x (List.mem_of_mem_eraseIdx hx)⟩
theorem okL_setm {L : ev_PL} {j : Nat} (hj : j < L.length) (v : Int32) : (L.set j ((pf_at L j).1, v)).map Prod.fst = L.map Prod.fst := by
  apply List.ext_getElem?
  intro i
  rw [List.getElem?_map, List.getElem?_map]
  by_cases e : i = j
  · subst e
    rw [List.getElem?_set_self hj]
    unfold pf_at
    rw [List.getD_eq_getElem?_getD, List.getElem?_eq_getElem hj]
    rfl
  · rw [List.getElem?_set_ne (Ne.symm e)]
theorem okL_set {L : ev_PL} (h : okL L) {j : Nat} (hj : j < L.length) (v : Int32) : okL (L.set j ((pf_at L j).1, v)) := by
  refine ⟨by rw [okL_setm hj]; exact h.1, fun x hx => ?_⟩
  have h1 : x.1 ∈ (L.set j ((pf_at L j).1, v)).map Prod.fst := List.mem_map.mpr ⟨x, hx, rfl⟩
  rw [okL_setm hj] at h1
  obtain ⟨y, hy, e⟩ := List.mem_map.mp h1
  rw [← e]
  exact h.2 y hy
theorem okL_mov {L : ev_PL} (h : okL L) {j : Nat} (hj : j < L.length) : okL (L.eraseIdx j ++ [pf_at L j]) := by
  have ea : pf_at L j = L[j] := by
    unfold pf_at
    rw [List.getD_eq_getElem?_getD, List.getElem?_eq_getElem hj]
    rfl
  have hs : L.map Prod.fst = (L.take j).map Prod.fst ++ (L[j].1 :: (L.drop (j + 1)).map Prod.fst) := by
    rw [← List.map_cons, ← List.drop_eq_getElem_cons hj, ← List.map_append, List.take_append_drop]
  have hN := h.1
  rw [hs] at hN
  obtain ⟨n1, n2, n3⟩ := List.nodup_append.mp hN
  have n4 := (List.nodup_cons.mp n2).1
  rw [ea]
  refine okL_app (okL_del h j) (h.2 _ (List.getElem_mem hj)) fun x hx => ?_
  rw [List.eraseIdx_eq_take_drop_succ] at hx
  rcases List.mem_append.mp hx with hx | hx
  · exact n3 _ (List.mem_map.mpr ⟨x, hx, rfl⟩) _ List.mem_cons_self
  · exact fun e => n4 (e ▸ List.mem_map.mpr ⟨x, hx, rfl⟩)
theorem okL_ask {L : ev_PL} (h : okL L) (b : Int32) {j : Nat} (hj : j < L.length) : okL (pr_ask L b j) := by
  unfold pr_ask
  split
  · exact h
  · exact okL_mov h hj
theorem okL_take {L : ev_PL} (h : okL L) {k : Int32} (hk : k ∈ (List.range 20).map nI) (e : pf_find L k = none) (m lm ll v : Int32) : okL (pr_take L m lm ll k v).1 := by
  unfold pr_take
  split
  · exact okL_del ((okL_new h hk e).1 v) 0
  · exact (okL_new h hk e).1 v
theorem okL_bring {L : ev_PL} (h : okL L) {k : Int32} (hk : k ∈ (List.range 20).map nI) (b m lm ll v : Int32) : okL (pr_bring L b m lm ll k v).2.1 := by
  unfold pr_bring
  rcases e : pf_find L k with _ | j
  · exact okL_take h hk e m lm ll v
  · have hj := (pf_find_s e).1
    exact okL_ask (okL_set h hj v) b (by rw [List.length_set]; exact hj)
theorem okL_fetch {L : ev_PL} (h : okL L) (b k o : Int32) : okL (pr_fetch L b k o).2 := by
  unfold pr_fetch
  rcases e : pf_find L k with _ | j
  · exact h
  · exact okL_ask h b (pf_find_s e).1
theorem okL_fetchIn {L : ev_PL} (h : okL L) {k : Int32} (hk : k ∈ (List.range 20).map nI) (b m lm ll v : Int32) : okL (pr_fetchIn L b m lm ll k v).2.1 := by
  unfold pr_fetchIn
  rcases e : pf_find L k with _ | j
  · exact okL_take h hk e m lm ll v
  · exact okL_ask h b (pf_find_s e).1
theorem okL_drop {L : ev_PL} (h : okL L) (k : Int32) : okL (pr_drop L k).2 := by
  unfold pr_drop
  rcases e : pf_find L k with _ | j
  · exact h
  · exact okL_del h j
end
section
/-! ===== the class: what is demanded, and the calls on its tables ===== -/
def okT (s : ev_TS) : Prop := okL s.1 ∧ ev_isB s.2.1.1 ∧ s.2.2.2.2 ≤ 20 ∧ (s.2.2.1.1 = true → s.2.2.1.2.1 = false → s.2.2.2.2 ≤ s.1.length ∧ (s.2.2.1.2.2 = true → 1 ≤ s.2.2.2.2))
def okG (G : ev_CS) : Prop := (∀ i, i < 4 → okT (G.1 i)) ∧ okL G.2.1.1 ∧ (∀ j, j < 6 → okL (G.2.2.1 j).1) ∧ G.2.2.2.1.2.2 ≤ 60
def c_fr (x : Nat) (H H1 : ev_M) : Prop := ∀ a, (a < x ∨ x + 57 ≤ a) → H1 a = H a
def pg_T (G : ev_CS) (i : Nat) (s : ev_TS) : ev_CS := (fun i' => if i' = i then s else G.1 i', G.2)
theorem okG_T {G : ev_CS} (h : okG G) {i : Nat} {s : ev_TS} (hs : okT s) : okG (pg_T G i s) := by
  refine ⟨fun i' hi' => ?_, h.2⟩
  show okT (if i' = i then s else G.1 i')
  split
  · exact hs
  · exact h.1 i' hi'
section CM
variable {X : ev_E} {x : Nat} {G : ev_CS} {H : ev_M} {n q : Nat} {P : ev_O → ev_M → Nat → Nat → Prop}
theorem c_all_k (hc : c_all x G H) : ev_isK (ev_lk X H x) 10 = True := by
  rw [ev_lk_s hc.1]
  exact ev_isK_y
theorem C_tableOf_y (hc : c_all x G H) {i : Nat} (hi : i < 4) : ev_ok (ev_TT X) 59 0 [.ref x, .int (nI i)] [] H n q P ↔ P (.inl (some (.ref (x + 13 + 5 * i)))) H n q := by
  obtain ⟨h0, ⟨f1, h1, h1b⟩, -⟩ := hc
  unfold c_top at h0
  have hA := nI_pos (n := i) (by omega)
  have hB : nI i < 4 := nI_lt (b := 4) hi (by omega)
  have hp := nI_pos' (n := i) (by omega)
  have hf := h1b i hi
  simp (disch := omega) only [t_X5_tableOf_0, t_X5_tableOf_1, t_X5_tableOf_4, t_X5_tableOf_5, t_X5_tableOf_6, t_X5_tableOf_9, t_X5_tableOf_20, t_X5_tableOf_21, t_X5_tableOf_24, t_X5_tableOf_25, t_X5_tableOf_26, ↓reduceIte, ev_k_i, ev_k_r, ev_k_l, ev_k_J, ev_k_n, ev_kr_1, ev_kr_0, ev_isK_y, ev_aG_y, ev_aS_y, ev_aN_y, ev_inA_0, ev_isA_0, ev_ft_I, ev_ft_0, ev_ft_1, ev_ft_o, ev_ft_a, ev_nb_0, ev_nb_1, and_true, true_and, if_true, if_false, not_true_eq_false, not_false_eq_true, nI_1, ev_fG_0, ev_fG_1, ev_fG_2, ev_fG_3, ev_fG_4, ev_fG_5, ev_fG_6, ev_fG_7, ev_fG_8, ev_fS_0, ev_fS_1, ev_fS_2, ev_fS_3, ev_fS_4, ev_fS_5, ev_fS_6, ev_fS_7, ev_fS_8, ev_isO_0, ev_isO_1, ev_isO_2, ev_isO_3, ev_isO_4, ev_isO_5, ev_isO_6, ev_isO_7, ev_isO_8, ev_z0, ev_z1, ev_z2, eq_self, ev_ofN, ev_lk_s h0, ev_lk_s h1, ev_inA_3, nI_clamp, hp, hi, hf, hA, hB]
theorem C_tableOf_n {t : Int32} (ht : t < 0 ∨ nI 4 ≤ t) : ev_ok (ev_TT X) 59 0 [.ref x, .int t] [] H n q P ↔ P (.inr 0) H (n + 1) (q + 6) := by
  by_cases h0 : t < 0
  · simp (disch := omega) only [t_X5_tableOf_0, t_X5_tableOf_1, t_X5_tableOf_4, t_X5_tableOf_5, t_X5_tableOf_6, t_X5_tableOf_9, t_X5_tableOf_20, t_X5_tableOf_21, t_X5_tableOf_24, t_X5_tableOf_25, t_X5_tableOf_26, ↓reduceIte, ev_k_i, ev_k_r, ev_k_l, ev_k_J, ev_k_n, ev_kr_1, ev_kr_0, ev_isK_y, ev_aG_y, ev_aS_y, ev_aN_y, ev_inA_0, ev_isA_0, ev_ft_I, ev_ft_0, ev_ft_1, ev_ft_o, ev_ft_a, ev_nb_0, ev_nb_1, and_true, true_and, if_true, if_false, not_true_eq_false, not_false_eq_true, nI_1, ev_fG_0, ev_fG_1, ev_fG_2, ev_fG_3, ev_fG_4, ev_fG_5, ev_fG_6, ev_fG_7, ev_fG_8, ev_fS_0, ev_fS_1, ev_fS_2, ev_fS_3, ev_fS_4, ev_fS_5, ev_fS_6, ev_fS_7, ev_fS_8, ev_isO_0, ev_isO_1, ev_isO_2, ev_isO_3, ev_isO_4, ev_isO_5, ev_isO_6, ev_isO_7, ev_isO_8, ev_z0, ev_z1, ev_z2, eq_self, ev_ofN, h0]
  · have hB : ¬ t < 4 := Int32.not_lt.mpr (ht.resolve_left h0)
    simp (disch := omega) only [t_X5_tableOf_0, t_X5_tableOf_1, t_X5_tableOf_4, t_X5_tableOf_5, t_X5_tableOf_6, t_X5_tableOf_9, t_X5_tableOf_20, t_X5_tableOf_21, t_X5_tableOf_24, t_X5_tableOf_25, t_X5_tableOf_26, ↓reduceIte, ev_k_i, ev_k_r, ev_k_l, ev_k_J, ev_k_n, ev_kr_1, ev_kr_0, ev_isK_y, ev_aG_y, ev_aS_y, ev_aN_y, ev_inA_0, ev_isA_0, ev_ft_I, ev_ft_0, ev_ft_1, ev_ft_o, ev_ft_a, ev_nb_0, ev_nb_1, and_true, true_and, if_true, if_false, not_true_eq_false, not_false_eq_true, nI_1, ev_fG_0, ev_fG_1, ev_fG_2, ev_fG_3, ev_fG_4, ev_fG_5, ev_fG_6, ev_fG_7, ev_fG_8, ev_fS_0, ev_fS_1, ev_fS_2, ev_fS_3, ev_fS_4, ev_fS_5, ev_fS_6, ev_fS_7, ev_fS_8, ev_isO_0, ev_isO_1, ev_isO_2, ev_isO_3, ev_isO_4, ev_isO_5, ev_isO_6, ev_isO_7, ev_isO_8, ev_z0, ev_z1, ev_z2, eq_self, ev_ofN, h0, hB]
theorem C_dKey_y {a : Nat} (ha : a < 20) : ev_ok (ev_TT X) 48 0 [.int (nI a)] [] H n q P ↔ P (.inl none) H n q := by
  have hA := nI_pos (n := a) (by omega)
  have hB : nI a < 20 := nI_lt (b := 20) ha (by omega)
  have hB2 : nI a ≤ 19 := nI_le (b := 19) (by omega) (by omega)
  have hB3 : ¬ (19 : Int32) < nI a := Int32.not_lt.mpr hB2
  simp (disch := omega) only [t_X5_demandKey_0, t_X5_demandKey_1, t_X5_demandKey_4, t_X5_demandKey_5, t_X5_demandKey_7, t_X5_demandKey_10, t_X5_demandKey_21, ↓reduceIte, ev_k_i, ev_k_r, ev_k_l, ev_k_J, ev_k_n, ev_kr_1, ev_kr_0, ev_isK_y, ev_aG_y, ev_aS_y, ev_aN_y, ev_inA_0, ev_isA_0, ev_ft_I, ev_ft_0, ev_ft_1, ev_ft_o, ev_ft_a, ev_nb_0, ev_nb_1, and_true, true_and, if_true, if_false, not_true_eq_false, not_false_eq_true, nI_1, ev_fG_0, ev_fG_1, ev_fG_2, ev_fG_3, ev_fG_4, ev_fG_5, ev_fG_6, ev_fG_7, ev_fG_8, ev_fS_0, ev_fS_1, ev_fS_2, ev_fS_3, ev_fS_4, ev_fS_5, ev_fS_6, ev_fS_7, ev_fS_8, ev_isO_0, ev_isO_1, ev_isO_2, ev_isO_3, ev_isO_4, ev_isO_5, ev_isO_6, ev_isO_7, ev_isO_8, ev_z0, ev_z1, ev_z2, eq_self, ev_ofN, hA, hB, hB2, hB3]
theorem C_dKey_n {v : Int32} (hv : v < 0 ∨ nI 20 ≤ v) : ev_ok (ev_TT X) 48 0 [.int v] [] H n q P ↔ P (.inr 1) H (n + 1) (q + 6) := by
  by_cases h0 : v < 0
  · simp (disch := omega) only [t_X5_demandKey_0, t_X5_demandKey_1, t_X5_demandKey_4, t_X5_demandKey_5, t_X5_demandKey_7, t_X5_demandKey_10, t_X5_demandKey_21, ↓reduceIte, ev_k_i, ev_k_r, ev_k_l, ev_k_J, ev_k_n, ev_kr_1, ev_kr_0, ev_isK_y, ev_aG_y, ev_aS_y, ev_aN_y, ev_inA_0, ev_isA_0, ev_ft_I, ev_ft_0, ev_ft_1, ev_ft_o, ev_ft_a, ev_nb_0, ev_nb_1, and_true, true_and, if_true, if_false, not_true_eq_false, not_false_eq_true, nI_1, ev_fG_0, ev_fG_1, ev_fG_2, ev_fG_3, ev_fG_4, ev_fG_5, ev_fG_6, ev_fG_7, ev_fG_8, ev_fS_0, ev_fS_1, ev_fS_2, ev_fS_3, ev_fS_4, ev_fS_5, ev_fS_6, ev_fS_7, ev_fS_8, ev_isO_0, ev_isO_1, ev_isO_2, ev_isO_3, ev_isO_4, ev_isO_5, ev_isO_6, ev_isO_7, ev_isO_8, ev_z0, ev_z1, ev_z2, eq_self, ev_ofN, h0]
  · have hB : ¬ v < 20 := Int32.not_lt.mpr (hv.resolve_left h0)
    have hB2 : ¬ v ≤ 19 := fun z => hB (Int32.lt_of_le_of_lt z (by decide))
    have hB3 : (19 : Int32) < v := Int32.not_le.mp hB2
    simp (disch := omega) only [t_X5_demandKey_0, t_X5_demandKey_1, t_X5_demandKey_4, t_X5_demandKey_5, t_X5_demandKey_7, t_X5_demandKey_10, t_X5_demandKey_21, ↓reduceIte, ev_k_i, ev_k_r, ev_k_l, ev_k_J, ev_k_n, ev_kr_1, ev_kr_0, ev_isK_y, ev_aG_y, ev_aS_y, ev_aN_y, ev_inA_0, ev_isA_0, ev_ft_I, ev_ft_0, ev_ft_1, ev_ft_o, ev_ft_a, ev_nb_0, ev_nb_1, and_true, true_and, if_true, if_false, not_true_eq_false, not_false_eq_true, nI_1, ev_fG_0, ev_fG_1, ev_fG_2, ev_fG_3, ev_fG_4, ev_fG_5, ev_fG_6, ev_fG_7, ev_fG_8, ev_fS_0, ev_fS_1, ev_fS_2, ev_fS_3, ev_fS_4, ev_fS_5, ev_fS_6, ev_fS_7, ev_fS_8, ev_isO_0, ev_isO_1, ev_isO_2, ev_isO_3, ev_isO_4, ev_isO_5, ev_isO_6, ev_isO_7, ev_isO_8, ev_z0, ev_z1, ev_z2, eq_self, ev_ofN, h0, hB, hB2, hB3]
theorem C_dVal_y {a : Nat} (ha : a < 100) : ev_ok (ev_TT X) 52 0 [.int (nI a)] [] H n q P ↔ P (.inl none) H n q := by
  have hA := nI_pos (n := a) (by omega)
  have hB : nI a < 100 := nI_lt (b := 100) ha (by omega)
  have hB2 : nI a ≤ 99 := nI_le (b := 99) (by omega) (by omega)
  have hB3 : ¬ (99 : Int32) < nI a := Int32.not_lt.mpr hB2
  simp (disch := omega) only [t_X5_demandValue_0, t_X5_demandValue_1, t_X5_demandValue_4, t_X5_demandValue_5, t_X5_demandValue_7, t_X5_demandValue_10, t_X5_demandValue_21, ↓reduceIte, ev_k_i, ev_k_r, ev_k_l, ev_k_J, ev_k_n, ev_kr_1, ev_kr_0, ev_isK_y, ev_aG_y, ev_aS_y, ev_aN_y, ev_inA_0, ev_isA_0, ev_ft_I, ev_ft_0, ev_ft_1, ev_ft_o, ev_ft_a, ev_nb_0, ev_nb_1, and_true, true_and, if_true, if_false, not_true_eq_false, not_false_eq_true, nI_1, ev_fG_0, ev_fG_1, ev_fG_2, ev_fG_3, ev_fG_4, ev_fG_5, ev_fG_6, ev_fG_7, ev_fG_8, ev_fS_0, ev_fS_1, ev_fS_2, ev_fS_3, ev_fS_4, ev_fS_5, ev_fS_6, ev_fS_7, ev_fS_8, ev_isO_0, ev_isO_1, ev_isO_2, ev_isO_3, ev_isO_4, ev_isO_5, ev_isO_6, ev_isO_7, ev_isO_8, ev_z0, ev_z1, ev_z2, eq_self, ev_ofN, hA, hB, hB2, hB3]
theorem C_dVal_n {v : Int32} (hv : v < 0 ∨ nI 100 ≤ v) : ev_ok (ev_TT X) 52 0 [.int v] [] H n q P ↔ P (.inr 1) H (n + 1) (q + 6) := by
  by_cases h0 : v < 0
  · simp (disch := omega) only [t_X5_demandValue_0, t_X5_demandValue_1, t_X5_demandValue_4, t_X5_demandValue_5, t_X5_demandValue_7, t_X5_demandValue_10, t_X5_demandValue_21, ↓reduceIte, ev_k_i, ev_k_r, ev_k_l, ev_k_J, ev_k_n, ev_kr_1, ev_kr_0, ev_isK_y, ev_aG_y, ev_aS_y, ev_aN_y, ev_inA_0, ev_isA_0, ev_ft_I, ev_ft_0, ev_ft_1, ev_ft_o, ev_ft_a, ev_nb_0, ev_nb_1, and_true, true_and, if_true, if_false, not_true_eq_false, not_false_eq_true, nI_1, ev_fG_0, ev_fG_1, ev_fG_2, ev_fG_3, ev_fG_4, ev_fG_5, ev_fG_6, ev_fG_7, ev_fG_8, ev_fS_0, ev_fS_1, ev_fS_2, ev_fS_3, ev_fS_4, ev_fS_5, ev_fS_6, ev_fS_7, ev_fS_8, ev_isO_0, ev_isO_1, ev_isO_2, ev_isO_3, ev_isO_4, ev_isO_5, ev_isO_6, ev_isO_7, ev_isO_8, ev_z0, ev_z1, ev_z2, eq_self, ev_ofN, h0]
  · have hB : ¬ v < 100 := Int32.not_lt.mpr (hv.resolve_left h0)
    have hB2 : ¬ v ≤ 99 := fun z => hB (Int32.lt_of_le_of_lt z (by decide))
    have hB3 : (99 : Int32) < v := Int32.not_le.mp hB2
    simp (disch := omega) only [t_X5_demandValue_0, t_X5_demandValue_1, t_X5_demandValue_4, t_X5_demandValue_5, t_X5_demandValue_7, t_X5_demandValue_10, t_X5_demandValue_21, ↓reduceIte, ev_k_i, ev_k_r, ev_k_l, ev_k_J, ev_k_n, ev_kr_1, ev_kr_0, ev_isK_y, ev_aG_y, ev_aS_y, ev_aN_y, ev_inA_0, ev_isA_0, ev_ft_I, ev_ft_0, ev_ft_1, ev_ft_o, ev_ft_a, ev_nb_0, ev_nb_1, and_true, true_and, if_true, if_false, not_true_eq_false, not_false_eq_true, nI_1, ev_fG_0, ev_fG_1, ev_fG_2, ev_fG_3, ev_fG_4, ev_fG_5, ev_fG_6, ev_fG_7, ev_fG_8, ev_fS_0, ev_fS_1, ev_fS_2, ev_fS_3, ev_fS_4, ev_fS_5, ev_fS_6, ev_fS_7, ev_fS_8, ev_isO_0, ev_isO_1, ev_isO_2, ev_isO_3, ev_isO_4, ev_isO_5, ev_isO_6, ev_isO_7, ev_isO_8, ev_z0, ev_z1, ev_z2, eq_self, ev_ofN, h0, hB, hB2, hB3]
theorem C_dWalk_y {a : Nat} (ha : a < 3) : ev_ok (ev_TT X) 49 0 [.int (nI a)] [] H n q P ↔ P (.inl none) H n q := by
  have hA := nI_pos (n := a) (by omega)
  have hB : nI a < 3 := nI_lt (b := 3) ha (by omega)
  have hB2 : nI a ≤ 2 := nI_le (b := 2) (by omega) (by omega)
  have hB3 : ¬ (2 : Int32) < nI a := Int32.not_lt.mpr hB2
  simp (disch := omega) only [t_X5_demandKindOfWalk_0, t_X5_demandKindOfWalk_1, t_X5_demandKindOfWalk_4, t_X5_demandKindOfWalk_5, t_X5_demandKindOfWalk_6, t_X5_demandKindOfWalk_9, t_X5_demandKindOfWalk_20, ↓reduceIte, ev_k_i, ev_k_r, ev_k_l, ev_k_J, ev_k_n, ev_kr_1, ev_kr_0, ev_isK_y, ev_aG_y, ev_aS_y, ev_aN_y, ev_inA_0, ev_isA_0, ev_ft_I, ev_ft_0, ev_ft_1, ev_ft_o, ev_ft_a, ev_nb_0, ev_nb_1, and_true, true_and, if_true, if_false, not_true_eq_false, not_false_eq_true, nI_1, ev_fG_0, ev_fG_1, ev_fG_2, ev_fG_3, ev_fG_4, ev_fG_5, ev_fG_6, ev_fG_7, ev_fG_8, ev_fS_0, ev_fS_1, ev_fS_2, ev_fS_3, ev_fS_4, ev_fS_5, ev_fS_6, ev_fS_7, ev_fS_8, ev_isO_0, ev_isO_1, ev_isO_2, ev_isO_3, ev_isO_4, ev_isO_5, ev_isO_6, ev_isO_7, ev_isO_8, ev_z0, ev_z1, ev_z2, eq_self, ev_ofN, hA, hB, hB2, hB3]
theorem C_dWalk_n {v : Int32} (hv : v < 0 ∨ nI 3 ≤ v) : ev_ok (ev_TT X) 49 0 [.int v] [] H n q P ↔ P (.inr 1) H (n + 1) (q + 6) := by
  by_cases h0 : v < 0
  · simp (disch := omega) only [t_X5_demandKindOfWalk_0, t_X5_demandKindOfWalk_1, t_X5_demandKindOfWalk_4, t_X5_demandKindOfWalk_5, t_X5_demandKindOfWalk_6, t_X5_demandKindOfWalk_9, t_X5_demandKindOfWalk_20, ↓reduceIte, ev_k_i, ev_k_r, ev_k_l, ev_k_J, ev_k_n, ev_kr_1, ev_kr_0, ev_isK_y, ev_aG_y, ev_aS_y, ev_aN_y, ev_inA_0, ev_isA_0, ev_ft_I, ev_ft_0, ev_ft_1, ev_ft_o, ev_ft_a, ev_nb_0, ev_nb_1, and_true, true_and, if_true, if_false, not_true_eq_false, not_false_eq_true, nI_1, ev_fG_0, ev_fG_1, ev_fG_2, ev_fG_3, ev_fG_4, ev_fG_5, ev_fG_6, ev_fG_7, ev_fG_8, ev_fS_0, ev_fS_1, ev_fS_2, ev_fS_3, ev_fS_4, ev_fS_5, ev_fS_6, ev_fS_7, ev_fS_8, ev_isO_0, ev_isO_1, ev_isO_2, ev_isO_3, ev_isO_4, ev_isO_5, ev_isO_6, ev_isO_7, ev_isO_8, ev_z0, ev_z1, ev_z2, eq_self, ev_ofN, h0]
  · have hB : ¬ v < 3 := Int32.not_lt.mpr (hv.resolve_left h0)
    have hB2 : ¬ v ≤ 2 := fun z => hB (Int32.lt_of_le_of_lt z (by decide))
    have hB3 : (2 : Int32) < v := Int32.not_le.mp hB2
    simp (disch := omega) only [t_X5_demandKindOfWalk_0, t_X5_demandKindOfWalk_1, t_X5_demandKindOfWalk_4, t_X5_demandKindOfWalk_5, t_X5_demandKindOfWalk_6, t_X5_demandKindOfWalk_9, t_X5_demandKindOfWalk_20, ↓reduceIte, ev_k_i, ev_k_r, ev_k_l, ev_k_J, ev_k_n, ev_kr_1, ev_kr_0, ev_isK_y, ev_aG_y, ev_aS_y, ev_aN_y, ev_inA_0, ev_isA_0, ev_ft_I, ev_ft_0, ev_ft_1, ev_ft_o, ev_ft_a, ev_nb_0, ev_nb_1, and_true, true_and, if_true, if_false, not_true_eq_false, not_false_eq_true, nI_1, ev_fG_0, ev_fG_1, ev_fG_2, ev_fG_3, ev_fG_4, ev_fG_5, ev_fG_6, ev_fG_7, ev_fG_8, ev_fS_0, ev_fS_1, ev_fS_2, ev_fS_3, ev_fS_4, ev_fS_5, ev_fS_6, ev_fS_7, ev_fS_8, ev_isO_0, ev_isO_1, ev_isO_2, ev_isO_3, ev_isO_4, ev_isO_5, ev_isO_6, ev_isO_7, ev_isO_8, ev_z0, ev_z1, ev_z2, eq_self, ev_ofN, h0, hB, hB2, hB3]
def ps_old (s : ev_TS) (L : ev_PL) (lm ll : Int32) : ev_TS := (L, (s.2.1.1, s.2.1.2.1, lm, ll), (s.2.2.1.1, true, s.2.2.1.2.2), s.2.2.2.1, s.2.2.2.2)
theorem okT_old {s : ev_TS} (h : okT s) {L : ev_PL} (hL : okL L) (lm ll : Int32) : okT (ps_old s L lm ll) := ⟨hL, h.2.1, h.2.2.1, fun _ z => by cases z⟩
/-- a table's row and walk after a change -/
theorem c_tab_old (hc : c_all x G H) {i : Nat} (hi : i < 4) {L : ev_PL} {lm ll : Int32} {H1 : ev_M}
    (hH : ev_rL (ev_up H (x + 14 + 5 * i + 3) (ev_wkc (x + 14 + 5 * i) (G.1 i).2.2.1.1 true (G.1 i).2.2.1.2.2 (G.1 i).2.2.2.1 (G.1 i).2.2.2.2)) (x + 14 + 5 * i) L (G.1 i).2.1.1 (G.1 i).2.1.2.1 lm ll H1) :
    c_all x (pg_T G i (ps_old (G.1 i) L lm ll)) H1 ∧ c_fr x H H1 := by
  have ho : ∀ a, (a < x + 13 + 5 * i ∨ x + 18 + 5 * i ≤ a) → H1 a = H a := fun a ha =>
    (ev_rL_o hH (by omega) (by omega) (by omega)).trans (ev_up_n (by omega))
  refine ⟨c_upT hc hi ho ⟨?_, c_row_of hH, ?_⟩, fun a ha => ho a (by omega)⟩
  · rw [ev_rL_o hH (by omega) (by omega) (by omega), ev_up_n (by omega)]
    exact (hc.2.2.2.2.2.2.1 i hi).1
  · rw [ev_rL_o hH (by omega) (by omega) (by omega), ev_up_s]
    rfl
theorem C_put (hc : c_all x G H) (hG : okG G) {t k v : Int32} (k0 : t < 0 ∨ nI 4 ≤ t → P (.inr 0) H (n + 1) (q + 6))
    (k1 : ∀ i, i < 4 → t = nI i → ((k < 0 ∨ nI 20 ≤ k) ∨ (v < 0 ∨ nI 100 ≤ v)) → P (.inr 1) H (n + 1) (q + 6))
    (k2 : ∀ i a b, i < 4 → t = nI i → a < 20 → k = nI a → b < 100 → v = nI b → ∀ H1, c_all x (pg_T G i (ps_old (G.1 i) (pr_bring (G.1 i).1 (G.1 i).2.1.1 (G.1 i).2.1.2.1 (G.1 i).2.1.2.2.1 (G.1 i).2.1.2.2.2 k v).2.1 (pr_bring (G.1 i).1 (G.1 i).2.1.1 (G.1 i).2.1.2.1 (G.1 i).2.1.2.2.1 (G.1 i).2.1.2.2.2 k v).2.2.1 (pr_bring (G.1 i).1 (G.1 i).2.1.1 (G.1 i).2.1.2.1 (G.1 i).2.1.2.2.1 (G.1 i).2.1.2.2.2 k v).2.2.2)) H1 → c_fr x H H1 →
      P (.inl (some (.int (pr_bring (G.1 i).1 (G.1 i).2.1.1 (G.1 i).2.1.2.1 (G.1 i).2.1.2.2.1 (G.1 i).2.1.2.2.2 k v).1))) H1 n q) : ev_ok (ev_TT X) 230 0 [.ref x, .int t, .int k, .int v, ev_J] [] H n q P := by
  have hk := c_all_k (X := X) hc
  rcases pk_ix t (n := 4) (by omega) with h | h | ⟨i, hi, rfl⟩
  · simp (disch := omega) only [t_X5_put_0, t_X5_put_1, t_X5_put_2, t_X5_put_5, t_X5_put_7, t_X5_put_8, t_X5_put_11, t_X5_put_12, t_X5_put_15, t_X5_put_17, t_X5_put_20, t_X5_put_23, t_X5_put_25, t_X5_put_28, t_X5_put_29, t_X5_put_30, t_X5_put_33, x_X5_put_2, x_X5_put_8, x_X5_put_12, x_X5_put_20, x_X5_put_30, ↓reduceIte, ev_k_i, ev_k_r, ev_k_l, ev_k_J, ev_k_n, ev_kr_1, ev_kr_0, ev_isK_y, ev_aG_y, ev_aS_y, ev_aN_y, ev_inA_0, ev_isA_0, ev_ft_I, ev_ft_0, ev_ft_1, ev_ft_o, ev_ft_a, ev_nb_0, ev_nb_1, and_true, true_and, if_true, if_false, not_true_eq_false, not_false_eq_true, nI_1, ev_fG_0, ev_fG_1, ev_fG_2, ev_fG_3, ev_fG_4, ev_fG_5, ev_fG_6, ev_fG_7, ev_fG_8, ev_fS_0, ev_fS_1, ev_fS_2, ev_fS_3, ev_fS_4, ev_fS_5, ev_fS_6, ev_fS_7, ev_fS_8, ev_isO_0, ev_isO_1, ev_isO_2, ev_isO_3, ev_isO_4, ev_isO_5, ev_isO_6, ev_isO_7, ev_isO_8, ev_z0, ev_z1, ev_z2, eq_self, ev_ofN, hk, C_tableOf_n (Or.inl h)]
    exact k0 (Or.inl h)
  · simp (disch := omega) only [t_X5_put_0, t_X5_put_1, t_X5_put_2, t_X5_put_5, t_X5_put_7, t_X5_put_8, t_X5_put_11, t_X5_put_12, t_X5_put_15, t_X5_put_17, t_X5_put_20, t_X5_put_23, t_X5_put_25, t_X5_put_28, t_X5_put_29, t_X5_put_30, t_X5_put_33, x_X5_put_2, x_X5_put_8, x_X5_put_12, x_X5_put_20, x_X5_put_30, ↓reduceIte, ev_k_i, ev_k_r, ev_k_l, ev_k_J, ev_k_n, ev_kr_1, ev_kr_0, ev_isK_y, ev_aG_y, ev_aS_y, ev_aN_y, ev_inA_0, ev_isA_0, ev_ft_I, ev_ft_0, ev_ft_1, ev_ft_o, ev_ft_a, ev_nb_0, ev_nb_1, and_true, true_and, if_true, if_false, not_true_eq_false, not_false_eq_true, nI_1, ev_fG_0, ev_fG_1, ev_fG_2, ev_fG_3, ev_fG_4, ev_fG_5, ev_fG_6, ev_fG_7, ev_fG_8, ev_fS_0, ev_fS_1, ev_fS_2, ev_fS_3, ev_fS_4, ev_fS_5, ev_fS_6, ev_fS_7, ev_fS_8, ev_isO_0, ev_isO_1, ev_isO_2, ev_isO_3, ev_isO_4, ev_isO_5, ev_isO_6, ev_isO_7, ev_isO_8, ev_z0, ev_z1, ev_z2, eq_self, ev_ofN, hk, C_tableOf_n (Or.inr h)]
    exact k0 (Or.inr h)
  · rcases pk_ix k (n := 20) (by omega) with h | h | ⟨a, ha, rfl⟩
    · simp (disch := omega) only [t_X5_put_0, t_X5_put_1, t_X5_put_2, t_X5_put_5, t_X5_put_7, t_X5_put_8, t_X5_put_11, t_X5_put_12, t_X5_put_15, t_X5_put_17, t_X5_put_20, t_X5_put_23, t_X5_put_25, t_X5_put_28, t_X5_put_29, t_X5_put_30, t_X5_put_33, x_X5_put_2, x_X5_put_8, x_X5_put_12, x_X5_put_20, x_X5_put_30, ↓reduceIte, ev_k_i, ev_k_r, ev_k_l, ev_k_J, ev_k_n, ev_kr_1, ev_kr_0, ev_isK_y, ev_aG_y, ev_aS_y, ev_aN_y, ev_inA_0, ev_isA_0, ev_ft_I, ev_ft_0, ev_ft_1, ev_ft_o, ev_ft_a, ev_nb_0, ev_nb_1, and_true, true_and, if_true, if_false, not_true_eq_false, not_false_eq_true, nI_1, ev_fG_0, ev_fG_1, ev_fG_2, ev_fG_3, ev_fG_4, ev_fG_5, ev_fG_6, ev_fG_7, ev_fG_8, ev_fS_0, ev_fS_1, ev_fS_2, ev_fS_3, ev_fS_4, ev_fS_5, ev_fS_6, ev_fS_7, ev_fS_8, ev_isO_0, ev_isO_1, ev_isO_2, ev_isO_3, ev_isO_4, ev_isO_5, ev_isO_6, ev_isO_7, ev_isO_8, ev_z0, ev_z1, ev_z2, eq_self, ev_ofN, hk, C_tableOf_y hc hi, C_dKey_n (Or.inl h)]
      exact k1 i hi rfl (Or.inl (Or.inl h))
    · simp (disch := omega) only [t_X5_put_0, t_X5_put_1, t_X5_put_2, t_X5_put_5, t_X5_put_7, t_X5_put_8, t_X5_put_11, t_X5_put_12, t_X5_put_15, t_X5_put_17, t_X5_put_20, t_X5_put_23, t_X5_put_25, t_X5_put_28, t_X5_put_29, t_X5_put_30, t_X5_put_33, x_X5_put_2, x_X5_put_8, x_X5_put_12, x_X5_put_20, x_X5_put_30, ↓reduceIte, ev_k_i, ev_k_r, ev_k_l, ev_k_J, ev_k_n, ev_kr_1, ev_kr_0, ev_isK_y, ev_aG_y, ev_aS_y, ev_aN_y, ev_inA_0, ev_isA_0, ev_ft_I, ev_ft_0, ev_ft_1, ev_ft_o, ev_ft_a, ev_nb_0, ev_nb_1, and_true, true_and, if_true, if_false, not_true_eq_false, not_false_eq_true, nI_1, ev_fG_0, ev_fG_1, ev_fG_2, ev_fG_3, ev_fG_4, ev_fG_5, ev_fG_6, ev_fG_7, ev_fG_8, ev_fS_0, ev_fS_1, ev_fS_2, ev_fS_3, ev_fS_4, ev_fS_5, ev_fS_6, ev_fS_7, ev_fS_8, ev_isO_0, ev_isO_1, ev_isO_2, ev_isO_3, ev_isO_4, ev_isO_5, ev_isO_6, ev_isO_7, ev_isO_8, ev_z0, ev_z1, ev_z2, eq_self, ev_ofN, hk, C_tableOf_y hc hi, C_dKey_n (Or.inr h)]
      exact k1 i hi rfl (Or.inl (Or.inr h))
    · rcases pk_ix v (n := 100) (by omega) with h | h | ⟨b, hb, rfl⟩
      · simp (disch := omega) only [t_X5_put_0, t_X5_put_1, t_X5_put_2, t_X5_put_5, t_X5_put_7, t_X5_put_8, t_X5_put_11, t_X5_put_12, t_X5_put_15, t_X5_put_17, t_X5_put_20, t_X5_put_23, t_X5_put_25, t_X5_put_28, t_X5_put_29, t_X5_put_30, t_X5_put_33, x_X5_put_2, x_X5_put_8, x_X5_put_12, x_X5_put_20, x_X5_put_30, ↓reduceIte, ev_k_i, ev_k_r, ev_k_l, ev_k_J, ev_k_n, ev_kr_1, ev_kr_0, ev_isK_y, ev_aG_y, ev_aS_y, ev_aN_y, ev_inA_0, ev_isA_0, ev_ft_I, ev_ft_0, ev_ft_1, ev_ft_o, ev_ft_a, ev_nb_0, ev_nb_1, and_true, true_and, if_true, if_false, not_true_eq_false, not_false_eq_true, nI_1, ev_fG_0, ev_fG_1, ev_fG_2, ev_fG_3, ev_fG_4, ev_fG_5, ev_fG_6, ev_fG_7, ev_fG_8, ev_fS_0, ev_fS_1, ev_fS_2, ev_fS_3, ev_fS_4, ev_fS_5, ev_fS_6, ev_fS_7, ev_fS_8, ev_isO_0, ev_isO_1, ev_isO_2, ev_isO_3, ev_isO_4, ev_isO_5, ev_isO_6, ev_isO_7, ev_isO_8, ev_z0, ev_z1, ev_z2, eq_self, ev_ofN, hk, C_tableOf_y hc hi, C_dKey_y ha, C_dVal_n (Or.inl h)]
        exact k1 i hi rfl (Or.inr (Or.inl h))
      · simp (disch := omega) only [t_X5_put_0, t_X5_put_1, t_X5_put_2, t_X5_put_5, t_X5_put_7, t_X5_put_8, t_X5_put_11, t_X5_put_12, t_X5_put_15, t_X5_put_17, t_X5_put_20, t_X5_put_23, t_X5_put_25, t_X5_put_28, t_X5_put_29, t_X5_put_30, t_X5_put_33, x_X5_put_2, x_X5_put_8, x_X5_put_12, x_X5_put_20, x_X5_put_30, ↓reduceIte, ev_k_i, ev_k_r, ev_k_l, ev_k_J, ev_k_n, ev_kr_1, ev_kr_0, ev_isK_y, ev_aG_y, ev_aS_y, ev_aN_y, ev_inA_0, ev_isA_0, ev_ft_I, ev_ft_0, ev_ft_1, ev_ft_o, ev_ft_a, ev_nb_0, ev_nb_1, and_true, true_and, if_true, if_false, not_true_eq_false, not_false_eq_true, nI_1, ev_fG_0, ev_fG_1, ev_fG_2, ev_fG_3, ev_fG_4, ev_fG_5, ev_fG_6, ev_fG_7, ev_fG_8, ev_fS_0, ev_fS_1, ev_fS_2, ev_fS_3, ev_fS_4, ev_fS_5, ev_fS_6, ev_fS_7, ev_fS_8, ev_isO_0, ev_isO_1, ev_isO_2, ev_isO_3, ev_isO_4, ev_isO_5, ev_isO_6, ev_isO_7, ev_isO_8, ev_z0, ev_z1, ev_z2, eq_self, ev_ofN, hk, C_tableOf_y hc hi, C_dKey_y ha, C_dVal_n (Or.inr h)]
        exact k1 i hi rfl (Or.inr (Or.inr h))
      · obtain ⟨h1, h2, h3⟩ := hc.2.2.2.2.2.2.1 i hi
        have hT := hG.1 i hi
        unfold ev_tbc at h1
        have h3k : ev_isK (ev_lk X H (x + 14 + 5 * i + 3)) 9 = True := by rw [ev_lk_s h3]; exact ev_isK_y
        simp (disch := omega) only [t_X5_put_0, t_X5_put_1, t_X5_put_2, t_X5_put_5, t_X5_put_7, t_X5_put_8, t_X5_put_11, t_X5_put_12, t_X5_put_15, t_X5_put_17, t_X5_put_20, t_X5_put_23, t_X5_put_25, t_X5_put_28, t_X5_put_29, t_X5_put_30, t_X5_put_33, x_X5_put_2, x_X5_put_8, x_X5_put_12, x_X5_put_20, x_X5_put_30, ↓reduceIte, ev_k_i, ev_k_r, ev_k_l, ev_k_J, ev_k_n, ev_kr_1, ev_kr_0, ev_isK_y, ev_aG_y, ev_aS_y, ev_aN_y, ev_inA_0, ev_isA_0, ev_ft_I, ev_ft_0, ev_ft_1, ev_ft_o, ev_ft_a, ev_nb_0, ev_nb_1, and_true, true_and, if_true, if_false, not_true_eq_false, not_false_eq_true, nI_1, ev_fG_0, ev_fG_1, ev_fG_2, ev_fG_3, ev_fG_4, ev_fG_5, ev_fG_6, ev_fG_7, ev_fG_8, ev_fS_0, ev_fS_1, ev_fS_2, ev_fS_3, ev_fS_4, ev_fS_5, ev_fS_6, ev_fS_7, ev_fS_8, ev_isO_0, ev_isO_1, ev_isO_2, ev_isO_3, ev_isO_4, ev_isO_5, ev_isO_6, ev_isO_7, ev_isO_8, ev_z0, ev_z1, ev_z2, eq_self, ev_ofN, hk, C_tableOf_y hc hi, C_dKey_y ha, C_dVal_y hb, ev_lk_s h1, h3k]
        refine W_outdate h3 ?_
        have h1' := fun c => (ev_up_n (h := H) (a := x + 14 + 5 * i + 3) (b := x + 13 + 5 * i) (c := c) (by omega)).trans h1
        have h2' := ev_rL_up (a := x + 14 + 5 * i + 3) (c := ev_wkc (x + 14 + 5 * i) (G.1 i).2.2.1.1 true (G.1 i).2.2.1.2.2 (G.1 i).2.2.2.1 (G.1 i).2.2.2.2) h2 (by omega) (by omega) (by omega)
        have h2k := ev_rL_k (X := X) h2'
        simp (disch := omega) only [t_X5_put_0, t_X5_put_1, t_X5_put_2, t_X5_put_5, t_X5_put_7, t_X5_put_8, t_X5_put_11, t_X5_put_12, t_X5_put_15, t_X5_put_17, t_X5_put_20, t_X5_put_23, t_X5_put_25, t_X5_put_28, t_X5_put_29, t_X5_put_30, t_X5_put_33, x_X5_put_2, x_X5_put_8, x_X5_put_12, x_X5_put_20, x_X5_put_30, ↓reduceIte, ev_k_i, ev_k_r, ev_k_l, ev_k_J, ev_k_n, ev_kr_1, ev_kr_0, ev_isK_y, ev_aG_y, ev_aS_y, ev_aN_y, ev_inA_0, ev_isA_0, ev_ft_I, ev_ft_0, ev_ft_1, ev_ft_o, ev_ft_a, ev_nb_0, ev_nb_1, and_true, true_and, if_true, if_false, not_true_eq_false, not_false_eq_true, nI_1, ev_fG_0, ev_fG_1, ev_fG_2, ev_fG_3, ev_fG_4, ev_fG_5, ev_fG_6, ev_fG_7, ev_fG_8, ev_fS_0, ev_fS_1, ev_fS_2, ev_fS_3, ev_fS_4, ev_fS_5, ev_fS_6, ev_fS_7, ev_fS_8, ev_isO_0, ev_isO_1, ev_isO_2, ev_isO_3, ev_isO_4, ev_isO_5, ev_isO_6, ev_isO_7, ev_isO_8, ev_z0, ev_z1, ev_z2, eq_self, ev_ofN, hk, ev_lk_s (h1' _), h2k]
        refine R_bring h2' hT.2.1 (okL_len hT.1) (fun z => (okL_new hT.1 (okL_key ha) z).2) fun H1 hH1 => ?_
        simp (disch := omega) only [t_X5_put_0, t_X5_put_1, t_X5_put_2, t_X5_put_5, t_X5_put_7, t_X5_put_8, t_X5_put_11, t_X5_put_12, t_X5_put_15, t_X5_put_17, t_X5_put_20, t_X5_put_23, t_X5_put_25, t_X5_put_28, t_X5_put_29, t_X5_put_30, t_X5_put_33, x_X5_put_2, x_X5_put_8, x_X5_put_12, x_X5_put_20, x_X5_put_30, ↓reduceIte, ev_k_i, ev_k_r, ev_k_l, ev_k_J, ev_k_n, ev_kr_1, ev_kr_0, ev_isK_y, ev_aG_y, ev_aS_y, ev_aN_y, ev_inA_0, ev_isA_0, ev_ft_I, ev_ft_0, ev_ft_1, ev_ft_o, ev_ft_a, ev_nb_0, ev_nb_1, and_true, true_and, if_true, if_false, not_true_eq_false, not_false_eq_true, nI_1, ev_fG_0, ev_fG_1, ev_fG_2, ev_fG_3, ev_fG_4, ev_fG_5, ev_fG_6, ev_fG_7, ev_fG_8, ev_fS_0, ev_fS_1, ev_fS_2, ev_fS_3, ev_fS_4, ev_fS_5, ev_fS_6, ev_fS_7, ev_fS_8, ev_isO_0, ev_isO_1, ev_isO_2, ev_isO_3, ev_isO_4, ev_isO_5, ev_isO_6, ev_isO_7, ev_isO_8, ev_z0, ev_z1, ev_z2, eq_self, ev_ofN, hk]
        have hE := c_tab_old hc hi hH1
        exact k2 i a b hi rfl ha rfl hb rfl H1 hE.1 hE.2
end CM
end
section
/-! ===== the class: the other calls on its tables ===== -/
def ps_row (s : ev_TS) (L : ev_PL) (b m lm ll : Int32) : ev_TS := (L, (b, m, lm, ll), (s.2.2.1.1, true, s.2.2.1.2.2), s.2.2.2.1, s.2.2.2.2)
theorem okT_row {s : ev_TS} (h : okT s) {L : ev_PL} (hL : okL L) {b : Int32} (hb : ev_isB b) (m lm ll : Int32) : okT (ps_row s L b m lm ll) := ⟨hL, hb, h.2.2.1, fun _ z => by cases z⟩
section CN
variable {X : ev_E} {x : Nat} {G : ev_CS} {H : ev_M} {n q : Nat} {P : ev_O → ev_M → Nat → Nat → Prop}
theorem c_tab_row (hc : c_all x G H) {i : Nat} (hi : i < 4) {L : ev_PL} {b m lm ll : Int32} {H1 : ev_M}
    (hH : ev_rL (ev_up H (x + 14 + 5 * i + 3) (ev_wkc (x + 14 + 5 * i) (G.1 i).2.2.1.1 true (G.1 i).2.2.1.2.2 (G.1 i).2.2.2.1 (G.1 i).2.2.2.2)) (x + 14 + 5 * i) L b m lm ll H1) :
    c_all x (pg_T G i (ps_row (G.1 i) L b m lm ll)) H1 ∧ c_fr x H H1 := by
  have ho : ∀ a, (a < x + 13 + 5 * i ∨ x + 18 + 5 * i ≤ a) → H1 a = H a := fun a ha =>
    (ev_rL_o hH (by omega) (by omega) (by omega)).trans (ev_up_n (by omega))
  refine ⟨c_upT hc hi ho ⟨?_, c_row_of hH, ?_⟩, fun a ha => ho a (by omega)⟩
  · rw [ev_rL_o hH (by omega) (by omega) (by omega), ev_up_n (by omega)]
    exact (hc.2.2.2.2.2.2.1 i hi).1
  · rw [ev_rL_o hH (by omega) (by omega) (by omega), ev_up_s]
    rfl
theorem C_get (hc : c_all x G H) (hG : okG G) {t k : Int32} (k0 : t < 0 ∨ nI 4 ≤ t → P (.inr 0) H (n + 1) (q + 6))
    (k_k : ∀ i, i < 4 → t = nI i → (k < 0 ∨ nI 20 ≤ k) → P (.inr 1) H (n + 1) (q + 6))
    (k2 : ∀ i a_k, i < 4 → t = nI i → a_k < 20 → k = nI a_k → ∀ H1, c_all x (pg_T G i (ps_row (G.1 i) (pr_fetch (G.1 i).1 (G.1 i).2.1.1 k (-1)).2 (G.1 i).2.1.1 (G.1 i).2.1.2.1 (G.1 i).2.1.2.2.1 (G.1 i).2.1.2.2.2)) H1 → c_fr x H H1 → P (.inl (some (.int (pr_fetch (G.1 i).1 (G.1 i).2.1.1 k (-1)).1))) H1 n q) : ev_ok (ev_TT X) 228 0 [.ref x, .int t, .int k, ev_J] [] H n q P := by
  have hk := c_all_k (X := X) hc
  rcases pk_ix t (n := 4) (by omega) with h | h | ⟨i, hi, rfl⟩
  · simp (disch := omega) only [t_X5_get_0, t_X5_get_1, t_X5_get_2, t_X5_get_5, t_X5_get_6, t_X5_get_7, t_X5_get_10, t_X5_get_11, t_X5_get_14, t_X5_get_17, t_X5_get_18, t_X5_get_21, t_X5_get_22, t_X5_get_23, t_X5_get_26, x_X5_get_2, x_X5_get_7, x_X5_get_14, x_X5_get_23, ↓reduceIte, ev_k_i, ev_k_r, ev_k_l, ev_k_J, ev_k_n, ev_kr_1, ev_kr_0, ev_isK_y, ev_aG_y, ev_aS_y, ev_aN_y, ev_inA_0, ev_isA_0, ev_ft_I, ev_ft_0, ev_ft_1, ev_ft_o, ev_ft_a, ev_nb_0, ev_nb_1, and_true, true_and, if_true, if_false, not_true_eq_false, not_false_eq_true, nI_1, ev_fG_0, ev_fG_1, ev_fG_2, ev_fG_3, ev_fG_4, ev_fG_5, ev_fG_6, ev_fG_7, ev_fG_8, ev_fS_0, ev_fS_1, ev_fS_2, ev_fS_3, ev_fS_4, ev_fS_5, ev_fS_6, ev_fS_7, ev_fS_8, ev_isO_0, ev_isO_1, ev_isO_2, ev_isO_3, ev_isO_4, ev_isO_5, ev_isO_6, ev_isO_7, ev_isO_8, ev_z0, ev_z1, ev_z2, eq_self, ev_ofN, hk, C_tableOf_n (Or.inl h)]
    exact k0 (Or.inl h)
  · simp (disch := omega) only [t_X5_get_0, t_X5_get_1, t_X5_get_2, t_X5_get_5, t_X5_get_6, t_X5_get_7, t_X5_get_10, t_X5_get_11, t_X5_get_14, t_X5_get_17, t_X5_get_18, t_X5_get_21, t_X5_get_22, t_X5_get_23, t_X5_get_26, x_X5_get_2, x_X5_get_7, x_X5_get_14, x_X5_get_23, ↓reduceIte, ev_k_i, ev_k_r, ev_k_l, ev_k_J, ev_k_n, ev_kr_1, ev_kr_0, ev_isK_y, ev_aG_y, ev_aS_y, ev_aN_y, ev_inA_0, ev_isA_0, ev_ft_I, ev_ft_0, ev_ft_1, ev_ft_o, ev_ft_a, ev_nb_0, ev_nb_1, and_true, true_and, if_true, if_false, not_true_eq_false, not_false_eq_true, nI_1, ev_fG_0, ev_fG_1, ev_fG_2, ev_fG_3, ev_fG_4, ev_fG_5, ev_fG_6, ev_fG_7, ev_fG_8, ev_fS_0, ev_fS_1, ev_fS_2, ev_fS_3, ev_fS_4, ev_fS_5, ev_fS_6, ev_fS_7, ev_fS_8, ev_isO_0, ev_isO_1, ev_isO_2, ev_isO_3, ev_isO_4, ev_isO_5, ev_isO_6, ev_isO_7, ev_isO_8, ev_z0, ev_z1, ev_z2, eq_self, ev_ofN, hk, C_tableOf_n (Or.inr h)]
    exact k0 (Or.inr h)
  · rcases pk_ix k (n := 20) (by omega) with h | h | ⟨a_k, ha_k, rfl⟩
    · simp (disch := omega) only [t_X5_get_0, t_X5_get_1, t_X5_get_2, t_X5_get_5, t_X5_get_6, t_X5_get_7, t_X5_get_10, t_X5_get_11, t_X5_get_14, t_X5_get_17, t_X5_get_18, t_X5_get_21, t_X5_get_22, t_X5_get_23, t_X5_get_26, x_X5_get_2, x_X5_get_7, x_X5_get_14, x_X5_get_23, ↓reduceIte, ev_k_i, ev_k_r, ev_k_l, ev_k_J, ev_k_n, ev_kr_1, ev_kr_0, ev_isK_y, ev_aG_y, ev_aS_y, ev_aN_y, ev_inA_0, ev_isA_0, ev_ft_I, ev_ft_0, ev_ft_1, ev_ft_o, ev_ft_a, ev_nb_0, ev_nb_1, and_true, true_and, if_true, if_false, not_true_eq_false, not_false_eq_true, nI_1, ev_fG_0, ev_fG_1, ev_fG_2, ev_fG_3, ev_fG_4, ev_fG_5, ev_fG_6, ev_fG_7, ev_fG_8, ev_fS_0, ev_fS_1, ev_fS_2, ev_fS_3, ev_fS_4, ev_fS_5, ev_fS_6, ev_fS_7, ev_fS_8, ev_isO_0, ev_isO_1, ev_isO_2, ev_isO_3, ev_isO_4, ev_isO_5, ev_isO_6, ev_isO_7, ev_isO_8, ev_z0, ev_z1, ev_z2, eq_self, ev_ofN, hk, C_tableOf_y hc hi, C_dKey_n (Or.inl h)]
      exact k_k i hi rfl (Or.inl h)
    · simp (disch := omega) only [t_X5_get_0, t_X5_get_1, t_X5_get_2, t_X5_get_5, t_X5_get_6, t_X5_get_7, t_X5_get_10, t_X5_get_11, t_X5_get_14, t_X5_get_17, t_X5_get_18, t_X5_get_21, t_X5_get_22, t_X5_get_23, t_X5_get_26, x_X5_get_2, x_X5_get_7, x_X5_get_14, x_X5_get_23, ↓reduceIte, ev_k_i, ev_k_r, ev_k_l, ev_k_J, ev_k_n, ev_kr_1, ev_kr_0, ev_isK_y, ev_aG_y, ev_aS_y, ev_aN_y, ev_inA_0, ev_isA_0, ev_ft_I, ev_ft_0, ev_ft_1, ev_ft_o, ev_ft_a, ev_nb_0, ev_nb_1, and_true, true_and, if_true, if_false, not_true_eq_false, not_false_eq_true, nI_1, ev_fG_0, ev_fG_1, ev_fG_2, ev_fG_3, ev_fG_4, ev_fG_5, ev_fG_6, ev_fG_7, ev_fG_8, ev_fS_0, ev_fS_1, ev_fS_2, ev_fS_3, ev_fS_4, ev_fS_5, ev_fS_6, ev_fS_7, ev_fS_8, ev_isO_0, ev_isO_1, ev_isO_2, ev_isO_3, ev_isO_4, ev_isO_5, ev_isO_6, ev_isO_7, ev_isO_8, ev_z0, ev_z1, ev_z2, eq_self, ev_ofN, hk, C_tableOf_y hc hi, C_dKey_n (Or.inr h)]
      exact k_k i hi rfl (Or.inr h)
    · skip
      obtain ⟨h1, h2, h3⟩ := hc.2.2.2.2.2.2.1 i hi
      have hT := hG.1 i hi
      unfold ev_tbc at h1
      have h3k : ev_isK (ev_lk X H (x + 14 + 5 * i + 3)) 9 = True := by rw [ev_lk_s h3]; exact ev_isK_y
      have h2k := ev_rL_k (X := X) h2
      have h2b := ev_rL_b (X := X) h2
      simp (disch := omega) only [t_X5_get_0, t_X5_get_1, t_X5_get_2, t_X5_get_5, t_X5_get_6, t_X5_get_7, t_X5_get_10, t_X5_get_11, t_X5_get_14, t_X5_get_17, t_X5_get_18, t_X5_get_21, t_X5_get_22, t_X5_get_23, t_X5_get_26, x_X5_get_2, x_X5_get_7, x_X5_get_14, x_X5_get_23, ↓reduceIte, ev_k_i, ev_k_r, ev_k_l, ev_k_J, ev_k_n, ev_kr_1, ev_kr_0, ev_isK_y, ev_aG_y, ev_aS_y, ev_aN_y, ev_inA_0, ev_isA_0, ev_ft_I, ev_ft_0, ev_ft_1, ev_ft_o, ev_ft_a, ev_nb_0, ev_nb_1, and_true, true_and, if_true, if_false, not_true_eq_false, not_false_eq_true, nI_1, ev_fG_0, ev_fG_1, ev_fG_2, ev_fG_3, ev_fG_4, ev_fG_5, ev_fG_6, ev_fG_7, ev_fG_8, ev_fS_0, ev_fS_1, ev_fS_2, ev_fS_3, ev_fS_4, ev_fS_5, ev_fS_6, ev_fS_7, ev_fS_8, ev_isO_0, ev_isO_1, ev_isO_2, ev_isO_3, ev_isO_4, ev_isO_5, ev_isO_6, ev_isO_7, ev_isO_8, ev_z0, ev_z1, ev_z2, eq_self, ev_ofN, hk, C_tableOf_y hc hi, C_dKey_y ha_k, ev_lk_s h1, h3k]
      refine W_outdate h3 ?_
      have h1' := fun c => (ev_up_n (h := H) (a := x + 14 + 5 * i + 3) (b := x + 13 + 5 * i) (c := c) (by omega)).trans h1
      have h2' := ev_rL_up (a := x + 14 + 5 * i + 3) (c := ev_wkc (x + 14 + 5 * i) (G.1 i).2.2.1.1 true (G.1 i).2.2.1.2.2 (G.1 i).2.2.2.1 (G.1 i).2.2.2.2) h2 (by omega) (by omega) (by omega)
      have h2k' := ev_rL_k (X := X) h2'
      simp (disch := omega) only [t_X5_get_0, t_X5_get_1, t_X5_get_2, t_X5_get_5, t_X5_get_6, t_X5_get_7, t_X5_get_10, t_X5_get_11, t_X5_get_14, t_X5_get_17, t_X5_get_18, t_X5_get_21, t_X5_get_22, t_X5_get_23, t_X5_get_26, x_X5_get_2, x_X5_get_7, x_X5_get_14, x_X5_get_23, ↓reduceIte, ev_k_i, ev_k_r, ev_k_l, ev_k_J, ev_k_n, ev_kr_1, ev_kr_0, ev_isK_y, ev_aG_y, ev_aS_y, ev_aN_y, ev_inA_0, ev_isA_0, ev_ft_I, ev_ft_0, ev_ft_1, ev_ft_o, ev_ft_a, ev_nb_0, ev_nb_1, and_true, true_and, if_true, if_false, not_true_eq_false, not_false_eq_true, nI_1, ev_fG_0, ev_fG_1, ev_fG_2, ev_fG_3, ev_fG_4, ev_fG_5, ev_fG_6, ev_fG_7, ev_fG_8, ev_fS_0, ev_fS_1, ev_fS_2, ev_fS_3, ev_fS_4, ev_fS_5, ev_fS_6, ev_fS_7, ev_fS_8, ev_isO_0, ev_isO_1, ev_isO_2, ev_isO_3, ev_isO_4, ev_isO_5, ev_isO_6, ev_isO_7, ev_isO_8, ev_z0, ev_z1, ev_z2, eq_self, ev_ofN, ev_lk_s (h1' _), h2k']
      refine R_fetch h2' hT.2.1 (okL_len hT.1) fun H1 hH1 => ?_
      simp (disch := omega) only [t_X5_get_0, t_X5_get_1, t_X5_get_2, t_X5_get_5, t_X5_get_6, t_X5_get_7, t_X5_get_10, t_X5_get_11, t_X5_get_14, t_X5_get_17, t_X5_get_18, t_X5_get_21, t_X5_get_22, t_X5_get_23, t_X5_get_26, x_X5_get_2, x_X5_get_7, x_X5_get_14, x_X5_get_23, ↓reduceIte, ev_k_i, ev_k_r, ev_k_l, ev_k_J, ev_k_n, ev_kr_1, ev_kr_0, ev_isK_y, ev_aG_y, ev_aS_y, ev_aN_y, ev_inA_0, ev_isA_0, ev_ft_I, ev_ft_0, ev_ft_1, ev_ft_o, ev_ft_a, ev_nb_0, ev_nb_1, and_true, true_and, if_true, if_false, not_true_eq_false, not_false_eq_true, nI_1, ev_fG_0, ev_fG_1, ev_fG_2, ev_fG_3, ev_fG_4, ev_fG_5, ev_fG_6, ev_fG_7, ev_fG_8, ev_fS_0, ev_fS_1, ev_fS_2, ev_fS_3, ev_fS_4, ev_fS_5, ev_fS_6, ev_fS_7, ev_fS_8, ev_isO_0, ev_isO_1, ev_isO_2, ev_isO_3, ev_isO_4, ev_isO_5, ev_isO_6, ev_isO_7, ev_isO_8, ev_z0, ev_z1, ev_z2, eq_self, ev_ofN]
      have hE := c_tab_row hc hi hH1
      exact k2 i a_k hi rfl ha_k rfl H1 hE.1 hE.2
theorem C_getOr (hc : c_all x G H) (hG : okG G) {t k o : Int32} (k0 : t < 0 ∨ nI 4 ≤ t → P (.inr 0) H (n + 1) (q + 6))
    (k_k : ∀ i, i < 4 → t = nI i → (k < 0 ∨ nI 20 ≤ k) → P (.inr 1) H (n + 1) (q + 6))
    (k2 : ∀ i a_k, i < 4 → t = nI i → a_k < 20 → k = nI a_k → ∀ H1, c_all x (pg_T G i (ps_row (G.1 i) (pr_fetch (G.1 i).1 (G.1 i).2.1.1 k o).2 (G.1 i).2.1.1 (G.1 i).2.1.2.1 (G.1 i).2.1.2.2.1 (G.1 i).2.1.2.2.2)) H1 → c_fr x H H1 → P (.inl (some (.int (pr_fetch (G.1 i).1 (G.1 i).2.1.1 k o).1))) H1 n q) : ev_ok (ev_TT X) 229 0 [.ref x, .int t, .int k, .int o, ev_J] [] H n q P := by
  have hk := c_all_k (X := X) hc
  rcases pk_ix t (n := 4) (by omega) with h | h | ⟨i, hi, rfl⟩
  · simp (disch := omega) only [t_X5_getOr_0, t_X5_getOr_1, t_X5_getOr_2, t_X5_getOr_5, t_X5_getOr_7, t_X5_getOr_8, t_X5_getOr_11, t_X5_getOr_13, t_X5_getOr_16, t_X5_getOr_19, t_X5_getOr_21, t_X5_getOr_24, t_X5_getOr_25, t_X5_getOr_26, t_X5_getOr_29, x_X5_getOr_2, x_X5_getOr_8, x_X5_getOr_16, x_X5_getOr_26, ↓reduceIte, ev_k_i, ev_k_r, ev_k_l, ev_k_J, ev_k_n, ev_kr_1, ev_kr_0, ev_isK_y, ev_aG_y, ev_aS_y, ev_aN_y, ev_inA_0, ev_isA_0, ev_ft_I, ev_ft_0, ev_ft_1, ev_ft_o, ev_ft_a, ev_nb_0, ev_nb_1, and_true, true_and, if_true, if_false, not_true_eq_false, not_false_eq_true, nI_1, ev_fG_0, ev_fG_1, ev_fG_2, ev_fG_3, ev_fG_4, ev_fG_5, ev_fG_6, ev_fG_7, ev_fG_8, ev_fS_0, ev_fS_1, ev_fS_2, ev_fS_3, ev_fS_4, ev_fS_5, ev_fS_6, ev_fS_7, ev_fS_8, ev_isO_0, ev_isO_1, ev_isO_2, ev_isO_3, ev_isO_4, ev_isO_5, ev_isO_6, ev_isO_7, ev_isO_8, ev_z0, ev_z1, ev_z2, eq_self, ev_ofN, hk, C_tableOf_n (Or.inl h)]
    exact k0 (Or.inl h)
  · simp (disch := omega) only [t_X5_getOr_0, t_X5_getOr_1, t_X5_getOr_2, t_X5_getOr_5, t_X5_getOr_7, t_X5_getOr_8, t_X5_getOr_11, t_X5_getOr_13, t_X5_getOr_16, t_X5_getOr_19, t_X5_getOr_21, t_X5_getOr_24, t_X5_getOr_25, t_X5_getOr_26, t_X5_getOr_29, x_X5_getOr_2, x_X5_getOr_8, x_X5_getOr_16, x_X5_getOr_26, ↓reduceIte, ev_k_i, ev_k_r, ev_k_l, ev_k_J, ev_k_n, ev_kr_1, ev_kr_0, ev_isK_y, ev_aG_y, ev_aS_y, ev_aN_y, ev_inA_0, ev_isA_0, ev_ft_I, ev_ft_0, ev_ft_1, ev_ft_o, ev_ft_a, ev_nb_0, ev_nb_1, and_true, true_and, if_true, if_false, not_true_eq_false, not_false_eq_true, nI_1, ev_fG_0, ev_fG_1, ev_fG_2, ev_fG_3, ev_fG_4, ev_fG_5, ev_fG_6, ev_fG_7, ev_fG_8, ev_fS_0, ev_fS_1, ev_fS_2, ev_fS_3, ev_fS_4, ev_fS_5, ev_fS_6, ev_fS_7, ev_fS_8, ev_isO_0, ev_isO_1, ev_isO_2, ev_isO_3, ev_isO_4, ev_isO_5, ev_isO_6, ev_isO_7, ev_isO_8, ev_z0, ev_z1, ev_z2, eq_self, ev_ofN, hk, C_tableOf_n (Or.inr h)]
    exact k0 (Or.inr h)
  · rcases pk_ix k (n := 20) (by omega) with h | h | ⟨a_k, ha_k, rfl⟩
    · simp (disch := omega) only [t_X5_getOr_0, t_X5_getOr_1, t_X5_getOr_2, t_X5_getOr_5, t_X5_getOr_7, t_X5_getOr_8, t_X5_getOr_11, t_X5_getOr_13, t_X5_getOr_16, t_X5_getOr_19, t_X5_getOr_21, t_X5_getOr_24, t_X5_getOr_25, t_X5_getOr_26, t_X5_getOr_29, x_X5_getOr_2, x_X5_getOr_8, x_X5_getOr_16, x_X5_getOr_26, ↓reduceIte, ev_k_i, ev_k_r, ev_k_l, ev_k_J, ev_k_n, ev_kr_1, ev_kr_0, ev_isK_y, ev_aG_y, ev_aS_y, ev_aN_y, ev_inA_0, ev_isA_0, ev_ft_I, ev_ft_0, ev_ft_1, ev_ft_o, ev_ft_a, ev_nb_0, ev_nb_1, and_true, true_and, if_true, if_false, not_true_eq_false, not_false_eq_true, nI_1, ev_fG_0, ev_fG_1, ev_fG_2, ev_fG_3, ev_fG_4, ev_fG_5, ev_fG_6, ev_fG_7, ev_fG_8, ev_fS_0, ev_fS_1, ev_fS_2, ev_fS_3, ev_fS_4, ev_fS_5, ev_fS_6, ev_fS_7, ev_fS_8, ev_isO_0, ev_isO_1, ev_isO_2, ev_isO_3, ev_isO_4, ev_isO_5, ev_isO_6, ev_isO_7, ev_isO_8, ev_z0, ev_z1, ev_z2, eq_self, ev_ofN, hk, C_tableOf_y hc hi, C_dKey_n (Or.inl h)]
      exact k_k i hi rfl (Or.inl h)
    · simp (disch := omega) only [t_X5_getOr_0, t_X5_getOr_1, t_X5_getOr_2, t_X5_getOr_5, t_X5_getOr_7, t_X5_getOr_8, t_X5_getOr_11, t_X5_getOr_13, t_X5_getOr_16, t_X5_getOr_19, t_X5_getOr_21, t_X5_getOr_24, t_X5_getOr_25, t_X5_getOr_26, t_X5_getOr_29, x_X5_getOr_2, x_X5_getOr_8, x_X5_getOr_16, x_X5_getOr_26, ↓reduceIte, ev_k_i, ev_k_r, ev_k_l, ev_k_J, ev_k_n, ev_kr_1, ev_kr_0, ev_isK_y, ev_aG_y, ev_aS_y, ev_aN_y, ev_inA_0, ev_isA_0, ev_ft_I, ev_ft_0, ev_ft_1, ev_ft_o, ev_ft_a, ev_nb_0, ev_nb_1, and_true, true_and, if_true, if_false, not_true_eq_false, not_false_eq_true, nI_1, ev_fG_0, ev_fG_1, ev_fG_2, ev_fG_3, ev_fG_4, ev_fG_5, ev_fG_6, ev_fG_7, ev_fG_8, ev_fS_0, ev_fS_1, ev_fS_2, ev_fS_3, ev_fS_4, ev_fS_5, ev_fS_6, ev_fS_7, ev_fS_8, ev_isO_0, ev_isO_1, ev_isO_2, ev_isO_3, ev_isO_4, ev_isO_5, ev_isO_6, ev_isO_7, ev_isO_8, ev_z0, ev_z1, ev_z2, eq_self, ev_ofN, hk, C_tableOf_y hc hi, C_dKey_n (Or.inr h)]
      exact k_k i hi rfl (Or.inr h)
    · skip
      obtain ⟨h1, h2, h3⟩ := hc.2.2.2.2.2.2.1 i hi
      have hT := hG.1 i hi
      unfold ev_tbc at h1
      have h3k : ev_isK (ev_lk X H (x + 14 + 5 * i + 3)) 9 = True := by rw [ev_lk_s h3]; exact ev_isK_y
      have h2k := ev_rL_k (X := X) h2
      have h2b := ev_rL_b (X := X) h2
      simp (disch := omega) only [t_X5_getOr_0, t_X5_getOr_1, t_X5_getOr_2, t_X5_getOr_5, t_X5_getOr_7, t_X5_getOr_8, t_X5_getOr_11, t_X5_getOr_13, t_X5_getOr_16, t_X5_getOr_19, t_X5_getOr_21, t_X5_getOr_24, t_X5_getOr_25, t_X5_getOr_26, t_X5_getOr_29, x_X5_getOr_2, x_X5_getOr_8, x_X5_getOr_16, x_X5_getOr_26, ↓reduceIte, ev_k_i, ev_k_r, ev_k_l, ev_k_J, ev_k_n, ev_kr_1, ev_kr_0, ev_isK_y, ev_aG_y, ev_aS_y, ev_aN_y, ev_inA_0, ev_isA_0, ev_ft_I, ev_ft_0, ev_ft_1, ev_ft_o, ev_ft_a, ev_nb_0, ev_nb_1, and_true, true_and, if_true, if_false, not_true_eq_false, not_false_eq_true, nI_1, ev_fG_0, ev_fG_1, ev_fG_2, ev_fG_3, ev_fG_4, ev_fG_5, ev_fG_6, ev_fG_7, ev_fG_8, ev_fS_0, ev_fS_1, ev_fS_2, ev_fS_3, ev_fS_4, ev_fS_5, ev_fS_6, ev_fS_7, ev_fS_8, ev_isO_0, ev_isO_1, ev_isO_2, ev_isO_3, ev_isO_4, ev_isO_5, ev_isO_6, ev_isO_7, ev_isO_8, ev_z0, ev_z1, ev_z2, eq_self, ev_ofN, hk, C_tableOf_y hc hi, C_dKey_y ha_k, ev_lk_s h1, h3k]
      refine W_outdate h3 ?_
      have h1' := fun c => (ev_up_n (h := H) (a := x + 14 + 5 * i + 3) (b := x + 13 + 5 * i) (c := c) (by omega)).trans h1
      have h2' := ev_rL_up (a := x + 14 + 5 * i + 3) (c := ev_wkc (x + 14 + 5 * i) (G.1 i).2.2.1.1 true (G.1 i).2.2.1.2.2 (G.1 i).2.2.2.1 (G.1 i).2.2.2.2) h2 (by omega) (by omega) (by omega)
      have h2k' := ev_rL_k (X := X) h2'
      simp (disch := omega) only [t_X5_getOr_0, t_X5_getOr_1, t_X5_getOr_2, t_X5_getOr_5, t_X5_getOr_7, t_X5_getOr_8, t_X5_getOr_11, t_X5_getOr_13, t_X5_getOr_16, t_X5_getOr_19, t_X5_getOr_21, t_X5_getOr_24, t_X5_getOr_25, t_X5_getOr_26, t_X5_getOr_29, x_X5_getOr_2, x_X5_getOr_8, x_X5_getOr_16, x_X5_getOr_26, ↓reduceIte, ev_k_i, ev_k_r, ev_k_l, ev_k_J, ev_k_n, ev_kr_1, ev_kr_0, ev_isK_y, ev_aG_y, ev_aS_y, ev_aN_y, ev_inA_0, ev_isA_0, ev_ft_I, ev_ft_0, ev_ft_1, ev_ft_o, ev_ft_a, ev_nb_0, ev_nb_1, and_true, true_and, if_true, if_false, not_true_eq_false, not_false_eq_true, nI_1, ev_fG_0, ev_fG_1, ev_fG_2, ev_fG_3, ev_fG_4, ev_fG_5, ev_fG_6, ev_fG_7, ev_fG_8, ev_fS_0, ev_fS_1, ev_fS_2, ev_fS_3, ev_fS_4, ev_fS_5, ev_fS_6, ev_fS_7, ev_fS_8, ev_isO_0, ev_isO_1, ev_isO_2, ev_isO_3, ev_isO_4, ev_isO_5, ev_isO_6, ev_isO_7, ev_isO_8, ev_z0, ev_z1, ev_z2, eq_self, ev_ofN, ev_lk_s (h1' _), h2k']
      refine R_fetch h2' hT.2.1 (okL_len hT.1) fun H1 hH1 => ?_
      simp (disch := omega) only [t_X5_getOr_0, t_X5_getOr_1, t_X5_getOr_2, t_X5_getOr_5, t_X5_getOr_7, t_X5_getOr_8, t_X5_getOr_11, t_X5_getOr_13, t_X5_getOr_16, t_X5_getOr_19, t_X5_getOr_21, t_X5_getOr_24, t_X5_getOr_25, t_X5_getOr_26, t_X5_getOr_29, x_X5_getOr_2, x_X5_getOr_8, x_X5_getOr_16, x_X5_getOr_26, ↓reduceIte, ev_k_i, ev_k_r, ev_k_l, ev_k_J, ev_k_n, ev_kr_1, ev_kr_0, ev_isK_y, ev_aG_y, ev_aS_y, ev_aN_y, ev_inA_0, ev_isA_0, ev_ft_I, ev_ft_0, ev_ft_1, ev_ft_o, ev_ft_a, ev_nb_0, ev_nb_1, and_true, true_and, if_true, if_false, not_true_eq_false, not_false_eq_true, nI_1, ev_fG_0, ev_fG_1, ev_fG_2, ev_fG_3, ev_fG_4, ev_fG_5, ev_fG_6, ev_fG_7, ev_fG_8, ev_fS_0, ev_fS_1, ev_fS_2, ev_fS_3, ev_fS_4, ev_fS_5, ev_fS_6, ev_fS_7, ev_fS_8, ev_isO_0, ev_isO_1, ev_isO_2, ev_isO_3, ev_isO_4, ev_isO_5, ev_isO_6, ev_isO_7, ev_isO_8, ev_z0, ev_z1, ev_z2, eq_self, ev_ofN]
      have hE := c_tab_row hc hi hH1
      exact k2 i a_k hi rfl ha_k rfl H1 hE.1 hE.2
theorem C_remove (hc : c_all x G H) (hG : okG G) {t k : Int32} (k0 : t < 0 ∨ nI 4 ≤ t → P (.inr 0) H (n + 1) (q + 6))
    (k_k : ∀ i, i < 4 → t = nI i → (k < 0 ∨ nI 20 ≤ k) → P (.inr 1) H (n + 1) (q + 6))
    (k2 : ∀ i a_k, i < 4 → t = nI i → a_k < 20 → k = nI a_k → ∀ H1, c_all x (pg_T G i (ps_row (G.1 i) (pr_drop (G.1 i).1 k).2 (G.1 i).2.1.1 (G.1 i).2.1.2.1 (G.1 i).2.1.2.2.1 (G.1 i).2.1.2.2.2)) H1 → c_fr x H H1 → P (.inl (some (.int (pr_drop (G.1 i).1 k).1))) H1 n q) : ev_ok (ev_TT X) 205 0 [.ref x, .int t, .int k, ev_J] [] H n q P := by
  have hk := c_all_k (X := X) hc
  rcases pk_ix t (n := 4) (by omega) with h | h | ⟨i, hi, rfl⟩
  · simp (disch := omega) only [t_X5_remove_0, t_X5_remove_1, t_X5_remove_2, t_X5_remove_5, t_X5_remove_6, t_X5_remove_7, t_X5_remove_10, t_X5_remove_11, t_X5_remove_14, t_X5_remove_17, t_X5_remove_18, t_X5_remove_21, t_X5_remove_22, t_X5_remove_25, x_X5_remove_2, x_X5_remove_7, x_X5_remove_14, x_X5_remove_22, ↓reduceIte, ev_k_i, ev_k_r, ev_k_l, ev_k_J, ev_k_n, ev_kr_1, ev_kr_0, ev_isK_y, ev_aG_y, ev_aS_y, ev_aN_y, ev_inA_0, ev_isA_0, ev_ft_I, ev_ft_0, ev_ft_1, ev_ft_o, ev_ft_a, ev_nb_0, ev_nb_1, and_true, true_and, if_true, if_false, not_true_eq_false, not_false_eq_true, nI_1, ev_fG_0, ev_fG_1, ev_fG_2, ev_fG_3, ev_fG_4, ev_fG_5, ev_fG_6, ev_fG_7, ev_fG_8, ev_fS_0, ev_fS_1, ev_fS_2, ev_fS_3, ev_fS_4, ev_fS_5, ev_fS_6, ev_fS_7, ev_fS_8, ev_isO_0, ev_isO_1, ev_isO_2, ev_isO_3, ev_isO_4, ev_isO_5, ev_isO_6, ev_isO_7, ev_isO_8, ev_z0, ev_z1, ev_z2, eq_self, ev_ofN, hk, C_tableOf_n (Or.inl h)]
    exact k0 (Or.inl h)
  · simp (disch := omega) only [t_X5_remove_0, t_X5_remove_1, t_X5_remove_2, t_X5_remove_5, t_X5_remove_6, t_X5_remove_7, t_X5_remove_10, t_X5_remove_11, t_X5_remove_14, t_X5_remove_17, t_X5_remove_18, t_X5_remove_21, t_X5_remove_22, t_X5_remove_25, x_X5_remove_2, x_X5_remove_7, x_X5_remove_14, x_X5_remove_22, ↓reduceIte, ev_k_i, ev_k_r, ev_k_l, ev_k_J, ev_k_n, ev_kr_1, ev_kr_0, ev_isK_y, ev_aG_y, ev_aS_y, ev_aN_y, ev_inA_0, ev_isA_0, ev_ft_I, ev_ft_0, ev_ft_1, ev_ft_o, ev_ft_a, ev_nb_0, ev_nb_1, and_true, true_and, if_true, if_false, not_true_eq_false, not_false_eq_true, nI_1, ev_fG_0, ev_fG_1, ev_fG_2, ev_fG_3, ev_fG_4, ev_fG_5, ev_fG_6, ev_fG_7, ev_fG_8, ev_fS_0, ev_fS_1, ev_fS_2, ev_fS_3, ev_fS_4, ev_fS_5, ev_fS_6, ev_fS_7, ev_fS_8, ev_isO_0, ev_isO_1, ev_isO_2, ev_isO_3, ev_isO_4, ev_isO_5, ev_isO_6, ev_isO_7, ev_isO_8, ev_z0, ev_z1, ev_z2, eq_self, ev_ofN, hk, C_tableOf_n (Or.inr h)]
    exact k0 (Or.inr h)
  · rcases pk_ix k (n := 20) (by omega) with h | h | ⟨a_k, ha_k, rfl⟩
    · simp (disch := omega) only [t_X5_remove_0, t_X5_remove_1, t_X5_remove_2, t_X5_remove_5, t_X5_remove_6, t_X5_remove_7, t_X5_remove_10, t_X5_remove_11, t_X5_remove_14, t_X5_remove_17, t_X5_remove_18, t_X5_remove_21, t_X5_remove_22, t_X5_remove_25, x_X5_remove_2, x_X5_remove_7, x_X5_remove_14, x_X5_remove_22, ↓reduceIte, ev_k_i, ev_k_r, ev_k_l, ev_k_J, ev_k_n, ev_kr_1, ev_kr_0, ev_isK_y, ev_aG_y, ev_aS_y, ev_aN_y, ev_inA_0, ev_isA_0, ev_ft_I, ev_ft_0, ev_ft_1, ev_ft_o, ev_ft_a, ev_nb_0, ev_nb_1, and_true, true_and, if_true, if_false, not_true_eq_false, not_false_eq_true, nI_1, ev_fG_0, ev_fG_1, ev_fG_2, ev_fG_3, ev_fG_4, ev_fG_5, ev_fG_6, ev_fG_7, ev_fG_8, ev_fS_0, ev_fS_1, ev_fS_2, ev_fS_3, ev_fS_4, ev_fS_5, ev_fS_6, ev_fS_7, ev_fS_8, ev_isO_0, ev_isO_1, ev_isO_2, ev_isO_3, ev_isO_4, ev_isO_5, ev_isO_6, ev_isO_7, ev_isO_8, ev_z0, ev_z1, ev_z2, eq_self, ev_ofN, hk, C_tableOf_y hc hi, C_dKey_n (Or.inl h)]
      exact k_k i hi rfl (Or.inl h)
    · simp (disch := omega) only [t_X5_remove_0, t_X5_remove_1, t_X5_remove_2, t_X5_remove_5, t_X5_remove_6, t_X5_remove_7, t_X5_remove_10, t_X5_remove_11, t_X5_remove_14, t_X5_remove_17, t_X5_remove_18, t_X5_remove_21, t_X5_remove_22, t_X5_remove_25, x_X5_remove_2, x_X5_remove_7, x_X5_remove_14, x_X5_remove_22, ↓reduceIte, ev_k_i, ev_k_r, ev_k_l, ev_k_J, ev_k_n, ev_kr_1, ev_kr_0, ev_isK_y, ev_aG_y, ev_aS_y, ev_aN_y, ev_inA_0, ev_isA_0, ev_ft_I, ev_ft_0, ev_ft_1, ev_ft_o, ev_ft_a, ev_nb_0, ev_nb_1, and_true, true_and, if_true, if_false, not_true_eq_false, not_false_eq_true, nI_1, ev_fG_0, ev_fG_1, ev_fG_2, ev_fG_3, ev_fG_4, ev_fG_5, ev_fG_6, ev_fG_7, ev_fG_8, ev_fS_0, ev_fS_1, ev_fS_2, ev_fS_3, ev_fS_4, ev_fS_5, ev_fS_6, ev_fS_7, ev_fS_8, ev_isO_0, ev_isO_1, ev_isO_2, ev_isO_3, ev_isO_4, ev_isO_5, ev_isO_6, ev_isO_7, ev_isO_8, ev_z0, ev_z1, ev_z2, eq_self, ev_ofN, hk, C_tableOf_y hc hi, C_dKey_n (Or.inr h)]
      exact k_k i hi rfl (Or.inr h)
    · skip
      obtain ⟨h1, h2, h3⟩ := hc.2.2.2.2.2.2.1 i hi
      have hT := hG.1 i hi
      unfold ev_tbc at h1
      have h3k : ev_isK (ev_lk X H (x + 14 + 5 * i + 3)) 9 = True := by rw [ev_lk_s h3]; exact ev_isK_y
      have h2k := ev_rL_k (X := X) h2
      have h2b := ev_rL_b (X := X) h2
      simp (disch := omega) only [t_X5_remove_0, t_X5_remove_1, t_X5_remove_2, t_X5_remove_5, t_X5_remove_6, t_X5_remove_7, t_X5_remove_10, t_X5_remove_11, t_X5_remove_14, t_X5_remove_17, t_X5_remove_18, t_X5_remove_21, t_X5_remove_22, t_X5_remove_25, x_X5_remove_2, x_X5_remove_7, x_X5_remove_14, x_X5_remove_22, ↓reduceIte, ev_k_i, ev_k_r, ev_k_l, ev_k_J, ev_k_n, ev_kr_1, ev_kr_0, ev_isK_y, ev_aG_y, ev_aS_y, ev_aN_y, ev_inA_0, ev_isA_0, ev_ft_I, ev_ft_0, ev_ft_1, ev_ft_o, ev_ft_a, ev_nb_0, ev_nb_1, and_true, true_and, if_true, if_false, not_true_eq_false, not_false_eq_true, nI_1, ev_fG_0, ev_fG_1, ev_fG_2, ev_fG_3, ev_fG_4, ev_fG_5, ev_fG_6, ev_fG_7, ev_fG_8, ev_fS_0, ev_fS_1, ev_fS_2, ev_fS_3, ev_fS_4, ev_fS_5, ev_fS_6, ev_fS_7, ev_fS_8, ev_isO_0, ev_isO_1, ev_isO_2, ev_isO_3, ev_isO_4, ev_isO_5, ev_isO_6, ev_isO_7, ev_isO_8, ev_z0, ev_z1, ev_z2, eq_self, ev_ofN, hk, C_tableOf_y hc hi, C_dKey_y ha_k, ev_lk_s h1, h3k]
      refine W_outdate h3 ?_
      have h1' := fun c => (ev_up_n (h := H) (a := x + 14 + 5 * i + 3) (b := x + 13 + 5 * i) (c := c) (by omega)).trans h1
      have h2' := ev_rL_up (a := x + 14 + 5 * i + 3) (c := ev_wkc (x + 14 + 5 * i) (G.1 i).2.2.1.1 true (G.1 i).2.2.1.2.2 (G.1 i).2.2.2.1 (G.1 i).2.2.2.2) h2 (by omega) (by omega) (by omega)
      have h2k' := ev_rL_k (X := X) h2'
      simp (disch := omega) only [t_X5_remove_0, t_X5_remove_1, t_X5_remove_2, t_X5_remove_5, t_X5_remove_6, t_X5_remove_7, t_X5_remove_10, t_X5_remove_11, t_X5_remove_14, t_X5_remove_17, t_X5_remove_18, t_X5_remove_21, t_X5_remove_22, t_X5_remove_25, x_X5_remove_2, x_X5_remove_7, x_X5_remove_14, x_X5_remove_22, ↓reduceIte, ev_k_i, ev_k_r, ev_k_l, ev_k_J, ev_k_n, ev_kr_1, ev_kr_0, ev_isK_y, ev_aG_y, ev_aS_y, ev_aN_y, ev_inA_0, ev_isA_0, ev_ft_I, ev_ft_0, ev_ft_1, ev_ft_o, ev_ft_a, ev_nb_0, ev_nb_1, and_true, true_and, if_true, if_false, not_true_eq_false, not_false_eq_true, nI_1, ev_fG_0, ev_fG_1, ev_fG_2, ev_fG_3, ev_fG_4, ev_fG_5, ev_fG_6, ev_fG_7, ev_fG_8, ev_fS_0, ev_fS_1, ev_fS_2, ev_fS_3, ev_fS_4, ev_fS_5, ev_fS_6, ev_fS_7, ev_fS_8, ev_isO_0, ev_isO_1, ev_isO_2, ev_isO_3, ev_isO_4, ev_isO_5, ev_isO_6, ev_isO_7, ev_isO_8, ev_z0, ev_z1, ev_z2, eq_self, ev_ofN, ev_lk_s (h1' _), h2k']
      refine R_dropKey h2' (okL_len hT.1) fun H1 hH1 => ?_
      simp (disch := omega) only [t_X5_remove_0, t_X5_remove_1, t_X5_remove_2, t_X5_remove_5, t_X5_remove_6, t_X5_remove_7, t_X5_remove_10, t_X5_remove_11, t_X5_remove_14, t_X5_remove_17, t_X5_remove_18, t_X5_remove_21, t_X5_remove_22, t_X5_remove_25, x_X5_remove_2, x_X5_remove_7, x_X5_remove_14, x_X5_remove_22, ↓reduceIte, ev_k_i, ev_k_r, ev_k_l, ev_k_J, ev_k_n, ev_kr_1, ev_kr_0, ev_isK_y, ev_aG_y, ev_aS_y, ev_aN_y, ev_inA_0, ev_isA_0, ev_ft_I, ev_ft_0, ev_ft_1, ev_ft_o, ev_ft_a, ev_nb_0, ev_nb_1, and_true, true_and, if_true, if_false, not_true_eq_false, not_false_eq_true, nI_1, ev_fG_0, ev_fG_1, ev_fG_2, ev_fG_3, ev_fG_4, ev_fG_5, ev_fG_6, ev_fG_7, ev_fG_8, ev_fS_0, ev_fS_1, ev_fS_2, ev_fS_3, ev_fS_4, ev_fS_5, ev_fS_6, ev_fS_7, ev_fS_8, ev_isO_0, ev_isO_1, ev_isO_2, ev_isO_3, ev_isO_4, ev_isO_5, ev_isO_6, ev_isO_7, ev_isO_8, ev_z0, ev_z1, ev_z2, eq_self, ev_ofN]
      have hE := c_tab_row hc hi hH1
      exact k2 i a_k hi rfl ha_k rfl H1 hE.1 hE.2
theorem C_clear (hc : c_all x G H) (hG : okG G) {t : Int32} (k0 : t < 0 ∨ nI 4 ≤ t → P (.inr 0) H (n + 1) (q + 6))
    (k2 : ∀ i, i < 4 → t = nI i → ∀ H1, c_all x (pg_T G i (ps_row (G.1 i) [] (G.1 i).2.1.1 (G.1 i).2.1.2.1 (G.1 i).2.1.2.2.1 (G.1 i).2.1.2.2.2)) H1 → c_fr x H H1 → P (.inl (some (.int (nI (G.1 i).1.length)))) H1 n q) : ev_ok (ev_TT X) 102 0 [.ref x, .int t, ev_J] [] H n q P := by
  have hk := c_all_k (X := X) hc
  rcases pk_ix t (n := 4) (by omega) with h | h | ⟨i, hi, rfl⟩
  · simp (disch := omega) only [t_X5_clear_0, t_X5_clear_1, t_X5_clear_2, t_X5_clear_5, t_X5_clear_6, t_X5_clear_7, t_X5_clear_10, t_X5_clear_13, t_X5_clear_14, t_X5_clear_17, t_X5_clear_20, x_X5_clear_2, x_X5_clear_10, x_X5_clear_17, ↓reduceIte, ev_k_i, ev_k_r, ev_k_l, ev_k_J, ev_k_n, ev_kr_1, ev_kr_0, ev_isK_y, ev_aG_y, ev_aS_y, ev_aN_y, ev_inA_0, ev_isA_0, ev_ft_I, ev_ft_0, ev_ft_1, ev_ft_o, ev_ft_a, ev_nb_0, ev_nb_1, and_true, true_and, if_true, if_false, not_true_eq_false, not_false_eq_true, nI_1, ev_fG_0, ev_fG_1, ev_fG_2, ev_fG_3, ev_fG_4, ev_fG_5, ev_fG_6, ev_fG_7, ev_fG_8, ev_fS_0, ev_fS_1, ev_fS_2, ev_fS_3, ev_fS_4, ev_fS_5, ev_fS_6, ev_fS_7, ev_fS_8, ev_isO_0, ev_isO_1, ev_isO_2, ev_isO_3, ev_isO_4, ev_isO_5, ev_isO_6, ev_isO_7, ev_isO_8, ev_z0, ev_z1, ev_z2, eq_self, ev_ofN, hk, C_tableOf_n (Or.inl h)]
    exact k0 (Or.inl h)
  · simp (disch := omega) only [t_X5_clear_0, t_X5_clear_1, t_X5_clear_2, t_X5_clear_5, t_X5_clear_6, t_X5_clear_7, t_X5_clear_10, t_X5_clear_13, t_X5_clear_14, t_X5_clear_17, t_X5_clear_20, x_X5_clear_2, x_X5_clear_10, x_X5_clear_17, ↓reduceIte, ev_k_i, ev_k_r, ev_k_l, ev_k_J, ev_k_n, ev_kr_1, ev_kr_0, ev_isK_y, ev_aG_y, ev_aS_y, ev_aN_y, ev_inA_0, ev_isA_0, ev_ft_I, ev_ft_0, ev_ft_1, ev_ft_o, ev_ft_a, ev_nb_0, ev_nb_1, and_true, true_and, if_true, if_false, not_true_eq_false, not_false_eq_true, nI_1, ev_fG_0, ev_fG_1, ev_fG_2, ev_fG_3, ev_fG_4, ev_fG_5, ev_fG_6, ev_fG_7, ev_fG_8, ev_fS_0, ev_fS_1, ev_fS_2, ev_fS_3, ev_fS_4, ev_fS_5, ev_fS_6, ev_fS_7, ev_fS_8, ev_isO_0, ev_isO_1, ev_isO_2, ev_isO_3, ev_isO_4, ev_isO_5, ev_isO_6, ev_isO_7, ev_isO_8, ev_z0, ev_z1, ev_z2, eq_self, ev_ofN, hk, C_tableOf_n (Or.inr h)]
    exact k0 (Or.inr h)
  · skip
    obtain ⟨h1, h2, h3⟩ := hc.2.2.2.2.2.2.1 i hi
    have hT := hG.1 i hi
    unfold ev_tbc at h1
    have h3k : ev_isK (ev_lk X H (x + 14 + 5 * i + 3)) 9 = True := by rw [ev_lk_s h3]; exact ev_isK_y
    have h2k := ev_rL_k (X := X) h2
    have h2b := ev_rL_b (X := X) h2
    simp (disch := omega) only [t_X5_clear_0, t_X5_clear_1, t_X5_clear_2, t_X5_clear_5, t_X5_clear_6, t_X5_clear_7, t_X5_clear_10, t_X5_clear_13, t_X5_clear_14, t_X5_clear_17, t_X5_clear_20, x_X5_clear_2, x_X5_clear_10, x_X5_clear_17, ↓reduceIte, ev_k_i, ev_k_r, ev_k_l, ev_k_J, ev_k_n, ev_kr_1, ev_kr_0, ev_isK_y, ev_aG_y, ev_aS_y, ev_aN_y, ev_inA_0, ev_isA_0, ev_ft_I, ev_ft_0, ev_ft_1, ev_ft_o, ev_ft_a, ev_nb_0, ev_nb_1, and_true, true_and, if_true, if_false, not_true_eq_false, not_false_eq_true, nI_1, ev_fG_0, ev_fG_1, ev_fG_2, ev_fG_3, ev_fG_4, ev_fG_5, ev_fG_6, ev_fG_7, ev_fG_8, ev_fS_0, ev_fS_1, ev_fS_2, ev_fS_3, ev_fS_4, ev_fS_5, ev_fS_6, ev_fS_7, ev_fS_8, ev_isO_0, ev_isO_1, ev_isO_2, ev_isO_3, ev_isO_4, ev_isO_5, ev_isO_6, ev_isO_7, ev_isO_8, ev_z0, ev_z1, ev_z2, eq_self, ev_ofN, hk, C_tableOf_y hc hi, ev_lk_s h1, h3k]
    refine W_outdate h3 ?_
    have h1' := fun c => (ev_up_n (h := H) (a := x + 14 + 5 * i + 3) (b := x + 13 + 5 * i) (c := c) (by omega)).trans h1
    have h2' := ev_rL_up (a := x + 14 + 5 * i + 3) (c := ev_wkc (x + 14 + 5 * i) (G.1 i).2.2.1.1 true (G.1 i).2.2.1.2.2 (G.1 i).2.2.2.1 (G.1 i).2.2.2.2) h2 (by omega) (by omega) (by omega)
    have h2k' := ev_rL_k (X := X) h2'
    simp (disch := omega) only [t_X5_clear_0, t_X5_clear_1, t_X5_clear_2, t_X5_clear_5, t_X5_clear_6, t_X5_clear_7, t_X5_clear_10, t_X5_clear_13, t_X5_clear_14, t_X5_clear_17, t_X5_clear_20, x_X5_clear_2, x_X5_clear_10, x_X5_clear_17, ↓reduceIte, ev_k_i, ev_k_r, ev_k_l, ev_k_J, ev_k_n, ev_kr_1, ev_kr_0, ev_isK_y, ev_aG_y, ev_aS_y, ev_aN_y, ev_inA_0, ev_isA_0, ev_ft_I, ev_ft_0, ev_ft_1, ev_ft_o, ev_ft_a, ev_nb_0, ev_nb_1, and_true, true_and, if_true, if_false, not_true_eq_false, not_false_eq_true, nI_1, ev_fG_0, ev_fG_1, ev_fG_2, ev_fG_3, ev_fG_4, ev_fG_5, ev_fG_6, ev_fG_7, ev_fG_8, ev_fS_0, ev_fS_1, ev_fS_2, ev_fS_3, ev_fS_4, ev_fS_5, ev_fS_6, ev_fS_7, ev_fS_8, ev_isO_0, ev_isO_1, ev_isO_2, ev_isO_3, ev_isO_4, ev_isO_5, ev_isO_6, ev_isO_7, ev_isO_8, ev_z0, ev_z1, ev_z2, eq_self, ev_ofN, ev_lk_s (h1' _), h2k']
    refine R_dropAll h2' fun H1 hH1 => ?_
    simp (disch := omega) only [t_X5_clear_0, t_X5_clear_1, t_X5_clear_2, t_X5_clear_5, t_X5_clear_6, t_X5_clear_7, t_X5_clear_10, t_X5_clear_13, t_X5_clear_14, t_X5_clear_17, t_X5_clear_20, x_X5_clear_2, x_X5_clear_10, x_X5_clear_17, ↓reduceIte, ev_k_i, ev_k_r, ev_k_l, ev_k_J, ev_k_n, ev_kr_1, ev_kr_0, ev_isK_y, ev_aG_y, ev_aS_y, ev_aN_y, ev_inA_0, ev_isA_0, ev_ft_I, ev_ft_0, ev_ft_1, ev_ft_o, ev_ft_a, ev_nb_0, ev_nb_1, and_true, true_and, if_true, if_false, not_true_eq_false, not_false_eq_true, nI_1, ev_fG_0, ev_fG_1, ev_fG_2, ev_fG_3, ev_fG_4, ev_fG_5, ev_fG_6, ev_fG_7, ev_fG_8, ev_fS_0, ev_fS_1, ev_fS_2, ev_fS_3, ev_fS_4, ev_fS_5, ev_fS_6, ev_fS_7, ev_fS_8, ev_isO_0, ev_isO_1, ev_isO_2, ev_isO_3, ev_isO_4, ev_isO_5, ev_isO_6, ev_isO_7, ev_isO_8, ev_z0, ev_z1, ev_z2, eq_self, ev_ofN]
    have hE := c_tab_row hc hi hH1
    exact k2 i hi rfl H1 hE.1 hE.2
theorem C_keyAt (hc : c_all x G H) (hG : okG G) {t p : Int32} (k0 : t < 0 ∨ nI 4 ≤ t → P (.inr 0) H (n + 1) (q + 6))
    (k2 : ∀ i, i < 4 → t = nI i → P (.inl (some (.int (pr_told (G.1 i).1 p 0)))) H n q) : ev_ok (ev_TT X) 155 0 [.ref x, .int t, .int p] [] H n q P := by
  have hk := c_all_k (X := X) hc
  rcases pk_ix t (n := 4) (by omega) with h | h | ⟨i, hi, rfl⟩
  · simp (disch := omega) only [t_X5_keyAt_0, t_X5_keyAt_1, t_X5_keyAt_2, t_X5_keyAt_5, t_X5_keyAt_8, t_X5_keyAt_9, t_X5_keyAt_10, t_X5_keyAt_13, x_X5_keyAt_2, x_X5_keyAt_10, ↓reduceIte, ev_k_i, ev_k_r, ev_k_l, ev_k_J, ev_k_n, ev_kr_1, ev_kr_0, ev_isK_y, ev_aG_y, ev_aS_y, ev_aN_y, ev_inA_0, ev_isA_0, ev_ft_I, ev_ft_0, ev_ft_1, ev_ft_o, ev_ft_a, ev_nb_0, ev_nb_1, and_true, true_and, if_true, if_false, not_true_eq_false, not_false_eq_true, nI_1, ev_fG_0, ev_fG_1, ev_fG_2, ev_fG_3, ev_fG_4, ev_fG_5, ev_fG_6, ev_fG_7, ev_fG_8, ev_fS_0, ev_fS_1, ev_fS_2, ev_fS_3, ev_fS_4, ev_fS_5, ev_fS_6, ev_fS_7, ev_fS_8, ev_isO_0, ev_isO_1, ev_isO_2, ev_isO_3, ev_isO_4, ev_isO_5, ev_isO_6, ev_isO_7, ev_isO_8, ev_z0, ev_z1, ev_z2, eq_self, ev_ofN, hk, C_tableOf_n (Or.inl h)]
    exact k0 (Or.inl h)
  · simp (disch := omega) only [t_X5_keyAt_0, t_X5_keyAt_1, t_X5_keyAt_2, t_X5_keyAt_5, t_X5_keyAt_8, t_X5_keyAt_9, t_X5_keyAt_10, t_X5_keyAt_13, x_X5_keyAt_2, x_X5_keyAt_10, ↓reduceIte, ev_k_i, ev_k_r, ev_k_l, ev_k_J, ev_k_n, ev_kr_1, ev_kr_0, ev_isK_y, ev_aG_y, ev_aS_y, ev_aN_y, ev_inA_0, ev_isA_0, ev_ft_I, ev_ft_0, ev_ft_1, ev_ft_o, ev_ft_a, ev_nb_0, ev_nb_1, and_true, true_and, if_true, if_false, not_true_eq_false, not_false_eq_true, nI_1, ev_fG_0, ev_fG_1, ev_fG_2, ev_fG_3, ev_fG_4, ev_fG_5, ev_fG_6, ev_fG_7, ev_fG_8, ev_fS_0, ev_fS_1, ev_fS_2, ev_fS_3, ev_fS_4, ev_fS_5, ev_fS_6, ev_fS_7, ev_fS_8, ev_isO_0, ev_isO_1, ev_isO_2, ev_isO_3, ev_isO_4, ev_isO_5, ev_isO_6, ev_isO_7, ev_isO_8, ev_z0, ev_z1, ev_z2, eq_self, ev_ofN, hk, C_tableOf_n (Or.inr h)]
    exact k0 (Or.inr h)
  · skip
    obtain ⟨h1, h2, h3⟩ := hc.2.2.2.2.2.2.1 i hi
    have hT := hG.1 i hi
    unfold ev_tbc at h1
    have h3k : ev_isK (ev_lk X H (x + 14 + 5 * i + 3)) 9 = True := by rw [ev_lk_s h3]; exact ev_isK_y
    have h2k := ev_rL_k (X := X) h2
    have h2b := ev_rL_b (X := X) h2
    simp (disch := omega) only [t_X5_keyAt_0, t_X5_keyAt_1, t_X5_keyAt_2, t_X5_keyAt_5, t_X5_keyAt_8, t_X5_keyAt_9, t_X5_keyAt_10, t_X5_keyAt_13, x_X5_keyAt_2, x_X5_keyAt_10, ↓reduceIte, ev_k_i, ev_k_r, ev_k_l, ev_k_J, ev_k_n, ev_kr_1, ev_kr_0, ev_isK_y, ev_aG_y, ev_aS_y, ev_aN_y, ev_inA_0, ev_isA_0, ev_ft_I, ev_ft_0, ev_ft_1, ev_ft_o, ev_ft_a, ev_nb_0, ev_nb_1, and_true, true_and, if_true, if_false, not_true_eq_false, not_false_eq_true, nI_1, ev_fG_0, ev_fG_1, ev_fG_2, ev_fG_3, ev_fG_4, ev_fG_5, ev_fG_6, ev_fG_7, ev_fG_8, ev_fS_0, ev_fS_1, ev_fS_2, ev_fS_3, ev_fS_4, ev_fS_5, ev_fS_6, ev_fS_7, ev_fS_8, ev_isO_0, ev_isO_1, ev_isO_2, ev_isO_3, ev_isO_4, ev_isO_5, ev_isO_6, ev_isO_7, ev_isO_8, ev_z0, ev_z1, ev_z2, eq_self, ev_ofN, hk, C_tableOf_y hc hi, ev_lk_s h1, h3k, h2k]
    refine R_told h2 (okL_len hT.1) ?_
    simp (disch := omega) only [t_X5_keyAt_0, t_X5_keyAt_1, t_X5_keyAt_2, t_X5_keyAt_5, t_X5_keyAt_8, t_X5_keyAt_9, t_X5_keyAt_10, t_X5_keyAt_13, x_X5_keyAt_2, x_X5_keyAt_10, ↓reduceIte, ev_k_i, ev_k_r, ev_k_l, ev_k_J, ev_k_n, ev_kr_1, ev_kr_0, ev_isK_y, ev_aG_y, ev_aS_y, ev_aN_y, ev_inA_0, ev_isA_0, ev_ft_I, ev_ft_0, ev_ft_1, ev_ft_o, ev_ft_a, ev_nb_0, ev_nb_1, and_true, true_and, if_true, if_false, not_true_eq_false, not_false_eq_true, nI_1, ev_fG_0, ev_fG_1, ev_fG_2, ev_fG_3, ev_fG_4, ev_fG_5, ev_fG_6, ev_fG_7, ev_fG_8, ev_fS_0, ev_fS_1, ev_fS_2, ev_fS_3, ev_fS_4, ev_fS_5, ev_fS_6, ev_fS_7, ev_fS_8, ev_isO_0, ev_isO_1, ev_isO_2, ev_isO_3, ev_isO_4, ev_isO_5, ev_isO_6, ev_isO_7, ev_isO_8, ev_z0, ev_z1, ev_z2, eq_self, ev_ofN]
    exact k2 i hi rfl 
theorem C_valueAt (hc : c_all x G H) (hG : okG G) {t p : Int32} (k0 : t < 0 ∨ nI 4 ≤ t → P (.inr 0) H (n + 1) (q + 6))
    (k2 : ∀ i, i < 4 → t = nI i → P (.inl (some (.int (pr_told (G.1 i).1 p 1)))) H n q) : ev_ok (ev_TT X) 163 0 [.ref x, .int t, .int p] [] H n q P := by
  have hk := c_all_k (X := X) hc
  rcases pk_ix t (n := 4) (by omega) with h | h | ⟨i, hi, rfl⟩
  · simp (disch := omega) only [t_X5_valueAt_0, t_X5_valueAt_1, t_X5_valueAt_2, t_X5_valueAt_5, t_X5_valueAt_8, t_X5_valueAt_9, t_X5_valueAt_10, t_X5_valueAt_13, x_X5_valueAt_2, x_X5_valueAt_10, ↓reduceIte, ev_k_i, ev_k_r, ev_k_l, ev_k_J, ev_k_n, ev_kr_1, ev_kr_0, ev_isK_y, ev_aG_y, ev_aS_y, ev_aN_y, ev_inA_0, ev_isA_0, ev_ft_I, ev_ft_0, ev_ft_1, ev_ft_o, ev_ft_a, ev_nb_0, ev_nb_1, and_true, true_and, if_true, if_false, not_true_eq_false, not_false_eq_true, nI_1, ev_fG_0, ev_fG_1, ev_fG_2, ev_fG_3, ev_fG_4, ev_fG_5, ev_fG_6, ev_fG_7, ev_fG_8, ev_fS_0, ev_fS_1, ev_fS_2, ev_fS_3, ev_fS_4, ev_fS_5, ev_fS_6, ev_fS_7, ev_fS_8, ev_isO_0, ev_isO_1, ev_isO_2, ev_isO_3, ev_isO_4, ev_isO_5, ev_isO_6, ev_isO_7, ev_isO_8, ev_z0, ev_z1, ev_z2, eq_self, ev_ofN, hk, C_tableOf_n (Or.inl h)]
    exact k0 (Or.inl h)
  · simp (disch := omega) only [t_X5_valueAt_0, t_X5_valueAt_1, t_X5_valueAt_2, t_X5_valueAt_5, t_X5_valueAt_8, t_X5_valueAt_9, t_X5_valueAt_10, t_X5_valueAt_13, x_X5_valueAt_2, x_X5_valueAt_10, ↓reduceIte, ev_k_i, ev_k_r, ev_k_l, ev_k_J, ev_k_n, ev_kr_1, ev_kr_0, ev_isK_y, ev_aG_y, ev_aS_y, ev_aN_y, ev_inA_0, ev_isA_0, ev_ft_I, ev_ft_0, ev_ft_1, ev_ft_o, ev_ft_a, ev_nb_0, ev_nb_1, and_true, true_and, if_true, if_false, not_true_eq_false, not_false_eq_true, nI_1, ev_fG_0, ev_fG_1, ev_fG_2, ev_fG_3, ev_fG_4, ev_fG_5, ev_fG_6, ev_fG_7, ev_fG_8, ev_fS_0, ev_fS_1, ev_fS_2, ev_fS_3, ev_fS_4, ev_fS_5, ev_fS_6, ev_fS_7, ev_fS_8, ev_isO_0, ev_isO_1, ev_isO_2, ev_isO_3, ev_isO_4, ev_isO_5, ev_isO_6, ev_isO_7, ev_isO_8, ev_z0, ev_z1, ev_z2, eq_self, ev_ofN, hk, C_tableOf_n (Or.inr h)]
    exact k0 (Or.inr h)
  · skip
    obtain ⟨h1, h2, h3⟩ := hc.2.2.2.2.2.2.1 i hi
    have hT := hG.1 i hi
    unfold ev_tbc at h1
    have h3k : ev_isK (ev_lk X H (x + 14 + 5 * i + 3)) 9 = True := by rw [ev_lk_s h3]; exact ev_isK_y
    have h2k := ev_rL_k (X := X) h2
    have h2b := ev_rL_b (X := X) h2
    simp (disch := omega) only [t_X5_valueAt_0, t_X5_valueAt_1, t_X5_valueAt_2, t_X5_valueAt_5, t_X5_valueAt_8, t_X5_valueAt_9, t_X5_valueAt_10, t_X5_valueAt_13, x_X5_valueAt_2, x_X5_valueAt_10, ↓reduceIte, ev_k_i, ev_k_r, ev_k_l, ev_k_J, ev_k_n, ev_kr_1, ev_kr_0, ev_isK_y, ev_aG_y, ev_aS_y, ev_aN_y, ev_inA_0, ev_isA_0, ev_ft_I, ev_ft_0, ev_ft_1, ev_ft_o, ev_ft_a, ev_nb_0, ev_nb_1, and_true, true_and, if_true, if_false, not_true_eq_false, not_false_eq_true, nI_1, ev_fG_0, ev_fG_1, ev_fG_2, ev_fG_3, ev_fG_4, ev_fG_5, ev_fG_6, ev_fG_7, ev_fG_8, ev_fS_0, ev_fS_1, ev_fS_2, ev_fS_3, ev_fS_4, ev_fS_5, ev_fS_6, ev_fS_7, ev_fS_8, ev_isO_0, ev_isO_1, ev_isO_2, ev_isO_3, ev_isO_4, ev_isO_5, ev_isO_6, ev_isO_7, ev_isO_8, ev_z0, ev_z1, ev_z2, eq_self, ev_ofN, hk, C_tableOf_y hc hi, ev_lk_s h1, h3k, h2k]
    refine R_told h2 (okL_len hT.1) ?_
    simp (disch := omega) only [t_X5_valueAt_0, t_X5_valueAt_1, t_X5_valueAt_2, t_X5_valueAt_5, t_X5_valueAt_8, t_X5_valueAt_9, t_X5_valueAt_10, t_X5_valueAt_13, x_X5_valueAt_2, x_X5_valueAt_10, ↓reduceIte, ev_k_i, ev_k_r, ev_k_l, ev_k_J, ev_k_n, ev_kr_1, ev_kr_0, ev_isK_y, ev_aG_y, ev_aS_y, ev_aN_y, ev_inA_0, ev_isA_0, ev_ft_I, ev_ft_0, ev_ft_1, ev_ft_o, ev_ft_a, ev_nb_0, ev_nb_1, and_true, true_and, if_true, if_false, not_true_eq_false, not_false_eq_true, nI_1, ev_fG_0, ev_fG_1, ev_fG_2, ev_fG_3, ev_fG_4, ev_fG_5, ev_fG_6, ev_fG_7, ev_fG_8, ev_fS_0, ev_fS_1, ev_fS_2, ev_fS_3, ev_fS_4, ev_fS_5, ev_fS_6, ev_fS_7, ev_fS_8, ev_isO_0, ev_isO_1, ev_isO_2, ev_isO_3, ev_isO_4, ev_isO_5, ev_isO_6, ev_isO_7, ev_isO_8, ev_z0, ev_z1, ev_z2, eq_self, ev_ofN]
    exact k2 i hi rfl 
theorem C_pairAt (hc : c_all x G H) (hG : okG G) {t p : Int32} (k0 : t < 0 ∨ nI 4 ≤ t → P (.inr 0) H (n + 1) (q + 6))
    (k2 : ∀ i, i < 4 → t = nI i → P (.inl (some (.int (pr_told (G.1 i).1 p 2)))) H n q) : ev_ok (ev_TT X) 160 0 [.ref x, .int t, .int p] [] H n q P := by
  have hk := c_all_k (X := X) hc
  rcases pk_ix t (n := 4) (by omega) with h | h | ⟨i, hi, rfl⟩
  · simp (disch := omega) only [t_X5_pairAt_0, t_X5_pairAt_1, t_X5_pairAt_2, t_X5_pairAt_5, t_X5_pairAt_8, t_X5_pairAt_9, t_X5_pairAt_10, t_X5_pairAt_13, x_X5_pairAt_2, x_X5_pairAt_10, ↓reduceIte, ev_k_i, ev_k_r, ev_k_l, ev_k_J, ev_k_n, ev_kr_1, ev_kr_0, ev_isK_y, ev_aG_y, ev_aS_y, ev_aN_y, ev_inA_0, ev_isA_0, ev_ft_I, ev_ft_0, ev_ft_1, ev_ft_o, ev_ft_a, ev_nb_0, ev_nb_1, and_true, true_and, if_true, if_false, not_true_eq_false, not_false_eq_true, nI_1, ev_fG_0, ev_fG_1, ev_fG_2, ev_fG_3, ev_fG_4, ev_fG_5, ev_fG_6, ev_fG_7, ev_fG_8, ev_fS_0, ev_fS_1, ev_fS_2, ev_fS_3, ev_fS_4, ev_fS_5, ev_fS_6, ev_fS_7, ev_fS_8, ev_isO_0, ev_isO_1, ev_isO_2, ev_isO_3, ev_isO_4, ev_isO_5, ev_isO_6, ev_isO_7, ev_isO_8, ev_z0, ev_z1, ev_z2, eq_self, ev_ofN, hk, C_tableOf_n (Or.inl h)]
    exact k0 (Or.inl h)
  · simp (disch := omega) only [t_X5_pairAt_0, t_X5_pairAt_1, t_X5_pairAt_2, t_X5_pairAt_5, t_X5_pairAt_8, t_X5_pairAt_9, t_X5_pairAt_10, t_X5_pairAt_13, x_X5_pairAt_2, x_X5_pairAt_10, ↓reduceIte, ev_k_i, ev_k_r, ev_k_l, ev_k_J, ev_k_n, ev_kr_1, ev_kr_0, ev_isK_y, ev_aG_y, ev_aS_y, ev_aN_y, ev_inA_0, ev_isA_0, ev_ft_I, ev_ft_0, ev_ft_1, ev_ft_o, ev_ft_a, ev_nb_0, ev_nb_1, and_true, true_and, if_true, if_false, not_true_eq_false, not_false_eq_true, nI_1, ev_fG_0, ev_fG_1, ev_fG_2, ev_fG_3, ev_fG_4, ev_fG_5, ev_fG_6, ev_fG_7, ev_fG_8, ev_fS_0, ev_fS_1, ev_fS_2, ev_fS_3, ev_fS_4, ev_fS_5, ev_fS_6, ev_fS_7, ev_fS_8, ev_isO_0, ev_isO_1, ev_isO_2, ev_isO_3, ev_isO_4, ev_isO_5, ev_isO_6, ev_isO_7, ev_isO_8, ev_z0, ev_z1, ev_z2, eq_self, ev_ofN, hk, C_tableOf_n (Or.inr h)]
    exact k0 (Or.inr h)
  · skip
    obtain ⟨h1, h2, h3⟩ := hc.2.2.2.2.2.2.1 i hi
    have hT := hG.1 i hi
    unfold ev_tbc at h1
    have h3k : ev_isK (ev_lk X H (x + 14 + 5 * i + 3)) 9 = True := by rw [ev_lk_s h3]; exact ev_isK_y
    have h2k := ev_rL_k (X := X) h2
    have h2b := ev_rL_b (X := X) h2
    simp (disch := omega) only [t_X5_pairAt_0, t_X5_pairAt_1, t_X5_pairAt_2, t_X5_pairAt_5, t_X5_pairAt_8, t_X5_pairAt_9, t_X5_pairAt_10, t_X5_pairAt_13, x_X5_pairAt_2, x_X5_pairAt_10, ↓reduceIte, ev_k_i, ev_k_r, ev_k_l, ev_k_J, ev_k_n, ev_kr_1, ev_kr_0, ev_isK_y, ev_aG_y, ev_aS_y, ev_aN_y, ev_inA_0, ev_isA_0, ev_ft_I, ev_ft_0, ev_ft_1, ev_ft_o, ev_ft_a, ev_nb_0, ev_nb_1, and_true, true_and, if_true, if_false, not_true_eq_false, not_false_eq_true, nI_1, ev_fG_0, ev_fG_1, ev_fG_2, ev_fG_3, ev_fG_4, ev_fG_5, ev_fG_6, ev_fG_7, ev_fG_8, ev_fS_0, ev_fS_1, ev_fS_2, ev_fS_3, ev_fS_4, ev_fS_5, ev_fS_6, ev_fS_7, ev_fS_8, ev_isO_0, ev_isO_1, ev_isO_2, ev_isO_3, ev_isO_4, ev_isO_5, ev_isO_6, ev_isO_7, ev_isO_8, ev_z0, ev_z1, ev_z2, eq_self, ev_ofN, hk, C_tableOf_y hc hi, ev_lk_s h1, h3k, h2k]
    refine R_told h2 (okL_len hT.1) ?_
    simp (disch := omega) only [t_X5_pairAt_0, t_X5_pairAt_1, t_X5_pairAt_2, t_X5_pairAt_5, t_X5_pairAt_8, t_X5_pairAt_9, t_X5_pairAt_10, t_X5_pairAt_13, x_X5_pairAt_2, x_X5_pairAt_10, ↓reduceIte, ev_k_i, ev_k_r, ev_k_l, ev_k_J, ev_k_n, ev_kr_1, ev_kr_0, ev_isK_y, ev_aG_y, ev_aS_y, ev_aN_y, ev_inA_0, ev_isA_0, ev_ft_I, ev_ft_0, ev_ft_1, ev_ft_o, ev_ft_a, ev_nb_0, ev_nb_1, and_true, true_and, if_true, if_false, not_true_eq_false, not_false_eq_true, nI_1, ev_fG_0, ev_fG_1, ev_fG_2, ev_fG_3, ev_fG_4, ev_fG_5, ev_fG_6, ev_fG_7, ev_fG_8, ev_fS_0, ev_fS_1, ev_fS_2, ev_fS_3, ev_fS_4, ev_fS_5, ev_fS_6, ev_fS_7, ev_fS_8, ev_isO_0, ev_isO_1, ev_isO_2, ev_isO_3, ev_isO_4, ev_isO_5, ev_isO_6, ev_isO_7, ev_isO_8, ev_z0, ev_z1, ev_z2, eq_self, ev_ofN]
    exact k2 i hi rfl 
theorem C_eldest (hc : c_all x G H) (hG : okG G) {t : Int32} (k0 : t < 0 ∨ nI 4 ≤ t → P (.inr 0) H (n + 1) (q + 6))
    (k2 : ∀ i, i < 4 → t = nI i → P (.inl (some (.int (pr_told (G.1 i).1 0 0)))) H n q) : ev_ok (ev_TT X) 150 0 [.ref x, .int t] [] H n q P := by
  have hk := c_all_k (X := X) hc
  rcases pk_ix t (n := 4) (by omega) with h | h | ⟨i, hi, rfl⟩
  · simp (disch := omega) only [t_X5_eldest_0, t_X5_eldest_1, t_X5_eldest_2, t_X5_eldest_5, t_X5_eldest_8, t_X5_eldest_9, t_X5_eldest_10, t_X5_eldest_13, x_X5_eldest_2, x_X5_eldest_10, ↓reduceIte, ev_k_i, ev_k_r, ev_k_l, ev_k_J, ev_k_n, ev_kr_1, ev_kr_0, ev_isK_y, ev_aG_y, ev_aS_y, ev_aN_y, ev_inA_0, ev_isA_0, ev_ft_I, ev_ft_0, ev_ft_1, ev_ft_o, ev_ft_a, ev_nb_0, ev_nb_1, and_true, true_and, if_true, if_false, not_true_eq_false, not_false_eq_true, nI_1, ev_fG_0, ev_fG_1, ev_fG_2, ev_fG_3, ev_fG_4, ev_fG_5, ev_fG_6, ev_fG_7, ev_fG_8, ev_fS_0, ev_fS_1, ev_fS_2, ev_fS_3, ev_fS_4, ev_fS_5, ev_fS_6, ev_fS_7, ev_fS_8, ev_isO_0, ev_isO_1, ev_isO_2, ev_isO_3, ev_isO_4, ev_isO_5, ev_isO_6, ev_isO_7, ev_isO_8, ev_z0, ev_z1, ev_z2, eq_self, ev_ofN, hk, C_tableOf_n (Or.inl h)]
    exact k0 (Or.inl h)
  · simp (disch := omega) only [t_X5_eldest_0, t_X5_eldest_1, t_X5_eldest_2, t_X5_eldest_5, t_X5_eldest_8, t_X5_eldest_9, t_X5_eldest_10, t_X5_eldest_13, x_X5_eldest_2, x_X5_eldest_10, ↓reduceIte, ev_k_i, ev_k_r, ev_k_l, ev_k_J, ev_k_n, ev_kr_1, ev_kr_0, ev_isK_y, ev_aG_y, ev_aS_y, ev_aN_y, ev_inA_0, ev_isA_0, ev_ft_I, ev_ft_0, ev_ft_1, ev_ft_o, ev_ft_a, ev_nb_0, ev_nb_1, and_true, true_and, if_true, if_false, not_true_eq_false, not_false_eq_true, nI_1, ev_fG_0, ev_fG_1, ev_fG_2, ev_fG_3, ev_fG_4, ev_fG_5, ev_fG_6, ev_fG_7, ev_fG_8, ev_fS_0, ev_fS_1, ev_fS_2, ev_fS_3, ev_fS_4, ev_fS_5, ev_fS_6, ev_fS_7, ev_fS_8, ev_isO_0, ev_isO_1, ev_isO_2, ev_isO_3, ev_isO_4, ev_isO_5, ev_isO_6, ev_isO_7, ev_isO_8, ev_z0, ev_z1, ev_z2, eq_self, ev_ofN, hk, C_tableOf_n (Or.inr h)]
    exact k0 (Or.inr h)
  · skip
    obtain ⟨h1, h2, h3⟩ := hc.2.2.2.2.2.2.1 i hi
    have hT := hG.1 i hi
    unfold ev_tbc at h1
    have h3k : ev_isK (ev_lk X H (x + 14 + 5 * i + 3)) 9 = True := by rw [ev_lk_s h3]; exact ev_isK_y
    have h2k := ev_rL_k (X := X) h2
    have h2b := ev_rL_b (X := X) h2
    simp (disch := omega) only [t_X5_eldest_0, t_X5_eldest_1, t_X5_eldest_2, t_X5_eldest_5, t_X5_eldest_8, t_X5_eldest_9, t_X5_eldest_10, t_X5_eldest_13, x_X5_eldest_2, x_X5_eldest_10, ↓reduceIte, ev_k_i, ev_k_r, ev_k_l, ev_k_J, ev_k_n, ev_kr_1, ev_kr_0, ev_isK_y, ev_aG_y, ev_aS_y, ev_aN_y, ev_inA_0, ev_isA_0, ev_ft_I, ev_ft_0, ev_ft_1, ev_ft_o, ev_ft_a, ev_nb_0, ev_nb_1, and_true, true_and, if_true, if_false, not_true_eq_false, not_false_eq_true, nI_1, ev_fG_0, ev_fG_1, ev_fG_2, ev_fG_3, ev_fG_4, ev_fG_5, ev_fG_6, ev_fG_7, ev_fG_8, ev_fS_0, ev_fS_1, ev_fS_2, ev_fS_3, ev_fS_4, ev_fS_5, ev_fS_6, ev_fS_7, ev_fS_8, ev_isO_0, ev_isO_1, ev_isO_2, ev_isO_3, ev_isO_4, ev_isO_5, ev_isO_6, ev_isO_7, ev_isO_8, ev_z0, ev_z1, ev_z2, eq_self, ev_ofN, hk, C_tableOf_y hc hi, ev_lk_s h1, h3k, h2k]
    refine R_told h2 (okL_len hT.1) ?_
    simp (disch := omega) only [t_X5_eldest_0, t_X5_eldest_1, t_X5_eldest_2, t_X5_eldest_5, t_X5_eldest_8, t_X5_eldest_9, t_X5_eldest_10, t_X5_eldest_13, x_X5_eldest_2, x_X5_eldest_10, ↓reduceIte, ev_k_i, ev_k_r, ev_k_l, ev_k_J, ev_k_n, ev_kr_1, ev_kr_0, ev_isK_y, ev_aG_y, ev_aS_y, ev_aN_y, ev_inA_0, ev_isA_0, ev_ft_I, ev_ft_0, ev_ft_1, ev_ft_o, ev_ft_a, ev_nb_0, ev_nb_1, and_true, true_and, if_true, if_false, not_true_eq_false, not_false_eq_true, nI_1, ev_fG_0, ev_fG_1, ev_fG_2, ev_fG_3, ev_fG_4, ev_fG_5, ev_fG_6, ev_fG_7, ev_fG_8, ev_fS_0, ev_fS_1, ev_fS_2, ev_fS_3, ev_fS_4, ev_fS_5, ev_fS_6, ev_fS_7, ev_fS_8, ev_isO_0, ev_isO_1, ev_isO_2, ev_isO_3, ev_isO_4, ev_isO_5, ev_isO_6, ev_isO_7, ev_isO_8, ev_z0, ev_z1, ev_z2, eq_self, ev_ofN]
    exact k2 i hi rfl 
theorem C_latest (hc : c_all x G H) (hG : okG G) {t : Int32} (k0 : t < 0 ∨ nI 4 ≤ t → P (.inr 0) H (n + 1) (q + 6))
    (k2 : ∀ i, i < 4 → t = nI i → P (.inl (some (.int (pr_told (G.1 i).1 (nI (G.1 i).1.length - 1) 0)))) H n q) : ev_ok (ev_TT X) 156 0 [.ref x, .int t, ev_J] [] H n q P := by
  have hk := c_all_k (X := X) hc
  rcases pk_ix t (n := 4) (by omega) with h | h | ⟨i, hi, rfl⟩
  · simp (disch := omega) only [t_X5_latest_0, t_X5_latest_1, t_X5_latest_2, t_X5_latest_5, t_X5_latest_6, t_X5_latest_7, t_X5_latest_10, t_X5_latest_11, t_X5_latest_14, t_X5_latest_17, t_X5_latest_18, t_X5_latest_19, t_X5_latest_20, t_X5_latest_23, x_X5_latest_2, x_X5_latest_20, ↓reduceIte, ev_k_i, ev_k_r, ev_k_l, ev_k_J, ev_k_n, ev_kr_1, ev_kr_0, ev_isK_y, ev_aG_y, ev_aS_y, ev_aN_y, ev_inA_0, ev_isA_0, ev_ft_I, ev_ft_0, ev_ft_1, ev_ft_o, ev_ft_a, ev_nb_0, ev_nb_1, and_true, true_and, if_true, if_false, not_true_eq_false, not_false_eq_true, nI_1, ev_fG_0, ev_fG_1, ev_fG_2, ev_fG_3, ev_fG_4, ev_fG_5, ev_fG_6, ev_fG_7, ev_fG_8, ev_fS_0, ev_fS_1, ev_fS_2, ev_fS_3, ev_fS_4, ev_fS_5, ev_fS_6, ev_fS_7, ev_fS_8, ev_isO_0, ev_isO_1, ev_isO_2, ev_isO_3, ev_isO_4, ev_isO_5, ev_isO_6, ev_isO_7, ev_isO_8, ev_z0, ev_z1, ev_z2, eq_self, ev_ofN, hk, C_tableOf_n (Or.inl h)]
    exact k0 (Or.inl h)
  · simp (disch := omega) only [t_X5_latest_0, t_X5_latest_1, t_X5_latest_2, t_X5_latest_5, t_X5_latest_6, t_X5_latest_7, t_X5_latest_10, t_X5_latest_11, t_X5_latest_14, t_X5_latest_17, t_X5_latest_18, t_X5_latest_19, t_X5_latest_20, t_X5_latest_23, x_X5_latest_2, x_X5_latest_20, ↓reduceIte, ev_k_i, ev_k_r, ev_k_l, ev_k_J, ev_k_n, ev_kr_1, ev_kr_0, ev_isK_y, ev_aG_y, ev_aS_y, ev_aN_y, ev_inA_0, ev_isA_0, ev_ft_I, ev_ft_0, ev_ft_1, ev_ft_o, ev_ft_a, ev_nb_0, ev_nb_1, and_true, true_and, if_true, if_false, not_true_eq_false, not_false_eq_true, nI_1, ev_fG_0, ev_fG_1, ev_fG_2, ev_fG_3, ev_fG_4, ev_fG_5, ev_fG_6, ev_fG_7, ev_fG_8, ev_fS_0, ev_fS_1, ev_fS_2, ev_fS_3, ev_fS_4, ev_fS_5, ev_fS_6, ev_fS_7, ev_fS_8, ev_isO_0, ev_isO_1, ev_isO_2, ev_isO_3, ev_isO_4, ev_isO_5, ev_isO_6, ev_isO_7, ev_isO_8, ev_z0, ev_z1, ev_z2, eq_self, ev_ofN, hk, C_tableOf_n (Or.inr h)]
    exact k0 (Or.inr h)
  · skip
    obtain ⟨h1, h2, h3⟩ := hc.2.2.2.2.2.2.1 i hi
    have hT := hG.1 i hi
    unfold ev_tbc at h1
    have h3k : ev_isK (ev_lk X H (x + 14 + 5 * i + 3)) 9 = True := by rw [ev_lk_s h3]; exact ev_isK_y
    have h2k := ev_rL_k (X := X) h2
    have h2b := ev_rL_b (X := X) h2
    simp (disch := omega) only [t_X5_latest_0, t_X5_latest_1, t_X5_latest_2, t_X5_latest_5, t_X5_latest_6, t_X5_latest_7, t_X5_latest_10, t_X5_latest_11, t_X5_latest_14, t_X5_latest_17, t_X5_latest_18, t_X5_latest_19, t_X5_latest_20, t_X5_latest_23, x_X5_latest_2, x_X5_latest_20, ↓reduceIte, ev_k_i, ev_k_r, ev_k_l, ev_k_J, ev_k_n, ev_kr_1, ev_kr_0, ev_isK_y, ev_aG_y, ev_aS_y, ev_aN_y, ev_inA_0, ev_isA_0, ev_ft_I, ev_ft_0, ev_ft_1, ev_ft_o, ev_ft_a, ev_nb_0, ev_nb_1, and_true, true_and, if_true, if_false, not_true_eq_false, not_false_eq_true, nI_1, ev_fG_0, ev_fG_1, ev_fG_2, ev_fG_3, ev_fG_4, ev_fG_5, ev_fG_6, ev_fG_7, ev_fG_8, ev_fS_0, ev_fS_1, ev_fS_2, ev_fS_3, ev_fS_4, ev_fS_5, ev_fS_6, ev_fS_7, ev_fS_8, ev_isO_0, ev_isO_1, ev_isO_2, ev_isO_3, ev_isO_4, ev_isO_5, ev_isO_6, ev_isO_7, ev_isO_8, ev_z0, ev_z1, ev_z2, eq_self, ev_ofN, hk, C_tableOf_y hc hi, ev_lk_s h1, h3k, h2k, h2b.2.1.1, h2b.2.1.2]
    refine R_told h2 (okL_len hT.1) ?_
    simp (disch := omega) only [t_X5_latest_0, t_X5_latest_1, t_X5_latest_2, t_X5_latest_5, t_X5_latest_6, t_X5_latest_7, t_X5_latest_10, t_X5_latest_11, t_X5_latest_14, t_X5_latest_17, t_X5_latest_18, t_X5_latest_19, t_X5_latest_20, t_X5_latest_23, x_X5_latest_2, x_X5_latest_20, ↓reduceIte, ev_k_i, ev_k_r, ev_k_l, ev_k_J, ev_k_n, ev_kr_1, ev_kr_0, ev_isK_y, ev_aG_y, ev_aS_y, ev_aN_y, ev_inA_0, ev_isA_0, ev_ft_I, ev_ft_0, ev_ft_1, ev_ft_o, ev_ft_a, ev_nb_0, ev_nb_1, and_true, true_and, if_true, if_false, not_true_eq_false, not_false_eq_true, nI_1, ev_fG_0, ev_fG_1, ev_fG_2, ev_fG_3, ev_fG_4, ev_fG_5, ev_fG_6, ev_fG_7, ev_fG_8, ev_fS_0, ev_fS_1, ev_fS_2, ev_fS_3, ev_fS_4, ev_fS_5, ev_fS_6, ev_fS_7, ev_fS_8, ev_isO_0, ev_isO_1, ev_isO_2, ev_isO_3, ev_isO_4, ev_isO_5, ev_isO_6, ev_isO_7, ev_isO_8, ev_z0, ev_z1, ev_z2, eq_self, ev_ofN]
    exact k2 i hi rfl 
theorem C_placeOf (hc : c_all x G H) (hG : okG G) {t k : Int32} (k0 : t < 0 ∨ nI 4 ≤ t → P (.inr 0) H (n + 1) (q + 6))
    (k_k : ∀ i, i < 4 → t = nI i → (k < 0 ∨ nI 20 ≤ k) → P (.inr 1) H (n + 1) (q + 6))
    (k2 : ∀ i a_k, i < 4 → t = nI i → a_k < 20 → k = nI a_k → P (.inl (some (.int (pf_place (G.1 i).1 k)))) H n q) : ev_ok (ev_TT X) 111 0 [.ref x, .int t, .int k, ev_J] [] H n q P := by
  have hk := c_all_k (X := X) hc
  rcases pk_ix t (n := 4) (by omega) with h | h | ⟨i, hi, rfl⟩
  · simp (disch := omega) only [t_X5_placeOf_0, t_X5_placeOf_1, t_X5_placeOf_2, t_X5_placeOf_5, t_X5_placeOf_6, t_X5_placeOf_7, t_X5_placeOf_10, t_X5_placeOf_11, t_X5_placeOf_14, t_X5_placeOf_15, t_X5_placeOf_18, x_X5_placeOf_2, x_X5_placeOf_7, x_X5_placeOf_15, ↓reduceIte, ev_k_i, ev_k_r, ev_k_l, ev_k_J, ev_k_n, ev_kr_1, ev_kr_0, ev_isK_y, ev_aG_y, ev_aS_y, ev_aN_y, ev_inA_0, ev_isA_0, ev_ft_I, ev_ft_0, ev_ft_1, ev_ft_o, ev_ft_a, ev_nb_0, ev_nb_1, and_true, true_and, if_true, if_false, not_true_eq_false, not_false_eq_true, nI_1, ev_fG_0, ev_fG_1, ev_fG_2, ev_fG_3, ev_fG_4, ev_fG_5, ev_fG_6, ev_fG_7, ev_fG_8, ev_fS_0, ev_fS_1, ev_fS_2, ev_fS_3, ev_fS_4, ev_fS_5, ev_fS_6, ev_fS_7, ev_fS_8, ev_isO_0, ev_isO_1, ev_isO_2, ev_isO_3, ev_isO_4, ev_isO_5, ev_isO_6, ev_isO_7, ev_isO_8, ev_z0, ev_z1, ev_z2, eq_self, ev_ofN, hk, C_tableOf_n (Or.inl h)]
    exact k0 (Or.inl h)
  · simp (disch := omega) only [t_X5_placeOf_0, t_X5_placeOf_1, t_X5_placeOf_2, t_X5_placeOf_5, t_X5_placeOf_6, t_X5_placeOf_7, t_X5_placeOf_10, t_X5_placeOf_11, t_X5_placeOf_14, t_X5_placeOf_15, t_X5_placeOf_18, x_X5_placeOf_2, x_X5_placeOf_7, x_X5_placeOf_15, ↓reduceIte, ev_k_i, ev_k_r, ev_k_l, ev_k_J, ev_k_n, ev_kr_1, ev_kr_0, ev_isK_y, ev_aG_y, ev_aS_y, ev_aN_y, ev_inA_0, ev_isA_0, ev_ft_I, ev_ft_0, ev_ft_1, ev_ft_o, ev_ft_a, ev_nb_0, ev_nb_1, and_true, true_and, if_true, if_false, not_true_eq_false, not_false_eq_true, nI_1, ev_fG_0, ev_fG_1, ev_fG_2, ev_fG_3, ev_fG_4, ev_fG_5, ev_fG_6, ev_fG_7, ev_fG_8, ev_fS_0, ev_fS_1, ev_fS_2, ev_fS_3, ev_fS_4, ev_fS_5, ev_fS_6, ev_fS_7, ev_fS_8, ev_isO_0, ev_isO_1, ev_isO_2, ev_isO_3, ev_isO_4, ev_isO_5, ev_isO_6, ev_isO_7, ev_isO_8, ev_z0, ev_z1, ev_z2, eq_self, ev_ofN, hk, C_tableOf_n (Or.inr h)]
    exact k0 (Or.inr h)
  · rcases pk_ix k (n := 20) (by omega) with h | h | ⟨a_k, ha_k, rfl⟩
    · simp (disch := omega) only [t_X5_placeOf_0, t_X5_placeOf_1, t_X5_placeOf_2, t_X5_placeOf_5, t_X5_placeOf_6, t_X5_placeOf_7, t_X5_placeOf_10, t_X5_placeOf_11, t_X5_placeOf_14, t_X5_placeOf_15, t_X5_placeOf_18, x_X5_placeOf_2, x_X5_placeOf_7, x_X5_placeOf_15, ↓reduceIte, ev_k_i, ev_k_r, ev_k_l, ev_k_J, ev_k_n, ev_kr_1, ev_kr_0, ev_isK_y, ev_aG_y, ev_aS_y, ev_aN_y, ev_inA_0, ev_isA_0, ev_ft_I, ev_ft_0, ev_ft_1, ev_ft_o, ev_ft_a, ev_nb_0, ev_nb_1, and_true, true_and, if_true, if_false, not_true_eq_false, not_false_eq_true, nI_1, ev_fG_0, ev_fG_1, ev_fG_2, ev_fG_3, ev_fG_4, ev_fG_5, ev_fG_6, ev_fG_7, ev_fG_8, ev_fS_0, ev_fS_1, ev_fS_2, ev_fS_3, ev_fS_4, ev_fS_5, ev_fS_6, ev_fS_7, ev_fS_8, ev_isO_0, ev_isO_1, ev_isO_2, ev_isO_3, ev_isO_4, ev_isO_5, ev_isO_6, ev_isO_7, ev_isO_8, ev_z0, ev_z1, ev_z2, eq_self, ev_ofN, hk, C_tableOf_y hc hi, C_dKey_n (Or.inl h)]
      exact k_k i hi rfl (Or.inl h)
    · simp (disch := omega) only [t_X5_placeOf_0, t_X5_placeOf_1, t_X5_placeOf_2, t_X5_placeOf_5, t_X5_placeOf_6, t_X5_placeOf_7, t_X5_placeOf_10, t_X5_placeOf_11, t_X5_placeOf_14, t_X5_placeOf_15, t_X5_placeOf_18, x_X5_placeOf_2, x_X5_placeOf_7, x_X5_placeOf_15, ↓reduceIte, ev_k_i, ev_k_r, ev_k_l, ev_k_J, ev_k_n, ev_kr_1, ev_kr_0, ev_isK_y, ev_aG_y, ev_aS_y, ev_aN_y, ev_inA_0, ev_isA_0, ev_ft_I, ev_ft_0, ev_ft_1, ev_ft_o, ev_ft_a, ev_nb_0, ev_nb_1, and_true, true_and, if_true, if_false, not_true_eq_false, not_false_eq_true, nI_1, ev_fG_0, ev_fG_1, ev_fG_2, ev_fG_3, ev_fG_4, ev_fG_5, ev_fG_6, ev_fG_7, ev_fG_8, ev_fS_0, ev_fS_1, ev_fS_2, ev_fS_3, ev_fS_4, ev_fS_5, ev_fS_6, ev_fS_7, ev_fS_8, ev_isO_0, ev_isO_1, ev_isO_2, ev_isO_3, ev_isO_4, ev_isO_5, ev_isO_6, ev_isO_7, ev_isO_8, ev_z0, ev_z1, ev_z2, eq_self, ev_ofN, hk, C_tableOf_y hc hi, C_dKey_n (Or.inr h)]
      exact k_k i hi rfl (Or.inr h)
    · skip
      obtain ⟨h1, h2, h3⟩ := hc.2.2.2.2.2.2.1 i hi
      have hT := hG.1 i hi
      unfold ev_tbc at h1
      have h3k : ev_isK (ev_lk X H (x + 14 + 5 * i + 3)) 9 = True := by rw [ev_lk_s h3]; exact ev_isK_y
      have h2k := ev_rL_k (X := X) h2
      have h2b := ev_rL_b (X := X) h2
      simp (disch := omega) only [t_X5_placeOf_0, t_X5_placeOf_1, t_X5_placeOf_2, t_X5_placeOf_5, t_X5_placeOf_6, t_X5_placeOf_7, t_X5_placeOf_10, t_X5_placeOf_11, t_X5_placeOf_14, t_X5_placeOf_15, t_X5_placeOf_18, x_X5_placeOf_2, x_X5_placeOf_7, x_X5_placeOf_15, ↓reduceIte, ev_k_i, ev_k_r, ev_k_l, ev_k_J, ev_k_n, ev_kr_1, ev_kr_0, ev_isK_y, ev_aG_y, ev_aS_y, ev_aN_y, ev_inA_0, ev_isA_0, ev_ft_I, ev_ft_0, ev_ft_1, ev_ft_o, ev_ft_a, ev_nb_0, ev_nb_1, and_true, true_and, if_true, if_false, not_true_eq_false, not_false_eq_true, nI_1, ev_fG_0, ev_fG_1, ev_fG_2, ev_fG_3, ev_fG_4, ev_fG_5, ev_fG_6, ev_fG_7, ev_fG_8, ev_fS_0, ev_fS_1, ev_fS_2, ev_fS_3, ev_fS_4, ev_fS_5, ev_fS_6, ev_fS_7, ev_fS_8, ev_isO_0, ev_isO_1, ev_isO_2, ev_isO_3, ev_isO_4, ev_isO_5, ev_isO_6, ev_isO_7, ev_isO_8, ev_z0, ev_z1, ev_z2, eq_self, ev_ofN, hk, C_tableOf_y hc hi, C_dKey_y ha_k, ev_lk_s h1, h3k, h2k]
      refine R_find h2 (okL_len hT.1) ?_
      simp (disch := omega) only [t_X5_placeOf_0, t_X5_placeOf_1, t_X5_placeOf_2, t_X5_placeOf_5, t_X5_placeOf_6, t_X5_placeOf_7, t_X5_placeOf_10, t_X5_placeOf_11, t_X5_placeOf_14, t_X5_placeOf_15, t_X5_placeOf_18, x_X5_placeOf_2, x_X5_placeOf_7, x_X5_placeOf_15, ↓reduceIte, ev_k_i, ev_k_r, ev_k_l, ev_k_J, ev_k_n, ev_kr_1, ev_kr_0, ev_isK_y, ev_aG_y, ev_aS_y, ev_aN_y, ev_inA_0, ev_isA_0, ev_ft_I, ev_ft_0, ev_ft_1, ev_ft_o, ev_ft_a, ev_nb_0, ev_nb_1, and_true, true_and, if_true, if_false, not_true_eq_false, not_false_eq_true, nI_1, ev_fG_0, ev_fG_1, ev_fG_2, ev_fG_3, ev_fG_4, ev_fG_5, ev_fG_6, ev_fG_7, ev_fG_8, ev_fS_0, ev_fS_1, ev_fS_2, ev_fS_3, ev_fS_4, ev_fS_5, ev_fS_6, ev_fS_7, ev_fS_8, ev_isO_0, ev_isO_1, ev_isO_2, ev_isO_3, ev_isO_4, ev_isO_5, ev_isO_6, ev_isO_7, ev_isO_8, ev_z0, ev_z1, ev_z2, eq_self, ev_ofN]
      exact k2 i a_k hi rfl ha_k rfl 
theorem C_has (hc : c_all x G H) (hG : okG G) {t k : Int32} (k0 : t < 0 ∨ nI 4 ≤ t → P (.inr 0) H (n + 1) (q + 6))
    (k_k : ∀ i, i < 4 → t = nI i → (k < 0 ∨ nI 20 ≤ k) → P (.inr 1) H (n + 1) (q + 6))
    (k2 : ∀ i a_k, i < 4 → t = nI i → a_k < 20 → k = nI a_k → P (.inl (some (.int (ev_bb (pf_find (G.1 i).1 k).isSome)))) H n q) : ev_ok (ev_TT X) 105 0 [.ref x, .int t, .int k, ev_J] [] H n q P := by
  have hk := c_all_k (X := X) hc
  rcases pk_ix t (n := 4) (by omega) with h | h | ⟨i, hi, rfl⟩
  · simp (disch := omega) only [t_X5_has_0, t_X5_has_1, t_X5_has_2, t_X5_has_5, t_X5_has_6, t_X5_has_7, t_X5_has_10, t_X5_has_11, t_X5_has_14, t_X5_has_15, t_X5_has_18, t_X5_has_19, t_X5_has_22, t_X5_has_23, t_X5_has_26, t_X5_has_27, x_X5_has_2, x_X5_has_7, x_X5_has_15, ↓reduceIte, ev_k_i, ev_k_r, ev_k_l, ev_k_J, ev_k_n, ev_kr_1, ev_kr_0, ev_isK_y, ev_aG_y, ev_aS_y, ev_aN_y, ev_inA_0, ev_isA_0, ev_ft_I, ev_ft_0, ev_ft_1, ev_ft_o, ev_ft_a, ev_nb_0, ev_nb_1, and_true, true_and, if_true, if_false, not_true_eq_false, not_false_eq_true, nI_1, ev_fG_0, ev_fG_1, ev_fG_2, ev_fG_3, ev_fG_4, ev_fG_5, ev_fG_6, ev_fG_7, ev_fG_8, ev_fS_0, ev_fS_1, ev_fS_2, ev_fS_3, ev_fS_4, ev_fS_5, ev_fS_6, ev_fS_7, ev_fS_8, ev_isO_0, ev_isO_1, ev_isO_2, ev_isO_3, ev_isO_4, ev_isO_5, ev_isO_6, ev_isO_7, ev_isO_8, ev_z0, ev_z1, ev_z2, eq_self, ev_ofN, hk, C_tableOf_n (Or.inl h)]
    exact k0 (Or.inl h)
  · simp (disch := omega) only [t_X5_has_0, t_X5_has_1, t_X5_has_2, t_X5_has_5, t_X5_has_6, t_X5_has_7, t_X5_has_10, t_X5_has_11, t_X5_has_14, t_X5_has_15, t_X5_has_18, t_X5_has_19, t_X5_has_22, t_X5_has_23, t_X5_has_26, t_X5_has_27, x_X5_has_2, x_X5_has_7, x_X5_has_15, ↓reduceIte, ev_k_i, ev_k_r, ev_k_l, ev_k_J, ev_k_n, ev_kr_1, ev_kr_0, ev_isK_y, ev_aG_y, ev_aS_y, ev_aN_y, ev_inA_0, ev_isA_0, ev_ft_I, ev_ft_0, ev_ft_1, ev_ft_o, ev_ft_a, ev_nb_0, ev_nb_1, and_true, true_and, if_true, if_false, not_true_eq_false, not_false_eq_true, nI_1, ev_fG_0, ev_fG_1, ev_fG_2, ev_fG_3, ev_fG_4, ev_fG_5, ev_fG_6, ev_fG_7, ev_fG_8, ev_fS_0, ev_fS_1, ev_fS_2, ev_fS_3, ev_fS_4, ev_fS_5, ev_fS_6, ev_fS_7, ev_fS_8, ev_isO_0, ev_isO_1, ev_isO_2, ev_isO_3, ev_isO_4, ev_isO_5, ev_isO_6, ev_isO_7, ev_isO_8, ev_z0, ev_z1, ev_z2, eq_self, ev_ofN, hk, C_tableOf_n (Or.inr h)]
    exact k0 (Or.inr h)
  · rcases pk_ix k (n := 20) (by omega) with h | h | ⟨a_k, ha_k, rfl⟩
    · simp (disch := omega) only [t_X5_has_0, t_X5_has_1, t_X5_has_2, t_X5_has_5, t_X5_has_6, t_X5_has_7, t_X5_has_10, t_X5_has_11, t_X5_has_14, t_X5_has_15, t_X5_has_18, t_X5_has_19, t_X5_has_22, t_X5_has_23, t_X5_has_26, t_X5_has_27, x_X5_has_2, x_X5_has_7, x_X5_has_15, ↓reduceIte, ev_k_i, ev_k_r, ev_k_l, ev_k_J, ev_k_n, ev_kr_1, ev_kr_0, ev_isK_y, ev_aG_y, ev_aS_y, ev_aN_y, ev_inA_0, ev_isA_0, ev_ft_I, ev_ft_0, ev_ft_1, ev_ft_o, ev_ft_a, ev_nb_0, ev_nb_1, and_true, true_and, if_true, if_false, not_true_eq_false, not_false_eq_true, nI_1, ev_fG_0, ev_fG_1, ev_fG_2, ev_fG_3, ev_fG_4, ev_fG_5, ev_fG_6, ev_fG_7, ev_fG_8, ev_fS_0, ev_fS_1, ev_fS_2, ev_fS_3, ev_fS_4, ev_fS_5, ev_fS_6, ev_fS_7, ev_fS_8, ev_isO_0, ev_isO_1, ev_isO_2, ev_isO_3, ev_isO_4, ev_isO_5, ev_isO_6, ev_isO_7, ev_isO_8, ev_z0, ev_z1, ev_z2, eq_self, ev_ofN, hk, C_tableOf_y hc hi, C_dKey_n (Or.inl h)]
      exact k_k i hi rfl (Or.inl h)
    · simp (disch := omega) only [t_X5_has_0, t_X5_has_1, t_X5_has_2, t_X5_has_5, t_X5_has_6, t_X5_has_7, t_X5_has_10, t_X5_has_11, t_X5_has_14, t_X5_has_15, t_X5_has_18, t_X5_has_19, t_X5_has_22, t_X5_has_23, t_X5_has_26, t_X5_has_27, x_X5_has_2, x_X5_has_7, x_X5_has_15, ↓reduceIte, ev_k_i, ev_k_r, ev_k_l, ev_k_J, ev_k_n, ev_kr_1, ev_kr_0, ev_isK_y, ev_aG_y, ev_aS_y, ev_aN_y, ev_inA_0, ev_isA_0, ev_ft_I, ev_ft_0, ev_ft_1, ev_ft_o, ev_ft_a, ev_nb_0, ev_nb_1, and_true, true_and, if_true, if_false, not_true_eq_false, not_false_eq_true, nI_1, ev_fG_0, ev_fG_1, ev_fG_2, ev_fG_3, ev_fG_4, ev_fG_5, ev_fG_6, ev_fG_7, ev_fG_8, ev_fS_0, ev_fS_1, ev_fS_2, ev_fS_3, ev_fS_4, ev_fS_5, ev_fS_6, ev_fS_7, ev_fS_8, ev_isO_0, ev_isO_1, ev_isO_2, ev_isO_3, ev_isO_4, ev_isO_5, ev_isO_6, ev_isO_7, ev_isO_8, ev_z0, ev_z1, ev_z2, eq_self, ev_ofN, hk, C_tableOf_y hc hi, C_dKey_n (Or.inr h)]
      exact k_k i hi rfl (Or.inr h)
    · skip
      obtain ⟨h1, h2, h3⟩ := hc.2.2.2.2.2.2.1 i hi
      have hT := hG.1 i hi
      unfold ev_tbc at h1
      have h3k : ev_isK (ev_lk X H (x + 14 + 5 * i + 3)) 9 = True := by rw [ev_lk_s h3]; exact ev_isK_y
      have h2k := ev_rL_k (X := X) h2
      have h2b := ev_rL_b (X := X) h2
      simp (disch := omega) only [t_X5_has_0, t_X5_has_1, t_X5_has_2, t_X5_has_5, t_X5_has_6, t_X5_has_7, t_X5_has_10, t_X5_has_11, t_X5_has_14, t_X5_has_15, t_X5_has_18, t_X5_has_19, t_X5_has_22, t_X5_has_23, t_X5_has_26, t_X5_has_27, x_X5_has_2, x_X5_has_7, x_X5_has_15, ↓reduceIte, ev_k_i, ev_k_r, ev_k_l, ev_k_J, ev_k_n, ev_kr_1, ev_kr_0, ev_isK_y, ev_aG_y, ev_aS_y, ev_aN_y, ev_inA_0, ev_isA_0, ev_ft_I, ev_ft_0, ev_ft_1, ev_ft_o, ev_ft_a, ev_nb_0, ev_nb_1, and_true, true_and, if_true, if_false, not_true_eq_false, not_false_eq_true, nI_1, ev_fG_0, ev_fG_1, ev_fG_2, ev_fG_3, ev_fG_4, ev_fG_5, ev_fG_6, ev_fG_7, ev_fG_8, ev_fS_0, ev_fS_1, ev_fS_2, ev_fS_3, ev_fS_4, ev_fS_5, ev_fS_6, ev_fS_7, ev_fS_8, ev_isO_0, ev_isO_1, ev_isO_2, ev_isO_3, ev_isO_4, ev_isO_5, ev_isO_6, ev_isO_7, ev_isO_8, ev_z0, ev_z1, ev_z2, eq_self, ev_ofN, hk, C_tableOf_y hc hi, C_dKey_y ha_k, ev_lk_s h1, h3k, h2k]
      refine R_find h2 (okL_len hT.1) ?_
      have hK := k2 i a_k hi rfl ha_k rfl
      unfold pf_place
      rcases e : pf_find (G.1 i).1 (nI a_k) with _ | j
      · rw [e] at hK
        simp (disch := omega) only [t_X5_has_0, t_X5_has_1, t_X5_has_2, t_X5_has_5, t_X5_has_6, t_X5_has_7, t_X5_has_10, t_X5_has_11, t_X5_has_14, t_X5_has_15, t_X5_has_18, t_X5_has_19, t_X5_has_22, t_X5_has_23, t_X5_has_26, t_X5_has_27, x_X5_has_2, x_X5_has_7, x_X5_has_15, ↓reduceIte, ev_k_i, ev_k_r, ev_k_l, ev_k_J, ev_k_n, ev_kr_1, ev_kr_0, ev_isK_y, ev_aG_y, ev_aS_y, ev_aN_y, ev_inA_0, ev_isA_0, ev_ft_I, ev_ft_0, ev_ft_1, ev_ft_o, ev_ft_a, ev_nb_0, ev_nb_1, and_true, true_and, if_true, if_false, not_true_eq_false, not_false_eq_true, nI_1, ev_fG_0, ev_fG_1, ev_fG_2, ev_fG_3, ev_fG_4, ev_fG_5, ev_fG_6, ev_fG_7, ev_fG_8, ev_fS_0, ev_fS_1, ev_fS_2, ev_fS_3, ev_fS_4, ev_fS_5, ev_fS_6, ev_fS_7, ev_fS_8, ev_isO_0, ev_isO_1, ev_isO_2, ev_isO_3, ev_isO_4, ev_isO_5, ev_isO_6, ev_isO_7, ev_isO_8, ev_z0, ev_z1, ev_z2, eq_self, ev_ofN]
        exact hK
      · rw [e] at hK
        have hj := (pf_find_s e).1
        have hl := okL_len hT.1
        simp (disch := omega) only [t_X5_has_0, t_X5_has_1, t_X5_has_2, t_X5_has_5, t_X5_has_6, t_X5_has_7, t_X5_has_10, t_X5_has_11, t_X5_has_14, t_X5_has_15, t_X5_has_18, t_X5_has_19, t_X5_has_22, t_X5_has_23, t_X5_has_26, t_X5_has_27, x_X5_has_2, x_X5_has_7, x_X5_has_15, ↓reduceIte, ev_k_i, ev_k_r, ev_k_l, ev_k_J, ev_k_n, ev_kr_1, ev_kr_0, ev_isK_y, ev_aG_y, ev_aS_y, ev_aN_y, ev_inA_0, ev_isA_0, ev_ft_I, ev_ft_0, ev_ft_1, ev_ft_o, ev_ft_a, ev_nb_0, ev_nb_1, and_true, true_and, if_true, if_false, not_true_eq_false, not_false_eq_true, nI_1, ev_fG_0, ev_fG_1, ev_fG_2, ev_fG_3, ev_fG_4, ev_fG_5, ev_fG_6, ev_fG_7, ev_fG_8, ev_fS_0, ev_fS_1, ev_fS_2, ev_fS_3, ev_fS_4, ev_fS_5, ev_fS_6, ev_fS_7, ev_fS_8, ev_isO_0, ev_isO_1, ev_isO_2, ev_isO_3, ev_isO_4, ev_isO_5, ev_isO_6, ev_isO_7, ev_isO_8, ev_z0, ev_z1, ev_z2, eq_self, ev_ofN, ev_nm1]
        exact hK
theorem C_size (hc : c_all x G H) (hG : okG G) {t : Int32} (k0 : t < 0 ∨ nI 4 ≤ t → P (.inr 0) H (n + 1) (q + 6))
    (k2 : ∀ i, i < 4 → t = nI i → P (.inl (some (.int (nI (G.1 i).1.length)))) H n q) : ev_ok (ev_TT X) 112 0 [.ref x, .int t] [] H n q P := by
  have hk := c_all_k (X := X) hc
  rcases pk_ix t (n := 4) (by omega) with h | h | ⟨i, hi, rfl⟩
  · simp (disch := omega) only [t_X5_size_0, t_X5_size_1, t_X5_size_2, t_X5_size_5, t_X5_size_8, t_X5_size_11, x_X5_size_2, ↓reduceIte, ev_k_i, ev_k_r, ev_k_l, ev_k_J, ev_k_n, ev_kr_1, ev_kr_0, ev_isK_y, ev_aG_y, ev_aS_y, ev_aN_y, ev_inA_0, ev_isA_0, ev_ft_I, ev_ft_0, ev_ft_1, ev_ft_o, ev_ft_a, ev_nb_0, ev_nb_1, and_true, true_and, if_true, if_false, not_true_eq_false, not_false_eq_true, nI_1, ev_fG_0, ev_fG_1, ev_fG_2, ev_fG_3, ev_fG_4, ev_fG_5, ev_fG_6, ev_fG_7, ev_fG_8, ev_fS_0, ev_fS_1, ev_fS_2, ev_fS_3, ev_fS_4, ev_fS_5, ev_fS_6, ev_fS_7, ev_fS_8, ev_isO_0, ev_isO_1, ev_isO_2, ev_isO_3, ev_isO_4, ev_isO_5, ev_isO_6, ev_isO_7, ev_isO_8, ev_z0, ev_z1, ev_z2, eq_self, ev_ofN, hk, C_tableOf_n (Or.inl h)]
    exact k0 (Or.inl h)
  · simp (disch := omega) only [t_X5_size_0, t_X5_size_1, t_X5_size_2, t_X5_size_5, t_X5_size_8, t_X5_size_11, x_X5_size_2, ↓reduceIte, ev_k_i, ev_k_r, ev_k_l, ev_k_J, ev_k_n, ev_kr_1, ev_kr_0, ev_isK_y, ev_aG_y, ev_aS_y, ev_aN_y, ev_inA_0, ev_isA_0, ev_ft_I, ev_ft_0, ev_ft_1, ev_ft_o, ev_ft_a, ev_nb_0, ev_nb_1, and_true, true_and, if_true, if_false, not_true_eq_false, not_false_eq_true, nI_1, ev_fG_0, ev_fG_1, ev_fG_2, ev_fG_3, ev_fG_4, ev_fG_5, ev_fG_6, ev_fG_7, ev_fG_8, ev_fS_0, ev_fS_1, ev_fS_2, ev_fS_3, ev_fS_4, ev_fS_5, ev_fS_6, ev_fS_7, ev_fS_8, ev_isO_0, ev_isO_1, ev_isO_2, ev_isO_3, ev_isO_4, ev_isO_5, ev_isO_6, ev_isO_7, ev_isO_8, ev_z0, ev_z1, ev_z2, eq_self, ev_ofN, hk, C_tableOf_n (Or.inr h)]
    exact k0 (Or.inr h)
  · skip
    obtain ⟨h1, h2, h3⟩ := hc.2.2.2.2.2.2.1 i hi
    have hT := hG.1 i hi
    unfold ev_tbc at h1
    have h3k : ev_isK (ev_lk X H (x + 14 + 5 * i + 3)) 9 = True := by rw [ev_lk_s h3]; exact ev_isK_y
    have h2k := ev_rL_k (X := X) h2
    have h2b := ev_rL_b (X := X) h2
    simp (disch := omega) only [t_X5_size_0, t_X5_size_1, t_X5_size_2, t_X5_size_5, t_X5_size_8, t_X5_size_11, x_X5_size_2, ↓reduceIte, ev_k_i, ev_k_r, ev_k_l, ev_k_J, ev_k_n, ev_kr_1, ev_kr_0, ev_isK_y, ev_aG_y, ev_aS_y, ev_aN_y, ev_inA_0, ev_isA_0, ev_ft_I, ev_ft_0, ev_ft_1, ev_ft_o, ev_ft_a, ev_nb_0, ev_nb_1, and_true, true_and, if_true, if_false, not_true_eq_false, not_false_eq_true, nI_1, ev_fG_0, ev_fG_1, ev_fG_2, ev_fG_3, ev_fG_4, ev_fG_5, ev_fG_6, ev_fG_7, ev_fG_8, ev_fS_0, ev_fS_1, ev_fS_2, ev_fS_3, ev_fS_4, ev_fS_5, ev_fS_6, ev_fS_7, ev_fS_8, ev_isO_0, ev_isO_1, ev_isO_2, ev_isO_3, ev_isO_4, ev_isO_5, ev_isO_6, ev_isO_7, ev_isO_8, ev_z0, ev_z1, ev_z2, eq_self, ev_ofN, hk, C_tableOf_y hc hi, ev_lk_s h1, h3k, h2b.2.1.1, h2b.2.1.2]
    exact k2 i hi rfl 
end CN
end
section
/-! ===== the class: the calls on walks; refusals ===== -/
def ps_gen (L : ev_PL) (b m lm ll : Int32) (bg old cd : Bool) (kd : Int32) (k : Nat) : ev_TS := (L, (b, m, lm, ll), (bg, old, cd), kd, k)
def ps_wk (s : ev_TS) (bg old cd : Bool) (kd : Int32) (k : Nat) : ev_TS := (s.1, s.2.1, (bg, old, cd), kd, k)
def pg_rf (G : ev_CS) : ev_CS := (G.1, G.2.1, G.2.2.1, G.2.2.2.1, G.2.2.2.2.1 + 1, G.2.2.2.2.2)
theorem okG_rf {G : ev_CS} (h : okG G) : okG (pg_rf G) := h
section CW
variable {X : ev_E} {x : Nat} {G : ev_CS} {H : ev_M} {n q : Nat} {P : ev_O → ev_M → Nat → Nat → Prop}
theorem c_tab_gen (hc : c_all x G H) {i : Nat} (hi : i < 4) {L : ev_PL} {b m lm ll : Int32} {bg old cd : Bool} {kd : Int32} {k : Nat} {H1 : ev_M}
    (hH : ev_rL (ev_up H (x + 14 + 5 * i + 3) (ev_wkc (x + 14 + 5 * i) bg old cd kd k)) (x + 14 + 5 * i) L b m lm ll H1) :
    c_all x (pg_T G i (ps_gen L b m lm ll bg old cd kd k)) H1 ∧ c_fr x H H1 := by
  have ho : ∀ a, (a < x + 13 + 5 * i ∨ x + 18 + 5 * i ≤ a) → H1 a = H a := fun a ha =>
    (ev_rL_o hH (by omega) (by omega) (by omega)).trans (ev_up_n (by omega))
  refine ⟨c_upT hc hi ho ⟨?_, c_row_of hH, ?_⟩, fun a ha => ho a (by omega)⟩
  · rw [ev_rL_o hH (by omega) (by omega) (by omega), ev_up_n (by omega)]
    exact (hc.2.2.2.2.2.2.1 i hi).1
  · rw [ev_rL_o hH (by omega) (by omega) (by omega), ev_up_s]
    rfl
theorem C_refuse (hc : c_all x G H) (k : ∀ H1, c_all x (pg_rf G) H1 → c_fr x H H1 → P (.inl (some (.int (-9)))) H1 n q) : ev_ok (ev_TT X) 58 0 [.ref x] [] H n q P := by
  have h0 := hc.1
  unfold c_top at h0
  simp (disch := omega) only [t_X5_refuse_0, t_X5_refuse_1, t_X5_refuse_1_i, t_X5_refuse_2, t_X5_refuse_5, t_X5_refuse_6, t_X5_refuse_7, t_X5_refuse_10, t_X5_refuse_12, ↓reduceIte, ev_k_i, ev_k_r, ev_k_l, ev_k_J, ev_k_n, ev_kr_1, ev_kr_0, ev_isK_y, ev_aG_y, ev_aS_y, ev_aN_y, ev_inA_0, ev_isA_0, ev_ft_I, ev_ft_0, ev_ft_1, ev_ft_o, ev_ft_a, ev_nb_0, ev_nb_1, and_true, true_and, if_true, if_false, not_true_eq_false, not_false_eq_true, nI_1, ev_fG_0, ev_fG_1, ev_fG_2, ev_fG_3, ev_fG_4, ev_fG_5, ev_fG_6, ev_fG_7, ev_fG_8, ev_fS_0, ev_fS_1, ev_fS_2, ev_fS_3, ev_fS_4, ev_fS_5, ev_fS_6, ev_fS_7, ev_fS_8, ev_isO_0, ev_isO_1, ev_isO_2, ev_isO_3, ev_isO_4, ev_isO_5, ev_isO_6, ev_isO_7, ev_isO_8, ev_z0, ev_z1, ev_z2, eq_self, ev_ofN, ev_lk_s h0, h0]
  exact k _ (c_up0 hc (fun a ha => ev_up_n (by omega)) ev_up_s) (fun a ha => ev_up_n (by omega))
theorem C_walk (hc : c_all x G H) (hG : okG G) {t w : Int32} (k0 : t < 0 ∨ nI 4 ≤ t → P (.inr 0) H (n + 1) (q + 6))
    (k_w : ∀ i, i < 4 → t = nI i → (w < 0 ∨ nI 3 ≤ w) → P (.inr 1) H (n + 1) (q + 6))
    (k2 : ∀ i a_w, i < 4 → t = nI i → a_w < 3 → w = nI a_w → ∀ H1, c_all x (pg_T G i (ps_gen (G.1 i).1 (G.1 i).2.1.1 (G.1 i).2.1.2.1 (G.1 i).2.1.2.2.1 (G.1 i).2.1.2.2.2 true false false w 0)) H1 → c_fr x H H1 → P (.inl (some (.int (nI (G.1 i).1.length)))) H1 n q) : ev_ok (ev_TT X) 113 0 [.ref x, .int t, .int w, ev_J] [] H n q P := by
  have hk := c_all_k (X := X) hc
  rcases pk_ix t (n := 4) (by omega) with h | h | ⟨i, hi, rfl⟩
  · simp (disch := omega) only [t_X5_walk_0, t_X5_walk_1, t_X5_walk_2, t_X5_walk_5, t_X5_walk_6, t_X5_walk_7, t_X5_walk_10, t_X5_walk_11, t_X5_walk_14, t_X5_walk_15, t_X5_walk_18, t_X5_walk_19, t_X5_walk_22, t_X5_walk_25, x_X5_walk_2, x_X5_walk_7, x_X5_walk_15, ↓reduceIte, ev_k_i, ev_k_r, ev_k_l, ev_k_J, ev_k_n, ev_kr_1, ev_kr_0, ev_isK_y, ev_aG_y, ev_aS_y, ev_aN_y, ev_inA_0, ev_isA_0, ev_ft_I, ev_ft_0, ev_ft_1, ev_ft_o, ev_ft_a, ev_nb_0, ev_nb_1, and_true, true_and, if_true, if_false, not_true_eq_false, not_false_eq_true, nI_1, ev_fG_0, ev_fG_1, ev_fG_2, ev_fG_3, ev_fG_4, ev_fG_5, ev_fG_6, ev_fG_7, ev_fG_8, ev_fS_0, ev_fS_1, ev_fS_2, ev_fS_3, ev_fS_4, ev_fS_5, ev_fS_6, ev_fS_7, ev_fS_8, ev_isO_0, ev_isO_1, ev_isO_2, ev_isO_3, ev_isO_4, ev_isO_5, ev_isO_6, ev_isO_7, ev_isO_8, ev_z0, ev_z1, ev_z2, eq_self, ev_ofN, hk, C_tableOf_n (Or.inl h)]
    exact k0 (Or.inl h)
  · simp (disch := omega) only [t_X5_walk_0, t_X5_walk_1, t_X5_walk_2, t_X5_walk_5, t_X5_walk_6, t_X5_walk_7, t_X5_walk_10, t_X5_walk_11, t_X5_walk_14, t_X5_walk_15, t_X5_walk_18, t_X5_walk_19, t_X5_walk_22, t_X5_walk_25, x_X5_walk_2, x_X5_walk_7, x_X5_walk_15, ↓reduceIte, ev_k_i, ev_k_r, ev_k_l, ev_k_J, ev_k_n, ev_kr_1, ev_kr_0, ev_isK_y, ev_aG_y, ev_aS_y, ev_aN_y, ev_inA_0, ev_isA_0, ev_ft_I, ev_ft_0, ev_ft_1, ev_ft_o, ev_ft_a, ev_nb_0, ev_nb_1, and_true, true_and, if_true, if_false, not_true_eq_false, not_false_eq_true, nI_1, ev_fG_0, ev_fG_1, ev_fG_2, ev_fG_3, ev_fG_4, ev_fG_5, ev_fG_6, ev_fG_7, ev_fG_8, ev_fS_0, ev_fS_1, ev_fS_2, ev_fS_3, ev_fS_4, ev_fS_5, ev_fS_6, ev_fS_7, ev_fS_8, ev_isO_0, ev_isO_1, ev_isO_2, ev_isO_3, ev_isO_4, ev_isO_5, ev_isO_6, ev_isO_7, ev_isO_8, ev_z0, ev_z1, ev_z2, eq_self, ev_ofN, hk, C_tableOf_n (Or.inr h)]
    exact k0 (Or.inr h)
  · rcases pk_ix w (n := 3) (by omega) with h | h | ⟨a_w, ha_w, rfl⟩
    · simp (disch := omega) only [t_X5_walk_0, t_X5_walk_1, t_X5_walk_2, t_X5_walk_5, t_X5_walk_6, t_X5_walk_7, t_X5_walk_10, t_X5_walk_11, t_X5_walk_14, t_X5_walk_15, t_X5_walk_18, t_X5_walk_19, t_X5_walk_22, t_X5_walk_25, x_X5_walk_2, x_X5_walk_7, x_X5_walk_15, ↓reduceIte, ev_k_i, ev_k_r, ev_k_l, ev_k_J, ev_k_n, ev_kr_1, ev_kr_0, ev_isK_y, ev_aG_y, ev_aS_y, ev_aN_y, ev_inA_0, ev_isA_0, ev_ft_I, ev_ft_0, ev_ft_1, ev_ft_o, ev_ft_a, ev_nb_0, ev_nb_1, and_true, true_and, if_true, if_false, not_true_eq_false, not_false_eq_true, nI_1, ev_fG_0, ev_fG_1, ev_fG_2, ev_fG_3, ev_fG_4, ev_fG_5, ev_fG_6, ev_fG_7, ev_fG_8, ev_fS_0, ev_fS_1, ev_fS_2, ev_fS_3, ev_fS_4, ev_fS_5, ev_fS_6, ev_fS_7, ev_fS_8, ev_isO_0, ev_isO_1, ev_isO_2, ev_isO_3, ev_isO_4, ev_isO_5, ev_isO_6, ev_isO_7, ev_isO_8, ev_z0, ev_z1, ev_z2, eq_self, ev_ofN, hk, C_tableOf_y hc hi, C_dWalk_n (Or.inl h)]
      exact k_w i hi rfl (Or.inl h)
    · simp (disch := omega) only [t_X5_walk_0, t_X5_walk_1, t_X5_walk_2, t_X5_walk_5, t_X5_walk_6, t_X5_walk_7, t_X5_walk_10, t_X5_walk_11, t_X5_walk_14, t_X5_walk_15, t_X5_walk_18, t_X5_walk_19, t_X5_walk_22, t_X5_walk_25, x_X5_walk_2, x_X5_walk_7, x_X5_walk_15, ↓reduceIte, ev_k_i, ev_k_r, ev_k_l, ev_k_J, ev_k_n, ev_kr_1, ev_kr_0, ev_isK_y, ev_aG_y, ev_aS_y, ev_aN_y, ev_inA_0, ev_isA_0, ev_ft_I, ev_ft_0, ev_ft_1, ev_ft_o, ev_ft_a, ev_nb_0, ev_nb_1, and_true, true_and, if_true, if_false, not_true_eq_false, not_false_eq_true, nI_1, ev_fG_0, ev_fG_1, ev_fG_2, ev_fG_3, ev_fG_4, ev_fG_5, ev_fG_6, ev_fG_7, ev_fG_8, ev_fS_0, ev_fS_1, ev_fS_2, ev_fS_3, ev_fS_4, ev_fS_5, ev_fS_6, ev_fS_7, ev_fS_8, ev_isO_0, ev_isO_1, ev_isO_2, ev_isO_3, ev_isO_4, ev_isO_5, ev_isO_6, ev_isO_7, ev_isO_8, ev_z0, ev_z1, ev_z2, eq_self, ev_ofN, hk, C_tableOf_y hc hi, C_dWalk_n (Or.inr h)]
      exact k_w i hi rfl (Or.inr h)
    · skip
      obtain ⟨h1, h2, h3⟩ := hc.2.2.2.2.2.2.1 i hi
      have hT := hG.1 i hi
      unfold ev_tbc at h1
      have h3k : ev_isK (ev_lk X H (x + 14 + 5 * i + 3)) 9 = True := by rw [ev_lk_s h3]; exact ev_isK_y
      have h2k := ev_rL_k (X := X) h2
      have h2b := ev_rL_b (X := X) h2
      simp (disch := omega) only [t_X5_walk_0, t_X5_walk_1, t_X5_walk_2, t_X5_walk_5, t_X5_walk_6, t_X5_walk_7, t_X5_walk_10, t_X5_walk_11, t_X5_walk_14, t_X5_walk_15, t_X5_walk_18, t_X5_walk_19, t_X5_walk_22, t_X5_walk_25, x_X5_walk_2, x_X5_walk_7, x_X5_walk_15, ↓reduceIte, ev_k_i, ev_k_r, ev_k_l, ev_k_J, ev_k_n, ev_kr_1, ev_kr_0, ev_isK_y, ev_aG_y, ev_aS_y, ev_aN_y, ev_inA_0, ev_isA_0, ev_ft_I, ev_ft_0, ev_ft_1, ev_ft_o, ev_ft_a, ev_nb_0, ev_nb_1, and_true, true_and, if_true, if_false, not_true_eq_false, not_false_eq_true, nI_1, ev_fG_0, ev_fG_1, ev_fG_2, ev_fG_3, ev_fG_4, ev_fG_5, ev_fG_6, ev_fG_7, ev_fG_8, ev_fS_0, ev_fS_1, ev_fS_2, ev_fS_3, ev_fS_4, ev_fS_5, ev_fS_6, ev_fS_7, ev_fS_8, ev_isO_0, ev_isO_1, ev_isO_2, ev_isO_3, ev_isO_4, ev_isO_5, ev_isO_6, ev_isO_7, ev_isO_8, ev_z0, ev_z1, ev_z2, eq_self, ev_ofN, hk, C_tableOf_y hc hi, C_dWalk_y ha_w, ev_lk_s h1, h3k]
      refine W_begin h3 ?_
      have hH1 := ev_rL_up (a := x + 14 + 5 * i + 3) (c := ev_wkc (x + 14 + 5 * i) true false false (nI a_w) 0) h2 (by omega) (by omega) (by omega)
      have h1' := fun c => (ev_up_n (h := H) (a := x + 14 + 5 * i + 3) (b := x + 13 + 5 * i) (c := c) (by omega)).trans h1
      have hx := (ev_rL_b (X := X) hH1).2.1
      simp (disch := omega) only [t_X5_walk_0, t_X5_walk_1, t_X5_walk_2, t_X5_walk_5, t_X5_walk_6, t_X5_walk_7, t_X5_walk_10, t_X5_walk_11, t_X5_walk_14, t_X5_walk_15, t_X5_walk_18, t_X5_walk_19, t_X5_walk_22, t_X5_walk_25, x_X5_walk_2, x_X5_walk_7, x_X5_walk_15, ↓reduceIte, ev_k_i, ev_k_r, ev_k_l, ev_k_J, ev_k_n, ev_kr_1, ev_kr_0, ev_isK_y, ev_aG_y, ev_aS_y, ev_aN_y, ev_inA_0, ev_isA_0, ev_ft_I, ev_ft_0, ev_ft_1, ev_ft_o, ev_ft_a, ev_nb_0, ev_nb_1, and_true, true_and, if_true, if_false, not_true_eq_false, not_false_eq_true, nI_1, ev_fG_0, ev_fG_1, ev_fG_2, ev_fG_3, ev_fG_4, ev_fG_5, ev_fG_6, ev_fG_7, ev_fG_8, ev_fS_0, ev_fS_1, ev_fS_2, ev_fS_3, ev_fS_4, ev_fS_5, ev_fS_6, ev_fS_7, ev_fS_8, ev_isO_0, ev_isO_1, ev_isO_2, ev_isO_3, ev_isO_4, ev_isO_5, ev_isO_6, ev_isO_7, ev_isO_8, ev_z0, ev_z1, ev_z2, eq_self, ev_ofN, ev_lk_s (h1' _), hx.1, hx.2]
      have hE := c_tab_gen hc hi hH1
      exact k2 i a_w hi rfl ha_w rfl _ hE.1 hE.2
theorem C_isStale (hc : c_all x G H) (hG : okG G) {t : Int32} (k0 : t < 0 ∨ nI 4 ≤ t → P (.inr 0) H (n + 1) (q + 6))
    (k2 : ∀ i, i < 4 → t = nI i → P (.inl (some (.int (ev_bb ((G.1 i).2.2.1.1 && (G.1 i).2.2.1.2.1))))) H n q) : ev_ok (ev_TT X) 108 0 [.ref x, .int t] [] H n q P := by
  have hk := c_all_k (X := X) hc
  rcases pk_ix t (n := 4) (by omega) with h | h | ⟨i, hi, rfl⟩
  · simp (disch := omega) only [t_X5_isStale_0, t_X5_isStale_1, t_X5_isStale_2, t_X5_isStale_5, t_X5_isStale_8, t_X5_isStale_11, x_X5_isStale_2, x_X5_isStale_8, ↓reduceIte, ev_k_i, ev_k_r, ev_k_l, ev_k_J, ev_k_n, ev_kr_1, ev_kr_0, ev_isK_y, ev_aG_y, ev_aS_y, ev_aN_y, ev_inA_0, ev_isA_0, ev_ft_I, ev_ft_0, ev_ft_1, ev_ft_o, ev_ft_a, ev_nb_0, ev_nb_1, and_true, true_and, if_true, if_false, not_true_eq_false, not_false_eq_true, nI_1, ev_fG_0, ev_fG_1, ev_fG_2, ev_fG_3, ev_fG_4, ev_fG_5, ev_fG_6, ev_fG_7, ev_fG_8, ev_fS_0, ev_fS_1, ev_fS_2, ev_fS_3, ev_fS_4, ev_fS_5, ev_fS_6, ev_fS_7, ev_fS_8, ev_isO_0, ev_isO_1, ev_isO_2, ev_isO_3, ev_isO_4, ev_isO_5, ev_isO_6, ev_isO_7, ev_isO_8, ev_z0, ev_z1, ev_z2, eq_self, ev_ofN, hk, C_tableOf_n (Or.inl h)]
    exact k0 (Or.inl h)
  · simp (disch := omega) only [t_X5_isStale_0, t_X5_isStale_1, t_X5_isStale_2, t_X5_isStale_5, t_X5_isStale_8, t_X5_isStale_11, x_X5_isStale_2, x_X5_isStale_8, ↓reduceIte, ev_k_i, ev_k_r, ev_k_l, ev_k_J, ev_k_n, ev_kr_1, ev_kr_0, ev_isK_y, ev_aG_y, ev_aS_y, ev_aN_y, ev_inA_0, ev_isA_0, ev_ft_I, ev_ft_0, ev_ft_1, ev_ft_o, ev_ft_a, ev_nb_0, ev_nb_1, and_true, true_and, if_true, if_false, not_true_eq_false, not_false_eq_true, nI_1, ev_fG_0, ev_fG_1, ev_fG_2, ev_fG_3, ev_fG_4, ev_fG_5, ev_fG_6, ev_fG_7, ev_fG_8, ev_fS_0, ev_fS_1, ev_fS_2, ev_fS_3, ev_fS_4, ev_fS_5, ev_fS_6, ev_fS_7, ev_fS_8, ev_isO_0, ev_isO_1, ev_isO_2, ev_isO_3, ev_isO_4, ev_isO_5, ev_isO_6, ev_isO_7, ev_isO_8, ev_z0, ev_z1, ev_z2, eq_self, ev_ofN, hk, C_tableOf_n (Or.inr h)]
    exact k0 (Or.inr h)
  · skip
    obtain ⟨h1, h2, h3⟩ := hc.2.2.2.2.2.2.1 i hi
    have hT := hG.1 i hi
    unfold ev_tbc at h1
    have h3k : ev_isK (ev_lk X H (x + 14 + 5 * i + 3)) 9 = True := by rw [ev_lk_s h3]; exact ev_isK_y
    have h2k := ev_rL_k (X := X) h2
    have h2b := ev_rL_b (X := X) h2
    simp (disch := omega) only [t_X5_isStale_0, t_X5_isStale_1, t_X5_isStale_2, t_X5_isStale_5, t_X5_isStale_8, t_X5_isStale_11, x_X5_isStale_2, x_X5_isStale_8, ↓reduceIte, ev_k_i, ev_k_r, ev_k_l, ev_k_J, ev_k_n, ev_kr_1, ev_kr_0, ev_isK_y, ev_aG_y, ev_aS_y, ev_aN_y, ev_inA_0, ev_isA_0, ev_ft_I, ev_ft_0, ev_ft_1, ev_ft_o, ev_ft_a, ev_nb_0, ev_nb_1, and_true, true_and, if_true, if_false, not_true_eq_false, not_false_eq_true, nI_1, ev_fG_0, ev_fG_1, ev_fG_2, ev_fG_3, ev_fG_4, ev_fG_5, ev_fG_6, ev_fG_7, ev_fG_8, ev_fS_0, ev_fS_1, ev_fS_2, ev_fS_3, ev_fS_4, ev_fS_5, ev_fS_6, ev_fS_7, ev_fS_8, ev_isO_0, ev_isO_1, ev_isO_2, ev_isO_3, ev_isO_4, ev_isO_5, ev_isO_6, ev_isO_7, ev_isO_8, ev_z0, ev_z1, ev_z2, eq_self, ev_ofN, hk, C_tableOf_y hc hi, ev_lk_s h1, h3k]
    refine W_isOutdated h3 ?_
    have hK := k2 i hi rfl
    rcases hb : ((G.1 i).2.2.1.1 && (G.1 i).2.2.1.2.1) <;> (
      rw [hb] at hK
      simp (disch := omega) only [t_X5_isStale_0, t_X5_isStale_1, t_X5_isStale_2, t_X5_isStale_5, t_X5_isStale_8, t_X5_isStale_11, x_X5_isStale_2, x_X5_isStale_8, ↓reduceIte, ev_k_i, ev_k_r, ev_k_l, ev_k_J, ev_k_n, ev_kr_1, ev_kr_0, ev_isK_y, ev_aG_y, ev_aS_y, ev_aN_y, ev_inA_0, ev_isA_0, ev_ft_I, ev_ft_0, ev_ft_1, ev_ft_o, ev_ft_a, ev_nb_0, ev_nb_1, and_true, true_and, if_true, if_false, not_true_eq_false, not_false_eq_true, nI_1, ev_fG_0, ev_fG_1, ev_fG_2, ev_fG_3, ev_fG_4, ev_fG_5, ev_fG_6, ev_fG_7, ev_fG_8, ev_fS_0, ev_fS_1, ev_fS_2, ev_fS_3, ev_fS_4, ev_fS_5, ev_fS_6, ev_fS_7, ev_fS_8, ev_isO_0, ev_isO_1, ev_isO_2, ev_isO_3, ev_isO_4, ev_isO_5, ev_isO_6, ev_isO_7, ev_isO_8, ev_z0, ev_z1, ev_z2, eq_self, ev_ofN, ev_bb_t, ev_bb_f, Bool.true_and, Bool.false_and, Bool.and_true, Bool.and_false]
      exact hK)
theorem C_hasMore (hc : c_all x G H) (hG : okG G) {t : Int32} (k0 : t < 0 ∨ nI 4 ≤ t → P (.inr 0) H (n + 1) (q + 6))
    (k2 : ∀ i, i < 4 → t = nI i → P (.inl (some (.int (ev_bb (((G.1 i).2.2.1.1 && !(G.1 i).2.2.1.2.1) && decide ((G.1 i).2.2.2.2 < (G.1 i).1.length)))))) H n q) : ev_ok (ev_TT X) 151 0 [.ref x, .int t] [] H n q P := by
  have hk := c_all_k (X := X) hc
  rcases pk_ix t (n := 4) (by omega) with h | h | ⟨i, hi, rfl⟩
  · simp (disch := omega) only [t_X5_hasMore_0, t_X5_hasMore_1, t_X5_hasMore_2, t_X5_hasMore_5, t_X5_hasMore_8, t_X5_hasMore_11, x_X5_hasMore_2, x_X5_hasMore_8, ↓reduceIte, ev_k_i, ev_k_r, ev_k_l, ev_k_J, ev_k_n, ev_kr_1, ev_kr_0, ev_isK_y, ev_aG_y, ev_aS_y, ev_aN_y, ev_inA_0, ev_isA_0, ev_ft_I, ev_ft_0, ev_ft_1, ev_ft_o, ev_ft_a, ev_nb_0, ev_nb_1, and_true, true_and, if_true, if_false, not_true_eq_false, not_false_eq_true, nI_1, ev_fG_0, ev_fG_1, ev_fG_2, ev_fG_3, ev_fG_4, ev_fG_5, ev_fG_6, ev_fG_7, ev_fG_8, ev_fS_0, ev_fS_1, ev_fS_2, ev_fS_3, ev_fS_4, ev_fS_5, ev_fS_6, ev_fS_7, ev_fS_8, ev_isO_0, ev_isO_1, ev_isO_2, ev_isO_3, ev_isO_4, ev_isO_5, ev_isO_6, ev_isO_7, ev_isO_8, ev_z0, ev_z1, ev_z2, eq_self, ev_ofN, hk, C_tableOf_n (Or.inl h)]
    exact k0 (Or.inl h)
  · simp (disch := omega) only [t_X5_hasMore_0, t_X5_hasMore_1, t_X5_hasMore_2, t_X5_hasMore_5, t_X5_hasMore_8, t_X5_hasMore_11, x_X5_hasMore_2, x_X5_hasMore_8, ↓reduceIte, ev_k_i, ev_k_r, ev_k_l, ev_k_J, ev_k_n, ev_kr_1, ev_kr_0, ev_isK_y, ev_aG_y, ev_aS_y, ev_aN_y, ev_inA_0, ev_isA_0, ev_ft_I, ev_ft_0, ev_ft_1, ev_ft_o, ev_ft_a, ev_nb_0, ev_nb_1, and_true, true_and, if_true, if_false, not_true_eq_false, not_false_eq_true, nI_1, ev_fG_0, ev_fG_1, ev_fG_2, ev_fG_3, ev_fG_4, ev_fG_5, ev_fG_6, ev_fG_7, ev_fG_8, ev_fS_0, ev_fS_1, ev_fS_2, ev_fS_3, ev_fS_4, ev_fS_5, ev_fS_6, ev_fS_7, ev_fS_8, ev_isO_0, ev_isO_1, ev_isO_2, ev_isO_3, ev_isO_4, ev_isO_5, ev_isO_6, ev_isO_7, ev_isO_8, ev_z0, ev_z1, ev_z2, eq_self, ev_ofN, hk, C_tableOf_n (Or.inr h)]
    exact k0 (Or.inr h)
  · skip
    obtain ⟨h1, h2, h3⟩ := hc.2.2.2.2.2.2.1 i hi
    have hT := hG.1 i hi
    unfold ev_tbc at h1
    have h3k : ev_isK (ev_lk X H (x + 14 + 5 * i + 3)) 9 = True := by rw [ev_lk_s h3]; exact ev_isK_y
    have h2k := ev_rL_k (X := X) h2
    have h2b := ev_rL_b (X := X) h2
    have hl := okL_len hT.1
    have hkn : (G.1 i).2.2.2.2 < 2 ^ 31 := by have := hT.2.2.1; omega
    simp (disch := omega) only [t_X5_hasMore_0, t_X5_hasMore_1, t_X5_hasMore_2, t_X5_hasMore_5, t_X5_hasMore_8, t_X5_hasMore_11, x_X5_hasMore_2, x_X5_hasMore_8, ↓reduceIte, ev_k_i, ev_k_r, ev_k_l, ev_k_J, ev_k_n, ev_kr_1, ev_kr_0, ev_isK_y, ev_aG_y, ev_aS_y, ev_aN_y, ev_inA_0, ev_isA_0, ev_ft_I, ev_ft_0, ev_ft_1, ev_ft_o, ev_ft_a, ev_nb_0, ev_nb_1, and_true, true_and, if_true, if_false, not_true_eq_false, not_false_eq_true, nI_1, ev_fG_0, ev_fG_1, ev_fG_2, ev_fG_3, ev_fG_4, ev_fG_5, ev_fG_6, ev_fG_7, ev_fG_8, ev_fS_0, ev_fS_1, ev_fS_2, ev_fS_3, ev_fS_4, ev_fS_5, ev_fS_6, ev_fS_7, ev_fS_8, ev_isO_0, ev_isO_1, ev_isO_2, ev_isO_3, ev_isO_4, ev_isO_5, ev_isO_6, ev_isO_7, ev_isO_8, ev_z0, ev_z1, ev_z2, eq_self, ev_ofN, hk, C_tableOf_y hc hi, ev_lk_s h1, h3k]
    refine W_isAnyAhead h3 h2 hl hkn ?_
    have hK := k2 i hi rfl
    rcases hb : (((G.1 i).2.2.1.1 && !(G.1 i).2.2.1.2.1) && decide ((G.1 i).2.2.2.2 < (G.1 i).1.length)) <;> (
      rw [hb] at hK
      simp (disch := omega) only [t_X5_hasMore_0, t_X5_hasMore_1, t_X5_hasMore_2, t_X5_hasMore_5, t_X5_hasMore_8, t_X5_hasMore_11, x_X5_hasMore_2, x_X5_hasMore_8, ↓reduceIte, ev_k_i, ev_k_r, ev_k_l, ev_k_J, ev_k_n, ev_kr_1, ev_kr_0, ev_isK_y, ev_aG_y, ev_aS_y, ev_aN_y, ev_inA_0, ev_isA_0, ev_ft_I, ev_ft_0, ev_ft_1, ev_ft_o, ev_ft_a, ev_nb_0, ev_nb_1, and_true, true_and, if_true, if_false, not_true_eq_false, not_false_eq_true, nI_1, ev_fG_0, ev_fG_1, ev_fG_2, ev_fG_3, ev_fG_4, ev_fG_5, ev_fG_6, ev_fG_7, ev_fG_8, ev_fS_0, ev_fS_1, ev_fS_2, ev_fS_3, ev_fS_4, ev_fS_5, ev_fS_6, ev_fS_7, ev_fS_8, ev_isO_0, ev_isO_1, ev_isO_2, ev_isO_3, ev_isO_4, ev_isO_5, ev_isO_6, ev_isO_7, ev_isO_8, ev_z0, ev_z1, ev_z2, eq_self, ev_ofN, ev_bb_t, ev_bb_f, Bool.true_and, Bool.false_and, Bool.and_true, Bool.and_false]
      exact hK)
theorem C_step (hc : c_all x G H) (hG : okG G) {t : Int32} (k0 : t < 0 ∨ nI 4 ≤ t → P (.inr 0) H (n + 1) (q + 6))
    (kR : ∀ i, i < 4 → t = nI i → ((G.1 i).2.2.1.1 && !(G.1 i).2.2.1.2.1) = false → ∀ H1, c_all x (pg_rf G) H1 → c_fr x H H1 → P (.inl (some (.int (-9)))) H1 n q)
    (kN : ∀ i, i < 4 → t = nI i → ((G.1 i).2.2.1.1 && !(G.1 i).2.2.1.2.1) = true → ¬ (G.1 i).2.2.2.2 < (G.1 i).1.length → P (.inl (some (.int (-8)))) H n q)
    (kA : ∀ i, i < 4 → t = nI i → ((G.1 i).2.2.1.1 && !(G.1 i).2.2.1.2.1) = true → (G.1 i).2.2.2.2 < (G.1 i).1.length → ∀ H1, c_all x (pg_T G i (ps_gen (G.1 i).1 (G.1 i).2.1.1 (G.1 i).2.1.2.1 (G.1 i).2.1.2.2.1 (G.1 i).2.1.2.2.2 (G.1 i).2.2.1.1 (G.1 i).2.2.1.2.1 true (G.1 i).2.2.2.1 ((G.1 i).2.2.2.2 + 1))) H1 → c_fr x H H1 → P (.inl (some (.int (pr_told (G.1 i).1 (nI (G.1 i).2.2.2.2) (G.1 i).2.2.2.1)))) H1 n q) : ev_ok (ev_TT X) 206 0 [.ref x, .int t, ev_J] [] H n q P := by
  have hk := c_all_k (X := X) hc
  rcases pk_ix t (n := 4) (by omega) with h | h | ⟨i, hi, rfl⟩
  · simp (disch := omega) only [t_X5_step_0, t_X5_step_1, t_X5_step_2, t_X5_step_5, t_X5_step_6, t_X5_step_7, t_X5_step_10, t_X5_step_13, t_X5_step_16, t_X5_step_17, t_X5_step_20, t_X5_step_21, t_X5_step_22, t_X5_step_25, t_X5_step_28, t_X5_step_31, t_X5_step_33, t_X5_step_34, t_X5_step_35, t_X5_step_38, t_X5_step_41, x_X5_step_2, x_X5_step_10, x_X5_step_17, x_X5_step_25, x_X5_step_38, ↓reduceIte, ev_k_i, ev_k_r, ev_k_l, ev_k_J, ev_k_n, ev_kr_1, ev_kr_0, ev_isK_y, ev_aG_y, ev_aS_y, ev_aN_y, ev_inA_0, ev_isA_0, ev_ft_I, ev_ft_0, ev_ft_1, ev_ft_o, ev_ft_a, ev_nb_0, ev_nb_1, and_true, true_and, if_true, if_false, not_true_eq_false, not_false_eq_true, nI_1, ev_fG_0, ev_fG_1, ev_fG_2, ev_fG_3, ev_fG_4, ev_fG_5, ev_fG_6, ev_fG_7, ev_fG_8, ev_fS_0, ev_fS_1, ev_fS_2, ev_fS_3, ev_fS_4, ev_fS_5, ev_fS_6, ev_fS_7, ev_fS_8, ev_isO_0, ev_isO_1, ev_isO_2, ev_isO_3, ev_isO_4, ev_isO_5, ev_isO_6, ev_isO_7, ev_isO_8, ev_z0, ev_z1, ev_z2, eq_self, ev_ofN, hk, C_tableOf_n (Or.inl h)]
    exact k0 (Or.inl h)
  · simp (disch := omega) only [t_X5_step_0, t_X5_step_1, t_X5_step_2, t_X5_step_5, t_X5_step_6, t_X5_step_7, t_X5_step_10, t_X5_step_13, t_X5_step_16, t_X5_step_17, t_X5_step_20, t_X5_step_21, t_X5_step_22, t_X5_step_25, t_X5_step_28, t_X5_step_31, t_X5_step_33, t_X5_step_34, t_X5_step_35, t_X5_step_38, t_X5_step_41, x_X5_step_2, x_X5_step_10, x_X5_step_17, x_X5_step_25, x_X5_step_38, ↓reduceIte, ev_k_i, ev_k_r, ev_k_l, ev_k_J, ev_k_n, ev_kr_1, ev_kr_0, ev_isK_y, ev_aG_y, ev_aS_y, ev_aN_y, ev_inA_0, ev_isA_0, ev_ft_I, ev_ft_0, ev_ft_1, ev_ft_o, ev_ft_a, ev_nb_0, ev_nb_1, and_true, true_and, if_true, if_false, not_true_eq_false, not_false_eq_true, nI_1, ev_fG_0, ev_fG_1, ev_fG_2, ev_fG_3, ev_fG_4, ev_fG_5, ev_fG_6, ev_fG_7, ev_fG_8, ev_fS_0, ev_fS_1, ev_fS_2, ev_fS_3, ev_fS_4, ev_fS_5, ev_fS_6, ev_fS_7, ev_fS_8, ev_isO_0, ev_isO_1, ev_isO_2, ev_isO_3, ev_isO_4, ev_isO_5, ev_isO_6, ev_isO_7, ev_isO_8, ev_z0, ev_z1, ev_z2, eq_self, ev_ofN, hk, C_tableOf_n (Or.inr h)]
    exact k0 (Or.inr h)
  · skip
    obtain ⟨h1, h2, h3⟩ := hc.2.2.2.2.2.2.1 i hi
    have hT := hG.1 i hi
    unfold ev_tbc at h1
    have h3k : ev_isK (ev_lk X H (x + 14 + 5 * i + 3)) 9 = True := by rw [ev_lk_s h3]; exact ev_isK_y
    have h2k := ev_rL_k (X := X) h2
    have h2b := ev_rL_b (X := X) h2
    have hl := okL_len hT.1
    have hkn : (G.1 i).2.2.2.2 < 2 ^ 31 := by have := hT.2.2.1; omega
    simp (disch := omega) only [t_X5_step_0, t_X5_step_1, t_X5_step_2, t_X5_step_5, t_X5_step_6, t_X5_step_7, t_X5_step_10, t_X5_step_13, t_X5_step_16, t_X5_step_17, t_X5_step_20, t_X5_step_21, t_X5_step_22, t_X5_step_25, t_X5_step_28, t_X5_step_31, t_X5_step_33, t_X5_step_34, t_X5_step_35, t_X5_step_38, t_X5_step_41, x_X5_step_2, x_X5_step_10, x_X5_step_17, x_X5_step_25, x_X5_step_38, ↓reduceIte, ev_k_i, ev_k_r, ev_k_l, ev_k_J, ev_k_n, ev_kr_1, ev_kr_0, ev_isK_y, ev_aG_y, ev_aS_y, ev_aN_y, ev_inA_0, ev_isA_0, ev_ft_I, ev_ft_0, ev_ft_1, ev_ft_o, ev_ft_a, ev_nb_0, ev_nb_1, and_true, true_and, if_true, if_false, not_true_eq_false, not_false_eq_true, nI_1, ev_fG_0, ev_fG_1, ev_fG_2, ev_fG_3, ev_fG_4, ev_fG_5, ev_fG_6, ev_fG_7, ev_fG_8, ev_fS_0, ev_fS_1, ev_fS_2, ev_fS_3, ev_fS_4, ev_fS_5, ev_fS_6, ev_fS_7, ev_fS_8, ev_isO_0, ev_isO_1, ev_isO_2, ev_isO_3, ev_isO_4, ev_isO_5, ev_isO_6, ev_isO_7, ev_isO_8, ev_z0, ev_z1, ev_z2, eq_self, ev_ofN, hk, C_tableOf_y hc hi, ev_lk_s h1, h3k]
    refine W_isUsable h3 ?_
    rcases hu : ((G.1 i).2.2.1.1 && !(G.1 i).2.2.1.2.1) with _ | _
    · simp (disch := omega) only [t_X5_step_0, t_X5_step_1, t_X5_step_2, t_X5_step_5, t_X5_step_6, t_X5_step_7, t_X5_step_10, t_X5_step_13, t_X5_step_16, t_X5_step_17, t_X5_step_20, t_X5_step_21, t_X5_step_22, t_X5_step_25, t_X5_step_28, t_X5_step_31, t_X5_step_33, t_X5_step_34, t_X5_step_35, t_X5_step_38, t_X5_step_41, x_X5_step_2, x_X5_step_10, x_X5_step_17, x_X5_step_25, x_X5_step_38, ↓reduceIte, ev_k_i, ev_k_r, ev_k_l, ev_k_J, ev_k_n, ev_kr_1, ev_kr_0, ev_isK_y, ev_aG_y, ev_aS_y, ev_aN_y, ev_inA_0, ev_isA_0, ev_ft_I, ev_ft_0, ev_ft_1, ev_ft_o, ev_ft_a, ev_nb_0, ev_nb_1, and_true, true_and, if_true, if_false, not_true_eq_false, not_false_eq_true, nI_1, ev_fG_0, ev_fG_1, ev_fG_2, ev_fG_3, ev_fG_4, ev_fG_5, ev_fG_6, ev_fG_7, ev_fG_8, ev_fS_0, ev_fS_1, ev_fS_2, ev_fS_3, ev_fS_4, ev_fS_5, ev_fS_6, ev_fS_7, ev_fS_8, ev_isO_0, ev_isO_1, ev_isO_2, ev_isO_3, ev_isO_4, ev_isO_5, ev_isO_6, ev_isO_7, ev_isO_8, ev_z0, ev_z1, ev_z2, eq_self, ev_ofN, hk, C_tableOf_y hc hi, ev_lk_s h1, h3k, ev_bb_t, ev_bb_f, Bool.true_and, Bool.false_and, Bool.and_true, Bool.and_false]
      refine C_refuse hc fun H1 hE1 hE2 => ?_
      simp (disch := omega) only [t_X5_step_0, t_X5_step_1, t_X5_step_2, t_X5_step_5, t_X5_step_6, t_X5_step_7, t_X5_step_10, t_X5_step_13, t_X5_step_16, t_X5_step_17, t_X5_step_20, t_X5_step_21, t_X5_step_22, t_X5_step_25, t_X5_step_28, t_X5_step_31, t_X5_step_33, t_X5_step_34, t_X5_step_35, t_X5_step_38, t_X5_step_41, x_X5_step_2, x_X5_step_10, x_X5_step_17, x_X5_step_25, x_X5_step_38, ↓reduceIte, ev_k_i, ev_k_r, ev_k_l, ev_k_J, ev_k_n, ev_kr_1, ev_kr_0, ev_isK_y, ev_aG_y, ev_aS_y, ev_aN_y, ev_inA_0, ev_isA_0, ev_ft_I, ev_ft_0, ev_ft_1, ev_ft_o, ev_ft_a, ev_nb_0, ev_nb_1, and_true, true_and, if_true, if_false, not_true_eq_false, not_false_eq_true, nI_1, ev_fG_0, ev_fG_1, ev_fG_2, ev_fG_3, ev_fG_4, ev_fG_5, ev_fG_6, ev_fG_7, ev_fG_8, ev_fS_0, ev_fS_1, ev_fS_2, ev_fS_3, ev_fS_4, ev_fS_5, ev_fS_6, ev_fS_7, ev_fS_8, ev_isO_0, ev_isO_1, ev_isO_2, ev_isO_3, ev_isO_4, ev_isO_5, ev_isO_6, ev_isO_7, ev_isO_8, ev_z0, ev_z1, ev_z2, eq_self, ev_ofN]
      exact kR i hi rfl hu H1 hE1 hE2
    · skip
      simp (disch := omega) only [t_X5_step_0, t_X5_step_1, t_X5_step_2, t_X5_step_5, t_X5_step_6, t_X5_step_7, t_X5_step_10, t_X5_step_13, t_X5_step_16, t_X5_step_17, t_X5_step_20, t_X5_step_21, t_X5_step_22, t_X5_step_25, t_X5_step_28, t_X5_step_31, t_X5_step_33, t_X5_step_34, t_X5_step_35, t_X5_step_38, t_X5_step_41, x_X5_step_2, x_X5_step_10, x_X5_step_17, x_X5_step_25, x_X5_step_38, ↓reduceIte, ev_k_i, ev_k_r, ev_k_l, ev_k_J, ev_k_n, ev_kr_1, ev_kr_0, ev_isK_y, ev_aG_y, ev_aS_y, ev_aN_y, ev_inA_0, ev_isA_0, ev_ft_I, ev_ft_0, ev_ft_1, ev_ft_o, ev_ft_a, ev_nb_0, ev_nb_1, and_true, true_and, if_true, if_false, not_true_eq_false, not_false_eq_true, nI_1, ev_fG_0, ev_fG_1, ev_fG_2, ev_fG_3, ev_fG_4, ev_fG_5, ev_fG_6, ev_fG_7, ev_fG_8, ev_fS_0, ev_fS_1, ev_fS_2, ev_fS_3, ev_fS_4, ev_fS_5, ev_fS_6, ev_fS_7, ev_fS_8, ev_isO_0, ev_isO_1, ev_isO_2, ev_isO_3, ev_isO_4, ev_isO_5, ev_isO_6, ev_isO_7, ev_isO_8, ev_z0, ev_z1, ev_z2, eq_self, ev_ofN, hk, C_tableOf_y hc hi, ev_lk_s h1, h3k, ev_bb_t, ev_bb_f, Bool.true_and, Bool.false_and, Bool.and_true, Bool.and_false]
      refine W_isAnyAhead h3 h2 hl hkn ?_
      rw [hu]
      by_cases hv : (G.1 i).2.2.2.2 < (G.1 i).1.length
      · rw [decide_eq_true hv]
        simp (disch := omega) only [t_X5_step_0, t_X5_step_1, t_X5_step_2, t_X5_step_5, t_X5_step_6, t_X5_step_7, t_X5_step_10, t_X5_step_13, t_X5_step_16, t_X5_step_17, t_X5_step_20, t_X5_step_21, t_X5_step_22, t_X5_step_25, t_X5_step_28, t_X5_step_31, t_X5_step_33, t_X5_step_34, t_X5_step_35, t_X5_step_38, t_X5_step_41, x_X5_step_2, x_X5_step_10, x_X5_step_17, x_X5_step_25, x_X5_step_38, ↓reduceIte, ev_k_i, ev_k_r, ev_k_l, ev_k_J, ev_k_n, ev_kr_1, ev_kr_0, ev_isK_y, ev_aG_y, ev_aS_y, ev_aN_y, ev_inA_0, ev_isA_0, ev_ft_I, ev_ft_0, ev_ft_1, ev_ft_o, ev_ft_a, ev_nb_0, ev_nb_1, and_true, true_and, if_true, if_false, not_true_eq_false, not_false_eq_true, nI_1, ev_fG_0, ev_fG_1, ev_fG_2, ev_fG_3, ev_fG_4, ev_fG_5, ev_fG_6, ev_fG_7, ev_fG_8, ev_fS_0, ev_fS_1, ev_fS_2, ev_fS_3, ev_fS_4, ev_fS_5, ev_fS_6, ev_fS_7, ev_fS_8, ev_isO_0, ev_isO_1, ev_isO_2, ev_isO_3, ev_isO_4, ev_isO_5, ev_isO_6, ev_isO_7, ev_isO_8, ev_z0, ev_z1, ev_z2, eq_self, ev_ofN, hk, C_tableOf_y hc hi, ev_lk_s h1, h3k, ev_bb_t, ev_bb_f, Bool.true_and, Bool.false_and, Bool.and_true, Bool.and_false]
        refine W_advance h3 h2 hl ?_
        simp (disch := omega) only [t_X5_step_0, t_X5_step_1, t_X5_step_2, t_X5_step_5, t_X5_step_6, t_X5_step_7, t_X5_step_10, t_X5_step_13, t_X5_step_16, t_X5_step_17, t_X5_step_20, t_X5_step_21, t_X5_step_22, t_X5_step_25, t_X5_step_28, t_X5_step_31, t_X5_step_33, t_X5_step_34, t_X5_step_35, t_X5_step_38, t_X5_step_41, x_X5_step_2, x_X5_step_10, x_X5_step_17, x_X5_step_25, x_X5_step_38, ↓reduceIte, ev_k_i, ev_k_r, ev_k_l, ev_k_J, ev_k_n, ev_kr_1, ev_kr_0, ev_isK_y, ev_aG_y, ev_aS_y, ev_aN_y, ev_inA_0, ev_isA_0, ev_ft_I, ev_ft_0, ev_ft_1, ev_ft_o, ev_ft_a, ev_nb_0, ev_nb_1, and_true, true_and, if_true, if_false, not_true_eq_false, not_false_eq_true, nI_1, ev_fG_0, ev_fG_1, ev_fG_2, ev_fG_3, ev_fG_4, ev_fG_5, ev_fG_6, ev_fG_7, ev_fG_8, ev_fS_0, ev_fS_1, ev_fS_2, ev_fS_3, ev_fS_4, ev_fS_5, ev_fS_6, ev_fS_7, ev_fS_8, ev_isO_0, ev_isO_1, ev_isO_2, ev_isO_3, ev_isO_4, ev_isO_5, ev_isO_6, ev_isO_7, ev_isO_8, ev_z0, ev_z1, ev_z2, eq_self, ev_ofN]
        have hE := c_tab_gen hc hi (ev_rL_up (a := x + 14 + 5 * i + 3) (c := ev_wkc (x + 14 + 5 * i) (G.1 i).2.2.1.1 (G.1 i).2.2.1.2.1 true (G.1 i).2.2.2.1 ((G.1 i).2.2.2.2 + 1)) h2 (by omega) (by omega) (by omega))
        exact kA i hi rfl hu hv _ hE.1 hE.2
      · rw [decide_eq_false hv]
        simp (disch := omega) only [t_X5_step_0, t_X5_step_1, t_X5_step_2, t_X5_step_5, t_X5_step_6, t_X5_step_7, t_X5_step_10, t_X5_step_13, t_X5_step_16, t_X5_step_17, t_X5_step_20, t_X5_step_21, t_X5_step_22, t_X5_step_25, t_X5_step_28, t_X5_step_31, t_X5_step_33, t_X5_step_34, t_X5_step_35, t_X5_step_38, t_X5_step_41, x_X5_step_2, x_X5_step_10, x_X5_step_17, x_X5_step_25, x_X5_step_38, ↓reduceIte, ev_k_i, ev_k_r, ev_k_l, ev_k_J, ev_k_n, ev_kr_1, ev_kr_0, ev_isK_y, ev_aG_y, ev_aS_y, ev_aN_y, ev_inA_0, ev_isA_0, ev_ft_I, ev_ft_0, ev_ft_1, ev_ft_o, ev_ft_a, ev_nb_0, ev_nb_1, and_true, true_and, if_true, if_false, not_true_eq_false, not_false_eq_true, nI_1, ev_fG_0, ev_fG_1, ev_fG_2, ev_fG_3, ev_fG_4, ev_fG_5, ev_fG_6, ev_fG_7, ev_fG_8, ev_fS_0, ev_fS_1, ev_fS_2, ev_fS_3, ev_fS_4, ev_fS_5, ev_fS_6, ev_fS_7, ev_fS_8, ev_isO_0, ev_isO_1, ev_isO_2, ev_isO_3, ev_isO_4, ev_isO_5, ev_isO_6, ev_isO_7, ev_isO_8, ev_z0, ev_z1, ev_z2, eq_self, ev_ofN, hk, C_tableOf_y hc hi, ev_lk_s h1, h3k, ev_bb_t, ev_bb_f, Bool.true_and, Bool.false_and, Bool.and_true, Bool.and_false]
        exact kN i hi rfl hu hv
theorem C_rest (hc : c_all x G H) (hG : okG G) {t : Int32} (k0 : t < 0 ∨ nI 4 ≤ t → P (.inr 0) H (n + 1) (q + 6))
    (kR : ∀ i, i < 4 → t = nI i → ((G.1 i).2.2.1.1 && !(G.1 i).2.2.1.2.1) = false → ∀ H1, c_all x (pg_rf G) H1 → c_fr x H H1 → P (.inl (some (.int (-9)))) H1 n q)
    (kA : ∀ i, i < 4 → t = nI i → ((G.1 i).2.2.1.1 && !(G.1 i).2.2.1.2.1) = true → ∀ H1, c_all x (pg_T G i (ps_gen (G.1 i).1 (G.1 i).2.1.1 (G.1 i).2.1.2.1 (G.1 i).2.1.2.2.1 (G.1 i).2.1.2.2.2 (G.1 i).2.2.1.1 (G.1 i).2.2.1.2.1 ((G.1 i).2.2.1.2.2 || decide (0 < (G.1 i).1.length - (G.1 i).2.2.2.2)) (G.1 i).2.2.2.1 (G.1 i).1.length)) H1 → c_fr x H H1 → P (.inl (some (.int (pr_acc (G.1 i).1 (G.1 i).2.2.2.1 ((G.1 i).1.length - (G.1 i).2.2.2.2) (G.1 i).2.2.2.2 0)))) H1 n q) : ev_ok (ev_TT X) 231 0 [.ref x, .int t, ev_J] [] H n q P := by
  have hk := c_all_k (X := X) hc
  rcases pk_ix t (n := 4) (by omega) with h | h | ⟨i, hi, rfl⟩
  · simp (disch := omega) only [t_X5_rest_0, t_X5_rest_1, t_X5_rest_2, t_X5_rest_5, t_X5_rest_6, t_X5_rest_7, t_X5_rest_10, t_X5_rest_13, t_X5_rest_16, t_X5_rest_17, t_X5_rest_20, t_X5_rest_21, t_X5_rest_22, t_X5_rest_25, t_X5_rest_28, x_X5_rest_2, x_X5_rest_10, x_X5_rest_17, x_X5_rest_25, ↓reduceIte, ev_k_i, ev_k_r, ev_k_l, ev_k_J, ev_k_n, ev_kr_1, ev_kr_0, ev_isK_y, ev_aG_y, ev_aS_y, ev_aN_y, ev_inA_0, ev_isA_0, ev_ft_I, ev_ft_0, ev_ft_1, ev_ft_o, ev_ft_a, ev_nb_0, ev_nb_1, and_true, true_and, if_true, if_false, not_true_eq_false, not_false_eq_true, nI_1, ev_fG_0, ev_fG_1, ev_fG_2, ev_fG_3, ev_fG_4, ev_fG_5, ev_fG_6, ev_fG_7, ev_fG_8, ev_fS_0, ev_fS_1, ev_fS_2, ev_fS_3, ev_fS_4, ev_fS_5, ev_fS_6, ev_fS_7, ev_fS_8, ev_isO_0, ev_isO_1, ev_isO_2, ev_isO_3, ev_isO_4, ev_isO_5, ev_isO_6, ev_isO_7, ev_isO_8, ev_z0, ev_z1, ev_z2, eq_self, ev_ofN, hk, C_tableOf_n (Or.inl h)]
    exact k0 (Or.inl h)
  · simp (disch := omega) only [t_X5_rest_0, t_X5_rest_1, t_X5_rest_2, t_X5_rest_5, t_X5_rest_6, t_X5_rest_7, t_X5_rest_10, t_X5_rest_13, t_X5_rest_16, t_X5_rest_17, t_X5_rest_20, t_X5_rest_21, t_X5_rest_22, t_X5_rest_25, t_X5_rest_28, x_X5_rest_2, x_X5_rest_10, x_X5_rest_17, x_X5_rest_25, ↓reduceIte, ev_k_i, ev_k_r, ev_k_l, ev_k_J, ev_k_n, ev_kr_1, ev_kr_0, ev_isK_y, ev_aG_y, ev_aS_y, ev_aN_y, ev_inA_0, ev_isA_0, ev_ft_I, ev_ft_0, ev_ft_1, ev_ft_o, ev_ft_a, ev_nb_0, ev_nb_1, and_true, true_and, if_true, if_false, not_true_eq_false, not_false_eq_true, nI_1, ev_fG_0, ev_fG_1, ev_fG_2, ev_fG_3, ev_fG_4, ev_fG_5, ev_fG_6, ev_fG_7, ev_fG_8, ev_fS_0, ev_fS_1, ev_fS_2, ev_fS_3, ev_fS_4, ev_fS_5, ev_fS_6, ev_fS_7, ev_fS_8, ev_isO_0, ev_isO_1, ev_isO_2, ev_isO_3, ev_isO_4, ev_isO_5, ev_isO_6, ev_isO_7, ev_isO_8, ev_z0, ev_z1, ev_z2, eq_self, ev_ofN, hk, C_tableOf_n (Or.inr h)]
    exact k0 (Or.inr h)
  · skip
    obtain ⟨h1, h2, h3⟩ := hc.2.2.2.2.2.2.1 i hi
    have hT := hG.1 i hi
    unfold ev_tbc at h1
    have h3k : ev_isK (ev_lk X H (x + 14 + 5 * i + 3)) 9 = True := by rw [ev_lk_s h3]; exact ev_isK_y
    have h2k := ev_rL_k (X := X) h2
    have h2b := ev_rL_b (X := X) h2
    have hl := okL_len hT.1
    have hkn : (G.1 i).2.2.2.2 < 2 ^ 31 := by have := hT.2.2.1; omega
    simp (disch := omega) only [t_X5_rest_0, t_X5_rest_1, t_X5_rest_2, t_X5_rest_5, t_X5_rest_6, t_X5_rest_7, t_X5_rest_10, t_X5_rest_13, t_X5_rest_16, t_X5_rest_17, t_X5_rest_20, t_X5_rest_21, t_X5_rest_22, t_X5_rest_25, t_X5_rest_28, x_X5_rest_2, x_X5_rest_10, x_X5_rest_17, x_X5_rest_25, ↓reduceIte, ev_k_i, ev_k_r, ev_k_l, ev_k_J, ev_k_n, ev_kr_1, ev_kr_0, ev_isK_y, ev_aG_y, ev_aS_y, ev_aN_y, ev_inA_0, ev_isA_0, ev_ft_I, ev_ft_0, ev_ft_1, ev_ft_o, ev_ft_a, ev_nb_0, ev_nb_1, and_true, true_and, if_true, if_false, not_true_eq_false, not_false_eq_true, nI_1, ev_fG_0, ev_fG_1, ev_fG_2, ev_fG_3, ev_fG_4, ev_fG_5, ev_fG_6, ev_fG_7, ev_fG_8, ev_fS_0, ev_fS_1, ev_fS_2, ev_fS_3, ev_fS_4, ev_fS_5, ev_fS_6, ev_fS_7, ev_fS_8, ev_isO_0, ev_isO_1, ev_isO_2, ev_isO_3, ev_isO_4, ev_isO_5, ev_isO_6, ev_isO_7, ev_isO_8, ev_z0, ev_z1, ev_z2, eq_self, ev_ofN, hk, C_tableOf_y hc hi, ev_lk_s h1, h3k]
    refine W_isUsable h3 ?_
    rcases hu : ((G.1 i).2.2.1.1 && !(G.1 i).2.2.1.2.1) with _ | _
    · simp (disch := omega) only [t_X5_rest_0, t_X5_rest_1, t_X5_rest_2, t_X5_rest_5, t_X5_rest_6, t_X5_rest_7, t_X5_rest_10, t_X5_rest_13, t_X5_rest_16, t_X5_rest_17, t_X5_rest_20, t_X5_rest_21, t_X5_rest_22, t_X5_rest_25, t_X5_rest_28, x_X5_rest_2, x_X5_rest_10, x_X5_rest_17, x_X5_rest_25, ↓reduceIte, ev_k_i, ev_k_r, ev_k_l, ev_k_J, ev_k_n, ev_kr_1, ev_kr_0, ev_isK_y, ev_aG_y, ev_aS_y, ev_aN_y, ev_inA_0, ev_isA_0, ev_ft_I, ev_ft_0, ev_ft_1, ev_ft_o, ev_ft_a, ev_nb_0, ev_nb_1, and_true, true_and, if_true, if_false, not_true_eq_false, not_false_eq_true, nI_1, ev_fG_0, ev_fG_1, ev_fG_2, ev_fG_3, ev_fG_4, ev_fG_5, ev_fG_6, ev_fG_7, ev_fG_8, ev_fS_0, ev_fS_1, ev_fS_2, ev_fS_3, ev_fS_4, ev_fS_5, ev_fS_6, ev_fS_7, ev_fS_8, ev_isO_0, ev_isO_1, ev_isO_2, ev_isO_3, ev_isO_4, ev_isO_5, ev_isO_6, ev_isO_7, ev_isO_8, ev_z0, ev_z1, ev_z2, eq_self, ev_ofN, hk, C_tableOf_y hc hi, ev_lk_s h1, h3k, ev_bb_t, ev_bb_f, Bool.true_and, Bool.false_and, Bool.and_true, Bool.and_false]
      refine C_refuse hc fun H1 hE1 hE2 => ?_
      simp (disch := omega) only [t_X5_rest_0, t_X5_rest_1, t_X5_rest_2, t_X5_rest_5, t_X5_rest_6, t_X5_rest_7, t_X5_rest_10, t_X5_rest_13, t_X5_rest_16, t_X5_rest_17, t_X5_rest_20, t_X5_rest_21, t_X5_rest_22, t_X5_rest_25, t_X5_rest_28, x_X5_rest_2, x_X5_rest_10, x_X5_rest_17, x_X5_rest_25, ↓reduceIte, ev_k_i, ev_k_r, ev_k_l, ev_k_J, ev_k_n, ev_kr_1, ev_kr_0, ev_isK_y, ev_aG_y, ev_aS_y, ev_aN_y, ev_inA_0, ev_isA_0, ev_ft_I, ev_ft_0, ev_ft_1, ev_ft_o, ev_ft_a, ev_nb_0, ev_nb_1, and_true, true_and, if_true, if_false, not_true_eq_false, not_false_eq_true, nI_1, ev_fG_0, ev_fG_1, ev_fG_2, ev_fG_3, ev_fG_4, ev_fG_5, ev_fG_6, ev_fG_7, ev_fG_8, ev_fS_0, ev_fS_1, ev_fS_2, ev_fS_3, ev_fS_4, ev_fS_5, ev_fS_6, ev_fS_7, ev_fS_8, ev_isO_0, ev_isO_1, ev_isO_2, ev_isO_3, ev_isO_4, ev_isO_5, ev_isO_6, ev_isO_7, ev_isO_8, ev_z0, ev_z1, ev_z2, eq_self, ev_ofN]
      exact kR i hi rfl hu H1 hE1 hE2
    · skip
      have hub := Bool.and_eq_true_iff.mp hu
      have hkl := (hT.2.2.2 hub.1 (by have := hub.2; rcases ho : (G.1 i).2.2.1.2.1 with _ | _ <;> simp_all)).1
      simp (disch := omega) only [t_X5_rest_0, t_X5_rest_1, t_X5_rest_2, t_X5_rest_5, t_X5_rest_6, t_X5_rest_7, t_X5_rest_10, t_X5_rest_13, t_X5_rest_16, t_X5_rest_17, t_X5_rest_20, t_X5_rest_21, t_X5_rest_22, t_X5_rest_25, t_X5_rest_28, x_X5_rest_2, x_X5_rest_10, x_X5_rest_17, x_X5_rest_25, ↓reduceIte, ev_k_i, ev_k_r, ev_k_l, ev_k_J, ev_k_n, ev_kr_1, ev_kr_0, ev_isK_y, ev_aG_y, ev_aS_y, ev_aN_y, ev_inA_0, ev_isA_0, ev_ft_I, ev_ft_0, ev_ft_1, ev_ft_o, ev_ft_a, ev_nb_0, ev_nb_1, and_true, true_and, if_true, if_false, not_true_eq_false, not_false_eq_true, nI_1, ev_fG_0, ev_fG_1, ev_fG_2, ev_fG_3, ev_fG_4, ev_fG_5, ev_fG_6, ev_fG_7, ev_fG_8, ev_fS_0, ev_fS_1, ev_fS_2, ev_fS_3, ev_fS_4, ev_fS_5, ev_fS_6, ev_fS_7, ev_fS_8, ev_isO_0, ev_isO_1, ev_isO_2, ev_isO_3, ev_isO_4, ev_isO_5, ev_isO_6, ev_isO_7, ev_isO_8, ev_z0, ev_z1, ev_z2, eq_self, ev_ofN, hk, C_tableOf_y hc hi, ev_lk_s h1, h3k, ev_bb_t, ev_bb_f, Bool.true_and, Bool.false_and, Bool.and_true, Bool.and_false]
      refine W_toEnd h3 h2 hl hkl (by omega) (by omega) (by omega) ?_
      simp (disch := omega) only [t_X5_rest_0, t_X5_rest_1, t_X5_rest_2, t_X5_rest_5, t_X5_rest_6, t_X5_rest_7, t_X5_rest_10, t_X5_rest_13, t_X5_rest_16, t_X5_rest_17, t_X5_rest_20, t_X5_rest_21, t_X5_rest_22, t_X5_rest_25, t_X5_rest_28, x_X5_rest_2, x_X5_rest_10, x_X5_rest_17, x_X5_rest_25, ↓reduceIte, ev_k_i, ev_k_r, ev_k_l, ev_k_J, ev_k_n, ev_kr_1, ev_kr_0, ev_isK_y, ev_aG_y, ev_aS_y, ev_aN_y, ev_inA_0, ev_isA_0, ev_ft_I, ev_ft_0, ev_ft_1, ev_ft_o, ev_ft_a, ev_nb_0, ev_nb_1, and_true, true_and, if_true, if_false, not_true_eq_false, not_false_eq_true, nI_1, ev_fG_0, ev_fG_1, ev_fG_2, ev_fG_3, ev_fG_4, ev_fG_5, ev_fG_6, ev_fG_7, ev_fG_8, ev_fS_0, ev_fS_1, ev_fS_2, ev_fS_3, ev_fS_4, ev_fS_5, ev_fS_6, ev_fS_7, ev_fS_8, ev_isO_0, ev_isO_1, ev_isO_2, ev_isO_3, ev_isO_4, ev_isO_5, ev_isO_6, ev_isO_7, ev_isO_8, ev_z0, ev_z1, ev_z2, eq_self, ev_ofN]
      have hE := c_tab_gen hc hi (ev_rL_up (a := x + 14 + 5 * i + 3) (c := ev_wkc (x + 14 + 5 * i) (G.1 i).2.2.1.1 (G.1 i).2.2.1.2.1 ((G.1 i).2.2.1.2.2 || decide (0 < (G.1 i).1.length - (G.1 i).2.2.2.2)) (G.1 i).2.2.2.1 (G.1 i).1.length) h2 (by omega) (by omega) (by omega))
      exact kA i hi rfl hu _ hE.1 hE.2
theorem C_set (hc : c_all x G H) (hG : okG G) {t p v : Int32} (k0 : t < 0 ∨ nI 4 ≤ t → P (.inr 0) H (n + 1) (q + 6))
    (k_v : ∀ i, i < 4 → t = nI i → (v < 0 ∨ nI 100 ≤ v) → P (.inr 1) H (n + 1) (q + 6))
    (kR : ∀ i, i < 4 → t = nI i → ¬ (0 ≤ p ∧ p < nI (G.1 i).1.length) → ∀ H1, c_all x (pg_rf G) H1 → c_fr x H H1 → P (.inl (some (.int (-9)))) H1 n q)
    (k2 : ∀ i j a_v, i < 4 → t = nI i → j < (G.1 i).1.length → p = nI j → a_v < 100 → v = nI a_v → ∀ H1, c_all x (pg_T G i (ps_gen ((G.1 i).1.set j ((pf_at (G.1 i).1 j).1, v)) (G.1 i).2.1.1 (G.1 i).2.1.2.1 (G.1 i).2.1.2.2.1 (G.1 i).2.1.2.2.2 (G.1 i).2.2.1.1 (G.1 i).2.2.1.2.1 (G.1 i).2.2.1.2.2 (G.1 i).2.2.2.1 (G.1 i).2.2.2.2)) H1 → c_fr x H H1 → P (.inl (some (.int (pf_at (G.1 i).1 j).2))) H1 n q) : ev_ok (ev_TT X) 161 0 [.ref x, .int t, .int p, .int v, ev_J] [] H n q P := by
  have hk := c_all_k (X := X) hc
  rcases pk_ix t (n := 4) (by omega) with h | h | ⟨i, hi, rfl⟩
  · simp (disch := omega) only [t_X5_set_0, t_X5_set_1, t_X5_set_2, t_X5_set_5, t_X5_set_7, t_X5_set_8, t_X5_set_11, t_X5_set_13, t_X5_set_16, t_X5_set_17, t_X5_set_20, t_X5_set_23, t_X5_set_24, t_X5_set_27, t_X5_set_28, t_X5_set_30, t_X5_set_33, t_X5_set_34, t_X5_set_35, t_X5_set_38, x_X5_set_2, x_X5_set_8, x_X5_set_17, x_X5_set_24, x_X5_set_35, ↓reduceIte, ev_k_i, ev_k_r, ev_k_l, ev_k_J, ev_k_n, ev_kr_1, ev_kr_0, ev_isK_y, ev_aG_y, ev_aS_y, ev_aN_y, ev_inA_0, ev_isA_0, ev_ft_I, ev_ft_0, ev_ft_1, ev_ft_o, ev_ft_a, ev_nb_0, ev_nb_1, and_true, true_and, if_true, if_false, not_true_eq_false, not_false_eq_true, nI_1, ev_fG_0, ev_fG_1, ev_fG_2, ev_fG_3, ev_fG_4, ev_fG_5, ev_fG_6, ev_fG_7, ev_fG_8, ev_fS_0, ev_fS_1, ev_fS_2, ev_fS_3, ev_fS_4, ev_fS_5, ev_fS_6, ev_fS_7, ev_fS_8, ev_isO_0, ev_isO_1, ev_isO_2, ev_isO_3, ev_isO_4, ev_isO_5, ev_isO_6, ev_isO_7, ev_isO_8, ev_z0, ev_z1, ev_z2, eq_self, ev_ofN, hk, C_tableOf_n (Or.inl h)]
    exact k0 (Or.inl h)
  · simp (disch := omega) only [t_X5_set_0, t_X5_set_1, t_X5_set_2, t_X5_set_5, t_X5_set_7, t_X5_set_8, t_X5_set_11, t_X5_set_13, t_X5_set_16, t_X5_set_17, t_X5_set_20, t_X5_set_23, t_X5_set_24, t_X5_set_27, t_X5_set_28, t_X5_set_30, t_X5_set_33, t_X5_set_34, t_X5_set_35, t_X5_set_38, x_X5_set_2, x_X5_set_8, x_X5_set_17, x_X5_set_24, x_X5_set_35, ↓reduceIte, ev_k_i, ev_k_r, ev_k_l, ev_k_J, ev_k_n, ev_kr_1, ev_kr_0, ev_isK_y, ev_aG_y, ev_aS_y, ev_aN_y, ev_inA_0, ev_isA_0, ev_ft_I, ev_ft_0, ev_ft_1, ev_ft_o, ev_ft_a, ev_nb_0, ev_nb_1, and_true, true_and, if_true, if_false, not_true_eq_false, not_false_eq_true, nI_1, ev_fG_0, ev_fG_1, ev_fG_2, ev_fG_3, ev_fG_4, ev_fG_5, ev_fG_6, ev_fG_7, ev_fG_8, ev_fS_0, ev_fS_1, ev_fS_2, ev_fS_3, ev_fS_4, ev_fS_5, ev_fS_6, ev_fS_7, ev_fS_8, ev_isO_0, ev_isO_1, ev_isO_2, ev_isO_3, ev_isO_4, ev_isO_5, ev_isO_6, ev_isO_7, ev_isO_8, ev_z0, ev_z1, ev_z2, eq_self, ev_ofN, hk, C_tableOf_n (Or.inr h)]
    exact k0 (Or.inr h)
  · rcases pk_ix v (n := 100) (by omega) with h | h | ⟨a_v, ha_v, rfl⟩
    · simp (disch := omega) only [t_X5_set_0, t_X5_set_1, t_X5_set_2, t_X5_set_5, t_X5_set_7, t_X5_set_8, t_X5_set_11, t_X5_set_13, t_X5_set_16, t_X5_set_17, t_X5_set_20, t_X5_set_23, t_X5_set_24, t_X5_set_27, t_X5_set_28, t_X5_set_30, t_X5_set_33, t_X5_set_34, t_X5_set_35, t_X5_set_38, x_X5_set_2, x_X5_set_8, x_X5_set_17, x_X5_set_24, x_X5_set_35, ↓reduceIte, ev_k_i, ev_k_r, ev_k_l, ev_k_J, ev_k_n, ev_kr_1, ev_kr_0, ev_isK_y, ev_aG_y, ev_aS_y, ev_aN_y, ev_inA_0, ev_isA_0, ev_ft_I, ev_ft_0, ev_ft_1, ev_ft_o, ev_ft_a, ev_nb_0, ev_nb_1, and_true, true_and, if_true, if_false, not_true_eq_false, not_false_eq_true, nI_1, ev_fG_0, ev_fG_1, ev_fG_2, ev_fG_3, ev_fG_4, ev_fG_5, ev_fG_6, ev_fG_7, ev_fG_8, ev_fS_0, ev_fS_1, ev_fS_2, ev_fS_3, ev_fS_4, ev_fS_5, ev_fS_6, ev_fS_7, ev_fS_8, ev_isO_0, ev_isO_1, ev_isO_2, ev_isO_3, ev_isO_4, ev_isO_5, ev_isO_6, ev_isO_7, ev_isO_8, ev_z0, ev_z1, ev_z2, eq_self, ev_ofN, hk, C_tableOf_y hc hi, C_dVal_n (Or.inl h)]
      exact k_v i hi rfl (Or.inl h)
    · simp (disch := omega) only [t_X5_set_0, t_X5_set_1, t_X5_set_2, t_X5_set_5, t_X5_set_7, t_X5_set_8, t_X5_set_11, t_X5_set_13, t_X5_set_16, t_X5_set_17, t_X5_set_20, t_X5_set_23, t_X5_set_24, t_X5_set_27, t_X5_set_28, t_X5_set_30, t_X5_set_33, t_X5_set_34, t_X5_set_35, t_X5_set_38, x_X5_set_2, x_X5_set_8, x_X5_set_17, x_X5_set_24, x_X5_set_35, ↓reduceIte, ev_k_i, ev_k_r, ev_k_l, ev_k_J, ev_k_n, ev_kr_1, ev_kr_0, ev_isK_y, ev_aG_y, ev_aS_y, ev_aN_y, ev_inA_0, ev_isA_0, ev_ft_I, ev_ft_0, ev_ft_1, ev_ft_o, ev_ft_a, ev_nb_0, ev_nb_1, and_true, true_and, if_true, if_false, not_true_eq_false, not_false_eq_true, nI_1, ev_fG_0, ev_fG_1, ev_fG_2, ev_fG_3, ev_fG_4, ev_fG_5, ev_fG_6, ev_fG_7, ev_fG_8, ev_fS_0, ev_fS_1, ev_fS_2, ev_fS_3, ev_fS_4, ev_fS_5, ev_fS_6, ev_fS_7, ev_fS_8, ev_isO_0, ev_isO_1, ev_isO_2, ev_isO_3, ev_isO_4, ev_isO_5, ev_isO_6, ev_isO_7, ev_isO_8, ev_z0, ev_z1, ev_z2, eq_self, ev_ofN, hk, C_tableOf_y hc hi, C_dVal_n (Or.inr h)]
      exact k_v i hi rfl (Or.inr h)
    · skip
      obtain ⟨h1, h2, h3⟩ := hc.2.2.2.2.2.2.1 i hi
      have hT := hG.1 i hi
      unfold ev_tbc at h1
      have h3k : ev_isK (ev_lk X H (x + 14 + 5 * i + 3)) 9 = True := by rw [ev_lk_s h3]; exact ev_isK_y
      have h2k := ev_rL_k (X := X) h2
      have h2b := ev_rL_b (X := X) h2
      have hl := okL_len hT.1
      have hkn : (G.1 i).2.2.2.2 < 2 ^ 31 := by have := hT.2.2.1; omega
      simp (disch := omega) only [t_X5_set_0, t_X5_set_1, t_X5_set_2, t_X5_set_5, t_X5_set_7, t_X5_set_8, t_X5_set_11, t_X5_set_13, t_X5_set_16, t_X5_set_17, t_X5_set_20, t_X5_set_23, t_X5_set_24, t_X5_set_27, t_X5_set_28, t_X5_set_30, t_X5_set_33, t_X5_set_34, t_X5_set_35, t_X5_set_38, x_X5_set_2, x_X5_set_8, x_X5_set_17, x_X5_set_24, x_X5_set_35, ↓reduceIte, ev_k_i, ev_k_r, ev_k_l, ev_k_J, ev_k_n, ev_kr_1, ev_kr_0, ev_isK_y, ev_aG_y, ev_aS_y, ev_aN_y, ev_inA_0, ev_isA_0, ev_ft_I, ev_ft_0, ev_ft_1, ev_ft_o, ev_ft_a, ev_nb_0, ev_nb_1, and_true, true_and, if_true, if_false, not_true_eq_false, not_false_eq_true, nI_1, ev_fG_0, ev_fG_1, ev_fG_2, ev_fG_3, ev_fG_4, ev_fG_5, ev_fG_6, ev_fG_7, ev_fG_8, ev_fS_0, ev_fS_1, ev_fS_2, ev_fS_3, ev_fS_4, ev_fS_5, ev_fS_6, ev_fS_7, ev_fS_8, ev_isO_0, ev_isO_1, ev_isO_2, ev_isO_3, ev_isO_4, ev_isO_5, ev_isO_6, ev_isO_7, ev_isO_8, ev_z0, ev_z1, ev_z2, eq_self, ev_ofN, hk, C_tableOf_y hc hi, C_dVal_y ha_v, ev_lk_s h1, h3k, h2k]
      refine R_isPlace h2 hl ?_
      unfold ev_b
      by_cases e : 0 ≤ p ∧ p < nI (G.1 i).1.length
      · rw [if_pos e]
        obtain ⟨j, hj, rfl⟩ := (ev_pl (by omega)).mp e
        simp (disch := omega) only [t_X5_set_0, t_X5_set_1, t_X5_set_2, t_X5_set_5, t_X5_set_7, t_X5_set_8, t_X5_set_11, t_X5_set_13, t_X5_set_16, t_X5_set_17, t_X5_set_20, t_X5_set_23, t_X5_set_24, t_X5_set_27, t_X5_set_28, t_X5_set_30, t_X5_set_33, t_X5_set_34, t_X5_set_35, t_X5_set_38, x_X5_set_2, x_X5_set_8, x_X5_set_17, x_X5_set_24, x_X5_set_35, ↓reduceIte, ev_k_i, ev_k_r, ev_k_l, ev_k_J, ev_k_n, ev_kr_1, ev_kr_0, ev_isK_y, ev_aG_y, ev_aS_y, ev_aN_y, ev_inA_0, ev_isA_0, ev_ft_I, ev_ft_0, ev_ft_1, ev_ft_o, ev_ft_a, ev_nb_0, ev_nb_1, and_true, true_and, if_true, if_false, not_true_eq_false, not_false_eq_true, nI_1, ev_fG_0, ev_fG_1, ev_fG_2, ev_fG_3, ev_fG_4, ev_fG_5, ev_fG_6, ev_fG_7, ev_fG_8, ev_fS_0, ev_fS_1, ev_fS_2, ev_fS_3, ev_fS_4, ev_fS_5, ev_fS_6, ev_fS_7, ev_fS_8, ev_isO_0, ev_isO_1, ev_isO_2, ev_isO_3, ev_isO_4, ev_isO_5, ev_isO_6, ev_isO_7, ev_isO_8, ev_z0, ev_z1, ev_z2, eq_self, ev_ofN, hk, C_tableOf_y hc hi, C_dVal_y ha_v, ev_lk_s h1, h3k, h2k]
        refine R_chg h2 hl hj fun H1 hH1 => ?_
        simp (disch := omega) only [t_X5_set_0, t_X5_set_1, t_X5_set_2, t_X5_set_5, t_X5_set_7, t_X5_set_8, t_X5_set_11, t_X5_set_13, t_X5_set_16, t_X5_set_17, t_X5_set_20, t_X5_set_23, t_X5_set_24, t_X5_set_27, t_X5_set_28, t_X5_set_30, t_X5_set_33, t_X5_set_34, t_X5_set_35, t_X5_set_38, x_X5_set_2, x_X5_set_8, x_X5_set_17, x_X5_set_24, x_X5_set_35, ↓reduceIte, ev_k_i, ev_k_r, ev_k_l, ev_k_J, ev_k_n, ev_kr_1, ev_kr_0, ev_isK_y, ev_aG_y, ev_aS_y, ev_aN_y, ev_inA_0, ev_isA_0, ev_ft_I, ev_ft_0, ev_ft_1, ev_ft_o, ev_ft_a, ev_nb_0, ev_nb_1, and_true, true_and, if_true, if_false, not_true_eq_false, not_false_eq_true, nI_1, ev_fG_0, ev_fG_1, ev_fG_2, ev_fG_3, ev_fG_4, ev_fG_5, ev_fG_6, ev_fG_7, ev_fG_8, ev_fS_0, ev_fS_1, ev_fS_2, ev_fS_3, ev_fS_4, ev_fS_5, ev_fS_6, ev_fS_7, ev_fS_8, ev_isO_0, ev_isO_1, ev_isO_2, ev_isO_3, ev_isO_4, ev_isO_5, ev_isO_6, ev_isO_7, ev_isO_8, ev_z0, ev_z1, ev_z2, eq_self, ev_ofN]
        have hE := c_tab_gen (bg := (G.1 i).2.2.1.1) (old := (G.1 i).2.2.1.2.1) (cd := (G.1 i).2.2.1.2.2) (kd := (G.1 i).2.2.2.1) (k := (G.1 i).2.2.2.2) hc hi (by rw [ev_up_t (by exact h3)]; exact hH1)
        exact k2 i j a_v hi rfl hj rfl ha_v rfl H1 hE.1 hE.2
      · rw [if_neg e]
        simp (disch := omega) only [t_X5_set_0, t_X5_set_1, t_X5_set_2, t_X5_set_5, t_X5_set_7, t_X5_set_8, t_X5_set_11, t_X5_set_13, t_X5_set_16, t_X5_set_17, t_X5_set_20, t_X5_set_23, t_X5_set_24, t_X5_set_27, t_X5_set_28, t_X5_set_30, t_X5_set_33, t_X5_set_34, t_X5_set_35, t_X5_set_38, x_X5_set_2, x_X5_set_8, x_X5_set_17, x_X5_set_24, x_X5_set_35, ↓reduceIte, ev_k_i, ev_k_r, ev_k_l, ev_k_J, ev_k_n, ev_kr_1, ev_kr_0, ev_isK_y, ev_aG_y, ev_aS_y, ev_aN_y, ev_inA_0, ev_isA_0, ev_ft_I, ev_ft_0, ev_ft_1, ev_ft_o, ev_ft_a, ev_nb_0, ev_nb_1, and_true, true_and, if_true, if_false, not_true_eq_false, not_false_eq_true, nI_1, ev_fG_0, ev_fG_1, ev_fG_2, ev_fG_3, ev_fG_4, ev_fG_5, ev_fG_6, ev_fG_7, ev_fG_8, ev_fS_0, ev_fS_1, ev_fS_2, ev_fS_3, ev_fS_4, ev_fS_5, ev_fS_6, ev_fS_7, ev_fS_8, ev_isO_0, ev_isO_1, ev_isO_2, ev_isO_3, ev_isO_4, ev_isO_5, ev_isO_6, ev_isO_7, ev_isO_8, ev_z0, ev_z1, ev_z2, eq_self, ev_ofN, hk, C_tableOf_y hc hi, C_dVal_y ha_v, ev_lk_s h1, h3k]
        refine C_refuse hc fun H1 hE1 hE2 => ?_
        simp (disch := omega) only [t_X5_set_0, t_X5_set_1, t_X5_set_2, t_X5_set_5, t_X5_set_7, t_X5_set_8, t_X5_set_11, t_X5_set_13, t_X5_set_16, t_X5_set_17, t_X5_set_20, t_X5_set_23, t_X5_set_24, t_X5_set_27, t_X5_set_28, t_X5_set_30, t_X5_set_33, t_X5_set_34, t_X5_set_35, t_X5_set_38, x_X5_set_2, x_X5_set_8, x_X5_set_17, x_X5_set_24, x_X5_set_35, ↓reduceIte, ev_k_i, ev_k_r, ev_k_l, ev_k_J, ev_k_n, ev_kr_1, ev_kr_0, ev_isK_y, ev_aG_y, ev_aS_y, ev_aN_y, ev_inA_0, ev_isA_0, ev_ft_I, ev_ft_0, ev_ft_1, ev_ft_o, ev_ft_a, ev_nb_0, ev_nb_1, and_true, true_and, if_true, if_false, not_true_eq_false, not_false_eq_true, nI_1, ev_fG_0, ev_fG_1, ev_fG_2, ev_fG_3, ev_fG_4, ev_fG_5, ev_fG_6, ev_fG_7, ev_fG_8, ev_fS_0, ev_fS_1, ev_fS_2, ev_fS_3, ev_fS_4, ev_fS_5, ev_fS_6, ev_fS_7, ev_fS_8, ev_isO_0, ev_isO_1, ev_isO_2, ev_isO_3, ev_isO_4, ev_isO_5, ev_isO_6, ev_isO_7, ev_isO_8, ev_z0, ev_z1, ev_z2, eq_self, ev_ofN]
        exact kR i hi rfl e H1 hE1 hE2
end CW
end
section
/-! ===== the class: cut, make, putIfAbsent ===== -/
section CX
variable {X : ev_E} {x : Nat} {G : ev_CS} {H : ev_M} {n q : Nat} {P : ev_O → ev_M → Nat → Nat → Prop}
theorem C_cut (hc : c_all x G H) (hG : okG G) {t : Int32} (k0 : t < 0 ∨ nI 4 ≤ t → P (.inr 0) H (n + 1) (q + 6))
    (kR : ∀ i, i < 4 → t = nI i → (((G.1 i).2.2.1.1 && !(G.1 i).2.2.1.2.1) && (G.1 i).2.2.1.2.2) = false → ∀ H1, c_all x (pg_rf G) H1 → c_fr x H H1 → P (.inl (some (.int (-9)))) H1 n q)
    (kA : ∀ i k, i < 4 → t = nI i → (((G.1 i).2.2.1.1 && !(G.1 i).2.2.1.2.1) && (G.1 i).2.2.1.2.2) = true → (G.1 i).2.2.2.2 = k + 1 → k < (G.1 i).1.length → ∀ H1, c_all x (pg_T G i (ps_gen ((G.1 i).1.eraseIdx k) (G.1 i).2.1.1 (G.1 i).2.1.2.1 (G.1 i).2.1.2.2.1 (G.1 i).2.1.2.2.2 (G.1 i).2.2.1.1 (G.1 i).2.2.1.2.1 false (G.1 i).2.2.2.1 k)) H1 → c_fr x H H1 → P (.inl (some (.int (nI ((G.1 i).1.eraseIdx k).length)))) H1 n q) : ev_ok (ev_TT X) 200 0 [.ref x, .int t, ev_J] [] H n q P := by
  have hk := c_all_k (X := X) hc
  rcases pk_ix t (n := 4) (by omega) with h | h | ⟨i, hi, rfl⟩
  · simp (disch := omega) only [t_X5_cut_0, t_X5_cut_1, t_X5_cut_2, t_X5_cut_5, t_X5_cut_6, t_X5_cut_7, t_X5_cut_10, t_X5_cut_13, t_X5_cut_16, t_X5_cut_17, t_X5_cut_20, t_X5_cut_21, t_X5_cut_22, t_X5_cut_25, t_X5_cut_28, t_X5_cut_29, t_X5_cut_32, t_X5_cut_35, x_X5_cut_2, x_X5_cut_10, x_X5_cut_17, x_X5_cut_25, ↓reduceIte, ev_k_i, ev_k_r, ev_k_l, ev_k_J, ev_k_n, ev_kr_1, ev_kr_0, ev_isK_y, ev_aG_y, ev_aS_y, ev_aN_y, ev_inA_0, ev_isA_0, ev_ft_I, ev_ft_0, ev_ft_1, ev_ft_o, ev_ft_a, ev_nb_0, ev_nb_1, and_true, true_and, if_true, if_false, not_true_eq_false, not_false_eq_true, nI_1, ev_fG_0, ev_fG_1, ev_fG_2, ev_fG_3, ev_fG_4, ev_fG_5, ev_fG_6, ev_fG_7, ev_fG_8, ev_fS_0, ev_fS_1, ev_fS_2, ev_fS_3, ev_fS_4, ev_fS_5, ev_fS_6, ev_fS_7, ev_fS_8, ev_isO_0, ev_isO_1, ev_isO_2, ev_isO_3, ev_isO_4, ev_isO_5, ev_isO_6, ev_isO_7, ev_isO_8, ev_z0, ev_z1, ev_z2, eq_self, ev_ofN, hk, C_tableOf_n (Or.inl h)]
    exact k0 (Or.inl h)
  · simp (disch := omega) only [t_X5_cut_0, t_X5_cut_1, t_X5_cut_2, t_X5_cut_5, t_X5_cut_6, t_X5_cut_7, t_X5_cut_10, t_X5_cut_13, t_X5_cut_16, t_X5_cut_17, t_X5_cut_20, t_X5_cut_21, t_X5_cut_22, t_X5_cut_25, t_X5_cut_28, t_X5_cut_29, t_X5_cut_32, t_X5_cut_35, x_X5_cut_2, x_X5_cut_10, x_X5_cut_17, x_X5_cut_25, ↓reduceIte, ev_k_i, ev_k_r, ev_k_l, ev_k_J, ev_k_n, ev_kr_1, ev_kr_0, ev_isK_y, ev_aG_y, ev_aS_y, ev_aN_y, ev_inA_0, ev_isA_0, ev_ft_I, ev_ft_0, ev_ft_1, ev_ft_o, ev_ft_a, ev_nb_0, ev_nb_1, and_true, true_and, if_true, if_false, not_true_eq_false, not_false_eq_true, nI_1, ev_fG_0, ev_fG_1, ev_fG_2, ev_fG_3, ev_fG_4, ev_fG_5, ev_fG_6, ev_fG_7, ev_fG_8, ev_fS_0, ev_fS_1, ev_fS_2, ev_fS_3, ev_fS_4, ev_fS_5, ev_fS_6, ev_fS_7, ev_fS_8, ev_isO_0, ev_isO_1, ev_isO_2, ev_isO_3, ev_isO_4, ev_isO_5, ev_isO_6, ev_isO_7, ev_isO_8, ev_z0, ev_z1, ev_z2, eq_self, ev_ofN, hk, C_tableOf_n (Or.inr h)]
    exact k0 (Or.inr h)
  · skip
    obtain ⟨h1, h2, h3⟩ := hc.2.2.2.2.2.2.1 i hi
    have hT := hG.1 i hi
    unfold ev_tbc at h1
    have h3k : ev_isK (ev_lk X H (x + 14 + 5 * i + 3)) 9 = True := by rw [ev_lk_s h3]; exact ev_isK_y
    have h2k := ev_rL_k (X := X) h2
    have h2b := ev_rL_b (X := X) h2
    have hl := okL_len hT.1
    have hkn : (G.1 i).2.2.2.2 < 2 ^ 31 := by have := hT.2.2.1; omega
    simp (disch := omega) only [t_X5_cut_0, t_X5_cut_1, t_X5_cut_2, t_X5_cut_5, t_X5_cut_6, t_X5_cut_7, t_X5_cut_10, t_X5_cut_13, t_X5_cut_16, t_X5_cut_17, t_X5_cut_20, t_X5_cut_21, t_X5_cut_22, t_X5_cut_25, t_X5_cut_28, t_X5_cut_29, t_X5_cut_32, t_X5_cut_35, x_X5_cut_2, x_X5_cut_10, x_X5_cut_17, x_X5_cut_25, ↓reduceIte, ev_k_i, ev_k_r, ev_k_l, ev_k_J, ev_k_n, ev_kr_1, ev_kr_0, ev_isK_y, ev_aG_y, ev_aS_y, ev_aN_y, ev_inA_0, ev_isA_0, ev_ft_I, ev_ft_0, ev_ft_1, ev_ft_o, ev_ft_a, ev_nb_0, ev_nb_1, and_true, true_and, if_true, if_false, not_true_eq_false, not_false_eq_true, nI_1, ev_fG_0, ev_fG_1, ev_fG_2, ev_fG_3, ev_fG_4, ev_fG_5, ev_fG_6, ev_fG_7, ev_fG_8, ev_fS_0, ev_fS_1, ev_fS_2, ev_fS_3, ev_fS_4, ev_fS_5, ev_fS_6, ev_fS_7, ev_fS_8, ev_isO_0, ev_isO_1, ev_isO_2, ev_isO_3, ev_isO_4, ev_isO_5, ev_isO_6, ev_isO_7, ev_isO_8, ev_z0, ev_z1, ev_z2, eq_self, ev_ofN, hk, C_tableOf_y hc hi, ev_lk_s h1, h3k]
    refine W_canCut h3 ?_
    rcases hu : (((G.1 i).2.2.1.1 && !(G.1 i).2.2.1.2.1) && (G.1 i).2.2.1.2.2) with _ | _
    · simp (disch := omega) only [t_X5_cut_0, t_X5_cut_1, t_X5_cut_2, t_X5_cut_5, t_X5_cut_6, t_X5_cut_7, t_X5_cut_10, t_X5_cut_13, t_X5_cut_16, t_X5_cut_17, t_X5_cut_20, t_X5_cut_21, t_X5_cut_22, t_X5_cut_25, t_X5_cut_28, t_X5_cut_29, t_X5_cut_32, t_X5_cut_35, x_X5_cut_2, x_X5_cut_10, x_X5_cut_17, x_X5_cut_25, ↓reduceIte, ev_k_i, ev_k_r, ev_k_l, ev_k_J, ev_k_n, ev_kr_1, ev_kr_0, ev_isK_y, ev_aG_y, ev_aS_y, ev_aN_y, ev_inA_0, ev_isA_0, ev_ft_I, ev_ft_0, ev_ft_1, ev_ft_o, ev_ft_a, ev_nb_0, ev_nb_1, and_true, true_and, if_true, if_false, not_true_eq_false, not_false_eq_true, nI_1, ev_fG_0, ev_fG_1, ev_fG_2, ev_fG_3, ev_fG_4, ev_fG_5, ev_fG_6, ev_fG_7, ev_fG_8, ev_fS_0, ev_fS_1, ev_fS_2, ev_fS_3, ev_fS_4, ev_fS_5, ev_fS_6, ev_fS_7, ev_fS_8, ev_isO_0, ev_isO_1, ev_isO_2, ev_isO_3, ev_isO_4, ev_isO_5, ev_isO_6, ev_isO_7, ev_isO_8, ev_z0, ev_z1, ev_z2, eq_self, ev_ofN, hk, C_tableOf_y hc hi, ev_lk_s h1, h3k, ev_bb_t, ev_bb_f, Bool.true_and, Bool.false_and, Bool.and_true, Bool.and_false]
      refine C_refuse hc fun H1 hE1 hE2 => ?_
      simp (disch := omega) only [t_X5_cut_0, t_X5_cut_1, t_X5_cut_2, t_X5_cut_5, t_X5_cut_6, t_X5_cut_7, t_X5_cut_10, t_X5_cut_13, t_X5_cut_16, t_X5_cut_17, t_X5_cut_20, t_X5_cut_21, t_X5_cut_22, t_X5_cut_25, t_X5_cut_28, t_X5_cut_29, t_X5_cut_32, t_X5_cut_35, x_X5_cut_2, x_X5_cut_10, x_X5_cut_17, x_X5_cut_25, ↓reduceIte, ev_k_i, ev_k_r, ev_k_l, ev_k_J, ev_k_n, ev_kr_1, ev_kr_0, ev_isK_y, ev_aG_y, ev_aS_y, ev_aN_y, ev_inA_0, ev_isA_0, ev_ft_I, ev_ft_0, ev_ft_1, ev_ft_o, ev_ft_a, ev_nb_0, ev_nb_1, and_true, true_and, if_true, if_false, not_true_eq_false, not_false_eq_true, nI_1, ev_fG_0, ev_fG_1, ev_fG_2, ev_fG_3, ev_fG_4, ev_fG_5, ev_fG_6, ev_fG_7, ev_fG_8, ev_fS_0, ev_fS_1, ev_fS_2, ev_fS_3, ev_fS_4, ev_fS_5, ev_fS_6, ev_fS_7, ev_fS_8, ev_isO_0, ev_isO_1, ev_isO_2, ev_isO_3, ev_isO_4, ev_isO_5, ev_isO_6, ev_isO_7, ev_isO_8, ev_z0, ev_z1, ev_z2, eq_self, ev_ofN]
      exact kR i hi rfl hu H1 hE1 hE2
    · have hub := Bool.and_eq_true_iff.mp hu
      have hub2 := Bool.and_eq_true_iff.mp hub.1
      have hkl := hT.2.2.2 hub2.1 (by have := hub2.2; rcases ho : (G.1 i).2.2.1.2.1 with _ | _ <;> simp_all)
      have hk1 := hkl.2 hub.2
      have hk2 := hkl.1
      obtain ⟨k, hkk⟩ : ∃ k, (G.1 i).2.2.2.2 = k + 1 := ⟨(G.1 i).2.2.2.2 - 1, by omega⟩
      have hkL : k < (G.1 i).1.length := by omega
      have h3' : H (x + 14 + 5 * i + 3) = some (ev_wkc (x + 14 + 5 * i) (G.1 i).2.2.1.1 (G.1 i).2.2.1.2.1 (G.1 i).2.2.1.2.2 (G.1 i).2.2.2.1 (k + 1)) := by rw [← hkk]; exact h3
      simp (disch := omega) only [t_X5_cut_0, t_X5_cut_1, t_X5_cut_2, t_X5_cut_5, t_X5_cut_6, t_X5_cut_7, t_X5_cut_10, t_X5_cut_13, t_X5_cut_16, t_X5_cut_17, t_X5_cut_20, t_X5_cut_21, t_X5_cut_22, t_X5_cut_25, t_X5_cut_28, t_X5_cut_29, t_X5_cut_32, t_X5_cut_35, x_X5_cut_2, x_X5_cut_10, x_X5_cut_17, x_X5_cut_25, ↓reduceIte, ev_k_i, ev_k_r, ev_k_l, ev_k_J, ev_k_n, ev_kr_1, ev_kr_0, ev_isK_y, ev_aG_y, ev_aS_y, ev_aN_y, ev_inA_0, ev_isA_0, ev_ft_I, ev_ft_0, ev_ft_1, ev_ft_o, ev_ft_a, ev_nb_0, ev_nb_1, and_true, true_and, if_true, if_false, not_true_eq_false, not_false_eq_true, nI_1, ev_fG_0, ev_fG_1, ev_fG_2, ev_fG_3, ev_fG_4, ev_fG_5, ev_fG_6, ev_fG_7, ev_fG_8, ev_fS_0, ev_fS_1, ev_fS_2, ev_fS_3, ev_fS_4, ev_fS_5, ev_fS_6, ev_fS_7, ev_fS_8, ev_isO_0, ev_isO_1, ev_isO_2, ev_isO_3, ev_isO_4, ev_isO_5, ev_isO_6, ev_isO_7, ev_isO_8, ev_z0, ev_z1, ev_z2, eq_self, ev_ofN, hk, C_tableOf_y hc hi, ev_lk_s h1, h3k, ev_bb_t, ev_bb_f, Bool.true_and, Bool.false_and, Bool.and_true, Bool.and_false]
      refine W_cutLast h3' h2 hl hkL (by omega) (by omega) (by omega) fun H1 hH1 => ?_
      have ht1 : H1 (x + 13 + 5 * i) = _ := ((ev_rL_o hH1 (by omega) (by omega) (by omega)).trans (ev_up_n (by omega))).trans h1
      have hx := (ev_rL_b (X := X) (ev_rL_self hH1)).2.1
      simp (disch := omega) only [t_X5_cut_0, t_X5_cut_1, t_X5_cut_2, t_X5_cut_5, t_X5_cut_6, t_X5_cut_7, t_X5_cut_10, t_X5_cut_13, t_X5_cut_16, t_X5_cut_17, t_X5_cut_20, t_X5_cut_21, t_X5_cut_22, t_X5_cut_25, t_X5_cut_28, t_X5_cut_29, t_X5_cut_32, t_X5_cut_35, x_X5_cut_2, x_X5_cut_10, x_X5_cut_17, x_X5_cut_25, ↓reduceIte, ev_k_i, ev_k_r, ev_k_l, ev_k_J, ev_k_n, ev_kr_1, ev_kr_0, ev_isK_y, ev_aG_y, ev_aS_y, ev_aN_y, ev_inA_0, ev_isA_0, ev_ft_I, ev_ft_0, ev_ft_1, ev_ft_o, ev_ft_a, ev_nb_0, ev_nb_1, and_true, true_and, if_true, if_false, not_true_eq_false, not_false_eq_true, nI_1, ev_fG_0, ev_fG_1, ev_fG_2, ev_fG_3, ev_fG_4, ev_fG_5, ev_fG_6, ev_fG_7, ev_fG_8, ev_fS_0, ev_fS_1, ev_fS_2, ev_fS_3, ev_fS_4, ev_fS_5, ev_fS_6, ev_fS_7, ev_fS_8, ev_isO_0, ev_isO_1, ev_isO_2, ev_isO_3, ev_isO_4, ev_isO_5, ev_isO_6, ev_isO_7, ev_isO_8, ev_z0, ev_z1, ev_z2, eq_self, ev_ofN, ev_lk_s ht1, hx.1, hx.2]
      have hE := c_tab_gen hc hi hH1
      exact kA i k hi rfl hu hkk hkL H1 hE.1 hE.2
theorem C_make (hc : c_all x G H) (hG : okG G) {t b1 m1 : Int32} (hb : ev_isB b1) (k0 : t < 0 ∨ nI 4 ≤ t → P (.inr 0) H (n + 1) (q + 6))
    (k1 : ∀ i, i < 4 → t = nI i → ¬ m1 = -1 → (m1 < 1 ∨ 12 < m1) → P (.inr 1) H (n + 1) (q + 6))
    (k2 : ∀ i, i < 4 → t = nI i → (m1 = -1 ∨ (1 ≤ m1 ∧ m1 ≤ 12)) → ∀ H1, c_all x (pg_T G i (ps_row (G.1 i) [] b1 m1 0 (-1))) H1 → c_fr x H H1 → P (.inl (some (.int (nI (G.1 i).1.length)))) H1 n q) : ev_ok (ev_TT X) 158 0 [.ref x, .int t, .int b1, .int m1, ev_J] [] H n q P := by
  have hk := c_all_k (X := X) hc
  rcases pk_ix t (n := 4) (by omega) with h | h | ⟨i, hi, rfl⟩
  · simp (disch := omega) only [t_X5_make_0, t_X5_make_1, t_X5_make_2, t_X5_make_5, t_X5_make_7, t_X5_make_8, t_X5_make_9, t_X5_make_12, t_X5_make_13, t_X5_make_14, t_X5_make_17, t_X5_make_18, t_X5_make_20, t_X5_make_23, t_X5_make_33, t_X5_make_35, t_X5_make_38, t_X5_make_41, t_X5_make_43, t_X5_make_46, t_X5_make_47, t_X5_make_48, t_X5_make_51, x_X5_make_2, x_X5_make_38, x_X5_make_48, ↓reduceIte, ev_k_i, ev_k_r, ev_k_l, ev_k_J, ev_k_n, ev_kr_1, ev_kr_0, ev_isK_y, ev_aG_y, ev_aS_y, ev_aN_y, ev_inA_0, ev_isA_0, ev_ft_I, ev_ft_0, ev_ft_1, ev_ft_o, ev_ft_a, ev_nb_0, ev_nb_1, and_true, true_and, if_true, if_false, not_true_eq_false, not_false_eq_true, nI_1, ev_fG_0, ev_fG_1, ev_fG_2, ev_fG_3, ev_fG_4, ev_fG_5, ev_fG_6, ev_fG_7, ev_fG_8, ev_fS_0, ev_fS_1, ev_fS_2, ev_fS_3, ev_fS_4, ev_fS_5, ev_fS_6, ev_fS_7, ev_fS_8, ev_isO_0, ev_isO_1, ev_isO_2, ev_isO_3, ev_isO_4, ev_isO_5, ev_isO_6, ev_isO_7, ev_isO_8, ev_z0, ev_z1, ev_z2, eq_self, ev_ofN, hk, C_tableOf_n (Or.inl h)]
    exact k0 (Or.inl h)
  · simp (disch := omega) only [t_X5_make_0, t_X5_make_1, t_X5_make_2, t_X5_make_5, t_X5_make_7, t_X5_make_8, t_X5_make_9, t_X5_make_12, t_X5_make_13, t_X5_make_14, t_X5_make_17, t_X5_make_18, t_X5_make_20, t_X5_make_23, t_X5_make_33, t_X5_make_35, t_X5_make_38, t_X5_make_41, t_X5_make_43, t_X5_make_46, t_X5_make_47, t_X5_make_48, t_X5_make_51, x_X5_make_2, x_X5_make_38, x_X5_make_48, ↓reduceIte, ev_k_i, ev_k_r, ev_k_l, ev_k_J, ev_k_n, ev_kr_1, ev_kr_0, ev_isK_y, ev_aG_y, ev_aS_y, ev_aN_y, ev_inA_0, ev_isA_0, ev_ft_I, ev_ft_0, ev_ft_1, ev_ft_o, ev_ft_a, ev_nb_0, ev_nb_1, and_true, true_and, if_true, if_false, not_true_eq_false, not_false_eq_true, nI_1, ev_fG_0, ev_fG_1, ev_fG_2, ev_fG_3, ev_fG_4, ev_fG_5, ev_fG_6, ev_fG_7, ev_fG_8, ev_fS_0, ev_fS_1, ev_fS_2, ev_fS_3, ev_fS_4, ev_fS_5, ev_fS_6, ev_fS_7, ev_fS_8, ev_isO_0, ev_isO_1, ev_isO_2, ev_isO_3, ev_isO_4, ev_isO_5, ev_isO_6, ev_isO_7, ev_isO_8, ev_z0, ev_z1, ev_z2, eq_self, ev_ofN, hk, C_tableOf_n (Or.inr h)]
    exact k0 (Or.inr h)
  · obtain ⟨h1, h2, h3⟩ := hc.2.2.2.2.2.2.1 i hi
    have hT := hG.1 i hi
    unfold ev_tbc at h1
    have h3k : ev_isK (ev_lk X H (x + 14 + 5 * i + 3)) 9 = True := by rw [ev_lk_s h3]; exact ev_isK_y
    have h1' := fun c => (ev_up_n (h := H) (a := x + 14 + 5 * i + 3) (b := x + 13 + 5 * i) (c := c) (by omega)).trans h1
    have h2' := ev_rL_up (a := x + 14 + 5 * i + 3) (c := ev_wkc (x + 14 + 5 * i) (G.1 i).2.2.1.1 true (G.1 i).2.2.1.2.2 (G.1 i).2.2.2.1 (G.1 i).2.2.2.2) h2 (by omega) (by omega) (by omega)
    have h2k' := ev_rL_k (X := X) h2'
    have hgo : (m1 = -1 ∨ (1 ≤ m1 ∧ m1 ≤ 12)) → ev_ok (ev_TT X) 158 33 [.ref x, .int (nI i), .int b1, .int m1, .ref (x + 13 + 5 * i)] [] H n q P := by
      intro hm
      simp (disch := omega) only [t_X5_make_0, t_X5_make_1, t_X5_make_2, t_X5_make_5, t_X5_make_7, t_X5_make_8, t_X5_make_9, t_X5_make_12, t_X5_make_13, t_X5_make_14, t_X5_make_17, t_X5_make_18, t_X5_make_20, t_X5_make_23, t_X5_make_33, t_X5_make_35, t_X5_make_38, t_X5_make_41, t_X5_make_43, t_X5_make_46, t_X5_make_47, t_X5_make_48, t_X5_make_51, x_X5_make_2, x_X5_make_38, x_X5_make_48, ↓reduceIte, ev_k_i, ev_k_r, ev_k_l, ev_k_J, ev_k_n, ev_kr_1, ev_kr_0, ev_isK_y, ev_aG_y, ev_aS_y, ev_aN_y, ev_inA_0, ev_isA_0, ev_ft_I, ev_ft_0, ev_ft_1, ev_ft_o, ev_ft_a, ev_nb_0, ev_nb_1, and_true, true_and, if_true, if_false, not_true_eq_false, not_false_eq_true, nI_1, ev_fG_0, ev_fG_1, ev_fG_2, ev_fG_3, ev_fG_4, ev_fG_5, ev_fG_6, ev_fG_7, ev_fG_8, ev_fS_0, ev_fS_1, ev_fS_2, ev_fS_3, ev_fS_4, ev_fS_5, ev_fS_6, ev_fS_7, ev_fS_8, ev_isO_0, ev_isO_1, ev_isO_2, ev_isO_3, ev_isO_4, ev_isO_5, ev_isO_6, ev_isO_7, ev_isO_8, ev_z0, ev_z1, ev_z2, eq_self, ev_ofN, ev_lk_s h1, h3k]
      refine W_outdate h3 ?_
      simp (disch := omega) only [t_X5_make_0, t_X5_make_1, t_X5_make_2, t_X5_make_5, t_X5_make_7, t_X5_make_8, t_X5_make_9, t_X5_make_12, t_X5_make_13, t_X5_make_14, t_X5_make_17, t_X5_make_18, t_X5_make_20, t_X5_make_23, t_X5_make_33, t_X5_make_35, t_X5_make_38, t_X5_make_41, t_X5_make_43, t_X5_make_46, t_X5_make_47, t_X5_make_48, t_X5_make_51, x_X5_make_2, x_X5_make_38, x_X5_make_48, ↓reduceIte, ev_k_i, ev_k_r, ev_k_l, ev_k_J, ev_k_n, ev_kr_1, ev_kr_0, ev_isK_y, ev_aG_y, ev_aS_y, ev_aN_y, ev_inA_0, ev_isA_0, ev_ft_I, ev_ft_0, ev_ft_1, ev_ft_o, ev_ft_a, ev_nb_0, ev_nb_1, and_true, true_and, if_true, if_false, not_true_eq_false, not_false_eq_true, nI_1, ev_fG_0, ev_fG_1, ev_fG_2, ev_fG_3, ev_fG_4, ev_fG_5, ev_fG_6, ev_fG_7, ev_fG_8, ev_fS_0, ev_fS_1, ev_fS_2, ev_fS_3, ev_fS_4, ev_fS_5, ev_fS_6, ev_fS_7, ev_fS_8, ev_isO_0, ev_isO_1, ev_isO_2, ev_isO_3, ev_isO_4, ev_isO_5, ev_isO_6, ev_isO_7, ev_isO_8, ev_z0, ev_z1, ev_z2, eq_self, ev_ofN, ev_lk_s (h1' _), h2k']
      refine R_renew h2' hb fun H1 hH1 => ?_
      simp (disch := omega) only [t_X5_make_0, t_X5_make_1, t_X5_make_2, t_X5_make_5, t_X5_make_7, t_X5_make_8, t_X5_make_9, t_X5_make_12, t_X5_make_13, t_X5_make_14, t_X5_make_17, t_X5_make_18, t_X5_make_20, t_X5_make_23, t_X5_make_33, t_X5_make_35, t_X5_make_38, t_X5_make_41, t_X5_make_43, t_X5_make_46, t_X5_make_47, t_X5_make_48, t_X5_make_51, x_X5_make_2, x_X5_make_38, x_X5_make_48, ↓reduceIte, ev_k_i, ev_k_r, ev_k_l, ev_k_J, ev_k_n, ev_kr_1, ev_kr_0, ev_isK_y, ev_aG_y, ev_aS_y, ev_aN_y, ev_inA_0, ev_isA_0, ev_ft_I, ev_ft_0, ev_ft_1, ev_ft_o, ev_ft_a, ev_nb_0, ev_nb_1, and_true, true_and, if_true, if_false, not_true_eq_false, not_false_eq_true, nI_1, ev_fG_0, ev_fG_1, ev_fG_2, ev_fG_3, ev_fG_4, ev_fG_5, ev_fG_6, ev_fG_7, ev_fG_8, ev_fS_0, ev_fS_1, ev_fS_2, ev_fS_3, ev_fS_4, ev_fS_5, ev_fS_6, ev_fS_7, ev_fS_8, ev_isO_0, ev_isO_1, ev_isO_2, ev_isO_3, ev_isO_4, ev_isO_5, ev_isO_6, ev_isO_7, ev_isO_8, ev_z0, ev_z1, ev_z2, eq_self, ev_ofN]
      have hE := c_tab_row hc hi hH1
      exact k2 i hi rfl hm H1 hE.1 hE.2
    by_cases e1 : m1 = -1
    · subst e1
      have hg := hgo (Or.inl rfl)
      simp (disch := omega) only [t_X5_make_0, t_X5_make_1, t_X5_make_2, t_X5_make_5, t_X5_make_7, t_X5_make_8, t_X5_make_9, t_X5_make_12, t_X5_make_13, t_X5_make_14, t_X5_make_17, t_X5_make_18, t_X5_make_20, t_X5_make_23, t_X5_make_35, t_X5_make_38, t_X5_make_41, t_X5_make_43, t_X5_make_46, t_X5_make_47, t_X5_make_48, t_X5_make_51, x_X5_make_2, x_X5_make_38, x_X5_make_48, ↓reduceIte, ev_k_i, ev_k_r, ev_k_l, ev_k_J, ev_k_n, ev_kr_1, ev_kr_0, ev_isK_y, ev_aG_y, ev_aS_y, ev_aN_y, ev_inA_0, ev_isA_0, ev_ft_I, ev_ft_0, ev_ft_1, ev_ft_o, ev_ft_a, ev_nb_0, ev_nb_1, and_true, true_and, if_true, if_false, not_true_eq_false, not_false_eq_true, nI_1, ev_fG_0, ev_fG_1, ev_fG_2, ev_fG_3, ev_fG_4, ev_fG_5, ev_fG_6, ev_fG_7, ev_fG_8, ev_fS_0, ev_fS_1, ev_fS_2, ev_fS_3, ev_fS_4, ev_fS_5, ev_fS_6, ev_fS_7, ev_fS_8, ev_isO_0, ev_isO_1, ev_isO_2, ev_isO_3, ev_isO_4, ev_isO_5, ev_isO_6, ev_isO_7, ev_isO_8, ev_z0, ev_z1, ev_z2, eq_self, ev_ofN, hk, C_tableOf_y hc hi]
      exact hg
    · by_cases e2 : m1 < 1
      · simp (disch := omega) only [t_X5_make_0, t_X5_make_1, t_X5_make_2, t_X5_make_5, t_X5_make_7, t_X5_make_8, t_X5_make_9, t_X5_make_12, t_X5_make_13, t_X5_make_14, t_X5_make_17, t_X5_make_18, t_X5_make_20, t_X5_make_23, t_X5_make_35, t_X5_make_38, t_X5_make_41, t_X5_make_43, t_X5_make_46, t_X5_make_47, t_X5_make_48, t_X5_make_51, x_X5_make_2, x_X5_make_38, x_X5_make_48, ↓reduceIte, ev_k_i, ev_k_r, ev_k_l, ev_k_J, ev_k_n, ev_kr_1, ev_kr_0, ev_isK_y, ev_aG_y, ev_aS_y, ev_aN_y, ev_inA_0, ev_isA_0, ev_ft_I, ev_ft_0, ev_ft_1, ev_ft_o, ev_ft_a, ev_nb_0, ev_nb_1, and_true, true_and, if_true, if_false, not_true_eq_false, not_false_eq_true, nI_1, ev_fG_0, ev_fG_1, ev_fG_2, ev_fG_3, ev_fG_4, ev_fG_5, ev_fG_6, ev_fG_7, ev_fG_8, ev_fS_0, ev_fS_1, ev_fS_2, ev_fS_3, ev_fS_4, ev_fS_5, ev_fS_6, ev_fS_7, ev_fS_8, ev_isO_0, ev_isO_1, ev_isO_2, ev_isO_3, ev_isO_4, ev_isO_5, ev_isO_6, ev_isO_7, ev_isO_8, ev_z0, ev_z1, ev_z2, eq_self, ev_ofN, hk, C_tableOf_y hc hi, e1, e2]
        exact k1 i hi rfl e1 (Or.inl e2)
      · by_cases e3 : m1 ≤ 12
        · have hg := hgo (Or.inr ⟨Int32.not_lt.mp e2, e3⟩)
          simp (disch := omega) only [t_X5_make_0, t_X5_make_1, t_X5_make_2, t_X5_make_5, t_X5_make_7, t_X5_make_8, t_X5_make_9, t_X5_make_12, t_X5_make_13, t_X5_make_14, t_X5_make_17, t_X5_make_18, t_X5_make_20, t_X5_make_23, t_X5_make_35, t_X5_make_38, t_X5_make_41, t_X5_make_43, t_X5_make_46, t_X5_make_47, t_X5_make_48, t_X5_make_51, x_X5_make_2, x_X5_make_38, x_X5_make_48, ↓reduceIte, ev_k_i, ev_k_r, ev_k_l, ev_k_J, ev_k_n, ev_kr_1, ev_kr_0, ev_isK_y, ev_aG_y, ev_aS_y, ev_aN_y, ev_inA_0, ev_isA_0, ev_ft_I, ev_ft_0, ev_ft_1, ev_ft_o, ev_ft_a, ev_nb_0, ev_nb_1, and_true, true_and, if_true, if_false, not_true_eq_false, not_false_eq_true, nI_1, ev_fG_0, ev_fG_1, ev_fG_2, ev_fG_3, ev_fG_4, ev_fG_5, ev_fG_6, ev_fG_7, ev_fG_8, ev_fS_0, ev_fS_1, ev_fS_2, ev_fS_3, ev_fS_4, ev_fS_5, ev_fS_6, ev_fS_7, ev_fS_8, ev_isO_0, ev_isO_1, ev_isO_2, ev_isO_3, ev_isO_4, ev_isO_5, ev_isO_6, ev_isO_7, ev_isO_8, ev_z0, ev_z1, ev_z2, eq_self, ev_ofN, hk, C_tableOf_y hc hi, e1, e2, e3]
          exact hg
        · simp (disch := omega) only [t_X5_make_0, t_X5_make_1, t_X5_make_2, t_X5_make_5, t_X5_make_7, t_X5_make_8, t_X5_make_9, t_X5_make_12, t_X5_make_13, t_X5_make_14, t_X5_make_17, t_X5_make_18, t_X5_make_20, t_X5_make_23, t_X5_make_35, t_X5_make_38, t_X5_make_41, t_X5_make_43, t_X5_make_46, t_X5_make_47, t_X5_make_48, t_X5_make_51, x_X5_make_2, x_X5_make_38, x_X5_make_48, ↓reduceIte, ev_k_i, ev_k_r, ev_k_l, ev_k_J, ev_k_n, ev_kr_1, ev_kr_0, ev_isK_y, ev_aG_y, ev_aS_y, ev_aN_y, ev_inA_0, ev_isA_0, ev_ft_I, ev_ft_0, ev_ft_1, ev_ft_o, ev_ft_a, ev_nb_0, ev_nb_1, and_true, true_and, if_true, if_false, not_true_eq_false, not_false_eq_true, nI_1, ev_fG_0, ev_fG_1, ev_fG_2, ev_fG_3, ev_fG_4, ev_fG_5, ev_fG_6, ev_fG_7, ev_fG_8, ev_fS_0, ev_fS_1, ev_fS_2, ev_fS_3, ev_fS_4, ev_fS_5, ev_fS_6, ev_fS_7, ev_fS_8, ev_isO_0, ev_isO_1, ev_isO_2, ev_isO_3, ev_isO_4, ev_isO_5, ev_isO_6, ev_isO_7, ev_isO_8, ev_z0, ev_z1, ev_z2, eq_self, ev_ofN, hk, C_tableOf_y hc hi, e1, e2, e3]
          exact k1 i hi rfl e1 (Or.inr (Int32.not_le.mp e3))
noncomputable def pr_bia (L : ev_PL) (b m lm ll x v : Int32) : Int32 × ev_PL × Int32 × Int32 := match pf_find L x with
  | none => (-1, pr_take L m lm ll x v)
  | some j => ((pf_at L j).2, pr_ask L b j, lm, ll)
theorem okL_bia {L : ev_PL} (h : okL L) {k : Int32} (hk : k ∈ (List.range 20).map nI) (b m lm ll v : Int32) : okL (pr_bia L b m lm ll k v).2.1 := by
  unfold pr_bia
  rcases e : pf_find L k with _ | j
  · exact okL_take h hk e m lm ll v
  · exact okL_ask h b (pf_find_s e).1
theorem R_bia {h : ev_M} {r : Nat} {L : ev_PL} {b m lm ll : Int32} (hH : ev_rL h r L b m lm ll H) (hb : ev_isB b) (hc : L.length ≤ 20) {x v : Int32} (hn : pf_find L x = none → L.length < 20) (k : ∀ H1, ev_rL h r (pr_bia L b m lm ll x v).2.1 b m (pr_bia L b m lm ll x v).2.2.1 (pr_bia L b m lm ll x v).2.2.2 H1 → P (.inl (some (.int (pr_bia L b m lm ll x v).1))) H1 n q) : ev_ok (ev_TT X) 226 0 [.ref r, .int x, .int v] [] H n q P := by
  unfold pr_bia at k
  simp (disch := omega) only [t_X2_bringIfAbsent_0, t_X2_bringIfAbsent_1, t_X2_bringIfAbsent_2, t_X2_bringIfAbsent_5, t_X2_bringIfAbsent_6, t_X2_bringIfAbsent_9, t_X2_bringIfAbsent_10, t_X2_bringIfAbsent_11, t_X2_bringIfAbsent_12, t_X2_bringIfAbsent_15, t_X2_bringIfAbsent_16, t_X2_bringIfAbsent_17, t_X2_bringIfAbsent_18, t_X2_bringIfAbsent_19, t_X2_bringIfAbsent_20, t_X2_bringIfAbsent_23, ↓reduceIte, ev_k_i, ev_k_r, ev_k_l, ev_k_J, ev_k_n, ev_kr_1, ev_kr_0, ev_isK_y, ev_aG_y, ev_aS_y, ev_aN_y, ev_inA_0, ev_isA_0, ev_ft_I, ev_ft_0, ev_ft_1, ev_ft_o, ev_ft_a, ev_nb_0, ev_nb_1, and_true, true_and, if_true, if_false, not_true_eq_false, not_false_eq_true, nI_1, ev_fG_0, ev_fG_1, ev_fG_2, ev_fG_3, ev_fG_4, ev_fG_5, ev_fG_6, ev_fG_7, ev_fG_8, ev_fS_0, ev_fS_1, ev_fS_2, ev_fS_3, ev_fS_4, ev_fS_5, ev_fS_6, ev_fS_7, ev_fS_8, ev_isO_0, ev_isO_1, ev_isO_2, ev_isO_3, ev_isO_4, ev_isO_5, ev_isO_6, ev_isO_7, ev_isO_8, ev_z0, ev_z1, ev_z2, eq_self, ev_rL_k hH]
  refine R_find hH hc ?_
  unfold pf_place
  rcases e : pf_find L x with _ | j
  · rw [e] at k
    simp (disch := omega) only [t_X2_bringIfAbsent_0, t_X2_bringIfAbsent_1, t_X2_bringIfAbsent_2, t_X2_bringIfAbsent_5, t_X2_bringIfAbsent_6, t_X2_bringIfAbsent_9, t_X2_bringIfAbsent_10, t_X2_bringIfAbsent_11, t_X2_bringIfAbsent_12, t_X2_bringIfAbsent_15, t_X2_bringIfAbsent_16, t_X2_bringIfAbsent_17, t_X2_bringIfAbsent_18, t_X2_bringIfAbsent_19, t_X2_bringIfAbsent_20, t_X2_bringIfAbsent_23, ↓reduceIte, ev_k_i, ev_k_r, ev_k_l, ev_k_J, ev_k_n, ev_kr_1, ev_kr_0, ev_isK_y, ev_aG_y, ev_aS_y, ev_aN_y, ev_inA_0, ev_isA_0, ev_ft_I, ev_ft_0, ev_ft_1, ev_ft_o, ev_ft_a, ev_nb_0, ev_nb_1, and_true, true_and, if_true, if_false, not_true_eq_false, not_false_eq_true, nI_1, ev_fG_0, ev_fG_1, ev_fG_2, ev_fG_3, ev_fG_4, ev_fG_5, ev_fG_6, ev_fG_7, ev_fG_8, ev_fS_0, ev_fS_1, ev_fS_2, ev_fS_3, ev_fS_4, ev_fS_5, ev_fS_6, ev_fS_7, ev_fS_8, ev_isO_0, ev_isO_1, ev_isO_2, ev_isO_3, ev_isO_4, ev_isO_5, ev_isO_6, ev_isO_7, ev_isO_8, ev_z0, ev_z1, ev_z2, eq_self, ev_rL_k hH]
    refine R_takeIn hH (hn e) fun H1 hH1 => ?_
    simp (disch := omega) only [t_X2_bringIfAbsent_0, t_X2_bringIfAbsent_1, t_X2_bringIfAbsent_2, t_X2_bringIfAbsent_5, t_X2_bringIfAbsent_6, t_X2_bringIfAbsent_9, t_X2_bringIfAbsent_10, t_X2_bringIfAbsent_11, t_X2_bringIfAbsent_12, t_X2_bringIfAbsent_15, t_X2_bringIfAbsent_16, t_X2_bringIfAbsent_17, t_X2_bringIfAbsent_18, t_X2_bringIfAbsent_19, t_X2_bringIfAbsent_20, t_X2_bringIfAbsent_23, ↓reduceIte, ev_k_i, ev_k_r, ev_k_l, ev_k_J, ev_k_n, ev_kr_1, ev_kr_0, ev_isK_y, ev_aG_y, ev_aS_y, ev_aN_y, ev_inA_0, ev_isA_0, ev_ft_I, ev_ft_0, ev_ft_1, ev_ft_o, ev_ft_a, ev_nb_0, ev_nb_1, and_true, true_and, if_true, if_false, not_true_eq_false, not_false_eq_true, nI_1, ev_fG_0, ev_fG_1, ev_fG_2, ev_fG_3, ev_fG_4, ev_fG_5, ev_fG_6, ev_fG_7, ev_fG_8, ev_fS_0, ev_fS_1, ev_fS_2, ev_fS_3, ev_fS_4, ev_fS_5, ev_fS_6, ev_fS_7, ev_fS_8, ev_isO_0, ev_isO_1, ev_isO_2, ev_isO_3, ev_isO_4, ev_isO_5, ev_isO_6, ev_isO_7, ev_isO_8, ev_z0, ev_z1, ev_z2, eq_self, ev_rL_k hH]
    exact k H1 hH1
  · rw [e] at k
    have hj := (pf_find_s e).1
    simp (disch := omega) only [t_X2_bringIfAbsent_0, t_X2_bringIfAbsent_1, t_X2_bringIfAbsent_2, t_X2_bringIfAbsent_5, t_X2_bringIfAbsent_6, t_X2_bringIfAbsent_9, t_X2_bringIfAbsent_10, t_X2_bringIfAbsent_11, t_X2_bringIfAbsent_12, t_X2_bringIfAbsent_15, t_X2_bringIfAbsent_16, t_X2_bringIfAbsent_17, t_X2_bringIfAbsent_18, t_X2_bringIfAbsent_19, t_X2_bringIfAbsent_20, t_X2_bringIfAbsent_23, ↓reduceIte, ev_k_i, ev_k_r, ev_k_l, ev_k_J, ev_k_n, ev_kr_1, ev_kr_0, ev_isK_y, ev_aG_y, ev_aS_y, ev_aN_y, ev_inA_0, ev_isA_0, ev_ft_I, ev_ft_0, ev_ft_1, ev_ft_o, ev_ft_a, ev_nb_0, ev_nb_1, and_true, true_and, if_true, if_false, not_true_eq_false, not_false_eq_true, nI_1, ev_fG_0, ev_fG_1, ev_fG_2, ev_fG_3, ev_fG_4, ev_fG_5, ev_fG_6, ev_fG_7, ev_fG_8, ev_fS_0, ev_fS_1, ev_fS_2, ev_fS_3, ev_fS_4, ev_fS_5, ev_fS_6, ev_fS_7, ev_fS_8, ev_isO_0, ev_isO_1, ev_isO_2, ev_isO_3, ev_isO_4, ev_isO_5, ev_isO_6, ev_isO_7, ev_isO_8, ev_z0, ev_z1, ev_z2, eq_self, ev_rL_k hH, ev_nm1]
    refine R_fetch hH hb hc fun H1 hH1 => ?_
    simp (disch := omega) only [t_X2_bringIfAbsent_0, t_X2_bringIfAbsent_1, t_X2_bringIfAbsent_2, t_X2_bringIfAbsent_5, t_X2_bringIfAbsent_6, t_X2_bringIfAbsent_9, t_X2_bringIfAbsent_10, t_X2_bringIfAbsent_11, t_X2_bringIfAbsent_12, t_X2_bringIfAbsent_15, t_X2_bringIfAbsent_16, t_X2_bringIfAbsent_17, t_X2_bringIfAbsent_18, t_X2_bringIfAbsent_19, t_X2_bringIfAbsent_20, t_X2_bringIfAbsent_23, ↓reduceIte, ev_k_i, ev_k_r, ev_k_l, ev_k_J, ev_k_n, ev_kr_1, ev_kr_0, ev_isK_y, ev_aG_y, ev_aS_y, ev_aN_y, ev_inA_0, ev_isA_0, ev_ft_I, ev_ft_0, ev_ft_1, ev_ft_o, ev_ft_a, ev_nb_0, ev_nb_1, and_true, true_and, if_true, if_false, not_true_eq_false, not_false_eq_true, nI_1, ev_fG_0, ev_fG_1, ev_fG_2, ev_fG_3, ev_fG_4, ev_fG_5, ev_fG_6, ev_fG_7, ev_fG_8, ev_fS_0, ev_fS_1, ev_fS_2, ev_fS_3, ev_fS_4, ev_fS_5, ev_fS_6, ev_fS_7, ev_fS_8, ev_isO_0, ev_isO_1, ev_isO_2, ev_isO_3, ev_isO_4, ev_isO_5, ev_isO_6, ev_isO_7, ev_isO_8, ev_z0, ev_z1, ev_z2, eq_self, ev_rL_k hH]
    unfold pr_fetch at hH1 ⊢
    rw [e] at hH1 ⊢
    exact k H1 hH1
theorem C_putIfAbsent (hc : c_all x G H) (hG : okG G) {t k v : Int32} (k0 : t < 0 ∨ nI 4 ≤ t → P (.inr 0) H (n + 1) (q + 6))
    (k_k : ∀ i, i < 4 → t = nI i → (k < 0 ∨ nI 20 ≤ k) → P (.inr 1) H (n + 1) (q + 6))
    (k_v : ∀ i, i < 4 → t = nI i → (v < 0 ∨ nI 100 ≤ v) → P (.inr 1) H (n + 1) (q + 6))
    (kS : ∀ i a_k a_v, i < 4 → t = nI i → a_k < 20 → k = nI a_k → a_v < 100 → v = nI a_v → ¬ (G.1 i).2.1.2.1 = -1 → P (.inr 2) H (n + 1) (q + 6))
    (k2 : ∀ i a_k a_v, i < 4 → t = nI i → a_k < 20 → k = nI a_k → a_v < 100 → v = nI a_v → (G.1 i).2.1.2.1 = -1 → ∀ H1, c_all x (pg_T G i (ps_row (G.1 i) (pr_bia (G.1 i).1 (G.1 i).2.1.1 (G.1 i).2.1.2.1 (G.1 i).2.1.2.2.1 (G.1 i).2.1.2.2.2 k v).2.1 (G.1 i).2.1.1 (G.1 i).2.1.2.1 (pr_bia (G.1 i).1 (G.1 i).2.1.1 (G.1 i).2.1.2.1 (G.1 i).2.1.2.2.1 (G.1 i).2.1.2.2.2 k v).2.2.1 (pr_bia (G.1 i).1 (G.1 i).2.1.1 (G.1 i).2.1.2.1 (G.1 i).2.1.2.2.1 (G.1 i).2.1.2.2.2 k v).2.2.2)) H1 → c_fr x H H1 → P (.inl (some (.int (pr_bia (G.1 i).1 (G.1 i).2.1.1 (G.1 i).2.1.2.1 (G.1 i).2.1.2.2.1 (G.1 i).2.1.2.2.2 k v).1))) H1 n q) : ev_ok (ev_TT X) 255 0 [.ref x, .int t, .int k, .int v, ev_J] [] H n q P := by
  have hk := c_all_k (X := X) hc
  rcases pk_ix t (n := 4) (by omega) with h | h | ⟨i, hi, rfl⟩
  · simp (disch := omega) only [t_X5_putIfAbsent_0, t_X5_putIfAbsent_1, t_X5_putIfAbsent_2, t_X5_putIfAbsent_5, t_X5_putIfAbsent_7, t_X5_putIfAbsent_8, t_X5_putIfAbsent_11, t_X5_putIfAbsent_12, t_X5_putIfAbsent_15, t_X5_putIfAbsent_17, t_X5_putIfAbsent_20, t_X5_putIfAbsent_23, t_X5_putIfAbsent_24, t_X5_putIfAbsent_27, t_X5_putIfAbsent_37, t_X5_putIfAbsent_39, t_X5_putIfAbsent_42, t_X5_putIfAbsent_45, t_X5_putIfAbsent_47, t_X5_putIfAbsent_50, t_X5_putIfAbsent_51, t_X5_putIfAbsent_52, t_X5_putIfAbsent_55, x_X5_putIfAbsent_2, x_X5_putIfAbsent_8, x_X5_putIfAbsent_12, x_X5_putIfAbsent_42, x_X5_putIfAbsent_52, ↓reduceIte, ev_k_i, ev_k_r, ev_k_l, ev_k_J, ev_k_n, ev_kr_1, ev_kr_0, ev_isK_y, ev_aG_y, ev_aS_y, ev_aN_y, ev_inA_0, ev_isA_0, ev_ft_I, ev_ft_0, ev_ft_1, ev_ft_o, ev_ft_a, ev_nb_0, ev_nb_1, and_true, true_and, if_true, if_false, not_true_eq_false, not_false_eq_true, nI_1, ev_fG_0, ev_fG_1, ev_fG_2, ev_fG_3, ev_fG_4, ev_fG_5, ev_fG_6, ev_fG_7, ev_fG_8, ev_fS_0, ev_fS_1, ev_fS_2, ev_fS_3, ev_fS_4, ev_fS_5, ev_fS_6, ev_fS_7, ev_fS_8, ev_isO_0, ev_isO_1, ev_isO_2, ev_isO_3, ev_isO_4, ev_isO_5, ev_isO_6, ev_isO_7, ev_isO_8, ev_z0, ev_z1, ev_z2, eq_self, ev_ofN, hk, C_tableOf_n (Or.inl h)]
    exact k0 (Or.inl h)
  · simp (disch := omega) only [t_X5_putIfAbsent_0, t_X5_putIfAbsent_1, t_X5_putIfAbsent_2, t_X5_putIfAbsent_5, t_X5_putIfAbsent_7, t_X5_putIfAbsent_8, t_X5_putIfAbsent_11, t_X5_putIfAbsent_12, t_X5_putIfAbsent_15, t_X5_putIfAbsent_17, t_X5_putIfAbsent_20, t_X5_putIfAbsent_23, t_X5_putIfAbsent_24, t_X5_putIfAbsent_27, t_X5_putIfAbsent_37, t_X5_putIfAbsent_39, t_X5_putIfAbsent_42, t_X5_putIfAbsent_45, t_X5_putIfAbsent_47, t_X5_putIfAbsent_50, t_X5_putIfAbsent_51, t_X5_putIfAbsent_52, t_X5_putIfAbsent_55, x_X5_putIfAbsent_2, x_X5_putIfAbsent_8, x_X5_putIfAbsent_12, x_X5_putIfAbsent_42, x_X5_putIfAbsent_52, ↓reduceIte, ev_k_i, ev_k_r, ev_k_l, ev_k_J, ev_k_n, ev_kr_1, ev_kr_0, ev_isK_y, ev_aG_y, ev_aS_y, ev_aN_y, ev_inA_0, ev_isA_0, ev_ft_I, ev_ft_0, ev_ft_1, ev_ft_o, ev_ft_a, ev_nb_0, ev_nb_1, and_true, true_and, if_true, if_false, not_true_eq_false, not_false_eq_true, nI_1, ev_fG_0, ev_fG_1, ev_fG_2, ev_fG_3, ev_fG_4, ev_fG_5, ev_fG_6, ev_fG_7, ev_fG_8, ev_fS_0, ev_fS_1, ev_fS_2, ev_fS_3, ev_fS_4, ev_fS_5, ev_fS_6, ev_fS_7, ev_fS_8, ev_isO_0, ev_isO_1, ev_isO_2, ev_isO_3, ev_isO_4, ev_isO_5, ev_isO_6, ev_isO_7, ev_isO_8, ev_z0, ev_z1, ev_z2, eq_self, ev_ofN, hk, C_tableOf_n (Or.inr h)]
    exact k0 (Or.inr h)
  · rcases pk_ix k (n := 20) (by omega) with h | h | ⟨a_k, ha_k, rfl⟩
    · simp (disch := omega) only [t_X5_putIfAbsent_0, t_X5_putIfAbsent_1, t_X5_putIfAbsent_2, t_X5_putIfAbsent_5, t_X5_putIfAbsent_7, t_X5_putIfAbsent_8, t_X5_putIfAbsent_11, t_X5_putIfAbsent_12, t_X5_putIfAbsent_15, t_X5_putIfAbsent_17, t_X5_putIfAbsent_20, t_X5_putIfAbsent_23, t_X5_putIfAbsent_24, t_X5_putIfAbsent_27, t_X5_putIfAbsent_37, t_X5_putIfAbsent_39, t_X5_putIfAbsent_42, t_X5_putIfAbsent_45, t_X5_putIfAbsent_47, t_X5_putIfAbsent_50, t_X5_putIfAbsent_51, t_X5_putIfAbsent_52, t_X5_putIfAbsent_55, x_X5_putIfAbsent_2, x_X5_putIfAbsent_8, x_X5_putIfAbsent_12, x_X5_putIfAbsent_42, x_X5_putIfAbsent_52, ↓reduceIte, ev_k_i, ev_k_r, ev_k_l, ev_k_J, ev_k_n, ev_kr_1, ev_kr_0, ev_isK_y, ev_aG_y, ev_aS_y, ev_aN_y, ev_inA_0, ev_isA_0, ev_ft_I, ev_ft_0, ev_ft_1, ev_ft_o, ev_ft_a, ev_nb_0, ev_nb_1, and_true, true_and, if_true, if_false, not_true_eq_false, not_false_eq_true, nI_1, ev_fG_0, ev_fG_1, ev_fG_2, ev_fG_3, ev_fG_4, ev_fG_5, ev_fG_6, ev_fG_7, ev_fG_8, ev_fS_0, ev_fS_1, ev_fS_2, ev_fS_3, ev_fS_4, ev_fS_5, ev_fS_6, ev_fS_7, ev_fS_8, ev_isO_0, ev_isO_1, ev_isO_2, ev_isO_3, ev_isO_4, ev_isO_5, ev_isO_6, ev_isO_7, ev_isO_8, ev_z0, ev_z1, ev_z2, eq_self, ev_ofN, hk, C_tableOf_y hc hi, C_dKey_n (Or.inl h)]
      exact k_k i hi rfl (Or.inl h)
    · simp (disch := omega) only [t_X5_putIfAbsent_0, t_X5_putIfAbsent_1, t_X5_putIfAbsent_2, t_X5_putIfAbsent_5, t_X5_putIfAbsent_7, t_X5_putIfAbsent_8, t_X5_putIfAbsent_11, t_X5_putIfAbsent_12, t_X5_putIfAbsent_15, t_X5_putIfAbsent_17, t_X5_putIfAbsent_20, t_X5_putIfAbsent_23, t_X5_putIfAbsent_24, t_X5_putIfAbsent_27, t_X5_putIfAbsent_37, t_X5_putIfAbsent_39, t_X5_putIfAbsent_42, t_X5_putIfAbsent_45, t_X5_putIfAbsent_47, t_X5_putIfAbsent_50, t_X5_putIfAbsent_51, t_X5_putIfAbsent_52, t_X5_putIfAbsent_55, x_X5_putIfAbsent_2, x_X5_putIfAbsent_8, x_X5_putIfAbsent_12, x_X5_putIfAbsent_42, x_X5_putIfAbsent_52, ↓reduceIte, ev_k_i, ev_k_r, ev_k_l, ev_k_J, ev_k_n, ev_kr_1, ev_kr_0, ev_isK_y, ev_aG_y, ev_aS_y, ev_aN_y, ev_inA_0, ev_isA_0, ev_ft_I, ev_ft_0, ev_ft_1, ev_ft_o, ev_ft_a, ev_nb_0, ev_nb_1, and_true, true_and, if_true, if_false, not_true_eq_false, not_false_eq_true, nI_1, ev_fG_0, ev_fG_1, ev_fG_2, ev_fG_3, ev_fG_4, ev_fG_5, ev_fG_6, ev_fG_7, ev_fG_8, ev_fS_0, ev_fS_1, ev_fS_2, ev_fS_3, ev_fS_4, ev_fS_5, ev_fS_6, ev_fS_7, ev_fS_8, ev_isO_0, ev_isO_1, ev_isO_2, ev_isO_3, ev_isO_4, ev_isO_5, ev_isO_6, ev_isO_7, ev_isO_8, ev_z0, ev_z1, ev_z2, eq_self, ev_ofN, hk, C_tableOf_y hc hi, C_dKey_n (Or.inr h)]
      exact k_k i hi rfl (Or.inr h)
    · skip
      rcases pk_ix v (n := 100) (by omega) with h | h | ⟨a_v, ha_v, rfl⟩
      · simp (disch := omega) only [t_X5_putIfAbsent_0, t_X5_putIfAbsent_1, t_X5_putIfAbsent_2, t_X5_putIfAbsent_5, t_X5_putIfAbsent_7, t_X5_putIfAbsent_8, t_X5_putIfAbsent_11, t_X5_putIfAbsent_12, t_X5_putIfAbsent_15, t_X5_putIfAbsent_17, t_X5_putIfAbsent_20, t_X5_putIfAbsent_23, t_X5_putIfAbsent_24, t_X5_putIfAbsent_27, t_X5_putIfAbsent_37, t_X5_putIfAbsent_39, t_X5_putIfAbsent_42, t_X5_putIfAbsent_45, t_X5_putIfAbsent_47, t_X5_putIfAbsent_50, t_X5_putIfAbsent_51, t_X5_putIfAbsent_52, t_X5_putIfAbsent_55, x_X5_putIfAbsent_2, x_X5_putIfAbsent_8, x_X5_putIfAbsent_12, x_X5_putIfAbsent_42, x_X5_putIfAbsent_52, ↓reduceIte, ev_k_i, ev_k_r, ev_k_l, ev_k_J, ev_k_n, ev_kr_1, ev_kr_0, ev_isK_y, ev_aG_y, ev_aS_y, ev_aN_y, ev_inA_0, ev_isA_0, ev_ft_I, ev_ft_0, ev_ft_1, ev_ft_o, ev_ft_a, ev_nb_0, ev_nb_1, and_true, true_and, if_true, if_false, not_true_eq_false, not_false_eq_true, nI_1, ev_fG_0, ev_fG_1, ev_fG_2, ev_fG_3, ev_fG_4, ev_fG_5, ev_fG_6, ev_fG_7, ev_fG_8, ev_fS_0, ev_fS_1, ev_fS_2, ev_fS_3, ev_fS_4, ev_fS_5, ev_fS_6, ev_fS_7, ev_fS_8, ev_isO_0, ev_isO_1, ev_isO_2, ev_isO_3, ev_isO_4, ev_isO_5, ev_isO_6, ev_isO_7, ev_isO_8, ev_z0, ev_z1, ev_z2, eq_self, ev_ofN, hk, C_tableOf_y hc hi, C_dKey_y ha_k, C_dVal_n (Or.inl h)]
        exact k_v i hi rfl (Or.inl h)
      · simp (disch := omega) only [t_X5_putIfAbsent_0, t_X5_putIfAbsent_1, t_X5_putIfAbsent_2, t_X5_putIfAbsent_5, t_X5_putIfAbsent_7, t_X5_putIfAbsent_8, t_X5_putIfAbsent_11, t_X5_putIfAbsent_12, t_X5_putIfAbsent_15, t_X5_putIfAbsent_17, t_X5_putIfAbsent_20, t_X5_putIfAbsent_23, t_X5_putIfAbsent_24, t_X5_putIfAbsent_27, t_X5_putIfAbsent_37, t_X5_putIfAbsent_39, t_X5_putIfAbsent_42, t_X5_putIfAbsent_45, t_X5_putIfAbsent_47, t_X5_putIfAbsent_50, t_X5_putIfAbsent_51, t_X5_putIfAbsent_52, t_X5_putIfAbsent_55, x_X5_putIfAbsent_2, x_X5_putIfAbsent_8, x_X5_putIfAbsent_12, x_X5_putIfAbsent_42, x_X5_putIfAbsent_52, ↓reduceIte, ev_k_i, ev_k_r, ev_k_l, ev_k_J, ev_k_n, ev_kr_1, ev_kr_0, ev_isK_y, ev_aG_y, ev_aS_y, ev_aN_y, ev_inA_0, ev_isA_0, ev_ft_I, ev_ft_0, ev_ft_1, ev_ft_o, ev_ft_a, ev_nb_0, ev_nb_1, and_true, true_and, if_true, if_false, not_true_eq_false, not_false_eq_true, nI_1, ev_fG_0, ev_fG_1, ev_fG_2, ev_fG_3, ev_fG_4, ev_fG_5, ev_fG_6, ev_fG_7, ev_fG_8, ev_fS_0, ev_fS_1, ev_fS_2, ev_fS_3, ev_fS_4, ev_fS_5, ev_fS_6, ev_fS_7, ev_fS_8, ev_isO_0, ev_isO_1, ev_isO_2, ev_isO_3, ev_isO_4, ev_isO_5, ev_isO_6, ev_isO_7, ev_isO_8, ev_z0, ev_z1, ev_z2, eq_self, ev_ofN, hk, C_tableOf_y hc hi, C_dKey_y ha_k, C_dVal_n (Or.inr h)]
        exact k_v i hi rfl (Or.inr h)
      · skip
        obtain ⟨h1, h2, h3⟩ := hc.2.2.2.2.2.2.1 i hi
        have hT := hG.1 i hi
        unfold ev_tbc at h1
        have h3k : ev_isK (ev_lk X H (x + 14 + 5 * i + 3)) 9 = True := by rw [ev_lk_s h3]; exact ev_isK_y
        have h2k := ev_rL_k (X := X) h2
        have h2b := ev_rL_b (X := X) h2
        by_cases e : (G.1 i).2.1.2.1 = -1
        · simp (disch := omega) only [t_X5_putIfAbsent_0, t_X5_putIfAbsent_1, t_X5_putIfAbsent_2, t_X5_putIfAbsent_5, t_X5_putIfAbsent_7, t_X5_putIfAbsent_8, t_X5_putIfAbsent_11, t_X5_putIfAbsent_12, t_X5_putIfAbsent_15, t_X5_putIfAbsent_17, t_X5_putIfAbsent_20, t_X5_putIfAbsent_23, t_X5_putIfAbsent_24, t_X5_putIfAbsent_27, t_X5_putIfAbsent_37, t_X5_putIfAbsent_39, t_X5_putIfAbsent_42, t_X5_putIfAbsent_45, t_X5_putIfAbsent_47, t_X5_putIfAbsent_50, t_X5_putIfAbsent_51, t_X5_putIfAbsent_52, t_X5_putIfAbsent_55, x_X5_putIfAbsent_2, x_X5_putIfAbsent_8, x_X5_putIfAbsent_12, x_X5_putIfAbsent_42, x_X5_putIfAbsent_52, ↓reduceIte, ev_k_i, ev_k_r, ev_k_l, ev_k_J, ev_k_n, ev_kr_1, ev_kr_0, ev_isK_y, ev_aG_y, ev_aS_y, ev_aN_y, ev_inA_0, ev_isA_0, ev_ft_I, ev_ft_0, ev_ft_1, ev_ft_o, ev_ft_a, ev_nb_0, ev_nb_1, and_true, true_and, if_true, if_false, not_true_eq_false, not_false_eq_true, nI_1, ev_fG_0, ev_fG_1, ev_fG_2, ev_fG_3, ev_fG_4, ev_fG_5, ev_fG_6, ev_fG_7, ev_fG_8, ev_fS_0, ev_fS_1, ev_fS_2, ev_fS_3, ev_fS_4, ev_fS_5, ev_fS_6, ev_fS_7, ev_fS_8, ev_isO_0, ev_isO_1, ev_isO_2, ev_isO_3, ev_isO_4, ev_isO_5, ev_isO_6, ev_isO_7, ev_isO_8, ev_z0, ev_z1, ev_z2, eq_self, ev_ofN, hk, C_tableOf_y hc hi, C_dKey_y ha_k, C_dVal_y ha_v, ev_lk_s h1, h3k, h2b.2.2.1.1, h2b.2.2.1.2, e]
          refine W_outdate h3 ?_
          have h1' := fun c => (ev_up_n (h := H) (a := x + 14 + 5 * i + 3) (b := x + 13 + 5 * i) (c := c) (by omega)).trans h1
          have h2' := ev_rL_up (a := x + 14 + 5 * i + 3) (c := ev_wkc (x + 14 + 5 * i) (G.1 i).2.2.1.1 true (G.1 i).2.2.1.2.2 (G.1 i).2.2.2.1 (G.1 i).2.2.2.2) h2 (by omega) (by omega) (by omega)
          have h2k' := ev_rL_k (X := X) h2'
          simp (disch := omega) only [t_X5_putIfAbsent_0, t_X5_putIfAbsent_1, t_X5_putIfAbsent_2, t_X5_putIfAbsent_5, t_X5_putIfAbsent_7, t_X5_putIfAbsent_8, t_X5_putIfAbsent_11, t_X5_putIfAbsent_12, t_X5_putIfAbsent_15, t_X5_putIfAbsent_17, t_X5_putIfAbsent_20, t_X5_putIfAbsent_23, t_X5_putIfAbsent_24, t_X5_putIfAbsent_27, t_X5_putIfAbsent_37, t_X5_putIfAbsent_39, t_X5_putIfAbsent_42, t_X5_putIfAbsent_45, t_X5_putIfAbsent_47, t_X5_putIfAbsent_50, t_X5_putIfAbsent_51, t_X5_putIfAbsent_52, t_X5_putIfAbsent_55, x_X5_putIfAbsent_2, x_X5_putIfAbsent_8, x_X5_putIfAbsent_12, x_X5_putIfAbsent_42, x_X5_putIfAbsent_52, ↓reduceIte, ev_k_i, ev_k_r, ev_k_l, ev_k_J, ev_k_n, ev_kr_1, ev_kr_0, ev_isK_y, ev_aG_y, ev_aS_y, ev_aN_y, ev_inA_0, ev_isA_0, ev_ft_I, ev_ft_0, ev_ft_1, ev_ft_o, ev_ft_a, ev_nb_0, ev_nb_1, and_true, true_and, if_true, if_false, not_true_eq_false, not_false_eq_true, nI_1, ev_fG_0, ev_fG_1, ev_fG_2, ev_fG_3, ev_fG_4, ev_fG_5, ev_fG_6, ev_fG_7, ev_fG_8, ev_fS_0, ev_fS_1, ev_fS_2, ev_fS_3, ev_fS_4, ev_fS_5, ev_fS_6, ev_fS_7, ev_fS_8, ev_isO_0, ev_isO_1, ev_isO_2, ev_isO_3, ev_isO_4, ev_isO_5, ev_isO_6, ev_isO_7, ev_isO_8, ev_z0, ev_z1, ev_z2, eq_self, ev_ofN, ev_lk_s (h1' _), h2k']
          refine R_bia h2' hT.2.1 (okL_len hT.1) (fun z => (okL_new hT.1 (okL_key ha_k) z).2) fun H1 hH1 => ?_
          simp (disch := omega) only [t_X5_putIfAbsent_0, t_X5_putIfAbsent_1, t_X5_putIfAbsent_2, t_X5_putIfAbsent_5, t_X5_putIfAbsent_7, t_X5_putIfAbsent_8, t_X5_putIfAbsent_11, t_X5_putIfAbsent_12, t_X5_putIfAbsent_15, t_X5_putIfAbsent_17, t_X5_putIfAbsent_20, t_X5_putIfAbsent_23, t_X5_putIfAbsent_24, t_X5_putIfAbsent_27, t_X5_putIfAbsent_37, t_X5_putIfAbsent_39, t_X5_putIfAbsent_42, t_X5_putIfAbsent_45, t_X5_putIfAbsent_47, t_X5_putIfAbsent_50, t_X5_putIfAbsent_51, t_X5_putIfAbsent_52, t_X5_putIfAbsent_55, x_X5_putIfAbsent_2, x_X5_putIfAbsent_8, x_X5_putIfAbsent_12, x_X5_putIfAbsent_42, x_X5_putIfAbsent_52, ↓reduceIte, ev_k_i, ev_k_r, ev_k_l, ev_k_J, ev_k_n, ev_kr_1, ev_kr_0, ev_isK_y, ev_aG_y, ev_aS_y, ev_aN_y, ev_inA_0, ev_isA_0, ev_ft_I, ev_ft_0, ev_ft_1, ev_ft_o, ev_ft_a, ev_nb_0, ev_nb_1, and_true, true_and, if_true, if_false, not_true_eq_false, not_false_eq_true, nI_1, ev_fG_0, ev_fG_1, ev_fG_2, ev_fG_3, ev_fG_4, ev_fG_5, ev_fG_6, ev_fG_7, ev_fG_8, ev_fS_0, ev_fS_1, ev_fS_2, ev_fS_3, ev_fS_4, ev_fS_5, ev_fS_6, ev_fS_7, ev_fS_8, ev_isO_0, ev_isO_1, ev_isO_2, ev_isO_3, ev_isO_4, ev_isO_5, ev_isO_6, ev_isO_7, ev_isO_8, ev_z0, ev_z1, ev_z2, eq_self, ev_ofN]
          have hE := c_tab_row hc hi hH1
          exact k2 i a_k a_v hi rfl ha_k rfl ha_v rfl e H1 hE.1 hE.2
        · simp (disch := omega) only [t_X5_putIfAbsent_0, t_X5_putIfAbsent_1, t_X5_putIfAbsent_2, t_X5_putIfAbsent_5, t_X5_putIfAbsent_7, t_X5_putIfAbsent_8, t_X5_putIfAbsent_11, t_X5_putIfAbsent_12, t_X5_putIfAbsent_15, t_X5_putIfAbsent_17, t_X5_putIfAbsent_20, t_X5_putIfAbsent_23, t_X5_putIfAbsent_24, t_X5_putIfAbsent_27, t_X5_putIfAbsent_37, t_X5_putIfAbsent_39, t_X5_putIfAbsent_42, t_X5_putIfAbsent_45, t_X5_putIfAbsent_47, t_X5_putIfAbsent_50, t_X5_putIfAbsent_51, t_X5_putIfAbsent_52, t_X5_putIfAbsent_55, x_X5_putIfAbsent_2, x_X5_putIfAbsent_8, x_X5_putIfAbsent_12, x_X5_putIfAbsent_42, x_X5_putIfAbsent_52, ↓reduceIte, ev_k_i, ev_k_r, ev_k_l, ev_k_J, ev_k_n, ev_kr_1, ev_kr_0, ev_isK_y, ev_aG_y, ev_aS_y, ev_aN_y, ev_inA_0, ev_isA_0, ev_ft_I, ev_ft_0, ev_ft_1, ev_ft_o, ev_ft_a, ev_nb_0, ev_nb_1, and_true, true_and, if_true, if_false, not_true_eq_false, not_false_eq_true, nI_1, ev_fG_0, ev_fG_1, ev_fG_2, ev_fG_3, ev_fG_4, ev_fG_5, ev_fG_6, ev_fG_7, ev_fG_8, ev_fS_0, ev_fS_1, ev_fS_2, ev_fS_3, ev_fS_4, ev_fS_5, ev_fS_6, ev_fS_7, ev_fS_8, ev_isO_0, ev_isO_1, ev_isO_2, ev_isO_3, ev_isO_4, ev_isO_5, ev_isO_6, ev_isO_7, ev_isO_8, ev_z0, ev_z1, ev_z2, eq_self, ev_ofN, hk, C_tableOf_y hc hi, C_dKey_y ha_k, C_dVal_y ha_v, ev_lk_s h1, h3k, h2b.2.2.1.1, h2b.2.2.1.2, e]
          exact kS i a_k a_v hi rfl ha_k rfl ha_v rfl e
end CX
end
section
/-! ===== the class: an asking ===== -/
noncomputable def pd_depth (L : ev_PL) (k : Int32) : Int32 := match pf_find L k with
  | none => 0
  | some j => nI (L.length - j)
/-- a keeper that meets a key -/
noncomputable def pk_meet (s : ev_KS) (k v : Int32) : ev_KS := ((pr_fetchIn s.1 1 s.2.1 s.2.2.1 s.2.2.2.1 k v).2.1, s.2.1, (pr_fetchIn s.1 1 s.2.1 s.2.2.1 s.2.2.2.1 k v).2.2.1, (pr_fetchIn s.1 1 s.2.1 s.2.2.1 s.2.2.2.1 k v).2.2.2,
  (if (pr_fetchIn s.1 1 s.2.1 s.2.2.1 s.2.2.2.1 k v).1 = 0 then s.2.2.2.2.1 + 1 else s.2.2.2.2.1), (if (pr_fetchIn s.1 1 s.2.1 s.2.2.1 s.2.2.2.1 k v).1 = 0 then s.2.2.2.2.2 else s.2.2.2.2.2 + 1))
noncomputable def pk_hits (K : Nat → ev_KS) (k v : Int32) : Nat → Nat → Int32 → Int32
  | 0, _, s => s
  | d + 1, j, s => pk_hits K k v d (j + 1) (if (pr_fetchIn (K j).1 1 (K j).2.1 (K j).2.2.1 (K j).2.2.2.1 k v).1 = 0 then s else s + 1)
noncomputable def pg_K (G : ev_CS) (i : Nat) (k v : Int32) : ev_CS := (G.1, G.2.1, (fun j => if j < i then pk_meet (G.2.2.1 j) k v else G.2.2.1 j), G.2.2.2)
section CK
variable {X : ev_E} {x : Nat} {G : ev_CS} {H : ev_M} {n q : Nat} {P : ev_O → ev_M → Nat → Nat → Prop}
theorem pg_K_s {i : Nat} {k v : Int32} : ((pg_K G i k v).1, (pg_K G i k v).2.1, (fun j' => if j' = i then pk_meet (G.2.2.1 i) k v else (pg_K G i k v).2.2.1 j'), (pg_K G i k v).2.2.2) = pg_K G (i + 1) k v := by
  have : (fun j' => if j' = i then pk_meet (G.2.2.1 i) k v else (pg_K G i k v).2.2.1 j') = (pg_K G (i + 1) k v).2.2.1 := by
    funext j'
    unfold pg_K
    dsimp only
    by_cases e : j' = i
    · subst e
      rw [if_pos rfl, if_pos (by omega)]
    · rw [if_neg e]
      by_cases e2 : j' < i
      · rw [if_pos e2, if_pos (by omega)]
      · rw [if_neg e2, if_neg (by omega)]
  rw [this]
  rfl
theorem C_depthNow (hc : c_all x G H) (hG : okG G) {k : Int32} (c : P (.inl (some (.int (pd_depth G.2.1.1 k)))) H n q) : ev_ok (ev_TT X) 104 0 [.ref x, .int k, ev_J] [] H n q P := by
  have h0 := hc.1
  have h3 := hc.2.2.2.1
  have hr := ev_rL_k (X := X) h3
  have hx := (ev_rL_b (X := X) h3).2.1
  have hl := okL_len hG.2.1
  unfold c_top at h0
  unfold pd_depth at c
  simp (disch := omega) only [t_X5_depthNow_0, t_X5_depthNow_1, t_X5_depthNow_4, t_X5_depthNow_5, t_X5_depthNow_8, t_X5_depthNow_9, t_X5_depthNow_10, t_X5_depthNow_11, t_X5_depthNow_14, t_X5_depthNow_15, t_X5_depthNow_18, t_X5_depthNow_19, t_X5_depthNow_22, t_X5_depthNow_25, t_X5_depthNow_26, t_X5_depthNow_27, x_X5_depthNow_5, ↓reduceIte, ev_k_i, ev_k_r, ev_k_l, ev_k_J, ev_k_n, ev_kr_1, ev_kr_0, ev_isK_y, ev_aG_y, ev_aS_y, ev_aN_y, ev_inA_0, ev_isA_0, ev_ft_I, ev_ft_0, ev_ft_1, ev_ft_o, ev_ft_a, ev_nb_0, ev_nb_1, and_true, true_and, if_true, if_false, not_true_eq_false, not_false_eq_true, nI_1, ev_fG_0, ev_fG_1, ev_fG_2, ev_fG_3, ev_fG_4, ev_fG_5, ev_fG_6, ev_fG_7, ev_fG_8, ev_fS_0, ev_fS_1, ev_fS_2, ev_fS_3, ev_fS_4, ev_fS_5, ev_fS_6, ev_fS_7, ev_fS_8, ev_isO_0, ev_isO_1, ev_isO_2, ev_isO_3, ev_isO_4, ev_isO_5, ev_isO_6, ev_isO_7, ev_isO_8, ev_z0, ev_z1, ev_z2, eq_self, ev_ofN, ev_lk_s h0, hr]
  refine R_find h3 hl ?_
  unfold pf_place
  rcases e : pf_find G.2.1.1 k with _ | j
  · rw [e] at c
    simp (disch := omega) only [t_X5_depthNow_0, t_X5_depthNow_1, t_X5_depthNow_4, t_X5_depthNow_5, t_X5_depthNow_8, t_X5_depthNow_9, t_X5_depthNow_10, t_X5_depthNow_11, t_X5_depthNow_14, t_X5_depthNow_15, t_X5_depthNow_18, t_X5_depthNow_19, t_X5_depthNow_22, t_X5_depthNow_25, t_X5_depthNow_26, t_X5_depthNow_27, x_X5_depthNow_5, ↓reduceIte, ev_k_i, ev_k_r, ev_k_l, ev_k_J, ev_k_n, ev_kr_1, ev_kr_0, ev_isK_y, ev_aG_y, ev_aS_y, ev_aN_y, ev_inA_0, ev_isA_0, ev_ft_I, ev_ft_0, ev_ft_1, ev_ft_o, ev_ft_a, ev_nb_0, ev_nb_1, and_true, true_and, if_true, if_false, not_true_eq_false, not_false_eq_true, nI_1, ev_fG_0, ev_fG_1, ev_fG_2, ev_fG_3, ev_fG_4, ev_fG_5, ev_fG_6, ev_fG_7, ev_fG_8, ev_fS_0, ev_fS_1, ev_fS_2, ev_fS_3, ev_fS_4, ev_fS_5, ev_fS_6, ev_fS_7, ev_fS_8, ev_isO_0, ev_isO_1, ev_isO_2, ev_isO_3, ev_isO_4, ev_isO_5, ev_isO_6, ev_isO_7, ev_isO_8, ev_z0, ev_z1, ev_z2, eq_self, ev_ofN, ev_lk_s h0]
    exact c
  · rw [e] at c
    have hj := (pf_find_s e).1
    have hsub := pk_sub (a := G.2.1.1.length) (b := j) (by omega)
    simp (disch := omega) only [t_X5_depthNow_0, t_X5_depthNow_1, t_X5_depthNow_4, t_X5_depthNow_5, t_X5_depthNow_8, t_X5_depthNow_9, t_X5_depthNow_10, t_X5_depthNow_11, t_X5_depthNow_14, t_X5_depthNow_15, t_X5_depthNow_18, t_X5_depthNow_19, t_X5_depthNow_22, t_X5_depthNow_25, t_X5_depthNow_26, t_X5_depthNow_27, x_X5_depthNow_5, ↓reduceIte, ev_k_i, ev_k_r, ev_k_l, ev_k_J, ev_k_n, ev_kr_1, ev_kr_0, ev_isK_y, ev_aG_y, ev_aS_y, ev_aN_y, ev_inA_0, ev_isA_0, ev_ft_I, ev_ft_0, ev_ft_1, ev_ft_o, ev_ft_a, ev_nb_0, ev_nb_1, and_true, true_and, if_true, if_false, not_true_eq_false, not_false_eq_true, nI_1, ev_fG_0, ev_fG_1, ev_fG_2, ev_fG_3, ev_fG_4, ev_fG_5, ev_fG_6, ev_fG_7, ev_fG_8, ev_fS_0, ev_fS_1, ev_fS_2, ev_fS_3, ev_fS_4, ev_fS_5, ev_fS_6, ev_fS_7, ev_fS_8, ev_isO_0, ev_isO_1, ev_isO_2, ev_isO_3, ev_isO_4, ev_isO_5, ev_isO_6, ev_isO_7, ev_isO_8, ev_z0, ev_z1, ev_z2, eq_self, ev_ofN, ev_nm1, ev_lk_s h0, hx.1, hx.2, hsub]
    exact c
theorem C_askLoop {k v : Int32} (hkey : k ∈ (List.range 20).map nI) : ∀ (d j : Nat) (s : Int32) (w : Value) (H : ev_M), j + d = 6 → c_all x (pg_K G j k v) H → okG G →
    (∀ w' H1, c_all x (pg_K G 6 k v) H1 → c_fr x H H1 → ev_ok (ev_TT X) 254 70 [.ref x, .int k, .int v, .int (pk_hits G.2.2.1 k v d j s), .ref (x + 11), .int 6, .int 6, w'] [] H1 n q P) → ev_ok (ev_TT X) 254 37 [.ref x, .int k, .int v, .int s, .ref (x + 11), .int 6, .int (nI j), w] [] H n q P := by
  intro d
  induction d with
  | zero =>
    intro j s w H hj hc hG c
    have hj6 : j = 6 := by omega
    subst hj6
    simp (disch := omega) only [t_X5_askOne_0, t_X5_askOne_1, t_X5_askOne_4, t_X5_askOne_7, t_X5_askOne_8, t_X5_askOne_9, t_X5_askOne_12, t_X5_askOne_13, t_X5_askOne_14, t_X5_askOne_15, t_X5_askOne_18, t_X5_askOne_21, t_X5_askOne_22, t_X5_askOne_23, t_X5_askOne_24, t_X5_askOne_27, t_X5_askOne_29, t_X5_askOne_31, t_X5_askOne_32, t_X5_askOne_34, t_X5_askOne_35, t_X5_askOne_37, t_X5_askOne_39, t_X5_askOne_41, t_X5_askOne_44, t_X5_askOne_46, t_X5_askOne_48, t_X5_askOne_49, t_X5_askOne_51, t_X5_askOne_53, t_X5_askOne_54, t_X5_askOne_55, t_X5_askOne_58, t_X5_askOne_61, t_X5_askOne_64, t_X5_askOne_67, t_X5_askOne_71, t_X5_askOne_74, t_X5_askOne_75, t_X5_askOne_76, t_X5_askOne_79, t_X5_askOne_79_i, t_X5_askOne_80, t_X5_askOne_81, x_X5_askOne_15, x_X5_askOne_18, x_X5_askOne_55, x_X5_askOne_76, ↓reduceIte, ev_k_i, ev_k_r, ev_k_l, ev_k_J, ev_k_n, ev_kr_1, ev_kr_0, ev_isK_y, ev_aG_y, ev_aS_y, ev_aN_y, ev_inA_0, ev_isA_0, ev_ft_I, ev_ft_0, ev_ft_1, ev_ft_o, ev_ft_a, ev_nb_0, ev_nb_1, and_true, true_and, if_true, if_false, not_true_eq_false, not_false_eq_true, nI_1, ev_fG_0, ev_fG_1, ev_fG_2, ev_fG_3, ev_fG_4, ev_fG_5, ev_fG_6, ev_fG_7, ev_fG_8, ev_fS_0, ev_fS_1, ev_fS_2, ev_fS_3, ev_fS_4, ev_fS_5, ev_fS_6, ev_fS_7, ev_fS_8, ev_isO_0, ev_isO_1, ev_isO_2, ev_isO_3, ev_isO_4, ev_isO_5, ev_isO_6, ev_isO_7, ev_isO_8, ev_z0, ev_z1, ev_z2, eq_self, ev_ofN, show nI 6 = 6 from rfl, Int32.le_refl]
    exact c w H hc (fun a _ => rfl)
  | succ d ih =>
    intro j s w H hj hc hG c
    have hj6 : j < 6 := by omega
    have hB : ¬ (6 : Int32) ≤ nI j := Int32.not_le.mpr (nI_lt (b := 6) hj6 (by omega))
    have hp := nI_pos' (n := j) (by omega)
    obtain ⟨f, h4, h4b⟩ := hc.2.2.2.2.1
    have hf := h4b j hj6
    obtain ⟨h7, h8⟩ := hc.2.2.2.2.2.2.2 j hj6
    have eK : (pg_K G j k v).2.2.1 j = G.2.2.1 j := by
      unfold pg_K
      dsimp only
      rw [if_neg (by omega)]
    rw [eK] at h7 h8
    have hL := hG.2.2.1 j hj6
    have h7k : ev_isK (ev_lk X H (x + 33 + 4 * j)) 6 = True := by rw [ev_lk_s h7]; exact ev_isK_y
    rw [t_X5_askOne_37]
    simp (disch := omega) only [t_X5_askOne_0, t_X5_askOne_1, t_X5_askOne_4, t_X5_askOne_7, t_X5_askOne_8, t_X5_askOne_9, t_X5_askOne_12, t_X5_askOne_13, t_X5_askOne_14, t_X5_askOne_15, t_X5_askOne_18, t_X5_askOne_21, t_X5_askOne_22, t_X5_askOne_23, t_X5_askOne_24, t_X5_askOne_27, t_X5_askOne_29, t_X5_askOne_31, t_X5_askOne_32, t_X5_askOne_34, t_X5_askOne_35, t_X5_askOne_39, t_X5_askOne_41, t_X5_askOne_44, t_X5_askOne_46, t_X5_askOne_48, t_X5_askOne_49, t_X5_askOne_51, t_X5_askOne_53, t_X5_askOne_54, t_X5_askOne_55, t_X5_askOne_58, t_X5_askOne_61, t_X5_askOne_64, t_X5_askOne_67, t_X5_askOne_71, t_X5_askOne_74, t_X5_askOne_75, t_X5_askOne_76, t_X5_askOne_79, t_X5_askOne_79_i, t_X5_askOne_80, t_X5_askOne_81, x_X5_askOne_15, x_X5_askOne_18, x_X5_askOne_55, x_X5_askOne_76, ↓reduceIte, ev_k_i, ev_k_r, ev_k_l, ev_k_J, ev_k_n, ev_kr_1, ev_kr_0, ev_isK_y, ev_aG_y, ev_aS_y, ev_aN_y, ev_inA_0, ev_isA_0, ev_ft_I, ev_ft_0, ev_ft_1, ev_ft_o, ev_ft_a, ev_nb_0, ev_nb_1, and_true, true_and, if_true, if_false, not_true_eq_false, not_false_eq_true, nI_1, ev_fG_0, ev_fG_1, ev_fG_2, ev_fG_3, ev_fG_4, ev_fG_5, ev_fG_6, ev_fG_7, ev_fG_8, ev_fS_0, ev_fS_1, ev_fS_2, ev_fS_3, ev_fS_4, ev_fS_5, ev_fS_6, ev_fS_7, ev_fS_8, ev_isO_0, ev_isO_1, ev_isO_2, ev_isO_3, ev_isO_4, ev_isO_5, ev_isO_6, ev_isO_7, ev_isO_8, ev_z0, ev_z1, ev_z2, eq_self, ev_ofN, hB, ev_lk_s h4, ev_inA_4, nI_clamp, hp, hj6, hf, h7k]
    refine C_meet h7 h8 (by omega) (by omega) (by omega) ev_isB_1 (okL_len hL) (fun z => (okL_new hL hkey z).2) fun H1 hH1 => ?_
    have ho : ∀ a, (a < x + 33 + 4 * j ∨ x + 37 + 4 * j ≤ a) → H1 a = H a := fun a ha =>
      (ev_rL_o hH1 (by omega) (by omega) (by omega)).trans (ev_up_n (by omega))
    have hc1 := c_upK hc hj6 (s := pk_meet (G.2.2.1 j) k v) ho ⟨(ev_rL_o hH1 (by omega) (by omega) (by omega)).trans ev_up_s, c_row_of hH1⟩
    rw [pg_K_s] at hc1
    have hfr : c_fr x H H1 := fun a ha => ho a (by omega)
    rw [pk_hits] at c
    rcases pr_fetchIn_01 (L := (G.2.2.1 j).1) (b := 1) (m := (G.2.2.1 j).2.1) (lm := (G.2.2.1 j).2.2.1) (ll := (G.2.2.1 j).2.2.2.1) (x := k) (v := v) with e | e
    · rw [e, if_pos rfl] at c
      rw [e]
      simp (disch := omega) only [t_X5_askOne_0, t_X5_askOne_1, t_X5_askOne_4, t_X5_askOne_7, t_X5_askOne_8, t_X5_askOne_9, t_X5_askOne_12, t_X5_askOne_13, t_X5_askOne_14, t_X5_askOne_15, t_X5_askOne_18, t_X5_askOne_21, t_X5_askOne_22, t_X5_askOne_23, t_X5_askOne_24, t_X5_askOne_27, t_X5_askOne_29, t_X5_askOne_31, t_X5_askOne_32, t_X5_askOne_34, t_X5_askOne_35, t_X5_askOne_39, t_X5_askOne_41, t_X5_askOne_44, t_X5_askOne_46, t_X5_askOne_48, t_X5_askOne_49, t_X5_askOne_51, t_X5_askOne_53, t_X5_askOne_54, t_X5_askOne_55, t_X5_askOne_58, t_X5_askOne_61, t_X5_askOne_64, t_X5_askOne_67, t_X5_askOne_71, t_X5_askOne_74, t_X5_askOne_75, t_X5_askOne_76, t_X5_askOne_79, t_X5_askOne_79_i, t_X5_askOne_80, t_X5_askOne_81, x_X5_askOne_15, x_X5_askOne_18, x_X5_askOne_55, x_X5_askOne_76, ↓reduceIte, ev_k_i, ev_k_r, ev_k_l, ev_k_J, ev_k_n, ev_kr_1, ev_kr_0, ev_isK_y, ev_aG_y, ev_aS_y, ev_aN_y, ev_inA_0, ev_isA_0, ev_ft_I, ev_ft_0, ev_ft_1, ev_ft_o, ev_ft_a, ev_nb_0, ev_nb_1, and_true, true_and, if_true, if_false, not_true_eq_false, not_false_eq_true, nI_1, ev_fG_0, ev_fG_1, ev_fG_2, ev_fG_3, ev_fG_4, ev_fG_5, ev_fG_6, ev_fG_7, ev_fG_8, ev_fS_0, ev_fS_1, ev_fS_2, ev_fS_3, ev_fS_4, ev_fS_5, ev_fS_6, ev_fS_7, ev_fS_8, ev_isO_0, ev_isO_1, ev_isO_2, ev_isO_3, ev_isO_4, ev_isO_5, ev_isO_6, ev_isO_7, ev_isO_8, ev_z0, ev_z1, ev_z2, eq_self, ev_ofN]
      exact ih (j + 1) _ _ H1 (by omega) hc1 hG (fun w' H2 g1 g2 => c w' H2 g1 (fun a ha => (g2 a ha).trans (hfr a ha)))
    · rw [e, if_neg (by decide)] at c
      rw [e]
      simp (disch := omega) only [t_X5_askOne_0, t_X5_askOne_1, t_X5_askOne_4, t_X5_askOne_7, t_X5_askOne_8, t_X5_askOne_9, t_X5_askOne_12, t_X5_askOne_13, t_X5_askOne_14, t_X5_askOne_15, t_X5_askOne_18, t_X5_askOne_21, t_X5_askOne_22, t_X5_askOne_23, t_X5_askOne_24, t_X5_askOne_27, t_X5_askOne_29, t_X5_askOne_31, t_X5_askOne_32, t_X5_askOne_34, t_X5_askOne_35, t_X5_askOne_39, t_X5_askOne_41, t_X5_askOne_44, t_X5_askOne_46, t_X5_askOne_48, t_X5_askOne_49, t_X5_askOne_51, t_X5_askOne_53, t_X5_askOne_54, t_X5_askOne_55, t_X5_askOne_58, t_X5_askOne_61, t_X5_askOne_64, t_X5_askOne_67, t_X5_askOne_71, t_X5_askOne_74, t_X5_askOne_75, t_X5_askOne_76, t_X5_askOne_79, t_X5_askOne_79_i, t_X5_askOne_80, t_X5_askOne_81, x_X5_askOne_15, x_X5_askOne_18, x_X5_askOne_55, x_X5_askOne_76, ↓reduceIte, ev_k_i, ev_k_r, ev_k_l, ev_k_J, ev_k_n, ev_kr_1, ev_kr_0, ev_isK_y, ev_aG_y, ev_aS_y, ev_aN_y, ev_inA_0, ev_isA_0, ev_ft_I, ev_ft_0, ev_ft_1, ev_ft_o, ev_ft_a, ev_nb_0, ev_nb_1, and_true, true_and, if_true, if_false, not_true_eq_false, not_false_eq_true, nI_1, ev_fG_0, ev_fG_1, ev_fG_2, ev_fG_3, ev_fG_4, ev_fG_5, ev_fG_6, ev_fG_7, ev_fG_8, ev_fS_0, ev_fS_1, ev_fS_2, ev_fS_3, ev_fS_4, ev_fS_5, ev_fS_6, ev_fS_7, ev_fS_8, ev_isO_0, ev_isO_1, ev_isO_2, ev_isO_3, ev_isO_4, ev_isO_5, ev_isO_6, ev_isO_7, ev_isO_8, ev_z0, ev_z1, ev_z2, eq_self, ev_ofN]
      exact ih (j + 1) _ _ H1 (by omega) hc1 hG (fun w' H2 g1 g2 => c w' H2 g1 (fun a ha => (g2 a ha).trans (hfr a ha)))
end CK
end
section
/-! ===== the class: askings ===== -/
def pg_A (G : ev_CS) (s : (Nat → Int32) × (Nat → Int32) × Nat) : ev_CS := (G.1, G.2.1, G.2.2.1, s, G.2.2.2.2)
noncomputable def pg_ask1 (G : ev_CS) (k : Int32) : ev_CS := pg_K (pg_A G (ev_fu G.2.2.2.1.1 G.2.2.2.1.2.2 k, ev_fu G.2.2.2.1.2.1 G.2.2.2.1.2.2 (pd_depth G.2.1.1 k), G.2.2.2.1.2.2 + 1)) 6 k (nI G.2.2.2.1.2.2)
noncomputable def pg_ask (G : ev_CS) (k : Int32) : ev_CS := (G.1, ((pr_fetchIn G.2.1.1 1 (-1) G.2.1.2.1 G.2.1.2.2 k (nI G.2.2.2.1.2.2)).2.1, (pr_fetchIn G.2.1.1 1 (-1) G.2.1.2.1 G.2.1.2.2 k (nI G.2.2.2.1.2.2)).2.2), (pg_ask1 G k).2.2)
theorem pg_K_0 {G : ev_CS} {k v : Int32} : pg_K G 0 k v = G := by
  have : (fun j => if j < 0 then pk_meet (G.2.2.1 j) k v else G.2.2.1 j) = G.2.2.1 := by
    funext j
    rw [if_neg (by omega)]
  unfold pg_K
  rw [this]
theorem okG_ask {G : ev_CS} (h : okG G) {k : Int32} (hk : k ∈ (List.range 20).map nI) (hc : G.2.2.2.1.2.2 < 60) : okG (pg_ask G k) := by
  refine ⟨h.1, okL_fetchIn h.2.1 hk 1 (-1) G.2.1.2.1 G.2.1.2.2 (nI G.2.2.2.1.2.2), fun j hj => ?_, hc⟩
  show okL ((if j < 6 then pk_meet (G.2.2.1 j) k (nI G.2.2.2.1.2.2) else G.2.2.1 j)).1
  rw [if_pos hj]
  exact okL_fetchIn (h.2.2.1 j hj) hk _ _ _ _ _
section CQ
variable {X : ev_E} {x : Nat} {G : ev_CS} {H : ev_M} {n q : Nat} {P : ev_O → ev_M → Nat → Nat → Prop}
theorem C_askOne (hc : c_all x G H) (hG : okG G) {k : Int32} (hk : k ∈ (List.range 20).map nI) (h60 : G.2.2.2.1.2.2 < 60)
    (c : ∀ H1, c_all x (pg_ask G k) H1 → c_fr x H H1 → P (.inl (some (.int (pk_hits G.2.2.1 k (nI G.2.2.2.1.2.2) 6 0 0)))) H1 n q) : ev_ok (ev_TT X) 254 0 [.ref x, .int k, ev_J, ev_J, ev_J, ev_J, ev_J, ev_J] [] H n q P := by
  have hkk := c_all_k (X := X) hc
  have h0 := hc.1
  unfold c_top at h0
  obtain ⟨ne, hk1, hn1, hH, hN⟩ := hc.2.2.1
  have ha0 : H (x + 2) = _ := (congrFun hH (x + 2)).trans ev_ask_0
  have hak : ev_isK (ev_lk X H (x + 2)) 5 = True := by rw [ev_lk_s ha0]; exact ev_isK_y
  simp (disch := omega) only [t_X5_askOne_0, t_X5_askOne_1, t_X5_askOne_4, t_X5_askOne_7, t_X5_askOne_8, t_X5_askOne_9, t_X5_askOne_12, t_X5_askOne_13, t_X5_askOne_14, t_X5_askOne_15, t_X5_askOne_18, t_X5_askOne_21, t_X5_askOne_22, t_X5_askOne_23, t_X5_askOne_24, t_X5_askOne_27, t_X5_askOne_29, t_X5_askOne_31, t_X5_askOne_32, t_X5_askOne_34, t_X5_askOne_35, t_X5_askOne_39, t_X5_askOne_41, t_X5_askOne_44, t_X5_askOne_46, t_X5_askOne_48, t_X5_askOne_49, t_X5_askOne_51, t_X5_askOne_53, t_X5_askOne_54, t_X5_askOne_55, t_X5_askOne_58, t_X5_askOne_61, t_X5_askOne_64, t_X5_askOne_67, t_X5_askOne_71, t_X5_askOne_74, t_X5_askOne_75, t_X5_askOne_76, t_X5_askOne_79, t_X5_askOne_79_i, t_X5_askOne_80, t_X5_askOne_81, x_X5_askOne_15, x_X5_askOne_18, x_X5_askOne_55, x_X5_askOne_76, ↓reduceIte, ev_k_i, ev_k_r, ev_k_l, ev_k_J, ev_k_n, ev_kr_1, ev_kr_0, ev_isK_y, ev_aG_y, ev_aS_y, ev_aN_y, ev_inA_0, ev_isA_0, ev_ft_I, ev_ft_0, ev_ft_1, ev_ft_o, ev_ft_a, ev_nb_0, ev_nb_1, and_true, true_and, if_true, if_false, not_true_eq_false, not_false_eq_true, nI_1, ev_fG_0, ev_fG_1, ev_fG_2, ev_fG_3, ev_fG_4, ev_fG_5, ev_fG_6, ev_fG_7, ev_fG_8, ev_fS_0, ev_fS_1, ev_fS_2, ev_fS_3, ev_fS_4, ev_fS_5, ev_fS_6, ev_fS_7, ev_fS_8, ev_isO_0, ev_isO_1, ev_isO_2, ev_isO_3, ev_isO_4, ev_isO_5, ev_isO_6, ev_isO_7, ev_isO_8, ev_z0, ev_z1, ev_z2, eq_self, ev_ofN, hkk, ev_lk_s h0, ev_lk_s ha0]
  refine C_depthNow hc hG ?_
  simp (disch := omega) only [t_X5_askOne_0, t_X5_askOne_1, t_X5_askOne_4, t_X5_askOne_7, t_X5_askOne_8, t_X5_askOne_9, t_X5_askOne_12, t_X5_askOne_13, t_X5_askOne_14, t_X5_askOne_15, t_X5_askOne_18, t_X5_askOne_21, t_X5_askOne_22, t_X5_askOne_23, t_X5_askOne_24, t_X5_askOne_27, t_X5_askOne_29, t_X5_askOne_31, t_X5_askOne_32, t_X5_askOne_34, t_X5_askOne_35, t_X5_askOne_39, t_X5_askOne_41, t_X5_askOne_44, t_X5_askOne_46, t_X5_askOne_48, t_X5_askOne_49, t_X5_askOne_51, t_X5_askOne_53, t_X5_askOne_54, t_X5_askOne_55, t_X5_askOne_58, t_X5_askOne_61, t_X5_askOne_64, t_X5_askOne_67, t_X5_askOne_71, t_X5_askOne_74, t_X5_askOne_75, t_X5_askOne_76, t_X5_askOne_79, t_X5_askOne_79_i, t_X5_askOne_80, t_X5_askOne_81, x_X5_askOne_15, x_X5_askOne_18, x_X5_askOne_55, x_X5_askOne_76, ↓reduceIte, ev_k_i, ev_k_r, ev_k_l, ev_k_J, ev_k_n, ev_kr_1, ev_kr_0, ev_isK_y, ev_aG_y, ev_aS_y, ev_aN_y, ev_inA_0, ev_isA_0, ev_ft_I, ev_ft_0, ev_ft_1, ev_ft_o, ev_ft_a, ev_nb_0, ev_nb_1, and_true, true_and, if_true, if_false, not_true_eq_false, not_false_eq_true, nI_1, ev_fG_0, ev_fG_1, ev_fG_2, ev_fG_3, ev_fG_4, ev_fG_5, ev_fG_6, ev_fG_7, ev_fG_8, ev_fS_0, ev_fS_1, ev_fS_2, ev_fS_3, ev_fS_4, ev_fS_5, ev_fS_6, ev_fS_7, ev_fS_8, ev_isO_0, ev_isO_1, ev_isO_2, ev_isO_3, ev_isO_4, ev_isO_5, ev_isO_6, ev_isO_7, ev_isO_8, ev_z0, ev_z1, ev_z2, eq_self, ev_ofN, ev_lk_s h0, hak]
  rw [hH]
  refine A_add h60 ?_
  generalize hne : (ev_fu (nt G.2.2.2.1.1 ne k (nI G.2.2.2.1.2.2) G.2.2.2.1.2.2) G.2.2.2.1.2.2 (nI 60)) = ne'
  have ho : ∀ a, (a < x + 2 ∨ x + 8 ≤ a) → ev_ask H (x + 2) (ev_fu G.2.2.2.1.1 G.2.2.2.1.2.2 k) (ev_fu G.2.2.2.1.2.1 G.2.2.2.1.2.2 (pd_depth G.2.1.1 k)) ne' hk1 hn1 (G.2.2.2.1.2.2 + 1) a = H a := fun a ha => ev_ask_o (by omega)
  have hc1 := c_upA hc (s := (ev_fu G.2.2.2.1.1 G.2.2.2.1.2.2 k, ev_fu G.2.2.2.1.2.1 G.2.2.2.1.2.2 (pd_depth G.2.1.1 k), G.2.2.2.1.2.2 + 1)) ho ⟨ne', hk1, hn1, ev_ask_ask.symm, by rw [← hne]; exact okN_add hN h60⟩
  generalize hH1 : ev_ask H (x + 2) (ev_fu G.2.2.2.1.1 G.2.2.2.1.2.2 k) (ev_fu G.2.2.2.1.2.1 G.2.2.2.1.2.2 (pd_depth G.2.1.1 k)) ne' hk1 hn1 (G.2.2.2.1.2.2 + 1) = H1 at hc1 ho ⊢
  have h01 := hc1.1
  obtain ⟨f, h4, h4b⟩ := hc1.2.2.2.2.1
  unfold c_top at h01
  have hL := C_askLoop (X := X) (x := x) (G := pg_A G (ev_fu G.2.2.2.1.1 G.2.2.2.1.2.2 k, ev_fu G.2.2.2.1.2.1 G.2.2.2.1.2.2 (pd_depth G.2.1.1 k), G.2.2.2.1.2.2 + 1)) (n := n) (q := q) (P := P) (k := k) (v := nI G.2.2.2.1.2.2) hk 6 0 0 ev_J H1 (by omega) (by rw [pg_K_0]; exact hc1) ⟨hG.1, hG.2.1, hG.2.2.1, h60⟩ (fun w' H2 g1 g2 => by
    have h02 := g1.1
    have h32 := g1.2.2.2.1
    have hr := ev_rL_k (X := X) h32
    unfold c_top at h02
    simp (disch := omega) only [t_X5_askOne_0, t_X5_askOne_1, t_X5_askOne_4, t_X5_askOne_7, t_X5_askOne_8, t_X5_askOne_9, t_X5_askOne_12, t_X5_askOne_13, t_X5_askOne_14, t_X5_askOne_15, t_X5_askOne_18, t_X5_askOne_21, t_X5_askOne_22, t_X5_askOne_23, t_X5_askOne_24, t_X5_askOne_27, t_X5_askOne_29, t_X5_askOne_31, t_X5_askOne_32, t_X5_askOne_34, t_X5_askOne_35, t_X5_askOne_39, t_X5_askOne_41, t_X5_askOne_44, t_X5_askOne_46, t_X5_askOne_48, t_X5_askOne_49, t_X5_askOne_51, t_X5_askOne_53, t_X5_askOne_54, t_X5_askOne_55, t_X5_askOne_58, t_X5_askOne_61, t_X5_askOne_64, t_X5_askOne_67, t_X5_askOne_70, t_X5_askOne_71, t_X5_askOne_74, t_X5_askOne_75, t_X5_askOne_76, t_X5_askOne_79, t_X5_askOne_79_i, t_X5_askOne_80, t_X5_askOne_81, x_X5_askOne_15, x_X5_askOne_18, x_X5_askOne_55, x_X5_askOne_76, ↓reduceIte, ev_k_i, ev_k_r, ev_k_l, ev_k_J, ev_k_n, ev_kr_1, ev_kr_0, ev_isK_y, ev_aG_y, ev_aS_y, ev_aN_y, ev_inA_0, ev_isA_0, ev_ft_I, ev_ft_0, ev_ft_1, ev_ft_o, ev_ft_a, ev_nb_0, ev_nb_1, and_true, true_and, if_true, if_false, not_true_eq_false, not_false_eq_true, nI_1, ev_fG_0, ev_fG_1, ev_fG_2, ev_fG_3, ev_fG_4, ev_fG_5, ev_fG_6, ev_fG_7, ev_fG_8, ev_fS_0, ev_fS_1, ev_fS_2, ev_fS_3, ev_fS_4, ev_fS_5, ev_fS_6, ev_fS_7, ev_fS_8, ev_isO_0, ev_isO_1, ev_isO_2, ev_isO_3, ev_isO_4, ev_isO_5, ev_isO_6, ev_isO_7, ev_isO_8, ev_z0, ev_z1, ev_z2, eq_self, ev_ofN, ev_lk_s h02, hr]
    refine R_fetchIn h32 ev_isB_1 (okL_len hG.2.1) (fun z => (okL_new hG.2.1 hk z).2) fun H3 hH3 => ?_
    simp (disch := omega) only [t_X5_askOne_0, t_X5_askOne_1, t_X5_askOne_4, t_X5_askOne_7, t_X5_askOne_8, t_X5_askOne_9, t_X5_askOne_12, t_X5_askOne_13, t_X5_askOne_14, t_X5_askOne_15, t_X5_askOne_18, t_X5_askOne_21, t_X5_askOne_22, t_X5_askOne_23, t_X5_askOne_24, t_X5_askOne_27, t_X5_askOne_29, t_X5_askOne_31, t_X5_askOne_32, t_X5_askOne_34, t_X5_askOne_35, t_X5_askOne_39, t_X5_askOne_41, t_X5_askOne_44, t_X5_askOne_46, t_X5_askOne_48, t_X5_askOne_49, t_X5_askOne_51, t_X5_askOne_53, t_X5_askOne_54, t_X5_askOne_55, t_X5_askOne_58, t_X5_askOne_61, t_X5_askOne_64, t_X5_askOne_67, t_X5_askOne_70, t_X5_askOne_71, t_X5_askOne_74, t_X5_askOne_75, t_X5_askOne_76, t_X5_askOne_79, t_X5_askOne_79_i, t_X5_askOne_80, t_X5_askOne_81, x_X5_askOne_15, x_X5_askOne_18, x_X5_askOne_55, x_X5_askOne_76, ↓reduceIte, ev_k_i, ev_k_r, ev_k_l, ev_k_J, ev_k_n, ev_kr_1, ev_kr_0, ev_isK_y, ev_aG_y, ev_aS_y, ev_aN_y, ev_inA_0, ev_isA_0, ev_ft_I, ev_ft_0, ev_ft_1, ev_ft_o, ev_ft_a, ev_nb_0, ev_nb_1, and_true, true_and, if_true, if_false, not_true_eq_false, not_false_eq_true, nI_1, ev_fG_0, ev_fG_1, ev_fG_2, ev_fG_3, ev_fG_4, ev_fG_5, ev_fG_6, ev_fG_7, ev_fG_8, ev_fS_0, ev_fS_1, ev_fS_2, ev_fS_3, ev_fS_4, ev_fS_5, ev_fS_6, ev_fS_7, ev_fS_8, ev_isO_0, ev_isO_1, ev_isO_2, ev_isO_3, ev_isO_4, ev_isO_5, ev_isO_6, ev_isO_7, ev_isO_8, ev_z0, ev_z1, ev_z2, eq_self, ev_ofN]
    have ho3 : ∀ a, (a < x + 8 ∨ x + 11 ≤ a) → H3 a = H2 a := fun a ha => ev_rL_o hH3 (by omega) (by omega) (by omega)
    exact c H3 (c_upS g1 ho3 (c_row_of hH3)) (fun a ha => (ho3 a (by omega)).trans ((g2 a ha).trans (ho a (by omega)))))
  rw [nI_0] at hL
  simp (disch := omega) only [t_X5_askOne_0, t_X5_askOne_1, t_X5_askOne_4, t_X5_askOne_7, t_X5_askOne_8, t_X5_askOne_9, t_X5_askOne_12, t_X5_askOne_13, t_X5_askOne_14, t_X5_askOne_15, t_X5_askOne_18, t_X5_askOne_21, t_X5_askOne_22, t_X5_askOne_23, t_X5_askOne_24, t_X5_askOne_27, t_X5_askOne_29, t_X5_askOne_31, t_X5_askOne_32, t_X5_askOne_34, t_X5_askOne_35, t_X5_askOne_39, t_X5_askOne_41, t_X5_askOne_44, t_X5_askOne_46, t_X5_askOne_48, t_X5_askOne_49, t_X5_askOne_51, t_X5_askOne_53, t_X5_askOne_54, t_X5_askOne_55, t_X5_askOne_58, t_X5_askOne_61, t_X5_askOne_64, t_X5_askOne_67, t_X5_askOne_71, t_X5_askOne_74, t_X5_askOne_75, t_X5_askOne_76, t_X5_askOne_79, t_X5_askOne_79_i, t_X5_askOne_80, t_X5_askOne_81, x_X5_askOne_15, x_X5_askOne_18, x_X5_askOne_55, x_X5_askOne_76, ↓reduceIte, ev_k_i, ev_k_r, ev_k_l, ev_k_J, ev_k_n, ev_kr_1, ev_kr_0, ev_isK_y, ev_aG_y, ev_aS_y, ev_aN_y, ev_inA_0, ev_isA_0, ev_ft_I, ev_ft_0, ev_ft_1, ev_ft_o, ev_ft_a, ev_nb_0, ev_nb_1, and_true, true_and, if_true, if_false, not_true_eq_false, not_false_eq_true, nI_1, ev_fG_0, ev_fG_1, ev_fG_2, ev_fG_3, ev_fG_4, ev_fG_5, ev_fG_6, ev_fG_7, ev_fG_8, ev_fS_0, ev_fS_1, ev_fS_2, ev_fS_3, ev_fS_4, ev_fS_5, ev_fS_6, ev_fS_7, ev_fS_8, ev_isO_0, ev_isO_1, ev_isO_2, ev_isO_3, ev_isO_4, ev_isO_5, ev_isO_6, ev_isO_7, ev_isO_8, ev_z0, ev_z1, ev_z2, eq_self, ev_ofN, ev_lk_s h01, ev_lk_s h4, ev_isA_4, show nI 6 = 6 from rfl]
  exact hL
end CQ
end
section
/-! ===== the class: calls on askings and keepers ===== -/
section CR
variable {X : ev_E} {x : Nat} {G : ev_CS} {H : ev_M} {n q : Nat} {P : ev_O → ev_M → Nat → Nat → Prop}
theorem c_ask0 (hc : c_all x G H) : H (x + 2) = some (.inr (5, [.ref (x + 2 + 1), .ref (x + 2 + 2), .ref (x + 2 + 3), .ref (x + 2 + 4), .ref (x + 2 + 5), .int (nI G.2.2.2.1.2.2)])) := by
  obtain ⟨ne, hk1, hn1, hH, hN⟩ := hc.2.2.1
  exact (congrFun hH (x + 2)).trans ev_ask_0
theorem c_ask1 (hc : c_all x G H) : H (x + 2 + 1) = some (.inl (0, 60, fun i => .int (G.2.2.2.1.1 i))) := by
  obtain ⟨ne, hk1, hn1, hH, hN⟩ := hc.2.2.1
  exact (congrFun hH (x + 2 + 1)).trans ev_ask_1
theorem c_ask2 (hc : c_all x G H) : H (x + 2 + 2) = some (.inl (0, 60, fun i => .int (G.2.2.2.1.2.1 i))) := by
  obtain ⟨ne, hk1, hn1, hH, hN⟩ := hc.2.2.1
  exact (congrFun hH (x + 2 + 2)).trans ev_ask_2
theorem nI_60' : (60 : Int32) = nI 60 := rfl
theorem C_room_y (hc : c_all x G H) {a : Nat} (ha : G.2.2.2.1.2.2 + a ≤ 60) : ev_ok (ev_TT X) 50 0 [.ref x, .int (nI a)] [] H n q P ↔ P (.inl none) H n q := by
  have h0 := hc.1
  have h1 := c_ask0 hc
  unfold c_top at h0
  have hB : nI (G.2.2.2.1.2.2 + a) ≤ 60 := nI_le (b := 60) ha (by omega)
  simp (disch := omega) only [t_X5_demandRoomFor_0, t_X5_demandRoomFor_1, t_X5_demandRoomFor_4, t_X5_demandRoomFor_7, t_X5_demandRoomFor_8, t_X5_demandRoomFor_9, t_X5_demandRoomFor_11, t_X5_demandRoomFor_14, t_X5_demandRoomFor_25, ↓reduceIte, ev_k_i, ev_k_r, ev_k_l, ev_k_J, ev_k_n, ev_kr_1, ev_kr_0, ev_isK_y, ev_aG_y, ev_aS_y, ev_aN_y, ev_inA_0, ev_isA_0, ev_ft_I, ev_ft_0, ev_ft_1, ev_ft_o, ev_ft_a, ev_nb_0, ev_nb_1, and_true, true_and, if_true, if_false, not_true_eq_false, not_false_eq_true, nI_1, ev_fG_0, ev_fG_1, ev_fG_2, ev_fG_3, ev_fG_4, ev_fG_5, ev_fG_6, ev_fG_7, ev_fG_8, ev_fS_0, ev_fS_1, ev_fS_2, ev_fS_3, ev_fS_4, ev_fS_5, ev_fS_6, ev_fS_7, ev_fS_8, ev_isO_0, ev_isO_1, ev_isO_2, ev_isO_3, ev_isO_4, ev_isO_5, ev_isO_6, ev_isO_7, ev_isO_8, ev_z0, ev_z1, ev_z2, eq_self, ev_ofN, ev_lk_s h0, ev_lk_s h1, nI_add, hB]
theorem C_room_n (hc : c_all x G H) (hG : okG G) {a : Nat} (ha : 60 < G.2.2.2.1.2.2 + a) (ha2 : a ≤ 100) : ev_ok (ev_TT X) 50 0 [.ref x, .int (nI a)] [] H n q P ↔ P (.inr 2) H (n + 1) (q + 6) := by
  have h0 := hc.1
  have h1 := c_ask0 hc
  have h6 := hG.2.2.2
  unfold c_top at h0
  have hB : ¬ nI (G.2.2.2.1.2.2 + a) ≤ 60 := nI_ge (a := 60) ha (by omega)
  simp (disch := omega) only [t_X5_demandRoomFor_0, t_X5_demandRoomFor_1, t_X5_demandRoomFor_4, t_X5_demandRoomFor_7, t_X5_demandRoomFor_8, t_X5_demandRoomFor_9, t_X5_demandRoomFor_11, t_X5_demandRoomFor_14, t_X5_demandRoomFor_25, ↓reduceIte, ev_k_i, ev_k_r, ev_k_l, ev_k_J, ev_k_n, ev_kr_1, ev_kr_0, ev_isK_y, ev_aG_y, ev_aS_y, ev_aN_y, ev_inA_0, ev_isA_0, ev_ft_I, ev_ft_0, ev_ft_1, ev_ft_o, ev_ft_a, ev_nb_0, ev_nb_1, and_true, true_and, if_true, if_false, not_true_eq_false, not_false_eq_true, nI_1, ev_fG_0, ev_fG_1, ev_fG_2, ev_fG_3, ev_fG_4, ev_fG_5, ev_fG_6, ev_fG_7, ev_fG_8, ev_fS_0, ev_fS_1, ev_fS_2, ev_fS_3, ev_fS_4, ev_fS_5, ev_fS_6, ev_fS_7, ev_fS_8, ev_isO_0, ev_isO_1, ev_isO_2, ev_isO_3, ev_isO_4, ev_isO_5, ev_isO_6, ev_isO_7, ev_isO_8, ev_z0, ev_z1, ev_z2, eq_self, ev_ofN, ev_lk_s h0, ev_lk_s h1, nI_add, hB]
theorem C_ask (hc : c_all x G H) (hG : okG G) {k : Int32} (k0 : k < 0 ∨ nI 20 ≤ k → P (.inr 1) H (n + 1) (q + 6))
    (k1 : ∀ a, a < 20 → k = nI a → G.2.2.2.1.2.2 = 60 → P (.inr 2) H (n + 1) (q + 6))
    (k2 : ∀ a, a < 20 → k = nI a → G.2.2.2.1.2.2 < 60 → ∀ H1, c_all x (pg_ask G k) H1 → c_fr x H H1 → P (.inl (some (.int (pk_hits G.2.2.1 k (nI G.2.2.2.1.2.2) 6 0 0)))) H1 n q) : ev_ok (ev_TT X) 264 0 [.ref x, .int k] [] H n q P := by
  have hk := c_all_k (X := X) hc
  rcases pk_ix k (n := 20) (by omega) with h | h | ⟨a, ha, rfl⟩
  · simp (disch := omega) only [t_X5_ask_0, t_X5_ask_1, t_X5_ask_4, t_X5_ask_5, t_X5_ask_6, t_X5_ask_9, t_X5_ask_10, t_X5_ask_11, t_X5_ask_14, x_X5_ask_1, x_X5_ask_6, x_X5_ask_11, ↓reduceIte, ev_k_i, ev_k_r, ev_k_l, ev_k_J, ev_k_n, ev_kr_1, ev_kr_0, ev_isK_y, ev_aG_y, ev_aS_y, ev_aN_y, ev_inA_0, ev_isA_0, ev_ft_I, ev_ft_0, ev_ft_1, ev_ft_o, ev_ft_a, ev_nb_0, ev_nb_1, and_true, true_and, if_true, if_false, not_true_eq_false, not_false_eq_true, nI_1, ev_fG_0, ev_fG_1, ev_fG_2, ev_fG_3, ev_fG_4, ev_fG_5, ev_fG_6, ev_fG_7, ev_fG_8, ev_fS_0, ev_fS_1, ev_fS_2, ev_fS_3, ev_fS_4, ev_fS_5, ev_fS_6, ev_fS_7, ev_fS_8, ev_isO_0, ev_isO_1, ev_isO_2, ev_isO_3, ev_isO_4, ev_isO_5, ev_isO_6, ev_isO_7, ev_isO_8, ev_z0, ev_z1, ev_z2, eq_self, ev_ofN, hk, C_dKey_n (Or.inl h)]
    exact k0 (Or.inl h)
  · simp (disch := omega) only [t_X5_ask_0, t_X5_ask_1, t_X5_ask_4, t_X5_ask_5, t_X5_ask_6, t_X5_ask_9, t_X5_ask_10, t_X5_ask_11, t_X5_ask_14, x_X5_ask_1, x_X5_ask_6, x_X5_ask_11, ↓reduceIte, ev_k_i, ev_k_r, ev_k_l, ev_k_J, ev_k_n, ev_kr_1, ev_kr_0, ev_isK_y, ev_aG_y, ev_aS_y, ev_aN_y, ev_inA_0, ev_isA_0, ev_ft_I, ev_ft_0, ev_ft_1, ev_ft_o, ev_ft_a, ev_nb_0, ev_nb_1, and_true, true_and, if_true, if_false, not_true_eq_false, not_false_eq_true, nI_1, ev_fG_0, ev_fG_1, ev_fG_2, ev_fG_3, ev_fG_4, ev_fG_5, ev_fG_6, ev_fG_7, ev_fG_8, ev_fS_0, ev_fS_1, ev_fS_2, ev_fS_3, ev_fS_4, ev_fS_5, ev_fS_6, ev_fS_7, ev_fS_8, ev_isO_0, ev_isO_1, ev_isO_2, ev_isO_3, ev_isO_4, ev_isO_5, ev_isO_6, ev_isO_7, ev_isO_8, ev_z0, ev_z1, ev_z2, eq_self, ev_ofN, hk, C_dKey_n (Or.inr h)]
    exact k0 (Or.inr h)
  · have h6 := hG.2.2.2
    by_cases hf : G.2.2.2.1.2.2 = 60
    · have hr := fun P n q => C_room_n (X := X) (P := P) (n := n) (q := q) hc hG (a := 1) (by omega) (by omega)
      rw [show nI 1 = 1 from rfl] at hr
      simp (disch := omega) only [t_X5_ask_0, t_X5_ask_1, t_X5_ask_4, t_X5_ask_5, t_X5_ask_6, t_X5_ask_9, t_X5_ask_10, t_X5_ask_11, t_X5_ask_14, x_X5_ask_1, x_X5_ask_6, x_X5_ask_11, ↓reduceIte, ev_k_i, ev_k_r, ev_k_l, ev_k_J, ev_k_n, ev_kr_1, ev_kr_0, ev_isK_y, ev_aG_y, ev_aS_y, ev_aN_y, ev_inA_0, ev_isA_0, ev_ft_I, ev_ft_0, ev_ft_1, ev_ft_o, ev_ft_a, ev_nb_0, ev_nb_1, and_true, true_and, if_true, if_false, not_true_eq_false, not_false_eq_true, nI_1, ev_fG_0, ev_fG_1, ev_fG_2, ev_fG_3, ev_fG_4, ev_fG_5, ev_fG_6, ev_fG_7, ev_fG_8, ev_fS_0, ev_fS_1, ev_fS_2, ev_fS_3, ev_fS_4, ev_fS_5, ev_fS_6, ev_fS_7, ev_fS_8, ev_isO_0, ev_isO_1, ev_isO_2, ev_isO_3, ev_isO_4, ev_isO_5, ev_isO_6, ev_isO_7, ev_isO_8, ev_z0, ev_z1, ev_z2, eq_self, ev_ofN, hk, C_dKey_y ha, hr]
      exact k1 a ha rfl hf
    · have hr := fun P n q => C_room_y (X := X) (P := P) (n := n) (q := q) hc (a := 1) (by omega)
      rw [show nI 1 = 1 from rfl] at hr
      simp (disch := omega) only [t_X5_ask_0, t_X5_ask_1, t_X5_ask_4, t_X5_ask_5, t_X5_ask_6, t_X5_ask_9, t_X5_ask_10, t_X5_ask_11, t_X5_ask_14, x_X5_ask_1, x_X5_ask_6, x_X5_ask_11, ↓reduceIte, ev_k_i, ev_k_r, ev_k_l, ev_k_J, ev_k_n, ev_kr_1, ev_kr_0, ev_isK_y, ev_aG_y, ev_aS_y, ev_aN_y, ev_inA_0, ev_isA_0, ev_ft_I, ev_ft_0, ev_ft_1, ev_ft_o, ev_ft_a, ev_nb_0, ev_nb_1, and_true, true_and, if_true, if_false, not_true_eq_false, not_false_eq_true, nI_1, ev_fG_0, ev_fG_1, ev_fG_2, ev_fG_3, ev_fG_4, ev_fG_5, ev_fG_6, ev_fG_7, ev_fG_8, ev_fS_0, ev_fS_1, ev_fS_2, ev_fS_3, ev_fS_4, ev_fS_5, ev_fS_6, ev_fS_7, ev_fS_8, ev_isO_0, ev_isO_1, ev_isO_2, ev_isO_3, ev_isO_4, ev_isO_5, ev_isO_6, ev_isO_7, ev_isO_8, ev_z0, ev_z1, ev_z2, eq_self, ev_ofN, hk, C_dKey_y ha, hr]
      refine C_askOne hc hG (okL_key ha) (by omega) fun H1 g1 g2 => ?_
      simp (disch := omega) only [t_X5_ask_0, t_X5_ask_1, t_X5_ask_4, t_X5_ask_5, t_X5_ask_6, t_X5_ask_9, t_X5_ask_10, t_X5_ask_11, t_X5_ask_14, x_X5_ask_1, x_X5_ask_6, x_X5_ask_11, ↓reduceIte, ev_k_i, ev_k_r, ev_k_l, ev_k_J, ev_k_n, ev_kr_1, ev_kr_0, ev_isK_y, ev_aG_y, ev_aS_y, ev_aN_y, ev_inA_0, ev_isA_0, ev_ft_I, ev_ft_0, ev_ft_1, ev_ft_o, ev_ft_a, ev_nb_0, ev_nb_1, and_true, true_and, if_true, if_false, not_true_eq_false, not_false_eq_true, nI_1, ev_fG_0, ev_fG_1, ev_fG_2, ev_fG_3, ev_fG_4, ev_fG_5, ev_fG_6, ev_fG_7, ev_fG_8, ev_fS_0, ev_fS_1, ev_fS_2, ev_fS_3, ev_fS_4, ev_fS_5, ev_fS_6, ev_fS_7, ev_fS_8, ev_isO_0, ev_isO_1, ev_isO_2, ev_isO_3, ev_isO_4, ev_isO_5, ev_isO_6, ev_isO_7, ev_isO_8, ev_z0, ev_z1, ev_z2, eq_self, ev_ofN]
      exact k2 a ha rfl (by omega) H1 g1 g2
theorem C_asked (hc : c_all x G H) (k : P (.inl (some (.int (nI G.2.2.2.1.2.2)))) H n q) : ev_ok (ev_TT X) 47 0 [.ref x] [] H n q P := by
  have h0 := hc.1
  have h1 := c_ask0 hc
  unfold c_top at h0
  simp (disch := omega) only [t_X5_asked_0, t_X5_asked_1, t_X5_asked_4, t_X5_asked_7, ↓reduceIte, ev_k_i, ev_k_r, ev_k_l, ev_k_J, ev_k_n, ev_kr_1, ev_kr_0, ev_isK_y, ev_aG_y, ev_aS_y, ev_aN_y, ev_inA_0, ev_isA_0, ev_ft_I, ev_ft_0, ev_ft_1, ev_ft_o, ev_ft_a, ev_nb_0, ev_nb_1, and_true, true_and, if_true, if_false, not_true_eq_false, not_false_eq_true, nI_1, ev_fG_0, ev_fG_1, ev_fG_2, ev_fG_3, ev_fG_4, ev_fG_5, ev_fG_6, ev_fG_7, ev_fG_8, ev_fS_0, ev_fS_1, ev_fS_2, ev_fS_3, ev_fS_4, ev_fS_5, ev_fS_6, ev_fS_7, ev_fS_8, ev_isO_0, ev_isO_1, ev_isO_2, ev_isO_3, ev_isO_4, ev_isO_5, ev_isO_6, ev_isO_7, ev_isO_8, ev_z0, ev_z1, ev_z2, eq_self, ev_ofN, ev_lk_s h0, ev_lk_s h1]
  exact k
theorem C_knock (hc : c_all x G H) (k : ∀ H1, c_all x (G.1, G.2.1, G.2.2.1, G.2.2.2.1, G.2.2.2.2.1, G.2.2.2.2.2 + 1) H1 → c_fr x H H1 → P (.inl (some (.int (G.2.2.2.2.2 + 1)))) H1 n q) : ev_ok (ev_TT X) 55 0 [.ref x] [] H n q P := by
  have h0 := hc.1
  unfold c_top at h0
  simp (disch := omega) only [t_X5_knock_0, t_X5_knock_1, t_X5_knock_1_i, t_X5_knock_2, t_X5_knock_5, t_X5_knock_6, t_X5_knock_7, t_X5_knock_10, t_X5_knock_11, t_X5_knock_14, ↓reduceIte, ev_k_i, ev_k_r, ev_k_l, ev_k_J, ev_k_n, ev_kr_1, ev_kr_0, ev_isK_y, ev_aG_y, ev_aS_y, ev_aN_y, ev_inA_0, ev_isA_0, ev_ft_I, ev_ft_0, ev_ft_1, ev_ft_o, ev_ft_a, ev_nb_0, ev_nb_1, and_true, true_and, if_true, if_false, not_true_eq_false, not_false_eq_true, nI_1, ev_fG_0, ev_fG_1, ev_fG_2, ev_fG_3, ev_fG_4, ev_fG_5, ev_fG_6, ev_fG_7, ev_fG_8, ev_fS_0, ev_fS_1, ev_fS_2, ev_fS_3, ev_fS_4, ev_fS_5, ev_fS_6, ev_fS_7, ev_fS_8, ev_isO_0, ev_isO_1, ev_isO_2, ev_isO_3, ev_isO_4, ev_isO_5, ev_isO_6, ev_isO_7, ev_isO_8, ev_z0, ev_z1, ev_z2, eq_self, ev_ofN, ev_lk_s h0, h0, ev_up_s, ev_lk_s ev_up_s]
  exact k _ (c_up0 hc (fun a ha => ev_up_n (by omega)) ev_up_s) (fun a ha => ev_up_n (by omega))
theorem C_depth (hc : c_all x G H) (hG : okG G) {k : Int32} (k0 : k < 0 ∨ nI 20 ≤ k → P (.inr 1) H (n + 1) (q + 6)) (k2 : ∀ a, a < 20 → k = nI a → P (.inl (some (.int (pd_depth G.2.1.1 k)))) H n q) : ev_ok (ev_TT X) 149 0 [.ref x, .int k] [] H n q P := by
  have hk := c_all_k (X := X) hc
  rcases pk_ix k (n := 20) (by omega) with h | h | ⟨a, ha, rfl⟩
  · simp (disch := omega) only [t_X5_depth_0, t_X5_depth_1, t_X5_depth_4, t_X5_depth_5, t_X5_depth_6, t_X5_depth_9, x_X5_depth_1, x_X5_depth_6, ↓reduceIte, ev_k_i, ev_k_r, ev_k_l, ev_k_J, ev_k_n, ev_kr_1, ev_kr_0, ev_isK_y, ev_aG_y, ev_aS_y, ev_aN_y, ev_inA_0, ev_isA_0, ev_ft_I, ev_ft_0, ev_ft_1, ev_ft_o, ev_ft_a, ev_nb_0, ev_nb_1, and_true, true_and, if_true, if_false, not_true_eq_false, not_false_eq_true, nI_1, ev_fG_0, ev_fG_1, ev_fG_2, ev_fG_3, ev_fG_4, ev_fG_5, ev_fG_6, ev_fG_7, ev_fG_8, ev_fS_0, ev_fS_1, ev_fS_2, ev_fS_3, ev_fS_4, ev_fS_5, ev_fS_6, ev_fS_7, ev_fS_8, ev_isO_0, ev_isO_1, ev_isO_2, ev_isO_3, ev_isO_4, ev_isO_5, ev_isO_6, ev_isO_7, ev_isO_8, ev_z0, ev_z1, ev_z2, eq_self, ev_ofN, hk, C_dKey_n (Or.inl h)]
    exact k0 (Or.inl h)
  · simp (disch := omega) only [t_X5_depth_0, t_X5_depth_1, t_X5_depth_4, t_X5_depth_5, t_X5_depth_6, t_X5_depth_9, x_X5_depth_1, x_X5_depth_6, ↓reduceIte, ev_k_i, ev_k_r, ev_k_l, ev_k_J, ev_k_n, ev_kr_1, ev_kr_0, ev_isK_y, ev_aG_y, ev_aS_y, ev_aN_y, ev_inA_0, ev_isA_0, ev_ft_I, ev_ft_0, ev_ft_1, ev_ft_o, ev_ft_a, ev_nb_0, ev_nb_1, and_true, true_and, if_true, if_false, not_true_eq_false, not_false_eq_true, nI_1, ev_fG_0, ev_fG_1, ev_fG_2, ev_fG_3, ev_fG_4, ev_fG_5, ev_fG_6, ev_fG_7, ev_fG_8, ev_fS_0, ev_fS_1, ev_fS_2, ev_fS_3, ev_fS_4, ev_fS_5, ev_fS_6, ev_fS_7, ev_fS_8, ev_isO_0, ev_isO_1, ev_isO_2, ev_isO_3, ev_isO_4, ev_isO_5, ev_isO_6, ev_isO_7, ev_isO_8, ev_z0, ev_z1, ev_z2, eq_self, ev_ofN, hk, C_dKey_n (Or.inr h)]
    exact k0 (Or.inr h)
  · simp (disch := omega) only [t_X5_depth_0, t_X5_depth_1, t_X5_depth_4, t_X5_depth_5, t_X5_depth_6, t_X5_depth_9, x_X5_depth_1, x_X5_depth_6, ↓reduceIte, ev_k_i, ev_k_r, ev_k_l, ev_k_J, ev_k_n, ev_kr_1, ev_kr_0, ev_isK_y, ev_aG_y, ev_aS_y, ev_aN_y, ev_inA_0, ev_isA_0, ev_ft_I, ev_ft_0, ev_ft_1, ev_ft_o, ev_ft_a, ev_nb_0, ev_nb_1, and_true, true_and, if_true, if_false, not_true_eq_false, not_false_eq_true, nI_1, ev_fG_0, ev_fG_1, ev_fG_2, ev_fG_3, ev_fG_4, ev_fG_5, ev_fG_6, ev_fG_7, ev_fG_8, ev_fS_0, ev_fS_1, ev_fS_2, ev_fS_3, ev_fS_4, ev_fS_5, ev_fS_6, ev_fS_7, ev_fS_8, ev_isO_0, ev_isO_1, ev_isO_2, ev_isO_3, ev_isO_4, ev_isO_5, ev_isO_6, ev_isO_7, ev_isO_8, ev_z0, ev_z1, ev_z2, eq_self, ev_ofN, hk, C_dKey_y ha]
    refine C_depthNow hc hG ?_
    simp (disch := omega) only [t_X5_depth_0, t_X5_depth_1, t_X5_depth_4, t_X5_depth_5, t_X5_depth_6, t_X5_depth_9, x_X5_depth_1, x_X5_depth_6, ↓reduceIte, ev_k_i, ev_k_r, ev_k_l, ev_k_J, ev_k_n, ev_kr_1, ev_kr_0, ev_isK_y, ev_aG_y, ev_aS_y, ev_aN_y, ev_inA_0, ev_isA_0, ev_ft_I, ev_ft_0, ev_ft_1, ev_ft_o, ev_ft_a, ev_nb_0, ev_nb_1, and_true, true_and, if_true, if_false, not_true_eq_false, not_false_eq_true, nI_1, ev_fG_0, ev_fG_1, ev_fG_2, ev_fG_3, ev_fG_4, ev_fG_5, ev_fG_6, ev_fG_7, ev_fG_8, ev_fS_0, ev_fS_1, ev_fS_2, ev_fS_3, ev_fS_4, ev_fS_5, ev_fS_6, ev_fS_7, ev_fS_8, ev_isO_0, ev_isO_1, ev_isO_2, ev_isO_3, ev_isO_4, ev_isO_5, ev_isO_6, ev_isO_7, ev_isO_8, ev_z0, ev_z1, ev_z2, eq_self, ev_ofN]
    exact k2 a ha rfl
theorem C_withDepth (hc : c_all x G H) (hG : okG G) {d : Int32} (k : P (.inl (some (.int (pr_cnt G.2.2.2.1.2.1 (fun y => decide (y = d)) G.2.2.2.1.2.2 0 0)))) H n q) : ev_ok (ev_TT X) 114 0 [.ref x, .int d] [] H n q P := by
  have h0 := hc.1
  unfold c_top at h0
  have ha0 := c_ask0 hc
  have hak : ev_isK (ev_lk X H (x + 2)) 5 = True := by rw [ev_lk_s ha0]; exact ev_isK_y
  obtain ⟨ne, hk1, hn1, hH, hN⟩ := hc.2.2.1
  simp (disch := omega) only [t_X5_withDepth_0, t_X5_withDepth_1, t_X5_withDepth_4, t_X5_withDepth_5, t_X5_withDepth_8, x_X5_withDepth_5, ↓reduceIte, ev_k_i, ev_k_r, ev_k_l, ev_k_J, ev_k_n, ev_kr_1, ev_kr_0, ev_isK_y, ev_aG_y, ev_aS_y, ev_aN_y, ev_inA_0, ev_isA_0, ev_ft_I, ev_ft_0, ev_ft_1, ev_ft_o, ev_ft_a, ev_nb_0, ev_nb_1, and_true, true_and, if_true, if_false, not_true_eq_false, not_false_eq_true, nI_1, ev_fG_0, ev_fG_1, ev_fG_2, ev_fG_3, ev_fG_4, ev_fG_5, ev_fG_6, ev_fG_7, ev_fG_8, ev_fS_0, ev_fS_1, ev_fS_2, ev_fS_3, ev_fS_4, ev_fS_5, ev_fS_6, ev_fS_7, ev_fS_8, ev_isO_0, ev_isO_1, ev_isO_2, ev_isO_3, ev_isO_4, ev_isO_5, ev_isO_6, ev_isO_7, ev_isO_8, ev_z0, ev_z1, ev_z2, eq_self, ev_ofN, ev_lk_s h0, hak]
  rw [hH]
  refine A_cntD hG.2.2.2 ?_
  rw [← hH]
  simp (disch := omega) only [t_X5_withDepth_0, t_X5_withDepth_1, t_X5_withDepth_4, t_X5_withDepth_5, t_X5_withDepth_8, x_X5_withDepth_5, ↓reduceIte, ev_k_i, ev_k_r, ev_k_l, ev_k_J, ev_k_n, ev_kr_1, ev_kr_0, ev_isK_y, ev_aG_y, ev_aS_y, ev_aN_y, ev_inA_0, ev_isA_0, ev_ft_I, ev_ft_0, ev_ft_1, ev_ft_o, ev_ft_a, ev_nb_0, ev_nb_1, and_true, true_and, if_true, if_false, not_true_eq_false, not_false_eq_true, nI_1, ev_fG_0, ev_fG_1, ev_fG_2, ev_fG_3, ev_fG_4, ev_fG_5, ev_fG_6, ev_fG_7, ev_fG_8, ev_fS_0, ev_fS_1, ev_fS_2, ev_fS_3, ev_fS_4, ev_fS_5, ev_fS_6, ev_fS_7, ev_fS_8, ev_isO_0, ev_isO_1, ev_isO_2, ev_isO_3, ev_isO_4, ev_isO_5, ev_isO_6, ev_isO_7, ev_isO_8, ev_z0, ev_z1, ev_z2, eq_self, ev_ofN]
  exact k
end CR
end
section
/-! ===== the class: calls on keepers ===== -/
section CS
variable {X : ev_E} {x : Nat} {G : ev_CS} {H : ev_M} {n q : Nat} {P : ev_O → ev_M → Nat → Nat → Prop}
theorem ev_sz (v : Int32) : (v < 1 ∨ 6 < v) ∨ ∃ j, j < 6 ∧ v = nI (j + 1) := by
  rcases pk_ix v (n := 7) (by omega) with h | h | ⟨j, hj, rfl⟩
  · exact Or.inl (Or.inl (Int32.lt_of_lt_of_le h (by decide)))
  · exact Or.inl (Or.inr (Int32.lt_of_lt_of_le (show (6 : Int32) < nI 7 by decide) h))
  · by_cases h0 : j = 0
    · subst h0
      exact Or.inl (Or.inl (by decide))
    · exact Or.inr ⟨j - 1, by omega, by rw [show j - 1 + 1 = j by omega]⟩
theorem C_dSize_y {j : Nat} (hj : j < 6) : ev_ok (ev_TT X) 51 0 [.int (nI (j + 1))] [] H n q P ↔ P (.inl none) H n q := by
  have hA : ¬ nI (j + 1) < 1 := nI_nlt (b := 1) (by omega) (by omega)
  have hB : nI (j + 1) ≤ 6 := nI_le (b := 6) (by omega) (by omega)
  have hC : ¬ (6 : Int32) < nI (j + 1) := Int32.not_lt.mpr hB
  simp (disch := omega) only [t_X5_demandSize_0, t_X5_demandSize_1, t_X5_demandSize_2, t_X5_demandSize_5, t_X5_demandSize_6, t_X5_demandSize_8, t_X5_demandSize_11, t_X5_demandSize_22, ↓reduceIte, ev_k_i, ev_k_r, ev_k_l, ev_k_J, ev_k_n, ev_kr_1, ev_kr_0, ev_isK_y, ev_aG_y, ev_aS_y, ev_aN_y, ev_inA_0, ev_isA_0, ev_ft_I, ev_ft_0, ev_ft_1, ev_ft_o, ev_ft_a, ev_nb_0, ev_nb_1, and_true, true_and, if_true, if_false, not_true_eq_false, not_false_eq_true, nI_1, ev_fG_0, ev_fG_1, ev_fG_2, ev_fG_3, ev_fG_4, ev_fG_5, ev_fG_6, ev_fG_7, ev_fG_8, ev_fS_0, ev_fS_1, ev_fS_2, ev_fS_3, ev_fS_4, ev_fS_5, ev_fS_6, ev_fS_7, ev_fS_8, ev_isO_0, ev_isO_1, ev_isO_2, ev_isO_3, ev_isO_4, ev_isO_5, ev_isO_6, ev_isO_7, ev_isO_8, ev_z0, ev_z1, ev_z2, eq_self, ev_ofN, hA, hB, hC]
theorem C_dSize_n {v : Int32} (hv : v < 1 ∨ 6 < v) : ev_ok (ev_TT X) 51 0 [.int v] [] H n q P ↔ P (.inr 1) H (n + 1) (q + 6) := by
  by_cases h0 : v < 1
  · simp (disch := omega) only [t_X5_demandSize_0, t_X5_demandSize_1, t_X5_demandSize_2, t_X5_demandSize_5, t_X5_demandSize_6, t_X5_demandSize_8, t_X5_demandSize_11, t_X5_demandSize_22, ↓reduceIte, ev_k_i, ev_k_r, ev_k_l, ev_k_J, ev_k_n, ev_kr_1, ev_kr_0, ev_isK_y, ev_aG_y, ev_aS_y, ev_aN_y, ev_inA_0, ev_isA_0, ev_ft_I, ev_ft_0, ev_ft_1, ev_ft_o, ev_ft_a, ev_nb_0, ev_nb_1, and_true, true_and, if_true, if_false, not_true_eq_false, not_false_eq_true, nI_1, ev_fG_0, ev_fG_1, ev_fG_2, ev_fG_3, ev_fG_4, ev_fG_5, ev_fG_6, ev_fG_7, ev_fG_8, ev_fS_0, ev_fS_1, ev_fS_2, ev_fS_3, ev_fS_4, ev_fS_5, ev_fS_6, ev_fS_7, ev_fS_8, ev_isO_0, ev_isO_1, ev_isO_2, ev_isO_3, ev_isO_4, ev_isO_5, ev_isO_6, ev_isO_7, ev_isO_8, ev_z0, ev_z1, ev_z2, eq_self, ev_ofN, h0]
  · have hB := hv.resolve_left h0
    have hC : ¬ v ≤ 6 := Int32.not_le.mpr hB
    simp (disch := omega) only [t_X5_demandSize_0, t_X5_demandSize_1, t_X5_demandSize_2, t_X5_demandSize_5, t_X5_demandSize_6, t_X5_demandSize_8, t_X5_demandSize_11, t_X5_demandSize_22, ↓reduceIte, ev_k_i, ev_k_r, ev_k_l, ev_k_J, ev_k_n, ev_kr_1, ev_kr_0, ev_isK_y, ev_aG_y, ev_aS_y, ev_aN_y, ev_inA_0, ev_isA_0, ev_ft_I, ev_ft_0, ev_ft_1, ev_ft_o, ev_ft_a, ev_nb_0, ev_nb_1, and_true, true_and, if_true, if_false, not_true_eq_false, not_false_eq_true, nI_1, ev_fG_0, ev_fG_1, ev_fG_2, ev_fG_3, ev_fG_4, ev_fG_5, ev_fG_6, ev_fG_7, ev_fG_8, ev_fS_0, ev_fS_1, ev_fS_2, ev_fS_3, ev_fS_4, ev_fS_5, ev_fS_6, ev_fS_7, ev_fS_8, ev_isO_0, ev_isO_1, ev_isO_2, ev_isO_3, ev_isO_4, ev_isO_5, ev_isO_6, ev_isO_7, ev_isO_8, ev_z0, ev_z1, ev_z2, eq_self, ev_ofN, h0, hB, hC]
theorem C_keeperOf_y (hc : c_all x G H) {j : Nat} (hj : j < 6) : ev_ok (ev_TT X) 109 0 [.ref x, .int (nI (j + 1))] [] H n q P ↔ P (.inl (some (.ref (x + 33 + 4 * j)))) H n q := by
  have h0 := hc.1
  unfold c_top at h0
  obtain ⟨f, h4, h4b⟩ := hc.2.2.2.2.1
  have hf := h4b j hj
  have hp := nI_pos' (n := j) (by omega)
  simp (disch := omega) only [t_X5_keeperOf_0, t_X5_keeperOf_1, t_X5_keeperOf_4, t_X5_keeperOf_5, t_X5_keeperOf_8, t_X5_keeperOf_9, t_X5_keeperOf_10, t_X5_keeperOf_11, t_X5_keeperOf_12, x_X5_keeperOf_1, ↓reduceIte, ev_k_i, ev_k_r, ev_k_l, ev_k_J, ev_k_n, ev_kr_1, ev_kr_0, ev_isK_y, ev_aG_y, ev_aS_y, ev_aN_y, ev_inA_0, ev_isA_0, ev_ft_I, ev_ft_0, ev_ft_1, ev_ft_o, ev_ft_a, ev_nb_0, ev_nb_1, and_true, true_and, if_true, if_false, not_true_eq_false, not_false_eq_true, nI_1, ev_fG_0, ev_fG_1, ev_fG_2, ev_fG_3, ev_fG_4, ev_fG_5, ev_fG_6, ev_fG_7, ev_fG_8, ev_fS_0, ev_fS_1, ev_fS_2, ev_fS_3, ev_fS_4, ev_fS_5, ev_fS_6, ev_fS_7, ev_fS_8, ev_isO_0, ev_isO_1, ev_isO_2, ev_isO_3, ev_isO_4, ev_isO_5, ev_isO_6, ev_isO_7, ev_isO_8, ev_z0, ev_z1, ev_z2, eq_self, ev_ofN, C_dSize_y hj, ev_lk_s h0, ev_lk_s h4, ev_inA_4, nI_pred, nI_clamp, hp, hj, hf]
theorem C_keeperOf_n {v : Int32} (hv : v < 1 ∨ 6 < v) : ev_ok (ev_TT X) 109 0 [.ref x, .int v] [] H n q P ↔ P (.inr 1) H (n + 1) (q + 6) := by
  simp (disch := omega) only [t_X5_keeperOf_0, t_X5_keeperOf_1, t_X5_keeperOf_4, t_X5_keeperOf_5, t_X5_keeperOf_8, t_X5_keeperOf_9, t_X5_keeperOf_10, t_X5_keeperOf_11, t_X5_keeperOf_12, x_X5_keeperOf_1, ↓reduceIte, ev_k_i, ev_k_r, ev_k_l, ev_k_J, ev_k_n, ev_kr_1, ev_kr_0, ev_isK_y, ev_aG_y, ev_aS_y, ev_aN_y, ev_inA_0, ev_isA_0, ev_ft_I, ev_ft_0, ev_ft_1, ev_ft_o, ev_ft_a, ev_nb_0, ev_nb_1, and_true, true_and, if_true, if_false, not_true_eq_false, not_false_eq_true, nI_1, ev_fG_0, ev_fG_1, ev_fG_2, ev_fG_3, ev_fG_4, ev_fG_5, ev_fG_6, ev_fG_7, ev_fG_8, ev_fS_0, ev_fS_1, ev_fS_2, ev_fS_3, ev_fS_4, ev_fS_5, ev_fS_6, ev_fS_7, ev_fS_8, ev_isO_0, ev_isO_1, ev_isO_2, ev_isO_3, ev_isO_4, ev_isO_5, ev_isO_6, ev_isO_7, ev_isO_8, ev_z0, ev_z1, ev_z2, eq_self, ev_ofN, C_dSize_n hv]
theorem C_misses (hc : c_all x G H) (hG : okG G) {s : Int32} (k0 : s < 1 ∨ 6 < s → P (.inr 1) H (n + 1) (q + 6)) (k2 : ∀ j, j < 6 → s = nI (j + 1) → P (.inl (some (.int (G.2.2.1 j).2.2.2.2.1))) H n q) : ev_ok (ev_TT X) 159 0 [.ref x, .int s] [] H n q P := by
  have hk := c_all_k (X := X) hc
  rcases ev_sz s with h | ⟨j, hj, rfl⟩
  · simp (disch := omega) only [t_X5_misses_0, t_X5_misses_1, t_X5_misses_2, t_X5_misses_5, t_X5_misses_8, x_X5_misses_2, ↓reduceIte, ev_k_i, ev_k_r, ev_k_l, ev_k_J, ev_k_n, ev_kr_1, ev_kr_0, ev_isK_y, ev_aG_y, ev_aS_y, ev_aN_y, ev_inA_0, ev_isA_0, ev_ft_I, ev_ft_0, ev_ft_1, ev_ft_o, ev_ft_a, ev_nb_0, ev_nb_1, and_true, true_and, if_true, if_false, not_true_eq_false, not_false_eq_true, nI_1, ev_fG_0, ev_fG_1, ev_fG_2, ev_fG_3, ev_fG_4, ev_fG_5, ev_fG_6, ev_fG_7, ev_fG_8, ev_fS_0, ev_fS_1, ev_fS_2, ev_fS_3, ev_fS_4, ev_fS_5, ev_fS_6, ev_fS_7, ev_fS_8, ev_isO_0, ev_isO_1, ev_isO_2, ev_isO_3, ev_isO_4, ev_isO_5, ev_isO_6, ev_isO_7, ev_isO_8, ev_z0, ev_z1, ev_z2, eq_self, ev_ofN, hk, C_keeperOf_n h, C_dSize_n h]
    exact k0 h
  · obtain ⟨h7, h8⟩ := hc.2.2.2.2.2.2.2 j hj
    unfold ev_kec at h7
    have hL := hG.2.2.1 j hj
    have hl := okL_len hL
    have hr := ev_rL_k (X := X) h8
    have hx := ev_rL_b (X := X) h8
    simp (disch := omega) only [t_X5_misses_0, t_X5_misses_1, t_X5_misses_2, t_X5_misses_5, t_X5_misses_8, x_X5_misses_2, ↓reduceIte, ev_k_i, ev_k_r, ev_k_l, ev_k_J, ev_k_n, ev_kr_1, ev_kr_0, ev_isK_y, ev_aG_y, ev_aS_y, ev_aN_y, ev_inA_0, ev_isA_0, ev_ft_I, ev_ft_0, ev_ft_1, ev_ft_o, ev_ft_a, ev_nb_0, ev_nb_1, and_true, true_and, if_true, if_false, not_true_eq_false, not_false_eq_true, nI_1, ev_fG_0, ev_fG_1, ev_fG_2, ev_fG_3, ev_fG_4, ev_fG_5, ev_fG_6, ev_fG_7, ev_fG_8, ev_fS_0, ev_fS_1, ev_fS_2, ev_fS_3, ev_fS_4, ev_fS_5, ev_fS_6, ev_fS_7, ev_fS_8, ev_isO_0, ev_isO_1, ev_isO_2, ev_isO_3, ev_isO_4, ev_isO_5, ev_isO_6, ev_isO_7, ev_isO_8, ev_z0, ev_z1, ev_z2, eq_self, ev_ofN, hk, C_keeperOf_y hc hj, C_dSize_y hj, ev_lk_s h7]
    exact k2 j hj rfl
theorem C_hits (hc : c_all x G H) (hG : okG G) {s : Int32} (k0 : s < 1 ∨ 6 < s → P (.inr 1) H (n + 1) (q + 6)) (k2 : ∀ j, j < 6 → s = nI (j + 1) → P (.inl (some (.int (G.2.2.1 j).2.2.2.2.2))) H n q) : ev_ok (ev_TT X) 152 0 [.ref x, .int s] [] H n q P := by
  have hk := c_all_k (X := X) hc
  rcases ev_sz s with h | ⟨j, hj, rfl⟩
  · simp (disch := omega) only [t_X5_hits_0, t_X5_hits_1, t_X5_hits_2, t_X5_hits_5, t_X5_hits_8, x_X5_hits_2, ↓reduceIte, ev_k_i, ev_k_r, ev_k_l, ev_k_J, ev_k_n, ev_kr_1, ev_kr_0, ev_isK_y, ev_aG_y, ev_aS_y, ev_aN_y, ev_inA_0, ev_isA_0, ev_ft_I, ev_ft_0, ev_ft_1, ev_ft_o, ev_ft_a, ev_nb_0, ev_nb_1, and_true, true_and, if_true, if_false, not_true_eq_false, not_false_eq_true, nI_1, ev_fG_0, ev_fG_1, ev_fG_2, ev_fG_3, ev_fG_4, ev_fG_5, ev_fG_6, ev_fG_7, ev_fG_8, ev_fS_0, ev_fS_1, ev_fS_2, ev_fS_3, ev_fS_4, ev_fS_5, ev_fS_6, ev_fS_7, ev_fS_8, ev_isO_0, ev_isO_1, ev_isO_2, ev_isO_3, ev_isO_4, ev_isO_5, ev_isO_6, ev_isO_7, ev_isO_8, ev_z0, ev_z1, ev_z2, eq_self, ev_ofN, hk, C_keeperOf_n h, C_dSize_n h]
    exact k0 h
  · obtain ⟨h7, h8⟩ := hc.2.2.2.2.2.2.2 j hj
    unfold ev_kec at h7
    have hL := hG.2.2.1 j hj
    have hl := okL_len hL
    have hr := ev_rL_k (X := X) h8
    have hx := ev_rL_b (X := X) h8
    simp (disch := omega) only [t_X5_hits_0, t_X5_hits_1, t_X5_hits_2, t_X5_hits_5, t_X5_hits_8, x_X5_hits_2, ↓reduceIte, ev_k_i, ev_k_r, ev_k_l, ev_k_J, ev_k_n, ev_kr_1, ev_kr_0, ev_isK_y, ev_aG_y, ev_aS_y, ev_aN_y, ev_inA_0, ev_isA_0, ev_ft_I, ev_ft_0, ev_ft_1, ev_ft_o, ev_ft_a, ev_nb_0, ev_nb_1, and_true, true_and, if_true, if_false, not_true_eq_false, not_false_eq_true, nI_1, ev_fG_0, ev_fG_1, ev_fG_2, ev_fG_3, ev_fG_4, ev_fG_5, ev_fG_6, ev_fG_7, ev_fG_8, ev_fS_0, ev_fS_1, ev_fS_2, ev_fS_3, ev_fS_4, ev_fS_5, ev_fS_6, ev_fS_7, ev_fS_8, ev_isO_0, ev_isO_1, ev_isO_2, ev_isO_3, ev_isO_4, ev_isO_5, ev_isO_6, ev_isO_7, ev_isO_8, ev_z0, ev_z1, ev_z2, eq_self, ev_ofN, hk, C_keeperOf_y hc hj, C_dSize_y hj, ev_lk_s h7]
    exact k2 j hj rfl
theorem C_lost (hc : c_all x G H) (hG : okG G) {s : Int32} (k0 : s < 1 ∨ 6 < s → P (.inr 1) H (n + 1) (q + 6)) (k2 : ∀ j, j < 6 → s = nI (j + 1) → P (.inl (some (.int (G.2.2.1 j).2.2.2.1))) H n q) : ev_ok (ev_TT X) 157 0 [.ref x, .int s] [] H n q P := by
  have hk := c_all_k (X := X) hc
  rcases ev_sz s with h | ⟨j, hj, rfl⟩
  · simp (disch := omega) only [t_X5_lost_0, t_X5_lost_1, t_X5_lost_2, t_X5_lost_5, t_X5_lost_8, t_X5_lost_11, x_X5_lost_2, ↓reduceIte, ev_k_i, ev_k_r, ev_k_l, ev_k_J, ev_k_n, ev_kr_1, ev_kr_0, ev_isK_y, ev_aG_y, ev_aS_y, ev_aN_y, ev_inA_0, ev_isA_0, ev_ft_I, ev_ft_0, ev_ft_1, ev_ft_o, ev_ft_a, ev_nb_0, ev_nb_1, and_true, true_and, if_true, if_false, not_true_eq_false, not_false_eq_true, nI_1, ev_fG_0, ev_fG_1, ev_fG_2, ev_fG_3, ev_fG_4, ev_fG_5, ev_fG_6, ev_fG_7, ev_fG_8, ev_fS_0, ev_fS_1, ev_fS_2, ev_fS_3, ev_fS_4, ev_fS_5, ev_fS_6, ev_fS_7, ev_fS_8, ev_isO_0, ev_isO_1, ev_isO_2, ev_isO_3, ev_isO_4, ev_isO_5, ev_isO_6, ev_isO_7, ev_isO_8, ev_z0, ev_z1, ev_z2, eq_self, ev_ofN, hk, C_keeperOf_n h, C_dSize_n h]
    exact k0 h
  · obtain ⟨h7, h8⟩ := hc.2.2.2.2.2.2.2 j hj
    unfold ev_kec at h7
    have hL := hG.2.2.1 j hj
    have hl := okL_len hL
    have hr := ev_rL_k (X := X) h8
    have hx := ev_rL_b (X := X) h8
    simp (disch := omega) only [t_X5_lost_0, t_X5_lost_1, t_X5_lost_2, t_X5_lost_5, t_X5_lost_8, t_X5_lost_11, x_X5_lost_2, ↓reduceIte, ev_k_i, ev_k_r, ev_k_l, ev_k_J, ev_k_n, ev_kr_1, ev_kr_0, ev_isK_y, ev_aG_y, ev_aS_y, ev_aN_y, ev_inA_0, ev_isA_0, ev_ft_I, ev_ft_0, ev_ft_1, ev_ft_o, ev_ft_a, ev_nb_0, ev_nb_1, and_true, true_and, if_true, if_false, not_true_eq_false, not_false_eq_true, nI_1, ev_fG_0, ev_fG_1, ev_fG_2, ev_fG_3, ev_fG_4, ev_fG_5, ev_fG_6, ev_fG_7, ev_fG_8, ev_fS_0, ev_fS_1, ev_fS_2, ev_fS_3, ev_fS_4, ev_fS_5, ev_fS_6, ev_fS_7, ev_fS_8, ev_isO_0, ev_isO_1, ev_isO_2, ev_isO_3, ev_isO_4, ev_isO_5, ev_isO_6, ev_isO_7, ev_isO_8, ev_z0, ev_z1, ev_z2, eq_self, ev_ofN, hk, C_keeperOf_y hc hj, C_dSize_y hj, ev_lk_s h7, hx.2.2.2.2.1, hx.2.2.2.2.2]
    exact k2 j hj rfl
theorem C_keeps (hc : c_all x G H) (hG : okG G) {s k : Int32} (k0 : s < 1 ∨ 6 < s → P (.inr 1) H (n + 1) (q + 6)) (k1 : ∀ j, j < 6 → s = nI (j + 1) → (k < 0 ∨ nI 20 ≤ k) → P (.inr 1) H (n + 1) (q + 6)) (k2 : ∀ j a, j < 6 → s = nI (j + 1) → a < 20 → k = nI a → P (.inl (some (.int (ev_bb (pf_find (G.2.2.1 j).1 k).isSome)))) H n q) : ev_ok (ev_TT X) 154 0 [.ref x, .int s, .int k, ev_J] [] H n q P := by
  have hk := c_all_k (X := X) hc
  rcases ev_sz s with h | ⟨j, hj, rfl⟩
  · simp (disch := omega) only [t_X5_keeps_0, t_X5_keeps_1, t_X5_keeps_2, t_X5_keeps_5, t_X5_keeps_6, t_X5_keeps_7, t_X5_keeps_10, t_X5_keeps_11, t_X5_keeps_14, t_X5_keeps_15, t_X5_keeps_18, t_X5_keeps_19, t_X5_keeps_22, t_X5_keeps_23, t_X5_keeps_26, t_X5_keeps_27, x_X5_keeps_2, x_X5_keeps_7, x_X5_keeps_15, ↓reduceIte, ev_k_i, ev_k_r, ev_k_l, ev_k_J, ev_k_n, ev_kr_1, ev_kr_0, ev_isK_y, ev_aG_y, ev_aS_y, ev_aN_y, ev_inA_0, ev_isA_0, ev_ft_I, ev_ft_0, ev_ft_1, ev_ft_o, ev_ft_a, ev_nb_0, ev_nb_1, and_true, true_and, if_true, if_false, not_true_eq_false, not_false_eq_true, nI_1, ev_fG_0, ev_fG_1, ev_fG_2, ev_fG_3, ev_fG_4, ev_fG_5, ev_fG_6, ev_fG_7, ev_fG_8, ev_fS_0, ev_fS_1, ev_fS_2, ev_fS_3, ev_fS_4, ev_fS_5, ev_fS_6, ev_fS_7, ev_fS_8, ev_isO_0, ev_isO_1, ev_isO_2, ev_isO_3, ev_isO_4, ev_isO_5, ev_isO_6, ev_isO_7, ev_isO_8, ev_z0, ev_z1, ev_z2, eq_self, ev_ofN, hk, C_keeperOf_n h, C_dSize_n h]
    exact k0 h
  · obtain ⟨h7, h8⟩ := hc.2.2.2.2.2.2.2 j hj
    unfold ev_kec at h7
    have hL := hG.2.2.1 j hj
    have hl := okL_len hL
    have hr := ev_rL_k (X := X) h8
    have hx := ev_rL_b (X := X) h8
    rcases pk_ix k (n := 20) (by omega) with h | h | ⟨a, ha, rfl⟩
    · simp (disch := omega) only [t_X5_keeps_0, t_X5_keeps_1, t_X5_keeps_2, t_X5_keeps_5, t_X5_keeps_6, t_X5_keeps_7, t_X5_keeps_10, t_X5_keeps_11, t_X5_keeps_14, t_X5_keeps_15, t_X5_keeps_18, t_X5_keeps_19, t_X5_keeps_22, t_X5_keeps_23, t_X5_keeps_26, t_X5_keeps_27, x_X5_keeps_2, x_X5_keeps_7, x_X5_keeps_15, ↓reduceIte, ev_k_i, ev_k_r, ev_k_l, ev_k_J, ev_k_n, ev_kr_1, ev_kr_0, ev_isK_y, ev_aG_y, ev_aS_y, ev_aN_y, ev_inA_0, ev_isA_0, ev_ft_I, ev_ft_0, ev_ft_1, ev_ft_o, ev_ft_a, ev_nb_0, ev_nb_1, and_true, true_and, if_true, if_false, not_true_eq_false, not_false_eq_true, nI_1, ev_fG_0, ev_fG_1, ev_fG_2, ev_fG_3, ev_fG_4, ev_fG_5, ev_fG_6, ev_fG_7, ev_fG_8, ev_fS_0, ev_fS_1, ev_fS_2, ev_fS_3, ev_fS_4, ev_fS_5, ev_fS_6, ev_fS_7, ev_fS_8, ev_isO_0, ev_isO_1, ev_isO_2, ev_isO_3, ev_isO_4, ev_isO_5, ev_isO_6, ev_isO_7, ev_isO_8, ev_z0, ev_z1, ev_z2, eq_self, ev_ofN, hk, C_keeperOf_y hc hj, C_dSize_y hj, ev_lk_s h7, C_dKey_n (Or.inl h)]
      exact k1 j hj rfl (Or.inl h)
    · simp (disch := omega) only [t_X5_keeps_0, t_X5_keeps_1, t_X5_keeps_2, t_X5_keeps_5, t_X5_keeps_6, t_X5_keeps_7, t_X5_keeps_10, t_X5_keeps_11, t_X5_keeps_14, t_X5_keeps_15, t_X5_keeps_18, t_X5_keeps_19, t_X5_keeps_22, t_X5_keeps_23, t_X5_keeps_26, t_X5_keeps_27, x_X5_keeps_2, x_X5_keeps_7, x_X5_keeps_15, ↓reduceIte, ev_k_i, ev_k_r, ev_k_l, ev_k_J, ev_k_n, ev_kr_1, ev_kr_0, ev_isK_y, ev_aG_y, ev_aS_y, ev_aN_y, ev_inA_0, ev_isA_0, ev_ft_I, ev_ft_0, ev_ft_1, ev_ft_o, ev_ft_a, ev_nb_0, ev_nb_1, and_true, true_and, if_true, if_false, not_true_eq_false, not_false_eq_true, nI_1, ev_fG_0, ev_fG_1, ev_fG_2, ev_fG_3, ev_fG_4, ev_fG_5, ev_fG_6, ev_fG_7, ev_fG_8, ev_fS_0, ev_fS_1, ev_fS_2, ev_fS_3, ev_fS_4, ev_fS_5, ev_fS_6, ev_fS_7, ev_fS_8, ev_isO_0, ev_isO_1, ev_isO_2, ev_isO_3, ev_isO_4, ev_isO_5, ev_isO_6, ev_isO_7, ev_isO_8, ev_z0, ev_z1, ev_z2, eq_self, ev_ofN, hk, C_keeperOf_y hc hj, C_dSize_y hj, ev_lk_s h7, C_dKey_n (Or.inr h)]
      exact k1 j hj rfl (Or.inr h)
    · skip
      simp (disch := omega) only [t_X5_keeps_0, t_X5_keeps_1, t_X5_keeps_2, t_X5_keeps_5, t_X5_keeps_6, t_X5_keeps_7, t_X5_keeps_10, t_X5_keeps_11, t_X5_keeps_14, t_X5_keeps_15, t_X5_keeps_18, t_X5_keeps_19, t_X5_keeps_22, t_X5_keeps_23, t_X5_keeps_26, t_X5_keeps_27, x_X5_keeps_2, x_X5_keeps_7, x_X5_keeps_15, ↓reduceIte, ev_k_i, ev_k_r, ev_k_l, ev_k_J, ev_k_n, ev_kr_1, ev_kr_0, ev_isK_y, ev_aG_y, ev_aS_y, ev_aN_y, ev_inA_0, ev_isA_0, ev_ft_I, ev_ft_0, ev_ft_1, ev_ft_o, ev_ft_a, ev_nb_0, ev_nb_1, and_true, true_and, if_true, if_false, not_true_eq_false, not_false_eq_true, nI_1, ev_fG_0, ev_fG_1, ev_fG_2, ev_fG_3, ev_fG_4, ev_fG_5, ev_fG_6, ev_fG_7, ev_fG_8, ev_fS_0, ev_fS_1, ev_fS_2, ev_fS_3, ev_fS_4, ev_fS_5, ev_fS_6, ev_fS_7, ev_fS_8, ev_isO_0, ev_isO_1, ev_isO_2, ev_isO_3, ev_isO_4, ev_isO_5, ev_isO_6, ev_isO_7, ev_isO_8, ev_z0, ev_z1, ev_z2, eq_self, ev_ofN, hk, C_keeperOf_y hc hj, C_dSize_y hj, ev_lk_s h7, C_dKey_y ha, hr]
      refine R_find h8 hl ?_
      have hK := k2 j a hj rfl ha rfl
      unfold pf_place
      rcases e : pf_find (G.2.2.1 j).1 (nI a) with _ | i
      · rw [e] at hK
        simp (disch := omega) only [t_X5_keeps_0, t_X5_keeps_1, t_X5_keeps_2, t_X5_keeps_5, t_X5_keeps_6, t_X5_keeps_7, t_X5_keeps_10, t_X5_keeps_11, t_X5_keeps_14, t_X5_keeps_15, t_X5_keeps_18, t_X5_keeps_19, t_X5_keeps_22, t_X5_keeps_23, t_X5_keeps_26, t_X5_keeps_27, x_X5_keeps_2, x_X5_keeps_7, x_X5_keeps_15, ↓reduceIte, ev_k_i, ev_k_r, ev_k_l, ev_k_J, ev_k_n, ev_kr_1, ev_kr_0, ev_isK_y, ev_aG_y, ev_aS_y, ev_aN_y, ev_inA_0, ev_isA_0, ev_ft_I, ev_ft_0, ev_ft_1, ev_ft_o, ev_ft_a, ev_nb_0, ev_nb_1, and_true, true_and, if_true, if_false, not_true_eq_false, not_false_eq_true, nI_1, ev_fG_0, ev_fG_1, ev_fG_2, ev_fG_3, ev_fG_4, ev_fG_5, ev_fG_6, ev_fG_7, ev_fG_8, ev_fS_0, ev_fS_1, ev_fS_2, ev_fS_3, ev_fS_4, ev_fS_5, ev_fS_6, ev_fS_7, ev_fS_8, ev_isO_0, ev_isO_1, ev_isO_2, ev_isO_3, ev_isO_4, ev_isO_5, ev_isO_6, ev_isO_7, ev_isO_8, ev_z0, ev_z1, ev_z2, eq_self, ev_ofN]
        exact hK
      · rw [e] at hK
        have hi := (pf_find_s e).1
        simp (disch := omega) only [t_X5_keeps_0, t_X5_keeps_1, t_X5_keeps_2, t_X5_keeps_5, t_X5_keeps_6, t_X5_keeps_7, t_X5_keeps_10, t_X5_keeps_11, t_X5_keeps_14, t_X5_keeps_15, t_X5_keeps_18, t_X5_keeps_19, t_X5_keeps_22, t_X5_keeps_23, t_X5_keeps_26, t_X5_keeps_27, x_X5_keeps_2, x_X5_keeps_7, x_X5_keeps_15, ↓reduceIte, ev_k_i, ev_k_r, ev_k_l, ev_k_J, ev_k_n, ev_kr_1, ev_kr_0, ev_isK_y, ev_aG_y, ev_aS_y, ev_aN_y, ev_inA_0, ev_isA_0, ev_ft_I, ev_ft_0, ev_ft_1, ev_ft_o, ev_ft_a, ev_nb_0, ev_nb_1, and_true, true_and, if_true, if_false, not_true_eq_false, not_false_eq_true, nI_1, ev_fG_0, ev_fG_1, ev_fG_2, ev_fG_3, ev_fG_4, ev_fG_5, ev_fG_6, ev_fG_7, ev_fG_8, ev_fS_0, ev_fS_1, ev_fS_2, ev_fS_3, ev_fS_4, ev_fS_5, ev_fS_6, ev_fS_7, ev_fS_8, ev_isO_0, ev_isO_1, ev_isO_2, ev_isO_3, ev_isO_4, ev_isO_5, ev_isO_6, ev_isO_7, ev_isO_8, ev_z0, ev_z1, ev_z2, eq_self, ev_ofN, ev_nm1]
        exact hK
theorem C_takenAt (hc : c_all x G H) (hG : okG G) {s k : Int32} (k0 : s < 1 ∨ 6 < s → P (.inr 1) H (n + 1) (q + 6)) (k1 : ∀ j, j < 6 → s = nI (j + 1) → (k < 0 ∨ nI 20 ≤ k) → P (.inr 1) H (n + 1) (q + 6)) (k2 : ∀ j a, j < 6 → s = nI (j + 1) → a < 20 → k = nI a → P (.inl (some (.int (pr_told (G.2.2.1 j).1 (pf_place (G.2.2.1 j).1 k) 1)))) H n q) : ev_ok (ev_TT X) 162 0 [.ref x, .int s, .int k, ev_J] [] H n q P := by
  have hk := c_all_k (X := X) hc
  rcases ev_sz s with h | ⟨j, hj, rfl⟩
  · simp (disch := omega) only [t_X5_takenAt_0, t_X5_takenAt_1, t_X5_takenAt_2, t_X5_takenAt_5, t_X5_takenAt_6, t_X5_takenAt_7, t_X5_takenAt_10, t_X5_takenAt_11, t_X5_takenAt_14, t_X5_takenAt_15, t_X5_takenAt_18, t_X5_takenAt_19, t_X5_takenAt_22, t_X5_takenAt_23, t_X5_takenAt_26, x_X5_takenAt_2, x_X5_takenAt_7, x_X5_takenAt_19, x_X5_takenAt_23, ↓reduceIte, ev_k_i, ev_k_r, ev_k_l, ev_k_J, ev_k_n, ev_kr_1, ev_kr_0, ev_isK_y, ev_aG_y, ev_aS_y, ev_aN_y, ev_inA_0, ev_isA_0, ev_ft_I, ev_ft_0, ev_ft_1, ev_ft_o, ev_ft_a, ev_nb_0, ev_nb_1, and_true, true_and, if_true, if_false, not_true_eq_false, not_false_eq_true, nI_1, ev_fG_0, ev_fG_1, ev_fG_2, ev_fG_3, ev_fG_4, ev_fG_5, ev_fG_6, ev_fG_7, ev_fG_8, ev_fS_0, ev_fS_1, ev_fS_2, ev_fS_3, ev_fS_4, ev_fS_5, ev_fS_6, ev_fS_7, ev_fS_8, ev_isO_0, ev_isO_1, ev_isO_2, ev_isO_3, ev_isO_4, ev_isO_5, ev_isO_6, ev_isO_7, ev_isO_8, ev_z0, ev_z1, ev_z2, eq_self, ev_ofN, hk, C_keeperOf_n h, C_dSize_n h]
    exact k0 h
  · obtain ⟨h7, h8⟩ := hc.2.2.2.2.2.2.2 j hj
    unfold ev_kec at h7
    have hL := hG.2.2.1 j hj
    have hl := okL_len hL
    have hr := ev_rL_k (X := X) h8
    have hx := ev_rL_b (X := X) h8
    rcases pk_ix k (n := 20) (by omega) with h | h | ⟨a, ha, rfl⟩
    · simp (disch := omega) only [t_X5_takenAt_0, t_X5_takenAt_1, t_X5_takenAt_2, t_X5_takenAt_5, t_X5_takenAt_6, t_X5_takenAt_7, t_X5_takenAt_10, t_X5_takenAt_11, t_X5_takenAt_14, t_X5_takenAt_15, t_X5_takenAt_18, t_X5_takenAt_19, t_X5_takenAt_22, t_X5_takenAt_23, t_X5_takenAt_26, x_X5_takenAt_2, x_X5_takenAt_7, x_X5_takenAt_19, x_X5_takenAt_23, ↓reduceIte, ev_k_i, ev_k_r, ev_k_l, ev_k_J, ev_k_n, ev_kr_1, ev_kr_0, ev_isK_y, ev_aG_y, ev_aS_y, ev_aN_y, ev_inA_0, ev_isA_0, ev_ft_I, ev_ft_0, ev_ft_1, ev_ft_o, ev_ft_a, ev_nb_0, ev_nb_1, and_true, true_and, if_true, if_false, not_true_eq_false, not_false_eq_true, nI_1, ev_fG_0, ev_fG_1, ev_fG_2, ev_fG_3, ev_fG_4, ev_fG_5, ev_fG_6, ev_fG_7, ev_fG_8, ev_fS_0, ev_fS_1, ev_fS_2, ev_fS_3, ev_fS_4, ev_fS_5, ev_fS_6, ev_fS_7, ev_fS_8, ev_isO_0, ev_isO_1, ev_isO_2, ev_isO_3, ev_isO_4, ev_isO_5, ev_isO_6, ev_isO_7, ev_isO_8, ev_z0, ev_z1, ev_z2, eq_self, ev_ofN, hk, C_keeperOf_y hc hj, C_dSize_y hj, ev_lk_s h7, C_dKey_n (Or.inl h)]
      exact k1 j hj rfl (Or.inl h)
    · simp (disch := omega) only [t_X5_takenAt_0, t_X5_takenAt_1, t_X5_takenAt_2, t_X5_takenAt_5, t_X5_takenAt_6, t_X5_takenAt_7, t_X5_takenAt_10, t_X5_takenAt_11, t_X5_takenAt_14, t_X5_takenAt_15, t_X5_takenAt_18, t_X5_takenAt_19, t_X5_takenAt_22, t_X5_takenAt_23, t_X5_takenAt_26, x_X5_takenAt_2, x_X5_takenAt_7, x_X5_takenAt_19, x_X5_takenAt_23, ↓reduceIte, ev_k_i, ev_k_r, ev_k_l, ev_k_J, ev_k_n, ev_kr_1, ev_kr_0, ev_isK_y, ev_aG_y, ev_aS_y, ev_aN_y, ev_inA_0, ev_isA_0, ev_ft_I, ev_ft_0, ev_ft_1, ev_ft_o, ev_ft_a, ev_nb_0, ev_nb_1, and_true, true_and, if_true, if_false, not_true_eq_false, not_false_eq_true, nI_1, ev_fG_0, ev_fG_1, ev_fG_2, ev_fG_3, ev_fG_4, ev_fG_5, ev_fG_6, ev_fG_7, ev_fG_8, ev_fS_0, ev_fS_1, ev_fS_2, ev_fS_3, ev_fS_4, ev_fS_5, ev_fS_6, ev_fS_7, ev_fS_8, ev_isO_0, ev_isO_1, ev_isO_2, ev_isO_3, ev_isO_4, ev_isO_5, ev_isO_6, ev_isO_7, ev_isO_8, ev_z0, ev_z1, ev_z2, eq_self, ev_ofN, hk, C_keeperOf_y hc hj, C_dSize_y hj, ev_lk_s h7, C_dKey_n (Or.inr h)]
      exact k1 j hj rfl (Or.inr h)
    · skip
      simp (disch := omega) only [t_X5_takenAt_0, t_X5_takenAt_1, t_X5_takenAt_2, t_X5_takenAt_5, t_X5_takenAt_6, t_X5_takenAt_7, t_X5_takenAt_10, t_X5_takenAt_11, t_X5_takenAt_14, t_X5_takenAt_15, t_X5_takenAt_18, t_X5_takenAt_19, t_X5_takenAt_22, t_X5_takenAt_23, t_X5_takenAt_26, x_X5_takenAt_2, x_X5_takenAt_7, x_X5_takenAt_19, x_X5_takenAt_23, ↓reduceIte, ev_k_i, ev_k_r, ev_k_l, ev_k_J, ev_k_n, ev_kr_1, ev_kr_0, ev_isK_y, ev_aG_y, ev_aS_y, ev_aN_y, ev_inA_0, ev_isA_0, ev_ft_I, ev_ft_0, ev_ft_1, ev_ft_o, ev_ft_a, ev_nb_0, ev_nb_1, and_true, true_and, if_true, if_false, not_true_eq_false, not_false_eq_true, nI_1, ev_fG_0, ev_fG_1, ev_fG_2, ev_fG_3, ev_fG_4, ev_fG_5, ev_fG_6, ev_fG_7, ev_fG_8, ev_fS_0, ev_fS_1, ev_fS_2, ev_fS_3, ev_fS_4, ev_fS_5, ev_fS_6, ev_fS_7, ev_fS_8, ev_isO_0, ev_isO_1, ev_isO_2, ev_isO_3, ev_isO_4, ev_isO_5, ev_isO_6, ev_isO_7, ev_isO_8, ev_z0, ev_z1, ev_z2, eq_self, ev_ofN, hk, C_keeperOf_y hc hj, C_dSize_y hj, ev_lk_s h7, C_dKey_y ha, hr]
      refine R_find h8 hl ?_
      simp (disch := omega) only [t_X5_takenAt_0, t_X5_takenAt_1, t_X5_takenAt_2, t_X5_takenAt_5, t_X5_takenAt_6, t_X5_takenAt_7, t_X5_takenAt_10, t_X5_takenAt_11, t_X5_takenAt_14, t_X5_takenAt_15, t_X5_takenAt_18, t_X5_takenAt_19, t_X5_takenAt_22, t_X5_takenAt_23, t_X5_takenAt_26, x_X5_takenAt_2, x_X5_takenAt_7, x_X5_takenAt_19, x_X5_takenAt_23, ↓reduceIte, ev_k_i, ev_k_r, ev_k_l, ev_k_J, ev_k_n, ev_kr_1, ev_kr_0, ev_isK_y, ev_aG_y, ev_aS_y, ev_aN_y, ev_inA_0, ev_isA_0, ev_ft_I, ev_ft_0, ev_ft_1, ev_ft_o, ev_ft_a, ev_nb_0, ev_nb_1, and_true, true_and, if_true, if_false, not_true_eq_false, not_false_eq_true, nI_1, ev_fG_0, ev_fG_1, ev_fG_2, ev_fG_3, ev_fG_4, ev_fG_5, ev_fG_6, ev_fG_7, ev_fG_8, ev_fS_0, ev_fS_1, ev_fS_2, ev_fS_3, ev_fS_4, ev_fS_5, ev_fS_6, ev_fS_7, ev_fS_8, ev_isO_0, ev_isO_1, ev_isO_2, ev_isO_3, ev_isO_4, ev_isO_5, ev_isO_6, ev_isO_7, ev_isO_8, ev_z0, ev_z1, ev_z2, eq_self, ev_ofN, hk, C_keeperOf_y hc hj, C_dSize_y hj, ev_lk_s h7, C_dKey_y ha, hr]
      refine R_told h8 hl ?_
      simp (disch := omega) only [t_X5_takenAt_0, t_X5_takenAt_1, t_X5_takenAt_2, t_X5_takenAt_5, t_X5_takenAt_6, t_X5_takenAt_7, t_X5_takenAt_10, t_X5_takenAt_11, t_X5_takenAt_14, t_X5_takenAt_15, t_X5_takenAt_18, t_X5_takenAt_19, t_X5_takenAt_22, t_X5_takenAt_23, t_X5_takenAt_26, x_X5_takenAt_2, x_X5_takenAt_7, x_X5_takenAt_19, x_X5_takenAt_23, ↓reduceIte, ev_k_i, ev_k_r, ev_k_l, ev_k_J, ev_k_n, ev_kr_1, ev_kr_0, ev_isK_y, ev_aG_y, ev_aS_y, ev_aN_y, ev_inA_0, ev_isA_0, ev_ft_I, ev_ft_0, ev_ft_1, ev_ft_o, ev_ft_a, ev_nb_0, ev_nb_1, and_true, true_and, if_true, if_false, not_true_eq_false, not_false_eq_true, nI_1, ev_fG_0, ev_fG_1, ev_fG_2, ev_fG_3, ev_fG_4, ev_fG_5, ev_fG_6, ev_fG_7, ev_fG_8, ev_fS_0, ev_fS_1, ev_fS_2, ev_fS_3, ev_fS_4, ev_fS_5, ev_fS_6, ev_fS_7, ev_fS_8, ev_isO_0, ev_isO_1, ev_isO_2, ev_isO_3, ev_isO_4, ev_isO_5, ev_isO_6, ev_isO_7, ev_isO_8, ev_z0, ev_z1, ev_z2, eq_self, ev_ofN]
      exact k2 j a hj rfl ha rfl
/-- the askings' keys are those of As -/
def aR (G : ev_CS) (As : List Nat) : Prop := As.length = G.2.2.2.1.2.2 ∧ ∀ j, j < G.2.2.2.1.2.2 → G.2.2.2.1.1 j = nI (As.getD j 0) ∧ As.getD j 0 < 20
theorem C_best {As : List Nat} (hA : aR G As) (hc : c_all x G H) (hG : okG G) {s : Int32} (k0 : s < 1 ∨ 6 < s → P (.inr 1) H (n + 1) (q + 6)) (k2 : ∀ j, j < 6 → s = nI (j + 1) → ∀ H1, c_all x G H1 → c_fr x H H1 → P (.inl (some (.int (nI (G.2.2.2.1.2.2 - (gs As (j + 1) G.2.2.2.1.2.2).2))))) H1 n q) : ev_ok (ev_TT X) 148 0 [.ref x, .int s] [] H n q P := by
  have hk := c_all_k (X := X) hc
  have h0 := hc.1
  unfold c_top at h0
  rcases ev_sz s with h | ⟨j, hj, rfl⟩
  · simp (disch := omega) only [t_X5_best_0, t_X5_best_1, t_X5_best_4, t_X5_best_5, t_X5_best_8, t_X5_best_9, t_X5_best_12, x_X5_best_1, x_X5_best_9, ↓reduceIte, ev_k_i, ev_k_r, ev_k_l, ev_k_J, ev_k_n, ev_kr_1, ev_kr_0, ev_isK_y, ev_aG_y, ev_aS_y, ev_aN_y, ev_inA_0, ev_isA_0, ev_ft_I, ev_ft_0, ev_ft_1, ev_ft_o, ev_ft_a, ev_nb_0, ev_nb_1, and_true, true_and, if_true, if_false, not_true_eq_false, not_false_eq_true, nI_1, ev_fG_0, ev_fG_1, ev_fG_2, ev_fG_3, ev_fG_4, ev_fG_5, ev_fG_6, ev_fG_7, ev_fG_8, ev_fS_0, ev_fS_1, ev_fS_2, ev_fS_3, ev_fS_4, ev_fS_5, ev_fS_6, ev_fS_7, ev_fS_8, ev_isO_0, ev_isO_1, ev_isO_2, ev_isO_3, ev_isO_4, ev_isO_5, ev_isO_6, ev_isO_7, ev_isO_8, ev_z0, ev_z1, ev_z2, eq_self, ev_ofN, hk, C_dSize_n h]
    exact k0 h
  · have ha0 := c_ask0 hc
    have hak : ev_isK (ev_lk X H (x + 2)) 5 = True := by rw [ev_lk_s ha0]; exact ev_isK_y
    obtain ⟨ne, hk1, hn1, hH, hN⟩ := hc.2.2.1
    simp (disch := omega) only [t_X5_best_0, t_X5_best_1, t_X5_best_4, t_X5_best_5, t_X5_best_8, t_X5_best_9, t_X5_best_12, x_X5_best_1, x_X5_best_9, ↓reduceIte, ev_k_i, ev_k_r, ev_k_l, ev_k_J, ev_k_n, ev_kr_1, ev_kr_0, ev_isK_y, ev_aG_y, ev_aS_y, ev_aN_y, ev_inA_0, ev_isA_0, ev_ft_I, ev_ft_0, ev_ft_1, ev_ft_o, ev_ft_a, ev_nb_0, ev_nb_1, and_true, true_and, if_true, if_false, not_true_eq_false, not_false_eq_true, nI_1, ev_fG_0, ev_fG_1, ev_fG_2, ev_fG_3, ev_fG_4, ev_fG_5, ev_fG_6, ev_fG_7, ev_fG_8, ev_fS_0, ev_fS_1, ev_fS_2, ev_fS_3, ev_fS_4, ev_fS_5, ev_fS_6, ev_fS_7, ev_fS_8, ev_isO_0, ev_isO_1, ev_isO_2, ev_isO_3, ev_isO_4, ev_isO_5, ev_isO_6, ev_isO_7, ev_isO_8, ev_z0, ev_z1, ev_z2, eq_self, ev_ofN, hk, C_dSize_y hj, ev_lk_s h0, hak]
    rw [hH]
    refine A_few (As := As) hG.2.2.2 hA.1 hA.2 hN hj fun hk' hn' => ?_
    simp (disch := omega) only [t_X5_best_0, t_X5_best_1, t_X5_best_4, t_X5_best_5, t_X5_best_8, t_X5_best_9, t_X5_best_12, x_X5_best_1, x_X5_best_9, ↓reduceIte, ev_k_i, ev_k_r, ev_k_l, ev_k_J, ev_k_n, ev_kr_1, ev_kr_0, ev_isK_y, ev_aG_y, ev_aS_y, ev_aN_y, ev_inA_0, ev_isA_0, ev_ft_I, ev_ft_0, ev_ft_1, ev_ft_o, ev_ft_a, ev_nb_0, ev_nb_1, and_true, true_and, if_true, if_false, not_true_eq_false, not_false_eq_true, nI_1, ev_fG_0, ev_fG_1, ev_fG_2, ev_fG_3, ev_fG_4, ev_fG_5, ev_fG_6, ev_fG_7, ev_fG_8, ev_fS_0, ev_fS_1, ev_fS_2, ev_fS_3, ev_fS_4, ev_fS_5, ev_fS_6, ev_fS_7, ev_fS_8, ev_isO_0, ev_isO_1, ev_isO_2, ev_isO_3, ev_isO_4, ev_isO_5, ev_isO_6, ev_isO_7, ev_isO_8, ev_z0, ev_z1, ev_z2, eq_self, ev_ofN]
    have ho : ∀ a, (a < x + 2 ∨ x + 8 ≤ a) → ev_ask H (x + 2) G.2.2.2.1.1 G.2.2.2.1.2.1 ne hk' hn' G.2.2.2.1.2.2 a = H a := fun a ha => ev_ask_o (by omega)
    exact k2 j hj rfl _ (c_upA hc (s := G.2.2.2.1) ho ⟨ne, hk', hn', ev_ask_ask.symm, hN⟩) (fun a ha => ho a (by omega))
end CS
end
section
/-! ===== the class: forget ===== -/
def pk_anew (s : ev_KS) : ev_KS := ([], s.2.1, 0, -1, 0, 0)
def pg_F (G : ev_CS) (i : Nat) : ev_CS := (G.1, G.2.1, (fun j => if j < i then pk_anew (G.2.2.1 j) else G.2.2.1 j), G.2.2.2)
def pg_F0 (G : ev_CS) : ev_CS := (G.1, ([], 0, -1), G.2.2.1, (G.2.2.2.1.1, G.2.2.2.1.2.1, 0), G.2.2.2.2)
theorem pg_F_0 {G : ev_CS} : pg_F G 0 = G := by
  have : (fun j => if j < 0 then pk_anew (G.2.2.1 j) else G.2.2.1 j) = G.2.2.1 := by
    funext j
    rw [if_neg (by omega)]
  unfold pg_F
  rw [this]
theorem pg_F_s {G : ev_CS} {i : Nat} : ((pg_F G i).1, (pg_F G i).2.1, (fun j' => if j' = i then pk_anew (G.2.2.1 i) else (pg_F G i).2.2.1 j'), (pg_F G i).2.2.2) = pg_F G (i + 1) := by
  have : (fun j' => if j' = i then pk_anew (G.2.2.1 i) else (pg_F G i).2.2.1 j') = (pg_F G (i + 1)).2.2.1 := by
    funext j'
    unfold pg_F
    dsimp only
    by_cases e : j' = i
    · subst e
      rw [if_pos rfl, if_pos (by omega)]
    · rw [if_neg e]
      by_cases e2 : j' < i
      · rw [if_pos e2, if_pos (by omega)]
      · rw [if_neg e2, if_neg (by omega)]
  rw [this]
  rfl
theorem okG_F {G : ev_CS} (h : okG G) : okG (pg_F (pg_F0 G) 6) := by
  refine ⟨h.1, okL_nil, fun j hj => ?_, Nat.zero_le 60⟩
  show okL ((if j < 6 then pk_anew (G.2.2.1 j) else G.2.2.1 j)).1
  rw [if_pos hj]
  exact okL_nil
section CF
variable {X : ev_E} {x : Nat} {G : ev_CS} {H : ev_M} {n q : Nat} {P : ev_O → ev_M → Nat → Nat → Prop}
theorem C_fLoop {b : Int32} : ∀ (d j : Nat) (w : Value) (H : ev_M), j + d = 6 → c_all x (pg_F G j) H → (∀ j, j < 6 → (G.2.2.1 j).1.length ≤ 20) →
    (∀ H1, c_all x (pg_F G 6) H1 → c_fr x H H1 → P (.inl (some (.int b))) H1 n q) → ev_ok (ev_TT X) 201 37 [.ref x, .int b, .ref (x + 11), .int 6, .int (nI j), w] [] H n q P := by
  intro d
  induction d with
  | zero =>
    intro j w H hj hc hG c
    have hj6 : j = 6 := by omega
    subst hj6
    simp (disch := omega) only [t_X5_forget_0, t_X5_forget_1, t_X5_forget_4, t_X5_forget_7, t_X5_forget_8, t_X5_forget_9, t_X5_forget_12, t_X5_forget_13, t_X5_forget_16, t_X5_forget_17, t_X5_forget_20, t_X5_forget_21, t_X5_forget_22, t_X5_forget_25, t_X5_forget_25_i, t_X5_forget_26, t_X5_forget_27, t_X5_forget_30, t_X5_forget_31, t_X5_forget_32, t_X5_forget_33, t_X5_forget_34, t_X5_forget_35, t_X5_forget_37, t_X5_forget_39, t_X5_forget_40, t_X5_forget_43, t_X5_forget_44, t_X5_forget_46, t_X5_forget_47, t_X5_forget_49, t_X5_forget_51, t_X5_forget_54, t_X5_forget_57, t_X5_forget_60, t_X5_forget_61, x_X5_forget_22, x_X5_forget_51, ↓reduceIte, ev_k_i, ev_k_r, ev_k_l, ev_k_J, ev_k_n, ev_kr_1, ev_kr_0, ev_isK_y, ev_aG_y, ev_aS_y, ev_aN_y, ev_inA_0, ev_isA_0, ev_ft_I, ev_ft_0, ev_ft_1, ev_ft_o, ev_ft_a, ev_nb_0, ev_nb_1, and_true, true_and, if_true, if_false, not_true_eq_false, not_false_eq_true, nI_1, ev_fG_0, ev_fG_1, ev_fG_2, ev_fG_3, ev_fG_4, ev_fG_5, ev_fG_6, ev_fG_7, ev_fG_8, ev_fS_0, ev_fS_1, ev_fS_2, ev_fS_3, ev_fS_4, ev_fS_5, ev_fS_6, ev_fS_7, ev_fS_8, ev_isO_0, ev_isO_1, ev_isO_2, ev_isO_3, ev_isO_4, ev_isO_5, ev_isO_6, ev_isO_7, ev_isO_8, ev_z0, ev_z1, ev_z2, eq_self, ev_ofN, show nI 6 = 6 from rfl, Int32.le_refl]
    exact c H hc (fun a _ => rfl)
  | succ d ih =>
    intro j w H hj hc hG c
    have hj6 : j < 6 := by omega
    have hB : ¬ (6 : Int32) ≤ nI j := Int32.not_le.mpr (nI_lt (b := 6) hj6 (by omega))
    have hp := nI_pos' (n := j) (by omega)
    obtain ⟨f, h4, h4b⟩ := hc.2.2.2.2.1
    have hf := h4b j hj6
    obtain ⟨h7, h8⟩ := hc.2.2.2.2.2.2.2 j hj6
    have eK : (pg_F G j).2.2.1 j = G.2.2.1 j := by
      unfold pg_F
      dsimp only
      rw [if_neg (by omega)]
    rw [eK] at h7 h8
    have h7k : ev_isK (ev_lk X H (x + 33 + 4 * j)) 6 = True := by rw [ev_lk_s h7]; exact ev_isK_y
    rw [t_X5_forget_37]
    simp (disch := omega) only [t_X5_forget_0, t_X5_forget_1, t_X5_forget_4, t_X5_forget_7, t_X5_forget_8, t_X5_forget_9, t_X5_forget_12, t_X5_forget_13, t_X5_forget_16, t_X5_forget_17, t_X5_forget_20, t_X5_forget_21, t_X5_forget_22, t_X5_forget_25, t_X5_forget_25_i, t_X5_forget_26, t_X5_forget_27, t_X5_forget_30, t_X5_forget_31, t_X5_forget_32, t_X5_forget_33, t_X5_forget_34, t_X5_forget_35, t_X5_forget_39, t_X5_forget_40, t_X5_forget_43, t_X5_forget_44, t_X5_forget_46, t_X5_forget_47, t_X5_forget_49, t_X5_forget_51, t_X5_forget_54, t_X5_forget_57, t_X5_forget_60, t_X5_forget_61, x_X5_forget_22, x_X5_forget_51, ↓reduceIte, ev_k_i, ev_k_r, ev_k_l, ev_k_J, ev_k_n, ev_kr_1, ev_kr_0, ev_isK_y, ev_aG_y, ev_aS_y, ev_aN_y, ev_inA_0, ev_isA_0, ev_ft_I, ev_ft_0, ev_ft_1, ev_ft_o, ev_ft_a, ev_nb_0, ev_nb_1, and_true, true_and, if_true, if_false, not_true_eq_false, not_false_eq_true, nI_1, ev_fG_0, ev_fG_1, ev_fG_2, ev_fG_3, ev_fG_4, ev_fG_5, ev_fG_6, ev_fG_7, ev_fG_8, ev_fS_0, ev_fS_1, ev_fS_2, ev_fS_3, ev_fS_4, ev_fS_5, ev_fS_6, ev_fS_7, ev_fS_8, ev_isO_0, ev_isO_1, ev_isO_2, ev_isO_3, ev_isO_4, ev_isO_5, ev_isO_6, ev_isO_7, ev_isO_8, ev_z0, ev_z1, ev_z2, eq_self, ev_ofN, hB, ev_lk_s h4, ev_inA_4, nI_clamp, hp, hj6, hf, h7k]
    refine C_anew h7 h8 (by omega) (by omega) (by omega) (hG j hj6) fun H1 hH1 => ?_
    have ho : ∀ a, (a < x + 33 + 4 * j ∨ x + 37 + 4 * j ≤ a) → H1 a = H a := fun a ha =>
      (ev_rL_o hH1 (by omega) (by omega) (by omega)).trans (ev_up_n (by omega))
    have hc1 := c_upK hc hj6 (s := pk_anew (G.2.2.1 j)) ho ⟨(ev_rL_o hH1 (by omega) (by omega) (by omega)).trans ev_up_s, c_row_of hH1⟩
    rw [pg_F_s] at hc1
    have hfr : c_fr x H H1 := fun a ha => ho a (by omega)
    simp (disch := omega) only [t_X5_forget_0, t_X5_forget_1, t_X5_forget_4, t_X5_forget_7, t_X5_forget_8, t_X5_forget_9, t_X5_forget_12, t_X5_forget_13, t_X5_forget_16, t_X5_forget_17, t_X5_forget_20, t_X5_forget_21, t_X5_forget_22, t_X5_forget_25, t_X5_forget_25_i, t_X5_forget_26, t_X5_forget_27, t_X5_forget_30, t_X5_forget_31, t_X5_forget_32, t_X5_forget_33, t_X5_forget_34, t_X5_forget_35, t_X5_forget_39, t_X5_forget_40, t_X5_forget_43, t_X5_forget_44, t_X5_forget_46, t_X5_forget_47, t_X5_forget_49, t_X5_forget_51, t_X5_forget_54, t_X5_forget_57, t_X5_forget_60, t_X5_forget_61, x_X5_forget_22, x_X5_forget_51, ↓reduceIte, ev_k_i, ev_k_r, ev_k_l, ev_k_J, ev_k_n, ev_kr_1, ev_kr_0, ev_isK_y, ev_aG_y, ev_aS_y, ev_aN_y, ev_inA_0, ev_isA_0, ev_ft_I, ev_ft_0, ev_ft_1, ev_ft_o, ev_ft_a, ev_nb_0, ev_nb_1, and_true, true_and, if_true, if_false, not_true_eq_false, not_false_eq_true, nI_1, ev_fG_0, ev_fG_1, ev_fG_2, ev_fG_3, ev_fG_4, ev_fG_5, ev_fG_6, ev_fG_7, ev_fG_8, ev_fS_0, ev_fS_1, ev_fS_2, ev_fS_3, ev_fS_4, ev_fS_5, ev_fS_6, ev_fS_7, ev_fS_8, ev_isO_0, ev_isO_1, ev_isO_2, ev_isO_3, ev_isO_4, ev_isO_5, ev_isO_6, ev_isO_7, ev_isO_8, ev_z0, ev_z1, ev_z2, eq_self, ev_ofN]
    exact ih (j + 1) _ H1 (by omega) hc1 hG (fun H2 g1 g2 => c H2 g1 (fun a ha => (g2 a ha).trans (hfr a ha)))
theorem C_forget (hc : c_all x G H) (hG : okG G) (c : ∀ H1, c_all x (pg_F (pg_F0 G) 6) H1 → c_fr x H H1 → P (.inl (some (.int (nI G.2.2.2.1.2.2)))) H1 n q) : ev_ok (ev_TT X) 201 0 [.ref x, ev_J, ev_J, ev_J, ev_J, ev_J] [] H n q P := by
  have h0 := hc.1
  unfold c_top at h0
  have ha0 := c_ask0 hc
  obtain ⟨ne, hk1, hn1, hH, hN⟩ := hc.2.2.1
  have ho : ∀ cc a, (a < x + 2 ∨ x + 8 ≤ a) → ev_up H (x + 2) cc a = H a := fun cc a ha => ev_up_n (by omega)
  have e := ev_ask_u0 (h := H) (a := x + 2) (ka := G.2.2.2.1.1) (de := G.2.2.2.1.2.1) (ne := ne) (hk := hk1) (hn := hn1) (c := G.2.2.2.1.2.2) (c' := 0)
  rw [← hH, nI_0] at e
  have hc1 := c_upA hc (s := (G.2.2.2.1.1, G.2.2.2.1.2.1, 0)) (ho _) ⟨ne, hk1, hn1, by rw [e]; exact ev_ask_ask.symm, okN_0⟩
  rw [e] at hc1
  have ho' : ∀ a, (a < x + 2 ∨ x + 8 ≤ a) → ev_ask H (x + 2) G.2.2.2.1.1 G.2.2.2.1.2.1 ne hk1 hn1 0 a = H a := fun a ha => ev_ask_o (by omega)
  have h01 : H x = _ := h0
  have hx2 : ¬ x = x + 2 := by omega
  simp (disch := omega) only [t_X5_forget_0, t_X5_forget_1, t_X5_forget_4, t_X5_forget_7, t_X5_forget_8, t_X5_forget_9, t_X5_forget_12, t_X5_forget_13, t_X5_forget_17, t_X5_forget_20, t_X5_forget_21, t_X5_forget_22, t_X5_forget_25, t_X5_forget_25_i, t_X5_forget_26, t_X5_forget_27, t_X5_forget_30, t_X5_forget_31, t_X5_forget_32, t_X5_forget_33, t_X5_forget_34, t_X5_forget_35, t_X5_forget_39, t_X5_forget_40, t_X5_forget_43, t_X5_forget_44, t_X5_forget_46, t_X5_forget_47, t_X5_forget_49, t_X5_forget_51, t_X5_forget_54, t_X5_forget_57, t_X5_forget_60, t_X5_forget_61, x_X5_forget_22, x_X5_forget_51, ↓reduceIte, ev_k_i, ev_k_r, ev_k_l, ev_k_J, ev_k_n, ev_kr_1, ev_kr_0, ev_isK_y, ev_aG_y, ev_aS_y, ev_aN_y, ev_inA_0, ev_isA_0, ev_ft_I, ev_ft_0, ev_ft_1, ev_ft_o, ev_ft_a, ev_nb_0, ev_nb_1, and_true, true_and, if_true, if_false, not_true_eq_false, not_false_eq_true, nI_1, ev_fG_0, ev_fG_1, ev_fG_2, ev_fG_3, ev_fG_4, ev_fG_5, ev_fG_6, ev_fG_7, ev_fG_8, ev_fS_0, ev_fS_1, ev_fS_2, ev_fS_3, ev_fS_4, ev_fS_5, ev_fS_6, ev_fS_7, ev_fS_8, ev_isO_0, ev_isO_1, ev_isO_2, ev_isO_3, ev_isO_4, ev_isO_5, ev_isO_6, ev_isO_7, ev_isO_8, ev_z0, ev_z1, ev_z2, eq_self, ev_ofN, ev_lk_s h0, ev_lk_s ha0, ha0]
  rw [e]
  generalize hH1 : ev_ask H (x + 2) G.2.2.2.1.1 G.2.2.2.1.2.1 ne hk1 hn1 0 = H1 at hc1 ho' ⊢
  have h31 := hc1.2.2.2.1
  have hr := ev_rL_k (X := X) h31
  have h02 := hc1.1
  unfold c_top at h02
  simp (disch := omega) only [t_X5_forget_0, t_X5_forget_1, t_X5_forget_4, t_X5_forget_7, t_X5_forget_8, t_X5_forget_9, t_X5_forget_12, t_X5_forget_13, t_X5_forget_16, t_X5_forget_17, t_X5_forget_20, t_X5_forget_21, t_X5_forget_22, t_X5_forget_25, t_X5_forget_25_i, t_X5_forget_26, t_X5_forget_27, t_X5_forget_30, t_X5_forget_31, t_X5_forget_32, t_X5_forget_33, t_X5_forget_34, t_X5_forget_35, t_X5_forget_39, t_X5_forget_40, t_X5_forget_43, t_X5_forget_44, t_X5_forget_46, t_X5_forget_47, t_X5_forget_49, t_X5_forget_51, t_X5_forget_54, t_X5_forget_57, t_X5_forget_60, t_X5_forget_61, x_X5_forget_22, x_X5_forget_51, ↓reduceIte, ev_k_i, ev_k_r, ev_k_l, ev_k_J, ev_k_n, ev_kr_1, ev_kr_0, ev_isK_y, ev_aG_y, ev_aS_y, ev_aN_y, ev_inA_0, ev_isA_0, ev_ft_I, ev_ft_0, ev_ft_1, ev_ft_o, ev_ft_a, ev_nb_0, ev_nb_1, and_true, true_and, if_true, if_false, not_true_eq_false, not_false_eq_true, nI_1, ev_fG_0, ev_fG_1, ev_fG_2, ev_fG_3, ev_fG_4, ev_fG_5, ev_fG_6, ev_fG_7, ev_fG_8, ev_fS_0, ev_fS_1, ev_fS_2, ev_fS_3, ev_fS_4, ev_fS_5, ev_fS_6, ev_fS_7, ev_fS_8, ev_isO_0, ev_isO_1, ev_isO_2, ev_isO_3, ev_isO_4, ev_isO_5, ev_isO_6, ev_isO_7, ev_isO_8, ev_z0, ev_z1, ev_z2, eq_self, ev_ofN, ev_lk_s h02, hr]
  refine R_renew h31 ev_isB_1 fun H2 hH2 => ?_
  have ho2 : ∀ a, (a < x + 8 ∨ x + 11 ≤ a) → H2 a = H1 a := fun a ha => ev_rL_o hH2 (by omega) (by omega) (by omega)
  have hc2 := c_upS hc1 ho2 (c_row_of hH2)
  have h03 := hc2.1
  obtain ⟨f, h4, h4b⟩ := hc2.2.2.2.2.1
  unfold c_top at h03
  have hL := C_fLoop (X := X) (x := x) (G := pg_F0 G) (n := n) (q := q) (P := P) (b := nI G.2.2.2.1.2.2) 6 0 ev_J H2 (by omega) (by rw [pg_F_0]; exact hc2) (fun j hj => okL_len (hG.2.2.1 j hj)) (fun H3 g1 g2 => c H3 g1 (fun a ha => (g2 a ha).trans ((ho2 a (by omega)).trans (ho' a (by omega)))))
  rw [nI_0] at hL
  simp (disch := omega) only [t_X5_forget_0, t_X5_forget_1, t_X5_forget_4, t_X5_forget_7, t_X5_forget_8, t_X5_forget_9, t_X5_forget_12, t_X5_forget_13, t_X5_forget_16, t_X5_forget_17, t_X5_forget_20, t_X5_forget_21, t_X5_forget_22, t_X5_forget_25, t_X5_forget_25_i, t_X5_forget_26, t_X5_forget_27, t_X5_forget_30, t_X5_forget_31, t_X5_forget_32, t_X5_forget_33, t_X5_forget_34, t_X5_forget_35, t_X5_forget_39, t_X5_forget_40, t_X5_forget_43, t_X5_forget_44, t_X5_forget_46, t_X5_forget_47, t_X5_forget_49, t_X5_forget_51, t_X5_forget_54, t_X5_forget_57, t_X5_forget_60, t_X5_forget_61, x_X5_forget_22, x_X5_forget_51, ↓reduceIte, ev_k_i, ev_k_r, ev_k_l, ev_k_J, ev_k_n, ev_kr_1, ev_kr_0, ev_isK_y, ev_aG_y, ev_aS_y, ev_aN_y, ev_inA_0, ev_isA_0, ev_ft_I, ev_ft_0, ev_ft_1, ev_ft_o, ev_ft_a, ev_nb_0, ev_nb_1, and_true, true_and, if_true, if_false, not_true_eq_false, not_false_eq_true, nI_1, ev_fG_0, ev_fG_1, ev_fG_2, ev_fG_3, ev_fG_4, ev_fG_5, ev_fG_6, ev_fG_7, ev_fG_8, ev_fS_0, ev_fS_1, ev_fS_2, ev_fS_3, ev_fS_4, ev_fS_5, ev_fS_6, ev_fS_7, ev_fS_8, ev_isO_0, ev_isO_1, ev_isO_2, ev_isO_3, ev_isO_4, ev_isO_5, ev_isO_6, ev_isO_7, ev_isO_8, ev_z0, ev_z1, ev_z2, eq_self, ev_ofN, ev_lk_s h03, ev_lk_s h4, ev_isA_4, show nI 6 = 6 from rfl]
  exact hL
end CF
end
section
/-! ===== the class: askRow ===== -/
noncomputable def pg_rowd (a st : Nat) : Nat → Nat → ev_CS → ev_CS
  | 0, _, G => G
  | d + 1, i, G => pg_rowd a st d (i + 1) (pg_ask G (nI ((a + i * st) % 20)))
noncomputable def pk_rowh (a st : Nat) : Nat → Nat → ev_CS → Int32 → Int32
  | 0, _, _, s => s
  | d + 1, i, G, s => pk_rowh a st d (i + 1) (pg_ask G (nI ((a + i * st) % 20))) (s + pk_hits G.2.2.1 (nI ((a + i * st) % 20)) (nI G.2.2.2.1.2.2) 6 0 0)
theorem okG_rowd {a st : Nat} : ∀ (d i : Nat) (G : ev_CS), okG G → G.2.2.2.1.2.2 + d ≤ 60 → okG (pg_rowd a st d i G) := by
  intro d
  induction d with
  | zero => intro i G h _; exact h
  | succ d ih =>
    intro i G h hc
    exact ih (i + 1) _ (okG_ask h (okL_key (Nat.mod_lt _ (by omega))) (by omega)) (by show G.2.2.2.1.2.2 + 1 + d ≤ 60; omega)
section CR2
variable {X : ev_E} {x : Nat} {n q : Nat} {P : ev_O → ev_M → Nat → Nat → Prop}
theorem C_rowLoop {a st mn : Nat} (ha : a < 20) (hs : st < 20) (hmn : mn ≤ 12) : ∀ (d i : Nat) (s : Int32) (G : ev_CS) (H : ev_M), i + d = mn → c_all x G H → okG G → G.2.2.2.1.2.2 + d ≤ 60 →
    (∀ H1, c_all x (pg_rowd a st d i G) H1 → c_fr x H H1 → P (.inl (some (.int (pk_rowh a st d i G s)))) H1 n q) → ev_ok (ev_TT X) 265 56 [.ref x, .int (nI a), .int (nI st), .int (nI mn), .int s, .int (nI i)] [] H n q P := by
  intro d
  induction d with
  | zero =>
    intro i s G H hi hc hG h60 c
    have hi2 : mn ≤ i := by omega
    simp (disch := omega) only [t_X5_askRow_0, t_X5_askRow_1, t_X5_askRow_4, t_X5_askRow_5, t_X5_askRow_8, t_X5_askRow_9, t_X5_askRow_11, t_X5_askRow_14, t_X5_askRow_24, t_X5_askRow_25, t_X5_askRow_26, t_X5_askRow_29, t_X5_askRow_30, t_X5_askRow_32, t_X5_askRow_35, t_X5_askRow_45, t_X5_askRow_46, t_X5_askRow_47, t_X5_askRow_50, t_X5_askRow_51, t_X5_askRow_53, t_X5_askRow_54, t_X5_askRow_56, t_X5_askRow_58, t_X5_askRow_59, t_X5_askRow_62, t_X5_askRow_64, t_X5_askRow_65, t_X5_askRow_66, t_X5_askRow_68, t_X5_askRow_69, t_X5_askRow_70, t_X5_askRow_71, t_X5_askRow_73, t_X5_askRow_74, t_X5_askRow_77, t_X5_askRow_78, t_X5_askRow_80, t_X5_askRow_83, t_X5_askRow_86, t_X5_askRow_88, x_X5_askRow_1, x_X5_askRow_47, x_X5_askRow_74, ↓reduceIte, ev_k_i, ev_k_r, ev_k_l, ev_k_J, ev_k_n, ev_kr_1, ev_kr_0, ev_isK_y, ev_aG_y, ev_aS_y, ev_aN_y, ev_inA_0, ev_isA_0, ev_ft_I, ev_ft_0, ev_ft_1, ev_ft_o, ev_ft_a, ev_nb_0, ev_nb_1, and_true, true_and, if_true, if_false, not_true_eq_false, not_false_eq_true, nI_1, ev_fG_0, ev_fG_1, ev_fG_2, ev_fG_3, ev_fG_4, ev_fG_5, ev_fG_6, ev_fG_7, ev_fG_8, ev_fS_0, ev_fS_1, ev_fS_2, ev_fS_3, ev_fS_4, ev_fS_5, ev_fS_6, ev_fS_7, ev_fS_8, ev_isO_0, ev_isO_1, ev_isO_2, ev_isO_3, ev_isO_4, ev_isO_5, ev_isO_6, ev_isO_7, ev_isO_8, ev_z0, ev_z1, ev_z2, eq_self, ev_ofN, nI_leI, hi2]
    exact c H hc (fun a _ => rfl)
  | succ d ih =>
    intro i s G H hi hc hG h60 c
    have hi2 : ¬ mn ≤ i := by omega
    have hk := c_all_k (X := X) hc
    have hm : i * st ≤ 12 * 20 := Nat.mul_le_mul (by omega) (by omega)
    have hrem : nI (a + i * st) - nI (a + i * st) / 20 * 20 = nI ((a + i * st) % 20) := pk_rem (d := 20) (by omega) (by omega) (by omega)
    have h20 : ¬ (20 : Int32) = 0 := by decide
    rw [t_X5_askRow_56]
    simp (disch := omega) only [t_X5_askRow_0, t_X5_askRow_1, t_X5_askRow_4, t_X5_askRow_5, t_X5_askRow_8, t_X5_askRow_9, t_X5_askRow_11, t_X5_askRow_14, t_X5_askRow_24, t_X5_askRow_25, t_X5_askRow_26, t_X5_askRow_29, t_X5_askRow_30, t_X5_askRow_32, t_X5_askRow_35, t_X5_askRow_45, t_X5_askRow_46, t_X5_askRow_47, t_X5_askRow_50, t_X5_askRow_51, t_X5_askRow_53, t_X5_askRow_54, t_X5_askRow_58, t_X5_askRow_59, t_X5_askRow_62, t_X5_askRow_64, t_X5_askRow_65, t_X5_askRow_66, t_X5_askRow_68, t_X5_askRow_69, t_X5_askRow_70, t_X5_askRow_71, t_X5_askRow_73, t_X5_askRow_74, t_X5_askRow_77, t_X5_askRow_78, t_X5_askRow_80, t_X5_askRow_83, t_X5_askRow_86, t_X5_askRow_88, x_X5_askRow_1, x_X5_askRow_47, x_X5_askRow_74, ↓reduceIte, ev_k_i, ev_k_r, ev_k_l, ev_k_J, ev_k_n, ev_kr_1, ev_kr_0, ev_isK_y, ev_aG_y, ev_aS_y, ev_aN_y, ev_inA_0, ev_isA_0, ev_ft_I, ev_ft_0, ev_ft_1, ev_ft_o, ev_ft_a, ev_nb_0, ev_nb_1, and_true, true_and, if_true, if_false, not_true_eq_false, not_false_eq_true, nI_1, ev_fG_0, ev_fG_1, ev_fG_2, ev_fG_3, ev_fG_4, ev_fG_5, ev_fG_6, ev_fG_7, ev_fG_8, ev_fS_0, ev_fS_1, ev_fS_2, ev_fS_3, ev_fS_4, ev_fS_5, ev_fS_6, ev_fS_7, ev_fS_8, ev_isO_0, ev_isO_1, ev_isO_2, ev_isO_3, ev_isO_4, ev_isO_5, ev_isO_6, ev_isO_7, ev_isO_8, ev_z0, ev_z1, ev_z2, eq_self, ev_ofN, nI_leI, hi2, pk_mul, nI_add, hrem, h20, hk]
    refine C_askOne hc hG (okL_key (Nat.mod_lt _ (by omega))) (by omega) fun H1 g1 g2 => ?_
    simp (disch := omega) only [t_X5_askRow_0, t_X5_askRow_1, t_X5_askRow_4, t_X5_askRow_5, t_X5_askRow_8, t_X5_askRow_9, t_X5_askRow_11, t_X5_askRow_14, t_X5_askRow_24, t_X5_askRow_25, t_X5_askRow_26, t_X5_askRow_29, t_X5_askRow_30, t_X5_askRow_32, t_X5_askRow_35, t_X5_askRow_45, t_X5_askRow_46, t_X5_askRow_47, t_X5_askRow_50, t_X5_askRow_51, t_X5_askRow_53, t_X5_askRow_54, t_X5_askRow_58, t_X5_askRow_59, t_X5_askRow_62, t_X5_askRow_64, t_X5_askRow_65, t_X5_askRow_66, t_X5_askRow_68, t_X5_askRow_69, t_X5_askRow_70, t_X5_askRow_71, t_X5_askRow_73, t_X5_askRow_74, t_X5_askRow_77, t_X5_askRow_78, t_X5_askRow_80, t_X5_askRow_83, t_X5_askRow_86, t_X5_askRow_88, x_X5_askRow_1, x_X5_askRow_47, x_X5_askRow_74, ↓reduceIte, ev_k_i, ev_k_r, ev_k_l, ev_k_J, ev_k_n, ev_kr_1, ev_kr_0, ev_isK_y, ev_aG_y, ev_aS_y, ev_aN_y, ev_inA_0, ev_isA_0, ev_ft_I, ev_ft_0, ev_ft_1, ev_ft_o, ev_ft_a, ev_nb_0, ev_nb_1, and_true, true_and, if_true, if_false, not_true_eq_false, not_false_eq_true, nI_1, ev_fG_0, ev_fG_1, ev_fG_2, ev_fG_3, ev_fG_4, ev_fG_5, ev_fG_6, ev_fG_7, ev_fG_8, ev_fS_0, ev_fS_1, ev_fS_2, ev_fS_3, ev_fS_4, ev_fS_5, ev_fS_6, ev_fS_7, ev_fS_8, ev_isO_0, ev_isO_1, ev_isO_2, ev_isO_3, ev_isO_4, ev_isO_5, ev_isO_6, ev_isO_7, ev_isO_8, ev_z0, ev_z1, ev_z2, eq_self, ev_ofN]
    exact ih (i + 1) _ _ H1 (by omega) g1 (okG_ask hG (okL_key (Nat.mod_lt _ (by omega))) (by omega)) (by show G.2.2.2.1.2.2 + 1 + d ≤ 60; omega) (fun H2 h1 h2 => c H2 h1 (fun a ha => (h2 a ha).trans (g2 a ha)))
end CR2
end
section
/-! ===== the class: askRow whole ===== -/
section CR3
variable {X : ev_E} {x : Nat} {G : ev_CS} {H : ev_M} {n q : Nat} {P : ev_O → ev_M → Nat → Nat → Prop}
theorem ev_mn (v : Int32) : (v < 1 ∨ 12 < v) ∨ ∃ j, j < 12 ∧ v = nI (j + 1) := by
  rcases pk_ix v (n := 13) (by omega) with h | h | ⟨j, hj, rfl⟩
  · exact Or.inl (Or.inl (Int32.lt_of_lt_of_le h (by decide)))
  · exact Or.inl (Or.inr (Int32.lt_of_lt_of_le (show (12 : Int32) < nI 13 by decide) h))
  · by_cases h0 : j = 0
    · subst h0
      exact Or.inl (Or.inl (by decide))
    · exact Or.inr ⟨j - 1, by omega, by rw [show j - 1 + 1 = j by omega]⟩
theorem C_askRow (hc : c_all x G H) (hG : okG G) {f st mn : Int32} (k1 : ((f < 0 ∨ nI 20 ≤ f) ∨ (st < 0 ∨ nI 20 ≤ st) ∨ (mn < 1 ∨ 12 < mn)) → P (.inr 1) H (n + 1) (q + 6))
    (k2 : ∀ a b c, a < 20 → f = nI a → b < 20 → st = nI b → c < 12 → mn = nI (c + 1) → 60 < G.2.2.2.1.2.2 + (c + 1) → P (.inr 2) H (n + 1) (q + 6))
    (k3 : ∀ a b c, a < 20 → f = nI a → b < 20 → st = nI b → c < 12 → mn = nI (c + 1) → G.2.2.2.1.2.2 + (c + 1) ≤ 60 → ∀ H1, c_all x (pg_rowd a b (c + 1) 0 G) H1 → c_fr x H H1 → P (.inl (some (.int (pk_rowh a b (c + 1) 0 G 0)))) H1 n q) : ev_ok (ev_TT X) 265 0 [.ref x, .int f, .int st, .int mn, ev_J, ev_J] [] H n q P := by
  have hk := c_all_k (X := X) hc
  rcases pk_ix f (n := 20) (by omega) with h | h | ⟨a, ha, rfl⟩
  · simp (disch := omega) only [t_X5_askRow_0, t_X5_askRow_1, t_X5_askRow_4, t_X5_askRow_5, t_X5_askRow_8, t_X5_askRow_9, t_X5_askRow_11, t_X5_askRow_14, t_X5_askRow_24, t_X5_askRow_25, t_X5_askRow_26, t_X5_askRow_29, t_X5_askRow_30, t_X5_askRow_32, t_X5_askRow_35, t_X5_askRow_45, t_X5_askRow_46, t_X5_askRow_47, t_X5_askRow_50, t_X5_askRow_51, t_X5_askRow_53, t_X5_askRow_54, t_X5_askRow_58, t_X5_askRow_59, t_X5_askRow_62, t_X5_askRow_64, t_X5_askRow_65, t_X5_askRow_66, t_X5_askRow_68, t_X5_askRow_69, t_X5_askRow_70, t_X5_askRow_71, t_X5_askRow_73, t_X5_askRow_74, t_X5_askRow_77, t_X5_askRow_78, t_X5_askRow_80, t_X5_askRow_83, t_X5_askRow_86, t_X5_askRow_88, x_X5_askRow_1, x_X5_askRow_47, x_X5_askRow_74, ↓reduceIte, ev_k_i, ev_k_r, ev_k_l, ev_k_J, ev_k_n, ev_kr_1, ev_kr_0, ev_isK_y, ev_aG_y, ev_aS_y, ev_aN_y, ev_inA_0, ev_isA_0, ev_ft_I, ev_ft_0, ev_ft_1, ev_ft_o, ev_ft_a, ev_nb_0, ev_nb_1, and_true, true_and, if_true, if_false, not_true_eq_false, not_false_eq_true, nI_1, ev_fG_0, ev_fG_1, ev_fG_2, ev_fG_3, ev_fG_4, ev_fG_5, ev_fG_6, ev_fG_7, ev_fG_8, ev_fS_0, ev_fS_1, ev_fS_2, ev_fS_3, ev_fS_4, ev_fS_5, ev_fS_6, ev_fS_7, ev_fS_8, ev_isO_0, ev_isO_1, ev_isO_2, ev_isO_3, ev_isO_4, ev_isO_5, ev_isO_6, ev_isO_7, ev_isO_8, ev_z0, ev_z1, ev_z2, eq_self, ev_ofN, hk, C_dKey_n (Or.inl h)]
    exact k1 (Or.inl (Or.inl h))
  · simp (disch := omega) only [t_X5_askRow_0, t_X5_askRow_1, t_X5_askRow_4, t_X5_askRow_5, t_X5_askRow_8, t_X5_askRow_9, t_X5_askRow_11, t_X5_askRow_14, t_X5_askRow_24, t_X5_askRow_25, t_X5_askRow_26, t_X5_askRow_29, t_X5_askRow_30, t_X5_askRow_32, t_X5_askRow_35, t_X5_askRow_45, t_X5_askRow_46, t_X5_askRow_47, t_X5_askRow_50, t_X5_askRow_51, t_X5_askRow_53, t_X5_askRow_54, t_X5_askRow_58, t_X5_askRow_59, t_X5_askRow_62, t_X5_askRow_64, t_X5_askRow_65, t_X5_askRow_66, t_X5_askRow_68, t_X5_askRow_69, t_X5_askRow_70, t_X5_askRow_71, t_X5_askRow_73, t_X5_askRow_74, t_X5_askRow_77, t_X5_askRow_78, t_X5_askRow_80, t_X5_askRow_83, t_X5_askRow_86, t_X5_askRow_88, x_X5_askRow_1, x_X5_askRow_47, x_X5_askRow_74, ↓reduceIte, ev_k_i, ev_k_r, ev_k_l, ev_k_J, ev_k_n, ev_kr_1, ev_kr_0, ev_isK_y, ev_aG_y, ev_aS_y, ev_aN_y, ev_inA_0, ev_isA_0, ev_ft_I, ev_ft_0, ev_ft_1, ev_ft_o, ev_ft_a, ev_nb_0, ev_nb_1, and_true, true_and, if_true, if_false, not_true_eq_false, not_false_eq_true, nI_1, ev_fG_0, ev_fG_1, ev_fG_2, ev_fG_3, ev_fG_4, ev_fG_5, ev_fG_6, ev_fG_7, ev_fG_8, ev_fS_0, ev_fS_1, ev_fS_2, ev_fS_3, ev_fS_4, ev_fS_5, ev_fS_6, ev_fS_7, ev_fS_8, ev_isO_0, ev_isO_1, ev_isO_2, ev_isO_3, ev_isO_4, ev_isO_5, ev_isO_6, ev_isO_7, ev_isO_8, ev_z0, ev_z1, ev_z2, eq_self, ev_ofN, hk, C_dKey_n (Or.inr h)]
    exact k1 (Or.inl (Or.inr h))
  · rcases pk_ix st (n := 20) (by omega) with h | h | ⟨b, hb, rfl⟩
    · simp (disch := omega) only [t_X5_askRow_0, t_X5_askRow_1, t_X5_askRow_4, t_X5_askRow_5, t_X5_askRow_8, t_X5_askRow_9, t_X5_askRow_11, t_X5_askRow_14, t_X5_askRow_24, t_X5_askRow_25, t_X5_askRow_26, t_X5_askRow_29, t_X5_askRow_30, t_X5_askRow_32, t_X5_askRow_35, t_X5_askRow_45, t_X5_askRow_46, t_X5_askRow_47, t_X5_askRow_50, t_X5_askRow_51, t_X5_askRow_53, t_X5_askRow_54, t_X5_askRow_58, t_X5_askRow_59, t_X5_askRow_62, t_X5_askRow_64, t_X5_askRow_65, t_X5_askRow_66, t_X5_askRow_68, t_X5_askRow_69, t_X5_askRow_70, t_X5_askRow_71, t_X5_askRow_73, t_X5_askRow_74, t_X5_askRow_77, t_X5_askRow_78, t_X5_askRow_80, t_X5_askRow_83, t_X5_askRow_86, t_X5_askRow_88, x_X5_askRow_1, x_X5_askRow_47, x_X5_askRow_74, ↓reduceIte, ev_k_i, ev_k_r, ev_k_l, ev_k_J, ev_k_n, ev_kr_1, ev_kr_0, ev_isK_y, ev_aG_y, ev_aS_y, ev_aN_y, ev_inA_0, ev_isA_0, ev_ft_I, ev_ft_0, ev_ft_1, ev_ft_o, ev_ft_a, ev_nb_0, ev_nb_1, and_true, true_and, if_true, if_false, not_true_eq_false, not_false_eq_true, nI_1, ev_fG_0, ev_fG_1, ev_fG_2, ev_fG_3, ev_fG_4, ev_fG_5, ev_fG_6, ev_fG_7, ev_fG_8, ev_fS_0, ev_fS_1, ev_fS_2, ev_fS_3, ev_fS_4, ev_fS_5, ev_fS_6, ev_fS_7, ev_fS_8, ev_isO_0, ev_isO_1, ev_isO_2, ev_isO_3, ev_isO_4, ev_isO_5, ev_isO_6, ev_isO_7, ev_isO_8, ev_z0, ev_z1, ev_z2, eq_self, ev_ofN, hk, C_dKey_y ha, h]
      exact k1 (Or.inr (Or.inl (Or.inl h)))
    · have h0 : ¬ st < 0 := fun z => Int32.not_le.mpr z (Int32.le_trans (by decide) h)
      have h1 : ¬ st < 20 := Int32.not_lt.mpr h
      simp (disch := omega) only [t_X5_askRow_0, t_X5_askRow_1, t_X5_askRow_4, t_X5_askRow_5, t_X5_askRow_8, t_X5_askRow_9, t_X5_askRow_11, t_X5_askRow_14, t_X5_askRow_24, t_X5_askRow_25, t_X5_askRow_26, t_X5_askRow_29, t_X5_askRow_30, t_X5_askRow_32, t_X5_askRow_35, t_X5_askRow_45, t_X5_askRow_46, t_X5_askRow_47, t_X5_askRow_50, t_X5_askRow_51, t_X5_askRow_53, t_X5_askRow_54, t_X5_askRow_58, t_X5_askRow_59, t_X5_askRow_62, t_X5_askRow_64, t_X5_askRow_65, t_X5_askRow_66, t_X5_askRow_68, t_X5_askRow_69, t_X5_askRow_70, t_X5_askRow_71, t_X5_askRow_73, t_X5_askRow_74, t_X5_askRow_77, t_X5_askRow_78, t_X5_askRow_80, t_X5_askRow_83, t_X5_askRow_86, t_X5_askRow_88, x_X5_askRow_1, x_X5_askRow_47, x_X5_askRow_74, ↓reduceIte, ev_k_i, ev_k_r, ev_k_l, ev_k_J, ev_k_n, ev_kr_1, ev_kr_0, ev_isK_y, ev_aG_y, ev_aS_y, ev_aN_y, ev_inA_0, ev_isA_0, ev_ft_I, ev_ft_0, ev_ft_1, ev_ft_o, ev_ft_a, ev_nb_0, ev_nb_1, and_true, true_and, if_true, if_false, not_true_eq_false, not_false_eq_true, nI_1, ev_fG_0, ev_fG_1, ev_fG_2, ev_fG_3, ev_fG_4, ev_fG_5, ev_fG_6, ev_fG_7, ev_fG_8, ev_fS_0, ev_fS_1, ev_fS_2, ev_fS_3, ev_fS_4, ev_fS_5, ev_fS_6, ev_fS_7, ev_fS_8, ev_isO_0, ev_isO_1, ev_isO_2, ev_isO_3, ev_isO_4, ev_isO_5, ev_isO_6, ev_isO_7, ev_isO_8, ev_z0, ev_z1, ev_z2, eq_self, ev_ofN, hk, C_dKey_y ha, h0, h1]
      exact k1 (Or.inr (Or.inl (Or.inr h)))
    · have hb0 := nI_pos (n := b) (by omega)
      have hb1 : nI b < 20 := nI_lt (b := 20) hb (by omega)
      rcases ev_mn mn with h | ⟨c, hc12, rfl⟩
      · by_cases h0 : mn < 1
        · simp (disch := omega) only [t_X5_askRow_0, t_X5_askRow_1, t_X5_askRow_4, t_X5_askRow_5, t_X5_askRow_8, t_X5_askRow_9, t_X5_askRow_11, t_X5_askRow_14, t_X5_askRow_24, t_X5_askRow_25, t_X5_askRow_26, t_X5_askRow_29, t_X5_askRow_30, t_X5_askRow_32, t_X5_askRow_35, t_X5_askRow_45, t_X5_askRow_46, t_X5_askRow_47, t_X5_askRow_50, t_X5_askRow_51, t_X5_askRow_53, t_X5_askRow_54, t_X5_askRow_58, t_X5_askRow_59, t_X5_askRow_62, t_X5_askRow_64, t_X5_askRow_65, t_X5_askRow_66, t_X5_askRow_68, t_X5_askRow_69, t_X5_askRow_70, t_X5_askRow_71, t_X5_askRow_73, t_X5_askRow_74, t_X5_askRow_77, t_X5_askRow_78, t_X5_askRow_80, t_X5_askRow_83, t_X5_askRow_86, t_X5_askRow_88, x_X5_askRow_1, x_X5_askRow_47, x_X5_askRow_74, ↓reduceIte, ev_k_i, ev_k_r, ev_k_l, ev_k_J, ev_k_n, ev_kr_1, ev_kr_0, ev_isK_y, ev_aG_y, ev_aS_y, ev_aN_y, ev_inA_0, ev_isA_0, ev_ft_I, ev_ft_0, ev_ft_1, ev_ft_o, ev_ft_a, ev_nb_0, ev_nb_1, and_true, true_and, if_true, if_false, not_true_eq_false, not_false_eq_true, nI_1, ev_fG_0, ev_fG_1, ev_fG_2, ev_fG_3, ev_fG_4, ev_fG_5, ev_fG_6, ev_fG_7, ev_fG_8, ev_fS_0, ev_fS_1, ev_fS_2, ev_fS_3, ev_fS_4, ev_fS_5, ev_fS_6, ev_fS_7, ev_fS_8, ev_isO_0, ev_isO_1, ev_isO_2, ev_isO_3, ev_isO_4, ev_isO_5, ev_isO_6, ev_isO_7, ev_isO_8, ev_z0, ev_z1, ev_z2, eq_self, ev_ofN, hk, C_dKey_y ha, hb0, hb1, h0]
          exact k1 (Or.inr (Or.inr h))
        · have h1 : ¬ mn ≤ 12 := Int32.not_le.mpr (h.resolve_left h0)
          simp (disch := omega) only [t_X5_askRow_0, t_X5_askRow_1, t_X5_askRow_4, t_X5_askRow_5, t_X5_askRow_8, t_X5_askRow_9, t_X5_askRow_11, t_X5_askRow_14, t_X5_askRow_24, t_X5_askRow_25, t_X5_askRow_26, t_X5_askRow_29, t_X5_askRow_30, t_X5_askRow_32, t_X5_askRow_35, t_X5_askRow_45, t_X5_askRow_46, t_X5_askRow_47, t_X5_askRow_50, t_X5_askRow_51, t_X5_askRow_53, t_X5_askRow_54, t_X5_askRow_58, t_X5_askRow_59, t_X5_askRow_62, t_X5_askRow_64, t_X5_askRow_65, t_X5_askRow_66, t_X5_askRow_68, t_X5_askRow_69, t_X5_askRow_70, t_X5_askRow_71, t_X5_askRow_73, t_X5_askRow_74, t_X5_askRow_77, t_X5_askRow_78, t_X5_askRow_80, t_X5_askRow_83, t_X5_askRow_86, t_X5_askRow_88, x_X5_askRow_1, x_X5_askRow_47, x_X5_askRow_74, ↓reduceIte, ev_k_i, ev_k_r, ev_k_l, ev_k_J, ev_k_n, ev_kr_1, ev_kr_0, ev_isK_y, ev_aG_y, ev_aS_y, ev_aN_y, ev_inA_0, ev_isA_0, ev_ft_I, ev_ft_0, ev_ft_1, ev_ft_o, ev_ft_a, ev_nb_0, ev_nb_1, and_true, true_and, if_true, if_false, not_true_eq_false, not_false_eq_true, nI_1, ev_fG_0, ev_fG_1, ev_fG_2, ev_fG_3, ev_fG_4, ev_fG_5, ev_fG_6, ev_fG_7, ev_fG_8, ev_fS_0, ev_fS_1, ev_fS_2, ev_fS_3, ev_fS_4, ev_fS_5, ev_fS_6, ev_fS_7, ev_fS_8, ev_isO_0, ev_isO_1, ev_isO_2, ev_isO_3, ev_isO_4, ev_isO_5, ev_isO_6, ev_isO_7, ev_isO_8, ev_z0, ev_z1, ev_z2, eq_self, ev_ofN, hk, C_dKey_y ha, hb0, hb1, h0, h1]
          exact k1 (Or.inr (Or.inr h))
      · have hc0 : ¬ nI (c + 1) < 1 := nI_nlt (b := 1) (by omega) (by omega)
        have hc1 : nI (c + 1) ≤ 12 := nI_le (b := 12) (by omega) (by omega)
        by_cases hf : G.2.2.2.1.2.2 + (c + 1) ≤ 60
        · simp (disch := omega) only [t_X5_askRow_0, t_X5_askRow_1, t_X5_askRow_4, t_X5_askRow_5, t_X5_askRow_8, t_X5_askRow_9, t_X5_askRow_11, t_X5_askRow_14, t_X5_askRow_24, t_X5_askRow_25, t_X5_askRow_26, t_X5_askRow_29, t_X5_askRow_30, t_X5_askRow_32, t_X5_askRow_35, t_X5_askRow_45, t_X5_askRow_46, t_X5_askRow_47, t_X5_askRow_50, t_X5_askRow_51, t_X5_askRow_53, t_X5_askRow_54, t_X5_askRow_58, t_X5_askRow_59, t_X5_askRow_62, t_X5_askRow_64, t_X5_askRow_65, t_X5_askRow_66, t_X5_askRow_68, t_X5_askRow_69, t_X5_askRow_70, t_X5_askRow_71, t_X5_askRow_73, t_X5_askRow_74, t_X5_askRow_77, t_X5_askRow_78, t_X5_askRow_80, t_X5_askRow_83, t_X5_askRow_86, t_X5_askRow_88, x_X5_askRow_1, x_X5_askRow_47, x_X5_askRow_74, ↓reduceIte, ev_k_i, ev_k_r, ev_k_l, ev_k_J, ev_k_n, ev_kr_1, ev_kr_0, ev_isK_y, ev_aG_y, ev_aS_y, ev_aN_y, ev_inA_0, ev_isA_0, ev_ft_I, ev_ft_0, ev_ft_1, ev_ft_o, ev_ft_a, ev_nb_0, ev_nb_1, and_true, true_and, if_true, if_false, not_true_eq_false, not_false_eq_true, nI_1, ev_fG_0, ev_fG_1, ev_fG_2, ev_fG_3, ev_fG_4, ev_fG_5, ev_fG_6, ev_fG_7, ev_fG_8, ev_fS_0, ev_fS_1, ev_fS_2, ev_fS_3, ev_fS_4, ev_fS_5, ev_fS_6, ev_fS_7, ev_fS_8, ev_isO_0, ev_isO_1, ev_isO_2, ev_isO_3, ev_isO_4, ev_isO_5, ev_isO_6, ev_isO_7, ev_isO_8, ev_z0, ev_z1, ev_z2, eq_self, ev_ofN, hk, C_dKey_y ha, hb0, hb1, hc0, hc1, C_room_y hc hf]
          have hL := C_rowLoop (X := X) (x := x) (n := n) (q := q) (P := P) ha hb (show c + 1 ≤ 12 by omega) (c + 1) 0 0 G H (by omega) hc hG hf (k3 a b c ha rfl hb rfl hc12 rfl hf)
          rw [nI_0] at hL
          exact hL
        · simp (disch := omega) only [t_X5_askRow_0, t_X5_askRow_1, t_X5_askRow_4, t_X5_askRow_5, t_X5_askRow_8, t_X5_askRow_9, t_X5_askRow_11, t_X5_askRow_14, t_X5_askRow_24, t_X5_askRow_25, t_X5_askRow_26, t_X5_askRow_29, t_X5_askRow_30, t_X5_askRow_32, t_X5_askRow_35, t_X5_askRow_45, t_X5_askRow_46, t_X5_askRow_47, t_X5_askRow_50, t_X5_askRow_51, t_X5_askRow_53, t_X5_askRow_54, t_X5_askRow_58, t_X5_askRow_59, t_X5_askRow_62, t_X5_askRow_64, t_X5_askRow_65, t_X5_askRow_66, t_X5_askRow_68, t_X5_askRow_69, t_X5_askRow_70, t_X5_askRow_71, t_X5_askRow_73, t_X5_askRow_74, t_X5_askRow_77, t_X5_askRow_78, t_X5_askRow_80, t_X5_askRow_83, t_X5_askRow_86, t_X5_askRow_88, x_X5_askRow_1, x_X5_askRow_47, x_X5_askRow_74, ↓reduceIte, ev_k_i, ev_k_r, ev_k_l, ev_k_J, ev_k_n, ev_kr_1, ev_kr_0, ev_isK_y, ev_aG_y, ev_aS_y, ev_aN_y, ev_inA_0, ev_isA_0, ev_ft_I, ev_ft_0, ev_ft_1, ev_ft_o, ev_ft_a, ev_nb_0, ev_nb_1, and_true, true_and, if_true, if_false, not_true_eq_false, not_false_eq_true, nI_1, ev_fG_0, ev_fG_1, ev_fG_2, ev_fG_3, ev_fG_4, ev_fG_5, ev_fG_6, ev_fG_7, ev_fG_8, ev_fS_0, ev_fS_1, ev_fS_2, ev_fS_3, ev_fS_4, ev_fS_5, ev_fS_6, ev_fS_7, ev_fS_8, ev_isO_0, ev_isO_1, ev_isO_2, ev_isO_3, ev_isO_4, ev_isO_5, ev_isO_6, ev_isO_7, ev_isO_8, ev_z0, ev_z1, ev_z2, eq_self, ev_ofN, hk, C_dKey_y ha, hb0, hb1, hc0, hc1, C_room_n hc hG (show 60 < G.2.2.2.1.2.2 + (c + 1) by omega) (show c + 1 ≤ 100 by omega)]
          exact k2 a b c ha rfl hb rfl hc12 rfl (by omega)
end CR3
end
section
/-! ===== the class: askedAt, depthAt ===== -/
section CU
variable {X : ev_E} {x : Nat} {G : ev_CS} {H : ev_M} {n q : Nat} {P : ev_O → ev_M → Nat → Nat → Prop}
theorem C_askedAt (hc : c_all x G H) (hG : okG G) {p : Int32} (k0 : ¬ (0 ≤ p ∧ p < nI G.2.2.2.1.2.2) → P (.inl (some (.int (-1)))) H n q) (k1 : ∀ j, j < G.2.2.2.1.2.2 → p = nI j → P (.inl (some (.int (G.2.2.2.1.1 j)))) H n q) : ev_ok (ev_TT X) 101 0 [.ref x, .int p] [] H n q P := by
  have h0 := hc.1
  unfold c_top at h0
  have ha0 := c_ask0 hc
  have ha1 := c_ask1 hc
  have h6 := hG.2.2.2
  have hak : ev_isK (ev_lk X H (x + 2)) 5 = True := by rw [ev_lk_s ha0]; exact ev_isK_y
  obtain ⟨ne, hk1, hn1, hH, hN⟩ := hc.2.2.1
  simp (disch := omega) only [t_X5_askedAt_0, t_X5_askedAt_1, t_X5_askedAt_4, t_X5_askedAt_5, t_X5_askedAt_8, t_X5_askedAt_11, t_X5_askedAt_12, t_X5_askedAt_15, t_X5_askedAt_18, t_X5_askedAt_19, t_X5_askedAt_20, t_X5_askedAt_23, t_X5_askedAt_24, x_X5_askedAt_5, ↓reduceIte, ev_k_i, ev_k_r, ev_k_l, ev_k_J, ev_k_n, ev_kr_1, ev_kr_0, ev_isK_y, ev_aG_y, ev_aS_y, ev_aN_y, ev_inA_0, ev_isA_0, ev_ft_I, ev_ft_0, ev_ft_1, ev_ft_o, ev_ft_a, ev_nb_0, ev_nb_1, and_true, true_and, if_true, if_false, not_true_eq_false, not_false_eq_true, nI_1, ev_fG_0, ev_fG_1, ev_fG_2, ev_fG_3, ev_fG_4, ev_fG_5, ev_fG_6, ev_fG_7, ev_fG_8, ev_fS_0, ev_fS_1, ev_fS_2, ev_fS_3, ev_fS_4, ev_fS_5, ev_fS_6, ev_fS_7, ev_fS_8, ev_isO_0, ev_isO_1, ev_isO_2, ev_isO_3, ev_isO_4, ev_isO_5, ev_isO_6, ev_isO_7, ev_isO_8, ev_z0, ev_z1, ev_z2, eq_self, ev_ofN, ev_lk_s h0, hak]
  rw [hH]
  refine A_isNum h6 ?_
  rw [← hH]
  unfold ev_b
  by_cases e : 0 ≤ p ∧ p < nI G.2.2.2.1.2.2
  · rw [if_pos e]
    obtain ⟨j, hj, rfl⟩ := (ev_pl (by omega)).mp e
    have hp := nI_pos' (n := j) (by omega)
    have h60 : j < 60 := by omega
    simp (disch := omega) only [t_X5_askedAt_0, t_X5_askedAt_1, t_X5_askedAt_4, t_X5_askedAt_5, t_X5_askedAt_8, t_X5_askedAt_11, t_X5_askedAt_12, t_X5_askedAt_15, t_X5_askedAt_18, t_X5_askedAt_19, t_X5_askedAt_20, t_X5_askedAt_23, t_X5_askedAt_24, x_X5_askedAt_5, ↓reduceIte, ev_k_i, ev_k_r, ev_k_l, ev_k_J, ev_k_n, ev_kr_1, ev_kr_0, ev_isK_y, ev_aG_y, ev_aS_y, ev_aN_y, ev_inA_0, ev_isA_0, ev_ft_I, ev_ft_0, ev_ft_1, ev_ft_o, ev_ft_a, ev_nb_0, ev_nb_1, and_true, true_and, if_true, if_false, not_true_eq_false, not_false_eq_true, nI_1, ev_fG_0, ev_fG_1, ev_fG_2, ev_fG_3, ev_fG_4, ev_fG_5, ev_fG_6, ev_fG_7, ev_fG_8, ev_fS_0, ev_fS_1, ev_fS_2, ev_fS_3, ev_fS_4, ev_fS_5, ev_fS_6, ev_fS_7, ev_fS_8, ev_isO_0, ev_isO_1, ev_isO_2, ev_isO_3, ev_isO_4, ev_isO_5, ev_isO_6, ev_isO_7, ev_isO_8, ev_z0, ev_z1, ev_z2, eq_self, ev_ofN, ev_lk_s h0, ev_lk_s ha0, ev_lk_s ha1, nI_clamp, hp, h60]
    exact k1 j hj rfl
  · rw [if_neg e]
    simp (disch := omega) only [t_X5_askedAt_0, t_X5_askedAt_1, t_X5_askedAt_4, t_X5_askedAt_5, t_X5_askedAt_8, t_X5_askedAt_11, t_X5_askedAt_12, t_X5_askedAt_15, t_X5_askedAt_18, t_X5_askedAt_19, t_X5_askedAt_20, t_X5_askedAt_23, t_X5_askedAt_24, x_X5_askedAt_5, ↓reduceIte, ev_k_i, ev_k_r, ev_k_l, ev_k_J, ev_k_n, ev_kr_1, ev_kr_0, ev_isK_y, ev_aG_y, ev_aS_y, ev_aN_y, ev_inA_0, ev_isA_0, ev_ft_I, ev_ft_0, ev_ft_1, ev_ft_o, ev_ft_a, ev_nb_0, ev_nb_1, and_true, true_and, if_true, if_false, not_true_eq_false, not_false_eq_true, nI_1, ev_fG_0, ev_fG_1, ev_fG_2, ev_fG_3, ev_fG_4, ev_fG_5, ev_fG_6, ev_fG_7, ev_fG_8, ev_fS_0, ev_fS_1, ev_fS_2, ev_fS_3, ev_fS_4, ev_fS_5, ev_fS_6, ev_fS_7, ev_fS_8, ev_isO_0, ev_isO_1, ev_isO_2, ev_isO_3, ev_isO_4, ev_isO_5, ev_isO_6, ev_isO_7, ev_isO_8, ev_z0, ev_z1, ev_z2, eq_self, ev_ofN]
    exact k0 e
theorem C_depthAt (hc : c_all x G H) (hG : okG G) {p : Int32} (k0 : ¬ (0 ≤ p ∧ p < nI G.2.2.2.1.2.2) → P (.inl (some (.int (-1)))) H n q) (k1 : ∀ j, j < G.2.2.2.1.2.2 → p = nI j → P (.inl (some (.int (G.2.2.2.1.2.1 j)))) H n q) : ev_ok (ev_TT X) 103 0 [.ref x, .int p] [] H n q P := by
  have h0 := hc.1
  unfold c_top at h0
  have ha0 := c_ask0 hc
  have ha1 := c_ask2 hc
  have h6 := hG.2.2.2
  have hak : ev_isK (ev_lk X H (x + 2)) 5 = True := by rw [ev_lk_s ha0]; exact ev_isK_y
  obtain ⟨ne, hk1, hn1, hH, hN⟩ := hc.2.2.1
  simp (disch := omega) only [t_X5_depthAt_0, t_X5_depthAt_1, t_X5_depthAt_4, t_X5_depthAt_5, t_X5_depthAt_8, t_X5_depthAt_11, t_X5_depthAt_12, t_X5_depthAt_15, t_X5_depthAt_18, t_X5_depthAt_19, t_X5_depthAt_20, t_X5_depthAt_23, t_X5_depthAt_24, x_X5_depthAt_5, ↓reduceIte, ev_k_i, ev_k_r, ev_k_l, ev_k_J, ev_k_n, ev_kr_1, ev_kr_0, ev_isK_y, ev_aG_y, ev_aS_y, ev_aN_y, ev_inA_0, ev_isA_0, ev_ft_I, ev_ft_0, ev_ft_1, ev_ft_o, ev_ft_a, ev_nb_0, ev_nb_1, and_true, true_and, if_true, if_false, not_true_eq_false, not_false_eq_true, nI_1, ev_fG_0, ev_fG_1, ev_fG_2, ev_fG_3, ev_fG_4, ev_fG_5, ev_fG_6, ev_fG_7, ev_fG_8, ev_fS_0, ev_fS_1, ev_fS_2, ev_fS_3, ev_fS_4, ev_fS_5, ev_fS_6, ev_fS_7, ev_fS_8, ev_isO_0, ev_isO_1, ev_isO_2, ev_isO_3, ev_isO_4, ev_isO_5, ev_isO_6, ev_isO_7, ev_isO_8, ev_z0, ev_z1, ev_z2, eq_self, ev_ofN, ev_lk_s h0, hak]
  rw [hH]
  refine A_isNum h6 ?_
  rw [← hH]
  unfold ev_b
  by_cases e : 0 ≤ p ∧ p < nI G.2.2.2.1.2.2
  · rw [if_pos e]
    obtain ⟨j, hj, rfl⟩ := (ev_pl (by omega)).mp e
    have hp := nI_pos' (n := j) (by omega)
    have h60 : j < 60 := by omega
    simp (disch := omega) only [t_X5_depthAt_0, t_X5_depthAt_1, t_X5_depthAt_4, t_X5_depthAt_5, t_X5_depthAt_8, t_X5_depthAt_11, t_X5_depthAt_12, t_X5_depthAt_15, t_X5_depthAt_18, t_X5_depthAt_19, t_X5_depthAt_20, t_X5_depthAt_23, t_X5_depthAt_24, x_X5_depthAt_5, ↓reduceIte, ev_k_i, ev_k_r, ev_k_l, ev_k_J, ev_k_n, ev_kr_1, ev_kr_0, ev_isK_y, ev_aG_y, ev_aS_y, ev_aN_y, ev_inA_0, ev_isA_0, ev_ft_I, ev_ft_0, ev_ft_1, ev_ft_o, ev_ft_a, ev_nb_0, ev_nb_1, and_true, true_and, if_true, if_false, not_true_eq_false, not_false_eq_true, nI_1, ev_fG_0, ev_fG_1, ev_fG_2, ev_fG_3, ev_fG_4, ev_fG_5, ev_fG_6, ev_fG_7, ev_fG_8, ev_fS_0, ev_fS_1, ev_fS_2, ev_fS_3, ev_fS_4, ev_fS_5, ev_fS_6, ev_fS_7, ev_fS_8, ev_isO_0, ev_isO_1, ev_isO_2, ev_isO_3, ev_isO_4, ev_isO_5, ev_isO_6, ev_isO_7, ev_isO_8, ev_z0, ev_z1, ev_z2, eq_self, ev_ofN, ev_lk_s h0, ev_lk_s ha0, ev_lk_s ha1, nI_clamp, hp, h60]
    exact k1 j hj rfl
  · rw [if_neg e]
    simp (disch := omega) only [t_X5_depthAt_0, t_X5_depthAt_1, t_X5_depthAt_4, t_X5_depthAt_5, t_X5_depthAt_8, t_X5_depthAt_11, t_X5_depthAt_12, t_X5_depthAt_15, t_X5_depthAt_18, t_X5_depthAt_19, t_X5_depthAt_20, t_X5_depthAt_23, t_X5_depthAt_24, x_X5_depthAt_5, ↓reduceIte, ev_k_i, ev_k_r, ev_k_l, ev_k_J, ev_k_n, ev_kr_1, ev_kr_0, ev_isK_y, ev_aG_y, ev_aS_y, ev_aN_y, ev_inA_0, ev_isA_0, ev_ft_I, ev_ft_0, ev_ft_1, ev_ft_o, ev_ft_a, ev_nb_0, ev_nb_1, and_true, true_and, if_true, if_false, not_true_eq_false, not_false_eq_true, nI_1, ev_fG_0, ev_fG_1, ev_fG_2, ev_fG_3, ev_fG_4, ev_fG_5, ev_fG_6, ev_fG_7, ev_fG_8, ev_fS_0, ev_fS_1, ev_fS_2, ev_fS_3, ev_fS_4, ev_fS_5, ev_fS_6, ev_fS_7, ev_fS_8, ev_isO_0, ev_isO_1, ev_isO_2, ev_isO_3, ev_isO_4, ev_isO_5, ev_isO_6, ev_isO_7, ev_isO_8, ev_z0, ev_z1, ev_z2, eq_self, ev_ofN]
    exact k0 e
end CU
end
