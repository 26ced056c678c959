/-! ===== rows whose keys are apart ===== -/
def okL (L : ev_PL) : Prop := (L.map Prod.fst).Nodup ∧ ∀ x ∈ L, x.1 ∈ (List.range 20).map nI
theorem okL_len {L : ev_PL} (h : okL L) : L.length ≤ 20 := by
  have h1 : L.map Prod.fst ⊆ (List.range 20).map nI := fun a ha => by
    obtain ⟨x, hx, rfl⟩ := List.mem_map.mp ha
    exact h.2 x hx
  have h2 := List.Nodup.length_le_of_subset h.1 h1
  rw [List.length_map, List.length_map, List.length_range] at h2
  exact h2
theorem okL_key {a : Nat} (h : a < 20) : nI a ∈ (List.range 20).map nI := List.mem_map.mpr ⟨a, List.mem_range.mpr h, rfl⟩
theorem okL_nil : okL [] := ⟨List.nodup_nil, fun x hx => absurd hx (List.not_mem_nil)⟩
theorem okL_app {L : ev_PL} (h : okL L) {k v : Int32} (hk : k ∈ (List.range 20).map nI) (hn : ∀ x ∈ L, ¬ x.1 = k) : okL (L ++ [(k, v)]) := by
  refine ⟨?_, fun x hx => ?_⟩
  · rw [List.map_append]
    refine List.nodup_append.mpr ⟨h.1, List.nodup_cons.mpr ⟨List.not_mem_nil, List.nodup_nil⟩, fun a ha b hb => ?_⟩
    obtain ⟨x, hx, rfl⟩ := List.mem_map.mp ha
    rw [List.mem_singleton.mp hb]
    exact hn x hx
  · rcases List.mem_append.mp hx with hx | hx
    · exact h.2 x hx
    · rw [List.mem_singleton.mp hx]
      exact hk
theorem okL_new {L : ev_PL} (h : okL L) {k : Int32} (hk : k ∈ (List.range 20).map nI) (e : pf_find L k = none) : (∀ v, okL (L ++ [(k, v)])) ∧ L.length < 20 := by
  have hn : ∀ x ∈ L, ¬ x.1 = k := fun x hx => by
    unfold pf_find at e
    rw [List.findIdx?_eq_none_iff] at e
    exact of_decide_eq_false (e x hx)
  have h1 := fun v => okL_app (v := v) h hk hn
  refine ⟨h1, ?_⟩
  have h2 := okL_len (h1 0)
  rw [List.length_append] at h2
  simp only [List.length_cons, List.length_nil] at h2
  omega
theorem okL_del {L : ev_PL} (h : okL L) (j : Nat) : okL (L.eraseIdx j) :=
  ⟨List.Nodup.sublist ((List.eraseIdx_sublist L j).map Prod.fst) h.1, fun x hx => h.2 x (List.mem_of_mem_eraseIdx hx)⟩
theorem okL_setm {L : ev_PL} {j : Nat} (hj : j < L.length) (v : Int32) : (L.set j ((pf_at L j).1, v)).map Prod.fst = L.map Prod.fst := by
  apply List.ext_getElem?
  intro i
  rw [List.getElem?_map, List.getElem?_map]
  by_cases e : i = j
  · subst e
    rw [List.getElem?_set_self hj]
    unfold pf_at
    rw [List.getD_eq_getElem?_getD, List.getElem?_eq_getElem hj]
    rfl
  · rw [List.getElem?_set_ne (Ne.symm e)]
theorem okL_set {L : ev_PL} (h : okL L) {j : Nat} (hj : j < L.length) (v : Int32) : okL (L.set j ((pf_at L j).1, v)) := by
  refine ⟨by rw [okL_setm hj]; exact h.1, fun x hx => ?_⟩
  have h1 : x.1 ∈ (L.set j ((pf_at L j).1, v)).map Prod.fst := List.mem_map.mpr ⟨x, hx, rfl⟩
  rw [okL_setm hj] at h1
  obtain ⟨y, hy, e⟩ := List.mem_map.mp h1
  rw [← e]
  exact h.2 y hy
theorem okL_mov {L : ev_PL} (h : okL L) {j : Nat} (hj : j < L.length) : okL (L.eraseIdx j ++ [pf_at L j]) := by
  have ea : pf_at L j = L[j] := by
    unfold pf_at
    rw [List.getD_eq_getElem?_getD, List.getElem?_eq_getElem hj]
    rfl
  have hs : L.map Prod.fst = (L.take j).map Prod.fst ++ (L[j].1 :: (L.drop (j + 1)).map Prod.fst) := by
    rw [← List.map_cons, ← List.drop_eq_getElem_cons hj, ← List.map_append, List.take_append_drop]
  have hN := h.1
  rw [hs] at hN
  obtain ⟨n1, n2, n3⟩ := List.nodup_append.mp hN
  have n4 := (List.nodup_cons.mp n2).1
  rw [ea]
  refine okL_app (okL_del h j) (h.2 _ (List.getElem_mem hj)) fun x hx => ?_
  rw [List.eraseIdx_eq_take_drop_succ] at hx
  rcases List.mem_append.mp hx with hx | hx
  · exact n3 _ (List.mem_map.mpr ⟨x, hx, rfl⟩) _ List.mem_cons_self
  · exact fun e => n4 (e ▸ List.mem_map.mpr ⟨x, hx, rfl⟩)
theorem okL_ask {L : ev_PL} (h : okL L) (b : Int32) {j : Nat} (hj : j < L.length) : okL (pr_ask L b j) := by
  unfold pr_ask
  split
  · exact h
  · exact okL_mov h hj
theorem okL_take {L : ev_PL} (h : okL L) {k : Int32} (hk : k ∈ (List.range 20).map nI) (e : pf_find L k = none) (m lm ll v : Int32) : okL (pr_take L m lm ll k v).1 := by
  unfold pr_take
  split
  · exact okL_del ((okL_new h hk e).1 v) 0
  · exact (okL_new h hk e).1 v
theorem okL_bring {L : ev_PL} (h : okL L) {k : Int32} (hk : k ∈ (List.range 20).map nI) (b m lm ll v : Int32) : okL (pr_bring L b m lm ll k v).2.1 := by
  unfold pr_bring
  rcases e : pf_find L k with _ | j
  · exact okL_take h hk e m lm ll v
  · have hj := (pf_find_s e).1
    exact okL_ask (okL_set h hj v) b (by rw [List.length_set]; exact hj)
theorem okL_fetch {L : ev_PL} (h : okL L) (b k o : Int32) : okL (pr_fetch L b k o).2 := by
  unfold pr_fetch
  rcases e : pf_find L k with _ | j
  · exact h
  · exact okL_ask h b (pf_find_s e).1
theorem okL_fetchIn {L : ev_PL} (h : okL L) {k : Int32} (hk : k ∈ (List.range 20).map nI) (b m lm ll v : Int32) : okL (pr_fetchIn L b m lm ll k v).2.1 := by
  unfold pr_fetchIn
  rcases e : pf_find L k with _ | j
  · exact okL_take h hk e m lm ll v
  · exact okL_ask h b (pf_find_s e).1
theorem okL_drop {L : ev_PL} (h : okL L) (k : Int32) : okL (pr_drop L k).2 := by
  unfold pr_drop
  rcases e : pf_find L k with _ | j
  · exact h
  · exact okL_del h j
