/-! ===== what the outcomes keep ===== -/
theorem okV_g {a : Nat} (h : a < 100) : nI a ∈ (List.range 100).map nI := List.mem_map.mpr ⟨a, List.mem_range.mpr h, rfl⟩
theorem okV_nil : okV [] := fun x hx => absurd hx List.not_mem_nil
theorem okV_app {L : ev_PL} (h : okV L) {k v : Int32} (hv : v ∈ (List.range 100).map nI) : okV (L ++ [(k, v)]) := fun x hx => by
  rcases List.mem_append.mp hx with hx | hx
  · exact h x hx
  · rw [List.mem_singleton.mp hx]; exact hv
theorem okV_del {L : ev_PL} (h : okV L) (j : Nat) : okV (L.eraseIdx j) := fun x hx => h x (List.mem_of_mem_eraseIdx hx)
theorem okV_set {L : ev_PL} (h : okV L) (j : Nat) {k v : Int32} (hv : v ∈ (List.range 100).map nI) : okV (L.set j (k, v)) := fun x hx => by
  rcases List.mem_or_eq_of_mem_set hx with hx | hx
  · exact h x hx
  · rw [hx]; exact hv
theorem okV_ask {L : ev_PL} (h : okV L) (b : Int32) {j : Nat} (hj : j < L.length) : okV (pr_ask L b j) := by
  unfold pr_ask
  split
  · exact h
  · obtain ⟨a, ha, e⟩ := okV_at h hj
    exact okV_app (okV_del h j) (k := (pf_at L j).1) (v := (pf_at L j).2) (by rw [e]; exact okV_g ha)
theorem okV_take {L : ev_PL} (h : okV L) {v : Int32} (hv : v ∈ (List.range 100).map nI) (m lm ll k : Int32) : okV (pr_take L m lm ll k v).1 := by
  unfold pr_take
  split
  · exact okV_del (okV_app h hv) 0
  · exact okV_app h hv
theorem okV_bring {L : ev_PL} (h : okV L) {v : Int32} (hv : v ∈ (List.range 100).map nI) (b m lm ll k : Int32) : okV (pr_bring L b m lm ll k v).2.1 := by
  unfold pr_bring
  rcases e : pf_find L k with _ | j
  · exact okV_take h hv m lm ll k
  · have hj := (pf_find_s e).1
    exact okV_ask (okV_set h j hv) b (by rw [List.length_set]; exact hj)
theorem okV_bia {L : ev_PL} (h : okV L) {v : Int32} (hv : v ∈ (List.range 100).map nI) (b m lm ll k : Int32) : okV (pr_bia L b m lm ll k v).2.1 := by
  unfold pr_bia
  rcases e : pf_find L k with _ | j
  · exact okV_take h hv m lm ll k
  · exact okV_ask h b (pf_find_s e).1
theorem okV_fetch {L : ev_PL} (h : okV L) (b k o : Int32) : okV (pr_fetch L b k o).2 := by
  unfold pr_fetch
  rcases e : pf_find L k with _ | j
  · exact h
  · exact okV_ask h b (pf_find_s e).1
theorem okV_drop {L : ev_PL} (h : okV L) (k : Int32) : okV (pr_drop L k).2 := by
  unfold pr_drop
  rcases e : pf_find L k with _ | j
  · exact h
  · exact okV_del h j
def kd_ok (k : Int32) : Prop := k = 0 ∨ k = 1 ∨ k = 2
theorem pm_le {m : Int32} {a b : Nat} (h : ¬ pr_above m a) (hle : b ≤ a) (ha : a < 2 ^ 31) : ¬ pr_above m b := fun z => h fun w => z (w.elim Or.inl fun w => Or.inr (Int32.le_trans (nI_le hle ha) w))
theorem pm_eq {m : Int32} {a b : Nat} (h : ¬ pr_above m a) (e : b = a) : ¬ pr_above m b := by rw [e]; exact h
theorem pm_mk {m : Int32} (h : ¬ (¬ m = -1 ∧ (m < 1 ∨ 12 < m))) : ¬ pr_above m ([] : ev_PL).length := fun z => z (by
  by_cases e : m = -1
  · exact Or.inl e
  · refine Or.inr (Int32.le_trans (show nI 0 ≤ 1 from by decide) (Int32.not_lt.mp fun w => h ⟨e, Or.inl w⟩)))
theorem pm_askl {L : ev_PL} {b : Int32} {j : Nat} (hj : j < L.length) : (pr_ask L b j).length = L.length := by
  unfold pr_ask
  split
  · rfl
  · rw [List.length_append, List.length_singleton, List.length_eraseIdx, if_pos hj]; omega
theorem pm_take {L : ev_PL} {m lm ll k v : Int32} (h : ¬ pr_above m L.length) : ¬ pr_above m (pr_take L m lm ll k v).1.length := by
  unfold pr_take
  split
  · refine pm_eq h ?_
    show ((L ++ [(k, v)]).eraseIdx 0).length = _
    rw [List.length_eraseIdx, List.length_append, List.length_singleton, if_pos (by omega)]; omega
  · rename_i hn
    refine pm_eq hn ?_
    show (L ++ [(k, v)]).length = _
    rw [List.length_append, List.length_singleton]
theorem pm_bring {L : ev_PL} {b m lm ll k v : Int32} (h : ¬ pr_above m L.length) : ¬ pr_above m (pr_bring L b m lm ll k v).2.1.length := by
  unfold pr_bring
  rcases e : pf_find L k with _ | j
  · exact pm_take h
  · have hj := (pf_find_s e).1
    refine pm_eq h ?_
    show (pr_ask (L.set j ((pf_at L j).1, v)) b j).length = _
    rw [pm_askl (by rw [List.length_set]; exact hj), List.length_set]
theorem pm_bia {L : ev_PL} {b m lm ll k v : Int32} (h : ¬ pr_above m L.length) : ¬ pr_above m (pr_bia L b m lm ll k v).2.1.length := by
  unfold pr_bia
  rcases e : pf_find L k with _ | j
  · exact pm_take h
  · exact pm_eq h (pm_askl (pf_find_s e).1)
theorem pm_fetch {L : ev_PL} {b m k o : Int32} (h : ¬ pr_above m L.length) : ¬ pr_above m (pr_fetch L b k o).2.length := by
  unfold pr_fetch
  rcases e : pf_find L k with _ | j
  · exact h
  · exact pm_eq h (pm_askl (pf_find_s e).1)
theorem pm_del {L : ev_PL} {m : Int32} (h : ¬ pr_above m L.length) (hl : L.length ≤ 20) (j : Nat) : ¬ pr_above m (L.eraseIdx j).length := by
  refine pm_le h ?_ (by omega)
  rw [List.length_eraseIdx]
  split <;> omega
theorem pm_drop {L : ev_PL} {m k : Int32} (h : ¬ pr_above m L.length) (hl : L.length ≤ 20) : ¬ pr_above m (pr_drop L k).2.length := by
  unfold pr_drop
  rcases e : pf_find L k with _ | j
  · exact h
  · exact pm_del h hl j
def jG (G : ev_CS) : Prop := okG G ∧ (∀ i, i < 4 → okV (G.1 i).1) ∧ ∀ i, i < 4 → ((G.1 i).2.2.2.1 = 0 ∨ (G.1 i).2.2.2.1 = 1 ∨ (G.1 i).2.2.2.1 = 2) ∧ ¬ pr_above (G.1 i).2.1.2.1 (G.1 i).1.length
/-- what a call on tables leaves as it is -/
def jE (G G1 : ev_CS) : Prop := G1.2.1 = G.2.1 ∧ G1.2.2.1 = G.2.2.1 ∧ G1.2.2.2.1 = G.2.2.2.1 ∧ G1.2.2.2.2.2 = G.2.2.2.2.2
theorem jE_r {G : ev_CS} : jE G G := ⟨rfl, rfl, rfl, rfl⟩
theorem jE_T {G : ev_CS} {i : Nat} {s : ev_TS} : jE G (pg_T G i s) := ⟨rfl, rfl, rfl, rfl⟩
theorem jE_rf {G : ev_CS} : jE G (pg_rf G) := ⟨rfl, rfl, rfl, rfl⟩
theorem jG_rf {G : ev_CS} (h : jG G) : jG (pg_rf G) := h
theorem jG_T {G : ev_CS} (h : jG G) {i : Nat} {s : ev_TS} (h1 : okT s) (h2 : okV s.1) (h3 : s.2.2.2.1 = 0 ∨ s.2.2.2.1 = 1 ∨ s.2.2.2.1 = 2) (h4 : ¬ pr_above s.2.1.2.1 s.1.length) : jG (pg_T G i s) := by
  refine ⟨okG_T h.1 h1, fun j hj => ?_, fun j hj => ?_⟩
  · show okV (if j = i then s else G.1 j).1
    split
    · exact h2
    · exact h.2.1 j hj
  · show ((if j = i then s else G.1 j).2.2.2.1 = 0 ∨ (if j = i then s else G.1 j).2.2.2.1 = 1 ∨ (if j = i then s else G.1 j).2.2.2.1 = 2) ∧ ¬ pr_above (if j = i then s else G.1 j).2.1.2.1 (if j = i then s else G.1 j).1.length
    split
    · exact ⟨h3, h4⟩
    · exact h.2.2 j hj
theorem ix_of {t : Int32} {N : Nat} (hN : N < 2 ^ 31) (h : ¬ (t < 0 ∨ nI N ≤ t)) : ∃ i, i < N ∧ t = nI i := by
  rcases pk_ix t (n := N) hN with h1 | h1 | h1
  · exact absurd (Or.inl h1) h
  · exact absurd (Or.inr h1) h
  · exact h1
theorem ix_k {t : Int32} {N : Nat} (hN : N < 2 ^ 31) (h : ¬ (t < 0 ∨ nI N ≤ t)) : t ∈ (List.range N).map nI := by
  obtain ⟨i, hi, rfl⟩ := ix_of hN h
  exact List.mem_map.mpr ⟨i, List.mem_range.mpr hi, rfl⟩
theorem kd_of {w : Int32} (h : ¬ (w < 0 ∨ nI 3 ≤ w)) : w = 0 ∨ w = 1 ∨ w = 2 := by
  obtain ⟨i, hi, rfl⟩ := ix_of (by omega) h
  have : i = 0 ∨ i = 1 ∨ i = 2 := by omega
  rcases this with rfl | rfl | rfl
  · exact Or.inl rfl
  · exact Or.inr (Or.inl rfl)
  · exact Or.inr (Or.inr rfl)
section L78
variable {G : ev_CS}
theorem rest_c {k n : Nat} {c : Bool} (h : k ≤ n ∧ (c = true → 1 ≤ k)) (z : (c || decide (0 < n - k)) = true) : 1 ≤ n := by
  rcases (Bool.or_eq_true _ _).mp z with e | e
  · have := h.2 e; omega
  · have := of_decide_eq_true e; omega
theorem cut_d {b c : Bool} (h : ¬ (b && c) = false) : c = true := by
  cases b <;> cases c <;> simp at h ⊢
theorem cut_c {L : ev_PL} {k : Nat} {c : Bool} (h : k ≤ L.length ∧ (c = true → 1 ≤ k)) (z : c = true) : k - 1 ≤ (L.eraseIdx (k - 1)).length := by
  have := h.2 z
  rw [List.length_eraseIdx_of_lt (by omega)]
  omega
theorem JK_make (hJ : jG G) {t b1 m1 : Int32} (hb1 : ev_isB b1) : jG (k_make G t b1 m1).2.2 ∧ jE G (k_make G t b1 m1).2.2 := by
  unfold k_make
  split
  · exact ⟨hJ, jE_r⟩
  · rename_i h1
    split
    · exact ⟨hJ, jE_r⟩
    · rename_i h2
      obtain ⟨i, hi, rfl⟩ := ix_of (by omega) h1
      rw [nI_clamp (n := i) (by omega)] at *
      exact ⟨jG_T hJ (okT_row (hJ.1.1 i hi) okL_nil hb1 _ _ _) (okV_nil) (hJ.2.2 i hi).1 (pm_mk h2), jE_T⟩
theorem JK_put (hJ : jG G) {t k v : Int32} : jG (k_put G t k v).2.2 ∧ jE G (k_put G t k v).2.2 := by
  unfold k_put
  split
  · exact ⟨hJ, jE_r⟩
  · rename_i h1
    split
    · exact ⟨hJ, jE_r⟩
    · rename_i h2
      obtain ⟨i, hi, rfl⟩ := ix_of (by omega) h1
      rw [nI_clamp (n := i) (by omega)] at *
      exact ⟨jG_T hJ (okT_old (hJ.1.1 i hi) (okL_bring (hJ.1.1 i hi).1 (ix_k (by omega) (fun z => h2 (Or.inl z))) _ _ _ _ _) _ _) (okV_bring (hJ.2.1 i hi) (ix_k (by omega) (fun z => h2 (Or.inr z))) _ _ _ _ _) (hJ.2.2 i hi).1 (pm_bring (hJ.2.2 i hi).2), jE_T⟩
theorem JK_putIfAbsent (hJ : jG G) {t k v : Int32} : jG (k_putIfAbsent G t k v).2.2 ∧ jE G (k_putIfAbsent G t k v).2.2 := by
  unfold k_putIfAbsent
  split
  · exact ⟨hJ, jE_r⟩
  · rename_i h1
    split
    · exact ⟨hJ, jE_r⟩
    · rename_i h2
      split
      · exact ⟨hJ, jE_r⟩
      · rename_i h3
        obtain ⟨i, hi, rfl⟩ := ix_of (by omega) h1
        rw [nI_clamp (n := i) (by omega)] at *
        exact ⟨jG_T hJ (okT_row (hJ.1.1 i hi) (okL_bia (hJ.1.1 i hi).1 (ix_k (by omega) (fun z => h2 (Or.inl z))) _ _ _ _ _) (hJ.1.1 i hi).2.1 _ _ _) (okV_bia (hJ.2.1 i hi) (ix_k (by omega) (fun z => h2 (Or.inr z))) _ _ _ _ _) (hJ.2.2 i hi).1 (pm_bia (hJ.2.2 i hi).2), jE_T⟩
theorem JK_get (hJ : jG G) {t k : Int32} : jG (k_get G t k).2.2 ∧ jE G (k_get G t k).2.2 := by
  unfold k_get
  split
  · exact ⟨hJ, jE_r⟩
  · rename_i h1
    split
    · exact ⟨hJ, jE_r⟩
    · rename_i h2
      obtain ⟨i, hi, rfl⟩ := ix_of (by omega) h1
      rw [nI_clamp (n := i) (by omega)] at *
      exact ⟨jG_T hJ (okT_row (hJ.1.1 i hi) (okL_fetch (hJ.1.1 i hi).1 _ _ _) (hJ.1.1 i hi).2.1 _ _ _) (okV_fetch (hJ.2.1 i hi) _ _ _) (hJ.2.2 i hi).1 (pm_fetch (hJ.2.2 i hi).2), jE_T⟩
theorem JK_getOr (hJ : jG G) {t k o1 : Int32} : jG (k_getOr G t k o1).2.2 ∧ jE G (k_getOr G t k o1).2.2 := by
  unfold k_getOr
  split
  · exact ⟨hJ, jE_r⟩
  · rename_i h1
    split
    · exact ⟨hJ, jE_r⟩
    · rename_i h2
      obtain ⟨i, hi, rfl⟩ := ix_of (by omega) h1
      rw [nI_clamp (n := i) (by omega)] at *
      exact ⟨jG_T hJ (okT_row (hJ.1.1 i hi) (okL_fetch (hJ.1.1 i hi).1 _ _ _) (hJ.1.1 i hi).2.1 _ _ _) (okV_fetch (hJ.2.1 i hi) _ _ _) (hJ.2.2 i hi).1 (pm_fetch (hJ.2.2 i hi).2), jE_T⟩
theorem JK_remove (hJ : jG G) {t k : Int32} : jG (k_remove G t k).2.2 ∧ jE G (k_remove G t k).2.2 := by
  unfold k_remove
  split
  · exact ⟨hJ, jE_r⟩
  · rename_i h1
    split
    · exact ⟨hJ, jE_r⟩
    · rename_i h2
      obtain ⟨i, hi, rfl⟩ := ix_of (by omega) h1
      rw [nI_clamp (n := i) (by omega)] at *
      exact ⟨jG_T hJ (okT_row (hJ.1.1 i hi) (okL_drop (hJ.1.1 i hi).1 _) (hJ.1.1 i hi).2.1 _ _ _) (okV_drop (hJ.2.1 i hi) _) (hJ.2.2 i hi).1 (pm_drop (hJ.2.2 i hi).2 (okL_len (hJ.1.1 i hi).1)), jE_T⟩
theorem JK_has (hJ : jG G) {t k : Int32} : jG (k_has G t k).2.2 ∧ jE G (k_has G t k).2.2 := by
  unfold k_has
  split
  · exact ⟨hJ, jE_r⟩
  · rename_i h1
    split
    · exact ⟨hJ, jE_r⟩
    · rename_i h2
      exact ⟨hJ, jE_r⟩
theorem JK_placeOf (hJ : jG G) {t k : Int32} : jG (k_placeOf G t k).2.2 ∧ jE G (k_placeOf G t k).2.2 := by
  unfold k_placeOf
  split
  · exact ⟨hJ, jE_r⟩
  · rename_i h1
    split
    · exact ⟨hJ, jE_r⟩
    · rename_i h2
      exact ⟨hJ, jE_r⟩
theorem JK_clear (hJ : jG G) {t : Int32} : jG (k_clear G t).2.2 ∧ jE G (k_clear G t).2.2 := by
  unfold k_clear
  split
  · exact ⟨hJ, jE_r⟩
  · rename_i h1
    obtain ⟨i, hi, rfl⟩ := ix_of (by omega) h1
    rw [nI_clamp (n := i) (by omega)] at *
    exact ⟨jG_T hJ (okT_row (hJ.1.1 i hi) okL_nil (hJ.1.1 i hi).2.1 _ _ _) (okV_nil) (hJ.2.2 i hi).1 (pm_le (hJ.2.2 i hi).2 (Nat.zero_le _) (by have := okL_len (hJ.1.1 i hi).1; omega)), jE_T⟩
theorem JK_size (hJ : jG G) {t : Int32} : jG (k_size G t).2.2 ∧ jE G (k_size G t).2.2 := by
  unfold k_size
  split
  · exact ⟨hJ, jE_r⟩
  · rename_i h1
    exact ⟨hJ, jE_r⟩
theorem JK_keyAt (hJ : jG G) {t p : Int32} : jG (k_keyAt G t p).2.2 ∧ jE G (k_keyAt G t p).2.2 := by
  unfold k_keyAt
  split
  · exact ⟨hJ, jE_r⟩
  · rename_i h1
    exact ⟨hJ, jE_r⟩
theorem JK_valueAt (hJ : jG G) {t p : Int32} : jG (k_valueAt G t p).2.2 ∧ jE G (k_valueAt G t p).2.2 := by
  unfold k_valueAt
  split
  · exact ⟨hJ, jE_r⟩
  · rename_i h1
    exact ⟨hJ, jE_r⟩
theorem JK_pairAt (hJ : jG G) {t p : Int32} : jG (k_pairAt G t p).2.2 ∧ jE G (k_pairAt G t p).2.2 := by
  unfold k_pairAt
  split
  · exact ⟨hJ, jE_r⟩
  · rename_i h1
    exact ⟨hJ, jE_r⟩
theorem JK_eldest (hJ : jG G) {t : Int32} : jG (k_eldest G t).2.2 ∧ jE G (k_eldest G t).2.2 := by
  unfold k_eldest
  split
  · exact ⟨hJ, jE_r⟩
  · rename_i h1
    exact ⟨hJ, jE_r⟩
theorem JK_latest (hJ : jG G) {t : Int32} : jG (k_latest G t).2.2 ∧ jE G (k_latest G t).2.2 := by
  unfold k_latest
  split
  · exact ⟨hJ, jE_r⟩
  · rename_i h1
    exact ⟨hJ, jE_r⟩
theorem JK_hasMore (hJ : jG G) {t : Int32} : jG (k_hasMore G t).2.2 ∧ jE G (k_hasMore G t).2.2 := by
  unfold k_hasMore
  split
  · exact ⟨hJ, jE_r⟩
  · rename_i h1
    exact ⟨hJ, jE_r⟩
theorem JK_isStale (hJ : jG G) {t : Int32} : jG (k_isStale G t).2.2 ∧ jE G (k_isStale G t).2.2 := by
  unfold k_isStale
  split
  · exact ⟨hJ, jE_r⟩
  · rename_i h1
    exact ⟨hJ, jE_r⟩
theorem JK_set (hJ : jG G) {t p v : Int32} : jG (k_set G t p v).2.2 ∧ jE G (k_set G t p v).2.2 := by
  unfold k_set
  split
  · exact ⟨hJ, jE_r⟩
  · rename_i h1
    split
    · exact ⟨hJ, jE_r⟩
    · rename_i h2
      split
      · exact ⟨jG_rf hJ, jE_rf⟩
      · rename_i h3
        obtain ⟨i, hi, rfl⟩ := ix_of (by omega) h1
        rw [nI_clamp (n := i) (by omega)] at *
        rw [Classical.not_not] at h3
        obtain ⟨j, hj, rfl⟩ := (ev_pl (by have := okL_len (hJ.1.1 i hi).1; omega)).mp h3
        rw [nI_clamp (n := j) (by have := okL_len (hJ.1.1 i hi).1; omega)]
        exact ⟨jG_T hJ (⟨okL_set (hJ.1.1 i hi).1 hj _, (hJ.1.1 i hi).2.1, (hJ.1.1 i hi).2.2.1, fun a b => by rw [show (ps_gen ((G.1 i).1.set j ((pf_at (G.1 i).1 j).1, v)) (G.1 i).2.1.1 (G.1 i).2.1.2.1 (G.1 i).2.1.2.2.1 (G.1 i).2.1.2.2.2 (G.1 i).2.2.1.1 (G.1 i).2.2.1.2.1 (G.1 i).2.2.1.2.2 (G.1 i).2.2.2.1 (G.1 i).2.2.2.2).1 = (G.1 i).1.set j ((pf_at (G.1 i).1 j).1, v) from rfl, List.length_set]; exact (hJ.1.1 i hi).2.2.2 a b⟩) (okV_set (hJ.2.1 i hi) _ (ix_k (by omega) h2)) (hJ.2.2 i hi).1 (pm_eq (hJ.2.2 i hi).2 List.length_set), jE_T⟩
theorem JK_walk (hJ : jG G) {t w : Int32} : jG (k_walk G t w).2.2 ∧ jE G (k_walk G t w).2.2 := by
  unfold k_walk
  split
  · exact ⟨hJ, jE_r⟩
  · rename_i h1
    split
    · exact ⟨hJ, jE_r⟩
    · rename_i h2
      obtain ⟨i, hi, rfl⟩ := ix_of (by omega) h1
      rw [nI_clamp (n := i) (by omega)] at *
      exact ⟨jG_T hJ (⟨(hJ.1.1 i hi).1, (hJ.1.1 i hi).2.1, Nat.zero_le 20, fun _ _ => ⟨Nat.zero_le _, fun z => by cases z⟩⟩) ((hJ.2.1 i hi)) (kd_of h2) (hJ.2.2 i hi).2, jE_T⟩
theorem JK_ofTable (hJ : jG G) {t w : Int32} : jG (k_ofTable G t w).2.2 ∧ jE G (k_ofTable G t w).2.2 := by
  unfold k_ofTable
  split
  · exact ⟨hJ, jE_r⟩
  · rename_i h1
    split
    · exact ⟨hJ, jE_r⟩
    · rename_i h2
      exact ⟨hJ, jE_r⟩
theorem JK_step (hJ : jG G) {t : Int32} : jG (k_step G t).2.2 ∧ jE G (k_step G t).2.2 := by
  unfold k_step
  split
  · exact ⟨hJ, jE_r⟩
  · rename_i h1
    split
    · exact ⟨jG_rf hJ, jE_rf⟩
    · rename_i h2
      split
      · exact ⟨hJ, jE_r⟩
      · rename_i h3
        obtain ⟨i, hi, rfl⟩ := ix_of (by omega) h1
        rw [nI_clamp (n := i) (by omega)] at *
        rw [Classical.not_not] at h3
        exact ⟨jG_T hJ (⟨(hJ.1.1 i hi).1, (hJ.1.1 i hi).2.1, by have := okL_len (hJ.1.1 i hi).1; show (G.1 i).2.2.2.2 + 1 ≤ 20; omega, fun _ _ => ⟨by show (G.1 i).2.2.2.2 + 1 ≤ (G.1 i).1.length; omega, fun _ => by show 1 ≤ (G.1 i).2.2.2.2 + 1; omega⟩⟩) ((hJ.2.1 i hi)) (hJ.2.2 i hi).1 (hJ.2.2 i hi).2, jE_T⟩
theorem JK_rest (hJ : jG G) {t : Int32} : jG (k_rest G t).2.2 ∧ jE G (k_rest G t).2.2 := by
  unfold k_rest
  split
  · exact ⟨hJ, jE_r⟩
  · rename_i h1
    split
    · exact ⟨jG_rf hJ, jE_rf⟩
    · rename_i h2
      obtain ⟨i, hi, rfl⟩ := ix_of (by omega) h1
      rw [nI_clamp (n := i) (by omega)] at *
      exact ⟨jG_T hJ (⟨(hJ.1.1 i hi).1, (hJ.1.1 i hi).2.1, okL_len (hJ.1.1 i hi).1, fun a b => ⟨Nat.le_refl _, fun z => rest_c ((hJ.1.1 i hi).2.2.2 a b) z⟩⟩) ((hJ.2.1 i hi)) (hJ.2.2 i hi).1 (hJ.2.2 i hi).2, jE_T⟩
theorem JK_cut (hJ : jG G) {t : Int32} : jG (k_cut G t).2.2 ∧ jE G (k_cut G t).2.2 := by
  unfold k_cut
  split
  · exact ⟨hJ, jE_r⟩
  · rename_i h1
    split
    · exact ⟨jG_rf hJ, jE_rf⟩
    · rename_i h2
      obtain ⟨i, hi, rfl⟩ := ix_of (by omega) h1
      rw [nI_clamp (n := i) (by omega)] at *
      exact ⟨jG_T hJ (⟨okL_del (hJ.1.1 i hi).1 _, (hJ.1.1 i hi).2.1, by have := (hJ.1.1 i hi).2.2.1; show (G.1 i).2.2.2.2 - 1 ≤ 20; omega, fun a b => ⟨cut_c ((hJ.1.1 i hi).2.2.2 a b) (cut_d h2), fun z => by cases z⟩⟩) (okV_del (hJ.2.1 i hi) _) (hJ.2.2 i hi).1 (pm_del (hJ.2.2 i hi).2 (okL_len (hJ.1.1 i hi).1) _), jE_T⟩
end L78
