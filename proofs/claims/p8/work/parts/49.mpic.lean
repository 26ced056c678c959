/-! ===== the reference: its lists of pairs ===== -/
theorem ls_mapE {α β : Type} (f : α → β) : ∀ (L : List α) (j : Nat), (L.eraseIdx j).map f = (L.map f).eraseIdx j
  | [], _ => rfl
  | _ :: _, 0 => rfl
  | x :: L, j + 1 => congrArg (f x :: ·) (ls_mapE f L j)
theorem ls_eraseN {α : Type} : ∀ {L : List α} (j : Nat), L.Nodup → ∀ {x : α}, L[j]? = some x → x ∉ L.eraseIdx j := by
  intro L j hN x hx hm
  obtain ⟨i, hi, h⟩ := List.mem_eraseIdx_iff_getElem?.mp hm
  have hj := (List.getElem?_eq_some_iff.mp hx).1
  exact hi ((List.getElem?_inj hj hN).mp (hx.trans h.symm)).symm
def ev_bs (X : ev_E) (D : Nat) : Prop := X.1.heap.size ≤ D ∧ (∀ a, X.1.heap.size ≤ a → X.2.2.2.2.1 a = none) ∧ X.2.2.2.2.2 1 < X.1.heap.size
def m_pc (z : Int32 × Int32) (c : Option ev_C) : Prop := ∃ g : Nat → Value, c = some (.inl (0, 2, g)) ∧ g 0 = .int z.1 ∧ g 1 = .int z.2
abbrev m_Q : Type := List (Nat × Int32 × Int32)
def m_lst (X : ev_E) (H : ev_M) (l D N : Nat) (ow : Nat → Nat) (w : Nat) (qs : m_Q) : Prop := ∃ e : Nat, ev_AT X H l e (qs.map fun z => .ref z.1) ∧ (qs.map Prod.fst).Nodup ∧ (∀ z ∈ qs, D ≤ z.1 ∧ z.1 < N ∧ ow z.1 = w ∧ m_pc z.2 (H z.1)) ∧ ((e < D ∧ e = X.2.2.2.2.2 1 ∧ H e = none) ∨ (D ≤ e ∧ e < N ∧ ow e = w))
def m_fr (H H1 : ev_M) (l D N : Nat) (ow : Nat → Nat) (w : Nat) : Prop := ∀ a, a < N → ¬ a = l → ¬ (D ≤ a ∧ ow a = w) → H1 a = H a
def m_ow (ow : Nat → Nat) (N w : Nat) : Nat → Nat := fun a => if a < N then ow a else w
theorem m_ow_l {ow : Nat → Nat} {N w a : Nat} (h : a < N) : m_ow ow N w a = ow a := if_pos h
theorem m_ow_g {ow : Nat → Nat} {N w a : Nat} (h : N ≤ a) : m_ow ow N w a = w := if_neg (by omega)
theorem ev_AT_cg {X : ev_E} {H H1 : ev_M} {l e : Nat} {L : List Value} (h : ev_AT X H l e L) (e1 : H1 l = H l) (e2 : H1 e = H e) (el : ∀ v ∈ L, ev_el X H1 v) : ev_AT X H1 l e L := by
  obtain ⟨mc, h1, h2, h3⟩ := h
  refine ⟨mc, e1.trans h1, el, ?_⟩
  rw [e2]
  exact h3
theorem m_pc_el {X : ev_E} {H : ev_M} {p : Nat} {z : Int32 × Int32} (h : m_pc z (H p)) : ev_el X H (.ref p) := by
  obtain ⟨g, h1, h2⟩ := h
  exact Or.inr ⟨p, rfl, Or.inl ⟨2, g, h1⟩⟩
section M49
variable {X : ev_E} {H H1 : ev_M} {l D N N1 w w' l' : Nat} {ow ow1 : Nat → Nat} {qs qs' : m_Q} {n q : Nat} {P : ev_O → ev_M → Nat → Nat → Prop}
theorem m_lst_cg (hM : m_lst X H l D N ow w qs) (hN : N ≤ N1) (e : ∀ a, (a = l ∨ (D ≤ a ∧ a < N ∧ ow a = w) ∨ (a < D ∧ a = X.2.2.2.2.2 1)) → H1 a = H a) (eo : ∀ a, D ≤ a → a < N → ow a = w → ow1 a = w) : m_lst X H1 l D N1 ow1 w qs := by
  obtain ⟨e0, h1, h2, h3, h4⟩ := hM
  have e00 : H1 e0 = H e0 := e e0 (by rcases h4 with ⟨a, b, c⟩ | ⟨a, b, c⟩; exact Or.inr (Or.inr ⟨a, b⟩); exact Or.inr (Or.inl ⟨a, b, c⟩))
  have h3' : ∀ z ∈ qs, D ≤ z.1 ∧ z.1 < N1 ∧ ow1 z.1 = w ∧ m_pc z.2 (H1 z.1) := fun z hz => by
    obtain ⟨a, b, c, d⟩ := h3 z hz
    refine ⟨a, by omega, eo _ a b c, ?_⟩
    rw [e z.1 (Or.inr (Or.inl ⟨a, b, c⟩))]
    exact d
  refine ⟨e0, ev_AT_cg h1 (e l (Or.inl rfl)) e00 (fun v hv => ?_), h2, h3', ?_⟩
  · obtain ⟨z, hz, rfl⟩ := List.mem_map.mp hv
    exact m_pc_el (h3' z hz).2.2.2
  · rcases h4 with ⟨a, b, c⟩ | ⟨a, b, c⟩
    · exact Or.inl ⟨a, b, e00.trans c⟩
    · exact Or.inr ⟨a, by omega, eo _ a b c⟩
/-- another owner's list is as it was -/
theorem m_lst_fr (hM : m_lst X H l' D N ow w' qs') (hB : ev_bs X D) (hf : m_fr H H1 l D N ow w) (hN : N ≤ N1) (hDN : D ≤ N) (hw : ¬ w' = w) (hl : ¬ l' = l) (hlD : X.1.heap.size ≤ l ∧ l < D) (hlD' : l' < D) (eo : ∀ a, a < N → ow1 a = ow a) : m_lst X H1 l' D N1 ow1 w' qs' := by
  refine m_lst_cg hM hN (fun a ha => ?_) (fun a h1 h2 h3 => (eo a h2).trans h3)
  have hB2 := hB.2.2
  rcases ha with rfl | ⟨h1, h2, h3⟩ | ⟨h1, h2⟩
  · exact hf _ (by omega) hl (fun z => by omega)
  · exact hf a h2 (fun z => by omega) (fun z => hw (h3.symm.trans z.2))
  · exact hf a (by omega) (by omega) (fun z => by omega)
theorem m_len : (qs.map fun z : Nat × Int32 × Int32 => Value.ref z.1).length = qs.length := List.length_map _
theorem m_nth {j : Nat} (hj : j < qs.length) : (qs.map fun z : Nat × Int32 × Int32 => Value.ref z.1)[j]? = some (.ref qs[j].1) := by
  rw [List.getElem?_map, List.getElem?_eq_getElem hj]; rfl
theorem ML_size (hM : m_lst X H l D N ow w qs) (k : P (.inl (some (.int (nI qs.length)))) H n q) : ev_ok (ev_TT X) 24 0 [.ref l] [] H n q P := by
  obtain ⟨e, ⟨mc, h1, h2⟩, -⟩ := hM
  refine L_size h1 ?_
  rw [m_len]
  exact k
theorem ML_k (hM : m_lst X H l D N ow w qs) : ev_isK (ev_lk X H l) 4 = True := by
  obtain ⟨e, ⟨mc, h1, h2⟩, -⟩ := hM
  rw [ev_lk_s h1]
  exact ev_isK_y
theorem ML_get (hM : m_lst X H l D N ow w qs) (hL : qs.length < 90) {j : Nat} (hj : j < qs.length) (k : P (.inl (some (.ref qs[j].1))) H n q) : ev_ok (ev_TT X) 129 0 [.ref l, .int (nI j)] [] H n q P := by
  obtain ⟨e, ⟨mc, h1, h2⟩, -⟩ := hM
  exact L_get h1 h2 (by rw [m_len]; omega) (m_nth hj) k
theorem ML_set (hM : m_lst X H l D N ow w qs) {j : Nat} (hj : j < qs.length) {g : Nat → Value} (hg : H qs[j].1 = some (.inl (0, 2, g))) (v : Int32) : m_lst X (ev_up H qs[j].1 (.inl (0, 2, updV g 1 (.int v)))) l D N ow w (qs.set j (qs[j].1, qs[j].2.1, v)) := by
  obtain ⟨e, h1, h2, h3, h4⟩ := hM
  have hj3 := h3 qs[j] (List.getElem_mem hj)
  have hf : (qs.set j (qs[j].1, qs[j].2.1, v)).map Prod.fst = qs.map Prod.fst := by
    rw [List.map_set]
    have : (qs.map Prod.fst)[j]'(by rw [List.length_map]; exact hj) = qs[j].1 := by rw [List.getElem_map]
    rw [← this]
    exact List.set_getElem_self _
  have hr : (qs.set j (qs[j].1, qs[j].2.1, v)).map (fun z : Nat × Int32 × Int32 => Value.ref z.1) = qs.map fun z => .ref z.1 := by
    have e2 : ∀ L : m_Q, L.map (fun z : Nat × Int32 × Int32 => Value.ref z.1) = (L.map Prod.fst).map Value.ref := fun L => by rw [List.map_map]; rfl
    rw [e2, e2, hf]
  have hlp : ¬ l = qs[j].1 := fun z => by
    obtain ⟨mc, g1, g2⟩ := h1
    rw [← z, g1] at hg
    cases hg
  have hep : ¬ e = qs[j].1 := fun z => by
    obtain ⟨mc, g1, g2, g3⟩ := h1
    rcases g3 with ⟨g3, -⟩ | ⟨M, F, g3, -⟩
    · rw [z, hg] at g3; cases g3
    · rw [z, hg] at g3; cases g3
  refine ⟨e, ?_, by rw [hf]; exact h2, fun z hz => ?_, ?_⟩
  · rw [hr]
    refine ev_AT_cg h1 (ev_up_n hlp) (ev_up_n hep) (fun x hx => ev_el_up hg ?_)
    obtain ⟨mc, g1, g2, g3⟩ := h1
    exact g2 x hx
  · obtain ⟨i, hi, rfl⟩ := List.getElem_of_mem hz
    rw [List.getElem_set]
    by_cases e2 : j = i
    · rw [if_pos e2]
      refine ⟨hj3.1, hj3.2.1, hj3.2.2.1, updV g 1 (.int v), ev_up_s, ?_, ?_⟩
      · obtain ⟨g', a1, a2, a3⟩ := hj3.2.2.2
        rw [hg] at a1
        cases a1
        exact a2
      · rfl
    · rw [if_neg e2]
      have hi' : i < qs.length := by rw [List.length_set] at hi; exact hi
      have hz3 := h3 qs[i] (List.getElem_mem hi')
      have hne : ¬ qs[i].1 = qs[j].1 := fun z => by
        have hm : (qs.map Prod.fst)[i]? = (qs.map Prod.fst)[j]? := by
          rw [List.getElem?_map, List.getElem?_map, List.getElem?_eq_getElem hi', List.getElem?_eq_getElem hj]
          exact congrArg some z
        exact e2 ((List.getElem?_inj (by rw [List.length_map]; exact hi') h2).mp hm).symm
      rw [ev_up_n hne]
      exact hz3
  · rcases h4 with ⟨a, b, c⟩ | h4
    · exact Or.inl ⟨a, b, (ev_up_n hep).trans c⟩
    · exact Or.inr h4
theorem ML_remove (hM : m_lst X H l D N ow w qs) (hL : qs.length < 90) {j : Nat} (hj : j < qs.length) (k : ∀ H1, m_lst X H1 l D N ow w (qs.eraseIdx j) → m_fr H H1 l D N ow w → H1 qs[j].1 = H qs[j].1 → (∀ a, N ≤ a → ¬ a = l → H1 a = H a) → P (.inl (some (.ref qs[j].1))) H1 n q) : ev_ok (ev_TT X) 131 0 [.ref l, .int (nI j), ev_J, ev_J] [] H n q P := by
  obtain ⟨e, h1, h2, h3, h4⟩ := hM
  have hj3 := h3 qs[j] (List.getElem_mem hj)
  have hne : ∀ z ∈ qs, ¬ z.1 = l ∧ ¬ z.1 = e := fun z hz => by
    obtain ⟨-, -, -, g, hg, -⟩ := h3 z hz
    obtain ⟨mc, g1, g2, g3⟩ := h1
    refine ⟨fun zz => ?_, fun zz => ?_⟩
    · rw [zz, g1] at hg; cases hg
    · rcases g3 with ⟨g3, -⟩ | ⟨M, F, g3, -⟩
      · rw [zz, g3] at hg; cases hg
      · rw [zz, g3] at hg; cases hg
  have h4' : D ≤ e ∧ e < N ∧ ow e = w := by
    rcases h4 with ⟨a, b, c⟩ | h4
    · obtain ⟨mc, g1, g2, g3⟩ := h1
      rcases g3 with ⟨-, -, -, g3⟩ | ⟨M, F, g3, -⟩
      · have : qs.length = 0 := by rw [← m_len, g3]; rfl
        omega
      · rw [c] at g3; cases g3
    · exact h4
  refine L_remove h1 (by rw [m_len]; exact hL) (m_nth hj) fun H1 g1 g2 => ?_
  refine k H1 ⟨e, ?_, ?_, fun z hz => ?_, Or.inr h4'⟩ (fun a ha hal haw => g2 a hal (fun z => haw (z ▸ ⟨h4'.1, h4'.2.2⟩))) (g2 _ (hne _ (List.getElem_mem hj)).1 (hne _ (List.getElem_mem hj)).2) (fun a ha hal => g2 a hal (by omega))
  · rw [ls_mapE]; exact g1
  · rw [ls_mapE]; exact h2.eraseIdx j
  · have hz' := List.mem_of_mem_eraseIdx hz
    obtain ⟨a, b, c, d⟩ := h3 z hz'
    refine ⟨a, b, c, ?_⟩
    rw [g2 _ (hne z hz').1 (hne z hz').2]
    exact d
theorem ML_clear (hM : m_lst X H l D N ow w qs) (hL : qs.length < 90) (k : ∀ H1, m_lst X H1 l D N ow w [] → m_fr H H1 l D N ow w → (∀ a, N ≤ a → ¬ a = l → H1 a = H a) → P (.inl none) H1 n q) : ev_ok (ev_TT X) 21 0 [.ref l, ev_J, ev_J, ev_J] [] H n q P := by
  obtain ⟨e, h1, h2, h3, h4⟩ := hM
  refine L_clear h1 (by rw [m_len]; exact hL) fun H1 g1 g2 => ?_
  have hfr : ∀ a, ¬ a = l → ¬ (D ≤ a ∧ a < N ∧ ow a = w) → H1 a = H a := fun a hal haw => g2 a hal (by
    rcases h4 with ⟨-, -, h4⟩ | h4
    · exact Or.inr h4
    · exact Or.inl fun z => haw (z ▸ h4))
  refine k H1 ⟨e, g1, List.nodup_nil, fun z hz => absurd hz (List.not_mem_nil), ?_⟩ (fun a ha hal haw => hfr a hal (fun z => haw ⟨z.1, z.2.2⟩)) (fun a ha hal => hfr a hal (fun z => by omega))
  rcases h4 with ⟨a, b, c⟩ | h4
  · refine Or.inl ⟨a, b, (g2 e (fun z => ?_) (Or.inr c)).trans c⟩
    exact ev_AT_ne h1 z.symm
  · exact Or.inr h4
theorem ML_add (hM : m_lst X H l D n ow w qs) (hL : qs.length ≤ 60) {z : Nat × Int32 × Int32} (hz : D ≤ z.1 ∧ z.1 < n ∧ ow z.1 = w ∧ m_pc z.2 (H z.1)) (hq : z.1 ∉ qs.map Prod.fst) (hf : ∀ a, n ≤ a → H a = none) (hB : ev_bs X D) (hlD : l < D) (hDn : D ≤ n)
    (k : ∀ H1 n1 q1, m_lst X H1 l D n1 (m_ow ow n w) w (qs ++ [z]) → m_fr H H1 l D n ow w → (∀ a, n1 ≤ a → H1 a = none) → n ≤ n1 → n1 ≤ n + 1 → q ≤ q1 → q1 ≤ q + 90 → P (.inl (some (.int 1))) H1 n1 q1) : ev_ok (ev_TT X) 262 0 [.ref l, .ref z.1] [] H n q P := by
  obtain ⟨e, h1, h2, h3, h4⟩ := hM
  have hB2 := hB.2.2
  have hB1 := hB.1
  have hne : ∀ z : Nat × Int32 × Int32, m_pc z.2 (H z.1) → ¬ z.1 = l ∧ ¬ z.1 = e := fun z h3 => by
    obtain ⟨g, hg, -⟩ := h3
    obtain ⟨mc, g1, g2, g3⟩ := h1
    refine ⟨fun zz => ?_, fun zz => ?_⟩
    · rw [zz, g1] at hg; cases hg
    · rcases g3 with ⟨g3, -⟩ | ⟨M, F, g3, -⟩
      · rw [zz, g3] at hg; cases hg
      · rw [zz, g3] at hg; cases hg
  refine L_add h1 (by rw [m_len]; exact hL) (m_pc_el hz.2.2.2) (by omega) (hf n (Nat.le_refl n)) (hB.2.1 n (by omega)) (by omega) fun H1 e1 n1 q1 g1 g2 g3 => ?_
  have hn1 : n ≤ n1 ∧ n1 ≤ n + 1 ∧ q ≤ q1 ∧ q1 ≤ q + 90 ∧ (e1 = e ∨ (e1 = n ∧ n1 = n + 1)) := by
    rcases g3 with ⟨a, b, c, -⟩ | ⟨a, b, c, d⟩
    · exact ⟨by omega, by omega, by omega, by omega, Or.inl a⟩
    · exact ⟨by omega, by omega, c, d, Or.inr ⟨a, b⟩⟩
  have hpair : ∀ z : Nat × Int32 × Int32, D ≤ z.1 ∧ z.1 < n ∧ ow z.1 = w ∧ m_pc z.2 (H z.1) → D ≤ z.1 ∧ z.1 < n1 ∧ m_ow ow n w z.1 = w ∧ m_pc z.2 (H1 z.1) := fun z hz => by
    obtain ⟨a, b, c, d⟩ := hz
    refine ⟨a, by omega, (m_ow_l b).trans c, ?_⟩
    rw [g2 _ (hne z d).1 (Or.inl (hne z d).2) (Or.inl (by omega))]
    exact d
  have hzz := hpair z hz
  refine k H1 n1 q1 ⟨e1, ?_, ?_, fun z' hz' => ?_, ?_⟩ (fun a ha hal haw => ?_) (fun a ha => ?_) hn1.1 hn1.2.1 hn1.2.2.1 hn1.2.2.2.1
  · rw [List.map_append]
    exact g1
  · rw [List.map_append]
    refine List.nodup_append.mpr ⟨h2, List.nodup_cons.mpr ⟨List.not_mem_nil, List.nodup_nil⟩, fun a ha b hb hab => ?_⟩
    rw [List.mem_singleton.mp hb] at hab
    exact hq (hab ▸ ha)
  · rcases List.mem_append.mp hz' with h | h
    · exact hpair z' (h3 z' h)
    · rw [List.mem_singleton.mp h]
      exact hzz
  · rcases g3 with ⟨a, b, c, ⟨d, hd⟩⟩ | ⟨a, b, c, d⟩
    · right
      rcases h4 with ⟨-, -, h4⟩ | h4
      · rw [h4] at hd; cases hd
      · rw [a]
        exact ⟨h4.1, by omega, (m_ow_l h4.2.1).trans h4.2.2⟩
    · right
      exact ⟨by omega, by omega, m_ow_g (by omega)⟩
  · refine g2 a hal ?_ (Or.inl (by omega))
    rcases h4 with ⟨-, -, h4⟩ | h4
    · exact Or.inr h4
    · exact Or.inl fun z => haw (z ▸ ⟨h4.1, h4.2.2⟩)
  · refine (g2 a (by omega) ?_ (by omega)).trans (hf a (by omega))
    rcases h4 with ⟨-, -, h4⟩ | h4
    · exact Or.inr h4
    · exact Or.inl (by omega)
end M49
