/-! ===== the fewest misses of a size: the spans that are taken, and what is held ===== -/
def mb (As : List Nat) (a : Nat) : Nat → Option Nat
  | 0 => none
  | p + 1 => if As.getD p 0 = a then some p else mb As a p
theorem mb_lt {As : List Nat} {a : Nat} : ∀ {p j : Nat}, mb As a p = some j → j < p := by
  intro p
  induction p with
  | zero => intro j h; cases h
  | succ p ih =>
    intro j h
    unfold mb at h
    split at h
    · cases h; omega
    · have := ih h; omega
theorem mb_at {As : List Nat} {a : Nat} : ∀ {p j : Nat}, mb As a p = some j → As.getD j 0 = a := by
  intro p
  induction p with
  | zero => intro j h; cases h
  | succ p ih =>
    intro j h
    unfold mb at h
    split at h
    · rename_i e
      cases h
      exact e
    · exact ih h
theorem gb_y {As : List Nat} {a p : Nat} (e : As.getD p 0 = a) : mb As a (p + 1) = some p := if_pos e
theorem gb_n {As : List Nat} {a p : Nat} (e : ¬ As.getD p 0 = a) : mb As a (p + 1) = mb As a p := if_neg e
theorem gb_max {As : List Nat} {a : Nat} : ∀ {p l : Nat}, mb As a p = some l → ∀ z, l < z → z < p → ¬ As.getD z 0 = a := by
  intro p
  induction p with
  | zero => intro l h; cases h
  | succ p ih =>
    intro l h z h1 h2
    by_cases e : As.getD p 0 = a
    · rw [gb_y e] at h
      cases h
      omega
    · rw [gb_n e] at h
      by_cases hz : z = p
      · rw [hz]; exact e
      · exact ih h z h1 (by omega)
theorem gb_none {As : List Nat} {a : Nat} : ∀ {p : Nat}, mb As a p = none → ∀ z, z < p → ¬ As.getD z 0 = a := by
  intro p
  induction p with
  | zero => intro _ z h; omega
  | succ p ih =>
    intro h z h2
    by_cases e : As.getD p 0 = a
    · rw [gb_y e] at h; cases h
    · rw [gb_n e] at h
      by_cases hz : z = p
      · rw [hz]; exact e
      · exact ih h z (by omega)
theorem gb_eq {As : List Nat} {a : Nat} : ∀ {p l : Nat}, l < p → As.getD l 0 = a → (∀ z, l < z → z < p → ¬ As.getD z 0 = a) → mb As a p = some l := by
  intro p
  induction p with
  | zero => intro l h; omega
  | succ p ih =>
    intro l h1 h2 h3
    by_cases hl : l = p
    · subst hl; exact gb_y h2
    · rw [gb_n (h3 p (by omega) (by omega))]
      exact ih (by omega) h2 (fun z ha hb => h3 z ha (by omega))
/-- how many taken spans lie over a place, and how many are taken, of the spans that end ahead of e -/
def gs (As : List Nat) (m : Nat) : Nat → (Nat → Nat) × Nat
  | 0 => (fun _ => 0, 0)
  | e + 1 => match mb As (As.getD e 0) e with
    | none => gs As m e
    | some b => if ∀ k, k < e → b < k → (gs As m e).1 k + 1 < m then (fun k => if b < k ∧ k < e then (gs As m e).1 k + 1 else (gs As m e).1 k, (gs As m e).2 + 1) else gs As m e
def gk (As : List Nat) (m e : Nat) : Prop := ∃ b, mb As (As.getD e 0) e = some b ∧ ∀ k, k < e → b < k → (gs As m e).1 k + 1 < m
section GS
variable {As : List Nat} {m : Nat}
theorem gs_y {e b : Nat} (h : mb As (As.getD e 0) e = some b) (hc : ∀ k, k < e → b < k → (gs As m e).1 k + 1 < m) : gs As m (e + 1) = (fun k => if b < k ∧ k < e then (gs As m e).1 k + 1 else (gs As m e).1 k, (gs As m e).2 + 1) := by
  show (match mb As (As.getD e 0) e with
    | none => gs As m e
    | some b => if ∀ k, k < e → b < k → (gs As m e).1 k + 1 < m then (fun k => if b < k ∧ k < e then (gs As m e).1 k + 1 else (gs As m e).1 k, (gs As m e).2 + 1) else gs As m e) = _
  rw [h]
  exact if_pos hc
theorem gs_n {e : Nat} (h : ¬ gk As m e) : gs As m (e + 1) = gs As m e := by
  show (match mb As (As.getD e 0) e with
    | none => gs As m e
    | some b => if ∀ k, k < e → b < k → (gs As m e).1 k + 1 < m then (fun k => if b < k ∧ k < e then (gs As m e).1 k + 1 else (gs As m e).1 k, (gs As m e).2 + 1) else gs As m e) = _
  rcases hb : mb As (As.getD e 0) e with _ | b
  · rfl
  · exact if_neg (fun z => h ⟨b, hb, z⟩)
theorem gs_far : ∀ e k, e ≤ k + 1 → (gs As m e).1 k = 0 := by
  intro e
  induction e with
  | zero => intro k _; rfl
  | succ e ih =>
    intro k hk
    have h0 := ih k (by omega)
    by_cases h : gk As m e
    · obtain ⟨b, h1, h2⟩ := h
      rw [gs_y h1 h2]
      show (if b < k ∧ k < e then (gs As m e).1 k + 1 else (gs As m e).1 k) = 0
      rw [if_neg (by omega)]
      exact h0
    · rw [gs_n h]; exact h0
theorem gs_mono {e p : Nat} : (gs As m e).1 p ≤ (gs As m (e + 1)).1 p := by
  by_cases h : gk As m e
  · obtain ⟨b, h1, h2⟩ := h
    rw [gs_y h1 h2]
    show _ ≤ (if b < p ∧ p < e then (gs As m e).1 p + 1 else (gs As m e).1 p)
    split <;> omega
  · rw [gs_n h]
    exact Nat.le_refl _
theorem gs_le : ∀ e, (gs As m e).2 ≤ e := by
  intro e
  induction e with
  | zero => exact Nat.le_refl 0
  | succ e ih =>
    by_cases h : gk As m e
    · obtain ⟨b, h1, h2⟩ := h
      rw [gs_y h1 h2]
      show (gs As m e).2 + 1 ≤ e + 1
      omega
    · rw [gs_n h]; omega
theorem gs_cnt {p : Nat} : ∀ (i : Nat) (S : List Nat), S.Nodup → (∀ e ∈ S, e < i ∧ gk As m e ∧ ∃ b, mb As (As.getD e 0) e = some b ∧ b < p ∧ p < e) → S.length ≤ (gs As m i).1 p := by
  intro i
  induction i with
  | zero =>
    intro S _ hS
    rcases S with _ | ⟨a, S⟩
    · exact Nat.zero_le _
    · exact absurd (hS a (List.mem_cons_self)).1 (Nat.not_lt_zero a)
  | succ i ih =>
    intro S hn hS
    by_cases hm : i ∈ S
    · obtain ⟨-, ⟨b', hb', hc⟩, b, hb, h1, h2⟩ := hS i hm
      cases Option.some.inj (hb'.symm.trans hb)
      rw [gs_y hb' hc]
      show S.length ≤ if b' < p ∧ p < i then (gs As m i).1 p + 1 else (gs As m i).1 p
      rw [if_pos ⟨h1, h2⟩]
      have h9 := ih (S.erase i) (hn.erase i) (fun e he => by
        obtain ⟨n1, n2⟩ := (hn.mem_erase_iff).mp he
        have := hS e n2
        exact ⟨by omega, this.2⟩)
      rw [List.length_erase_of_mem hm] at h9
      omega
    · refine Nat.le_trans (ih S hn (fun e he => ?_)) gs_mono
      have h9 := hS e he
      have : ¬ e = i := fun z => hm (z ▸ he)
      exact ⟨by omega, h9.2⟩
end GS
/-- the next asking of the same key -/
def nX (As : List Nat) (l k : Nat) : Prop := (l < k ∧ k < As.length ∧ As.getD k 0 = As.getD l 0 ∧ ∀ z, l < z → z < k → ¬ As.getD z 0 = As.getD l 0) ∨ (k = 60 ∧ ∀ z, l < z → z < As.length → ¬ As.getD z 0 = As.getD l 0)
theorem nX_le {As : List Nat} {l k : Nat} (h : nX As l k) (hA : As.length ≤ 60) : k ≤ 60 := by
  rcases h with ⟨-, h, -⟩ | ⟨h, -⟩ <;> omega
theorem nX_fun {As : List Nat} {l k k' : Nat} (hA : As.length ≤ 60) (h : nX As l k) (h' : nX As l k') : k = k' := by
  rcases h with ⟨a1, a2, a3, a4⟩ | ⟨a1, a2⟩ <;> rcases h' with ⟨b1, b2, b3, b4⟩ | ⟨b1, b2⟩
  · rcases Nat.lt_trichotomy k k' with e | e | e
    · exact absurd a3 (b4 k a1 e)
    · exact e
    · exact absurd b3 (a4 k' b1 e)
  · exact absurd a3 (b2 k a1 a2)
  · exact absurd b3 (a2 k' b1 b2)
  · omega
def gc (lk : Nat → Nat) (k : Nat) : Nat → Nat
  | 0 => 0
  | j + 1 => gc lk k j + (if lk j < k then 1 else 0)
theorem gc_ext {lk lk' : Nat → Nat} {k : Nat} : ∀ e, (∀ j, j < e → lk' j = lk j) → gc lk' k e = gc lk k e := by
  intro e
  induction e with
  | zero => intro _; rfl
  | succ e ih =>
    intro h
    show gc lk' k e + _ = gc lk k e + _
    rw [ih (fun j hj => h j (by omega)), h e (by omega)]
theorem gc_le {lk : Nat → Nat} {k : Nat} : ∀ e, gc lk k e ≤ e := by
  intro e
  induction e with
  | zero => exact Nat.le_refl 0
  | succ e ih =>
    show gc lk k e + (if lk e < k then 1 else 0) ≤ e + 1
    split <;> omega
theorem gc_lt {lk : Nat → Nat} {k f : Nat} : ∀ e, f < e → ¬ lk f < k → gc lk k e + 1 ≤ e := by
  intro e
  induction e with
  | zero => intro h; omega
  | succ e ih =>
    intro h hf
    show gc lk k e + (if lk e < k then 1 else 0) + 1 ≤ e + 1
    by_cases he : f = e
    · subst he
      rw [if_neg hf]
      have := gc_le (lk := lk) (k := k) f
      omega
    · have := ih (by omega) hf
      split <;> omega
theorem gc_upd {lk lk' : Nat → Nat} {k f : Nat} : ∀ e, f < e → (∀ j, j < e → ¬ j = f → lk' j = lk j) → gc lk' k e + (if lk f < k then 1 else 0) = gc lk k e + (if lk' f < k then 1 else 0) := by
  intro e
  induction e with
  | zero => intro h; omega
  | succ e ih =>
    intro h hl
    show gc lk' k e + (if lk' e < k then 1 else 0) + _ = gc lk k e + (if lk e < k then 1 else 0) + _
    by_cases he : f = e
    · subst he
      rw [gc_ext f (fun j hj => hl j (by omega) (by omega))]
      omega
    · have := ih (by omega) (fun j hj => hl j (by omega))
      rw [hl e (by omega) (fun z => he z.symm)]
      omega
theorem gs_nodup {f : Nat → Nat} : ∀ {S : List Nat}, S.Nodup → (∀ a ∈ S, ∀ b ∈ S, f a = f b → a = b) → (S.map f).Nodup := by
  intro S
  induction S with
  | nil => intro _ _; exact List.Pairwise.nil
  | cons a S ih =>
    intro h hi
    obtain ⟨h1, h2⟩ := List.nodup_cons.mp h
    rw [List.map_cons]
    refine List.nodup_cons.mpr ⟨fun z => ?_, ih h2 (fun x hx y hy => hi x (List.mem_cons_of_mem _ hx) y (List.mem_cons_of_mem _ hy))⟩
    obtain ⟨b, hb, e⟩ := List.mem_map.mp z
    have := hi a List.mem_cons_self b (List.mem_cons_of_mem _ hb) e.symm
    exact h1 (this ▸ hb)
/-- what is held, ahead of asking i: keys, their last askings, their next ones -/
def bJ (As : List Nat) (m i e : Nat) (xk lk nk : Nat → Nat) : Prop :=
  e ≤ m ∧ (∀ j, j < e → mb As (xk j) i = some (lk j) ∧ nX As (lk j) (nk j)) ∧
  (∀ j j', j < e → j' < e → xk j = xk j' → j = j') ∧
  (∀ k, k < i → (gs As m i).1 k + gc lk k e + 1 ≤ m) ∧
  ∀ y b ny, (∀ j, j < e → ¬ xk j = y) → mb As y i = some b → nX As b ny → ny < As.length →
    ∃ (p : Nat) (S : List Nat), b < p ∧ p < i ∧ S.Nodup ∧ S.length + 1 = m ∧ ∀ e' ∈ S, e' < ny ∧ ∃ b', mb As (As.getD e' 0) e' = some b' ∧ b' < p ∧ p < e' ∧ (e' < i → gk As m e') ∧ (i ≤ e' → ∃ j, j < e ∧ xk j = As.getD e' 0 ∧ nk j = e')
def gu (f : Nat → Nat) (j v : Nat) : Nat → Nat := fun i => if i = j then v else f i
theorem gu_s {f : Nat → Nat} {j v : Nat} : gu f j v j = v := if_pos rfl
theorem gu_o {f : Nat → Nat} {j v i : Nat} (h : ¬ i = j) : gu f j v i = f i := if_neg h
section BJ
variable {As : List Nat} {m i e : Nat} {xk lk nk : Nat → Nat}
theorem bJ_0 : bJ As m 0 0 xk lk nk := ⟨Nat.zero_le m, fun j hj => absurd hj (Nat.not_lt_zero j), fun j _ hj => absurd hj (Nat.not_lt_zero j), fun k hk => absurd hk (Nat.not_lt_zero k), fun y b ny _ h => by cases h⟩
theorem bJ_nge (h : bJ As m i e xk lk nk) (hA : As.length ≤ 60) {j : Nat} (hj : j < e) (hn : nk j < As.length) : lk j < nk j ∧ i ≤ nk j ∧ As.getD (nk j) 0 = xk j ∧ mb As (As.getD (nk j) 0) (nk j) = some (lk j) := by
  obtain ⟨h1, h2⟩ := h.2.1 j hj
  have hat := mb_at h1
  rcases h2 with ⟨a1, a2, a3, a4⟩ | ⟨a1, a2⟩
  · refine ⟨a1, ?_, a3.trans hat, ?_⟩
    · refine Nat.le_of_not_lt fun z => gb_max h1 _ a1 z (a3.trans hat)
    · exact gb_eq a1 a3.symm (fun z z1 z2 => by rw [a3]; exact a4 z z1 z2)
  · have hl := mb_lt h1
    exfalso
    omega
theorem bJ_hit (h : bJ As m i e xk lk nk) (hi : i < As.length) (hA : As.length ≤ 60) {f ni : Nat} (hf : f < e) (hx : xk f = As.getD i 0) (hn : nX As i ni) : gk As m i ∧ bJ As m (i + 1) e xk (gu lk f i) (gu nk f ni) := by
  obtain ⟨hem, h1, h2, h3, h4⟩ := h
  obtain ⟨m1, m2⟩ := h1 f hf
  have hl := mb_lt m1
  rw [hx] at m1
  have hcount : ∀ k, lk f < k → 1 ≤ gc lk k e := fun k hk => by
    have := gc_upd (lk := lk) (lk' := gu lk f k) (k := k) (f := f) e hf (fun j _ hj => gu_o hj)
    rw [gu_s, if_pos hk, if_neg (Nat.lt_irrefl k)] at this
    omega
  have hg : ∀ k, k < i → lk f < k → (gs As m i).1 k + 1 < m := fun k k1 k2 => by
    have := h3 k k1
    have := hcount k k2
    omega
  have hgk : gk As m i := ⟨lk f, m1, hg⟩
  refine ⟨hgk, hem, fun j hj => ?_, h2, fun k hk => ?_, fun y b ny hy hb hny hlt => ?_⟩
  · by_cases hjf : j = f
    · subst hjf
      rw [gu_s, gu_s]
      exact ⟨gb_y hx.symm, hn⟩
    · rw [gu_o hjf, gu_o hjf]
      have hne : ¬ As.getD i 0 = xk j := fun z => hjf (h2 j f hj hf (z.symm.trans hx.symm))
      rw [gb_n hne]
      exact h1 j hj
  · rw [gs_y m1 hg]
    show (if lk f < k ∧ k < i then (gs As m i).1 k + 1 else (gs As m i).1 k) + gc (gu lk f i) k e + 1 ≤ m
    have hu := gc_upd (lk := lk) (lk' := gu lk f i) (k := k) (f := f) e hf (fun j _ hj => gu_o hj)
    rw [gu_s, if_neg (show ¬ i < k by omega)] at hu
    by_cases hki : k < i
    · have h9 := h3 k hki
      by_cases hlk : lk f < k
      · rw [if_pos ⟨hlk, hki⟩]
        rw [if_pos hlk] at hu
        omega
      · rw [if_neg (fun z => hlk z.1)]
        rw [if_neg hlk] at hu
        omega
    · have hki2 : k = i := by omega
      subst hki2
      rw [if_neg (fun z => Nat.lt_irrefl _ z.2), gs_far k k (by omega)]
      rw [if_pos hl] at hu
      have := gc_lt (lk := gu lk f k) (k := k) (f := f) e hf (by rw [gu_s]; omega)
      omega
  · have hyi : ¬ As.getD i 0 = y := fun z => hy f hf (hx.trans z)
    rw [gb_n hyi] at hb
    obtain ⟨p, S, p1, p2, p3, p4, p5⟩ := h4 y b ny hy hb hny hlt
    refine ⟨p, S, p1, by omega, p3, p4, fun e' he' => ?_⟩
    obtain ⟨q1, b', q2, q3, q4, q5, q6⟩ := p5 e' he'
    refine ⟨q1, b', q2, q3, q4, fun z => ?_, fun z => ?_⟩
    · by_cases hei : e' = i
      · rw [hei]; exact hgk
      · exact q5 (by omega)
    · obtain ⟨j, j1, j2, j3⟩ := q6 (by omega)
      refine ⟨j, j1, j2, ?_⟩
      by_cases hjf : j = f
      · exfalso
        rw [hjf, hx] at j2
        exact gb_max q2 i (by omega) (by omega) j2
      · rw [gu_o hjf]; exact j3
theorem bJ_not (h : bJ As m i e xk lk nk) (hi : i < As.length) (hx : ∀ j, j < e → ¬ xk j = As.getD i 0) : ¬ gk As m i := by
  rintro ⟨b, hb, hc⟩
  have hbl := mb_lt hb
  have hbx := mb_at hb
  obtain ⟨p, S, p1, p2, p3, p4, p5⟩ := h.2.2.2.2 (As.getD i 0) b i hx hb (Or.inl ⟨hbl, hi, hbx.symm, fun z z1 z2 => by rw [hbx]; exact gb_max hb z z1 z2⟩) hi
  have h9 := gs_cnt (As := As) (m := m) (p := p) i S p3 (fun e' he' => by
    obtain ⟨q1, b', q2, q3, q4, q5, q6⟩ := p5 e' he'
    exact ⟨q1, q5 q1, b', q2, q3, q4⟩)
  have := hc p p2 p1
  omega
theorem bJ_new (h : bJ As m i e xk lk nk) (hi : i < As.length) (hA : As.length ≤ 60) {ni : Nat} (hx : ∀ j, j < e → ¬ xk j = As.getD i 0) (hn : nX As i ni) (he : e < m) : bJ As m (i + 1) (e + 1) (gu xk e (As.getD i 0)) (gu lk e i) (gu nk e ni) := by
  have hng := bJ_not h hi hx
  obtain ⟨hem, h1, h2, h3, h4⟩ := h
  refine ⟨by omega, fun j hj => ?_, fun j j' hj hj' => ?_, fun k hk => ?_, fun y b ny hy hb hny hlt => ?_⟩
  · by_cases hje : j = e
    · subst hje
      rw [gu_s, gu_s, gu_s]
      exact ⟨gb_y rfl, hn⟩
    · rw [gu_o hje, gu_o hje, gu_o hje, gb_n (fun z => hx j (by omega) z.symm)]
      exact h1 j (by omega)
  · by_cases hje : j = e <;> by_cases hje' : j' = e
    · intro _; omega
    · rw [hje, gu_s, gu_o hje']
      intro z; exact absurd z.symm (hx j' (by omega))
    · rw [hje', gu_s, gu_o hje]
      intro z; exact absurd z (hx j (by omega))
    · rw [gu_o hje, gu_o hje']
      exact h2 j j' (by omega) (by omega)
  · rw [gs_n hng]
    show (gs As m i).1 k + (gc (gu lk e i) k e + (if gu lk e i e < k then 1 else 0)) + 1 ≤ m
    rw [gu_s, if_neg (by omega), show gc (gu lk e i) k e = gc lk k e from gc_ext e (fun j hj => gu_o (by omega))]
    by_cases hki : k < i
    · exact h3 k hki
    · rw [gs_far i k (by omega)]
      have := gc_le (lk := lk) (k := k) e
      omega
  · have hyx : ¬ As.getD i 0 = y := by
      have := hy e (by omega)
      rw [gu_s] at this
      exact this
    have hy' : ∀ j, j < e → ¬ xk j = y := fun j hj => by
      have := hy j (by omega)
      rw [gu_o (by omega)] at this
      exact this
    rw [gb_n hyx] at hb
    obtain ⟨p, S, p1, p2, p3, p4, p5⟩ := h4 y b ny hy' hb hny hlt
    refine ⟨p, S, p1, by omega, p3, p4, fun e' he' => ?_⟩
    obtain ⟨q1, b', q2, q3, q4, q5, q6⟩ := p5 e' he'
    have hei : ¬ e' = i := fun z => by
      obtain ⟨j, j1, j2, j3⟩ := q6 (by omega)
      rw [z] at j2
      exact hx j j1 j2
    refine ⟨q1, b', q2, q3, q4, fun z => q5 (by omega), fun z => ?_⟩
    obtain ⟨j, j1, j2, j3⟩ := q6 (by omega)
    exact ⟨j, by omega, by rw [gu_o (by omega)]; exact j2, by rw [gu_o (by omega)]; exact j3⟩
theorem bJ_out (h : bJ As m i m xk lk nk) (hi : i < As.length) (hA : As.length ≤ 60) {f ni : Nat} (hf : f < m) (hx : ∀ j, j < m → ¬ xk j = As.getD i 0) (hn : nX As i ni) (hfar : ∀ j, j < m → nk j ≤ nk f) : bJ As m (i + 1) m (gu xk f (As.getD i 0)) (gu lk f i) (gu nk f ni) := by
  have hng := bJ_not h hi hx
  have h0 := h
  obtain ⟨hem, h1, h2, h3, h4⟩ := h
  -- the witness at i, for a key that isn't asked again ahead of the one let go
  have hw : ∀ b ny, b < i → nk f < As.length → nk f ≤ ny → ∃ (p : Nat) (S : List Nat), b < p ∧ p < i + 1 ∧ S.Nodup ∧ S.length + 1 = m ∧ ∀ e' ∈ S, e' < ny ∧ ∃ b', mb As (As.getD e' 0) e' = some b' ∧ b' < p ∧ p < e' ∧ (e' < i + 1 → gk As m e') ∧ (i + 1 ≤ e' → ∃ j, j < m ∧ gu xk f (As.getD i 0) j = As.getD e' 0 ∧ gu nk f ni j = e') := by
    intro b ny hb hreal hle
    have hnd : (List.range m).Nodup := by first | exact List.nodup_range | exact List.nodup_range _
    have hinj : ∀ a, a < m → ∀ c, c < m → nk a = nk c → a = c := fun a ha c hc e => by
      have ea := (bJ_nge h0 hA ha (by have := hfar a ha; omega)).2.2.1
      have ec := (bJ_nge h0 hA hc (by have := hfar c hc; omega)).2.2.1
      rw [e] at ea
      exact h2 a c ha hc (ea.symm.trans ec)
    have hmem : ∀ a, a ∈ (List.range m).erase f → ¬ a = f ∧ a < m := fun a ha => by
      obtain ⟨n1, n2⟩ := (hnd.mem_erase_iff).mp ha
      exact ⟨n1, List.mem_range.mp n2⟩
    refine ⟨i, ((List.range m).erase f).map nk, hb, Nat.lt_succ_self i, gs_nodup (hnd.erase f) (fun a ha c hc e => hinj a (hmem a ha).2 c (hmem c hc).2 e), ?_, fun e' he' => ?_⟩
    · rw [List.length_map, List.length_erase_of_mem (List.mem_range.mpr hf), List.length_range]
      omega
    · obtain ⟨j, hj, rfl⟩ := List.mem_map.mp he'
      obtain ⟨hjf, hjm⟩ := hmem j hj
      have hle2 := hfar j hjm
      obtain ⟨g1, g2, g3, g4⟩ := bJ_nge h0 hA hjm (by omega)
      have hne : ¬ nk j = nk f := fun z => hjf (hinj j hjm f hf z)
      have hni : ¬ nk j = i := fun z => hx j hjm (g3.symm.trans (by rw [z]))
      exact ⟨by omega, lk j, g4, mb_lt (h1 j hjm).1, by omega, fun z => by omega, fun _ => ⟨j, hjm, by rw [gu_o hjf]; exact g3.symm, gu_o hjf⟩⟩
  refine ⟨Nat.le_refl m, fun j hj => ?_, fun j j' hj hj' => ?_, fun k hk => ?_, fun y b ny hy hb hny hlt => ?_⟩
  · by_cases hje : j = f
    · subst hje
      rw [gu_s, gu_s, gu_s]
      exact ⟨gb_y rfl, hn⟩
    · rw [gu_o hje, gu_o hje, gu_o hje, gb_n (fun z => hx j hj z.symm)]
      exact h1 j hj
  · by_cases hje : j = f <;> by_cases hje' : j' = f
    · intro _; omega
    · rw [hje, gu_s, gu_o hje']
      intro z; exact absurd z.symm (hx j' hj')
    · rw [hje', gu_s, gu_o hje]
      intro z; exact absurd z (hx j hj)
    · rw [gu_o hje, gu_o hje']
      exact h2 j j' hj hj'
  · rw [gs_n hng]
    have hu := gc_upd (lk := lk) (lk' := gu lk f i) (k := k) (f := f) m hf (fun j _ hj => gu_o hj)
    rw [gu_s, if_neg (show ¬ i < k by omega)] at hu
    by_cases hki : k < i
    · have := h3 k hki
      omega
    · rw [gs_far i k (by omega)]
      have := gc_lt (lk := gu lk f i) (k := k) (f := f) m hf (by rw [gu_s]; omega)
      omega
  · have hyx : ¬ As.getD i 0 = y := by
      have := hy f hf
      rw [gu_s] at this
      exact this
    rw [gb_n hyx] at hb
    have hbl := mb_lt hb
    by_cases hyf : xk f = y
    · obtain ⟨m1, m2⟩ := h1 f hf
      rw [hyf, hb] at m1
      cases m1
      have := nX_fun hA m2 hny
      exact hw _ ny hbl (by omega) (by omega)
    · have hy' : ∀ j, j < m → ¬ xk j = y := fun j hj => by
        by_cases hjf : j = f
        · rw [hjf]; exact hyf
        · have := hy j hj
          rw [gu_o hjf] at this
          exact this
      obtain ⟨p, S, p1, p2, p3, p4, p5⟩ := h4 y b ny hy' hb hny hlt
      by_cases hout : ∃ e', e' ∈ S ∧ i ≤ e' ∧ nk f = e'
      · obtain ⟨e', he', hi', hfe⟩ := hout
        have := (p5 e' he').1
        exact hw b ny hbl (by omega) (by omega)
      · refine ⟨p, S, p1, by omega, p3, p4, fun e' he' => ?_⟩
        obtain ⟨q1, b', q2, q3, q4, q5, q6⟩ := p5 e' he'
        have hei : ¬ e' = i := fun z => by
          obtain ⟨j, j1, j2, j3⟩ := q6 (by omega)
          rw [z] at j2
          exact hx j j1 j2
        refine ⟨q1, b', q2, q3, q4, fun z => q5 (by omega), fun z => ?_⟩
        obtain ⟨j, j1, j2, j3⟩ := q6 (by omega)
        have hjf : ¬ j = f := fun w => hout ⟨e', he', by omega, by rw [← w]; exact j3⟩
        exact ⟨j, j1, by rw [gu_o hjf]; exact j2, by rw [gu_o hjf]; exact j3⟩
end BJ
theorem nI_sub9 {a b : Nat} (h : b ≤ a) : nI a - nI b = nI (a - b) := by
  have : nI a = nI (a - b) + nI b := by rw [nI_add, Nat.sub_add_cancel h]
  rw [this, Int32.add_sub_cancel]
