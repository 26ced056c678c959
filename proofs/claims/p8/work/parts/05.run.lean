/-! ===== a small machine of cells: its states, its runs (a method number, a place in its bytes, locals by place, the stack, the cells by address, the next address, the slots used) ===== -/
abbrev ev_C : Type := (Nat × Nat × (Nat → Value)) ⊕ (Nat × List Value)
abbrev ev_M : Type := Nat → Option ev_C
abbrev ev_H : Type := ev_M × Nat × Nat
abbrev ev_S : Type := List Value × List Value × ev_H
abbrev ev_O : Type := Option Value ⊕ Nat
abbrev ev_N : Type := Option ((Nat × ev_S) ⊕ ((Nat × List Value × Nat × ev_S) ⊕ ((Option Value × ev_H) ⊕ (Nat × ev_H))))
abbrev ev_X : Type := Nat → Nat → Option (Option (Nat × Nat))
abbrev ev_T : Type := (Nat → Nat → ev_S → ev_N) × (Nat → Nat) × (Nat → ev_X)
def ev_J : Value := .retAddr 0
def ev_k (v : Value) : Value := if v.category = 2 then ev_J else v
def ev_st (lo : List Value) (k : Nat) (v : Value) : List Value := (match k with
  | 0 => lo
  | j + 1 => lo.set j (ev_k (lo.getD j ev_J))).set k v
def ev_sl (vs : List Value) : List Value := vs.flatMap fun v => if v.category = 2 then [v, ev_J] else [v]
def ev_lo (n : Nat) (vs : List Value) : List Value := ev_sl vs ++ List.replicate (n - (ev_sl vs).length) ev_J
def ev_up (h : ev_M) (a : Nat) (c : ev_C) : ev_M := fun x => if x = a then some c else h x
def ev_run (T : ev_T) : Nat → Nat → Nat → ev_S → Option (ev_O × ev_H)
  | 0, _, _, _ => none
  | f + 1, mi, pc, S =>
    match T.1 mi pc S with
    | none => none
    | some (.inl x) => ev_run T f mi x.1 x.2
    | some (.inr (.inl x)) =>
      match ev_run T f x.1 0 (ev_lo (T.2.1 x.1) x.2.1, [], x.2.2.2.2.2) with
      | none => none
      | some (.inl v, H) => ev_run T f mi x.2.2.1 (x.2.2.2.1, v.toList ++ x.2.2.2.2.1, H)
      | some (.inr E, H) =>
        match T.2.2 mi pc E with
        | none => none
        | some none => some (.inr E, H)
        | some (some k) => ev_run T f mi k.1 (ev_st x.2.2.2.1 k.2 ev_J, [], H)
    | some (.inr (.inr (.inl x))) => some (.inl x.1, x.2)
    | some (.inr (.inr (.inr x))) => some (.inr x.1, (x.2.1, x.2.2.1 + 1, x.2.2.2 + 6))
theorem ev_run_succ {T : ev_T} : ∀ {f mi pc : Nat} {S : ev_S} {r : ev_O × ev_H}, ev_run T f mi pc S = some r → ev_run T (f + 1) mi pc S = some r := by
  intro f
  induction f with
  | zero => intro mi pc S r h; simp [ev_run] at h
  | succ f ih =>
    intro mi pc S r h
    rw [ev_run] at h
    rw [ev_run]
    rcases hx : T.1 mi pc S with _ | (x | x | x | x)
    · rw [hx] at h; exact h
    · rw [hx] at h; exact ih h
    · rw [hx] at h
      dsimp only at h ⊢
      rcases hy : ev_run T f x.1 0 (ev_lo (T.2.1 x.1) x.2.1, [], x.2.2.2.2.2) with _ | ⟨v | E, H⟩
      · rw [hy] at h; cases h
      · rw [hy] at h
        rw [ih hy]
        exact ih h
      · rw [hy] at h
        rw [ih hy]
        dsimp only at h ⊢
        rcases hz : T.2.2 mi pc E with _ | _ | k
        · rw [hz] at h; exact h
        · rw [hz] at h; exact h
        · rw [hz] at h; exact ih h
    · rw [hx] at h; exact h
    · rw [hx] at h; exact h
theorem ev_run_le {T : ev_T} {f g mi pc : Nat} {S : ev_S} {r : ev_O × ev_H} (hfg : f ≤ g) (h : ev_run T f mi pc S = some r) : ev_run T g mi pc S = some r := by
  induction hfg with
  | refl => exact h
  | step _ ih => exact ev_run_succ ih
/-- the run from here comes to an end of which P holds -/
def ev_ok (T : ev_T) (mi pc : Nat) (lo st : List Value) (h : ev_M) (n q : Nat) (P : ev_O → ev_M → Nat → Nat → Prop) : Prop :=
  ∃ (f : Nat) (o : ev_O × ev_H), ev_run T f mi pc (lo, st, h, n, q) = some o ∧ P o.1 o.2.1 o.2.2.1 o.2.2.2
/-- what is behind a call -/
def ev_kr (T : ev_T) (mi pc pc' : Nat) (lo st : List Value) (P : ev_O → ev_M → Nat → Nat → Prop) : ev_O → ev_M → Nat → Nat → Prop := fun o h n q => match o with
  | .inl v => ev_ok T mi pc' lo (v.toList ++ st) h n q P
  | .inr E => match T.2.2 mi pc E with
    | none => False
    | some none => P (.inr E) h n q
    | some (some k) => ev_ok T mi k.1 (ev_st lo k.2 ev_J) [] h n q P
section EVR
variable {T : ev_T} {mi pc pc' : Nat} {lo st lo' st' : List Value} {h h' : ev_M} {n q n' q' : Nat} {P P' : ev_O → ev_M → Nat → Nat → Prop}
theorem ev_mono (hP : ∀ o h n q, P o h n q → P' o h n q) (k : ev_ok T mi pc lo st h n q P) : ev_ok T mi pc lo st h n q P' := by
  obtain ⟨f, o, h1, h2⟩ := k
  exact ⟨f, o, h1, hP _ _ _ _ h2⟩
theorem ev_go (e : T.1 mi pc (lo, st, h, n, q) = some (.inl (pc', lo', st', h', n', q'))) : ev_ok T mi pc lo st h n q P ↔ ev_ok T mi pc' lo' st' h' n' q' P := by
  constructor
  · rintro ⟨f, o, h1, h2⟩
    cases f with
    | zero => simp [ev_run] at h1
    | succ f =>
      rw [ev_run, e] at h1
      exact ⟨f, o, h1, h2⟩
  · rintro ⟨f, o, h1, h2⟩
    refine ⟨f + 1, o, ?_, h2⟩
    rw [ev_run, e]
    exact h1
theorem ev_re {v : Option Value} (e : T.1 mi pc (lo, st, h, n, q) = some (.inr (.inr (.inl (v, h', n', q'))))) : ev_ok T mi pc lo st h n q P ↔ P (.inl v) h' n' q' := by
  constructor
  · rintro ⟨f, o, h1, h2⟩
    cases f with
    | zero => simp [ev_run] at h1
    | succ f =>
      rw [ev_run, e] at h1
      cases h1
      exact h2
  · intro h2
    refine ⟨1, (.inl v, h', n', q'), ?_, h2⟩
    rw [ev_run, e]
theorem ev_th {E : Nat} (e : T.1 mi pc (lo, st, h, n, q) = some (.inr (.inr (.inr (E, h', n', q'))))) : ev_ok T mi pc lo st h n q P ↔ P (.inr E) h' (n' + 1) (q' + 6) := by
  constructor
  · rintro ⟨f, o, h1, h2⟩
    cases f with
    | zero => simp [ev_run] at h1
    | succ f =>
      rw [ev_run, e] at h1
      cases h1
      exact h2
  · intro h2
    refine ⟨1, (.inr E, h', n' + 1, q' + 6), ?_, h2⟩
    rw [ev_run, e]
theorem ev_no (e : T.1 mi pc (lo, st, h, n, q) = none) : ev_ok T mi pc lo st h n q P ↔ False := by
  constructor
  · rintro ⟨f, o, h1, h2⟩
    cases f with
    | zero => simp [ev_run] at h1
    | succ f =>
      rw [ev_run, e] at h1
      cases h1
  · exact False.elim
theorem ev_ca {mi' : Nat} {as : List Value} (e : T.1 mi pc (lo, st, h, n, q) = some (.inr (.inl (mi', as, pc', lo', st', h', n', q')))) : ev_ok T mi pc lo st h n q P ↔ ev_ok T mi' 0 (ev_lo (T.2.1 mi') as) [] h' n' q' (ev_kr T mi pc pc' lo' st' P) := by
  constructor
  · rintro ⟨f, o, h1, h2⟩
    cases f with
    | zero => simp [ev_run] at h1
    | succ f =>
      rw [ev_run, e] at h1
      dsimp only at h1
      rcases hy : ev_run T f mi' 0 (ev_lo (T.2.1 mi') as, [], h', n', q') with _ | ⟨v | E, H⟩
      · rw [hy] at h1; cases h1
      · rw [hy] at h1
        exact ⟨f, _, hy, f, o, h1, h2⟩
      · rw [hy] at h1
        dsimp only at h1
        refine ⟨f, _, hy, ?_⟩
        unfold ev_kr
        dsimp only
        rcases hz : T.2.2 mi pc E with _ | _ | k
        · rw [hz] at h1; cases h1
        · rw [hz] at h1; cases h1; exact h2
        · rw [hz] at h1; exact ⟨f, o, h1, h2⟩
  · rintro ⟨f, ⟨v | E, H⟩, h1, h2⟩
    · obtain ⟨g, o, h3, h4⟩ := h2
      refine ⟨max f g + 1, o, ?_, h4⟩
      rw [ev_run, e]
      dsimp only
      rw [ev_run_le (Nat.le_max_left f g) h1]
      exact ev_run_le (Nat.le_max_right f g) h3
    · unfold ev_kr at h2
      dsimp only at h2
      rcases hz : T.2.2 mi pc E with _ | _ | k
      · rw [hz] at h2; exact h2.elim
      · rw [hz] at h2
        refine ⟨f + 1, (.inr E, H), ?_, h2⟩
        rw [ev_run, e]
        dsimp only
        rw [h1]
        dsimp only
        rw [hz]
      · rw [hz] at h2
        obtain ⟨g, o, h3, h4⟩ := h2
        refine ⟨max f g + 1, o, ?_, h4⟩
        rw [ev_run, e]
        dsimp only
        rw [ev_run_le (Nat.le_max_left f g) h1]
        dsimp only
        rw [hz]
        exact ev_run_le (Nat.le_max_right f g) h3
end EVR
/-- a guarded step -/
noncomputable def ev_if (g : Prop) (x : ev_N) : ev_N := @ite ev_N g (Classical.propDecidable g) x none
theorem ev_if_t {g : Prop} {x : ev_N} (h : g) : ev_if g x = x := if_pos h
theorem ev_if_f {g : Prop} {x : ev_N} (h : ¬ g) : ev_if g x = none := if_neg h
theorem ev_if_s {g : Prop} {x : ev_N} {y} (h : ev_if g x = some y) : g ∧ x = some y := by
  by_cases hg : g
  · rw [ev_if_t hg] at h; exact ⟨hg, h⟩
  · rw [ev_if_f hg] at h; cases h
section EVG
variable {T : ev_T} {mi pc pc' : Nat} {lo st lo' st' : List Value} {h h' : ev_M} {n q n' q' : Nat} {P P' : ev_O → ev_M → Nat → Nat → Prop} {g : Prop}
theorem ev_goG (e : T.1 mi pc (lo, st, h, n, q) = ev_if g (some (.inl (pc', lo', st', h', n', q')))) : ev_ok T mi pc lo st h n q P ↔ g ∧ ev_ok T mi pc' lo' st' h' n' q' P := by
  by_cases hg : g
  · rw [ev_if_t hg] at e
    rw [ev_go e]
    exact ⟨fun k => ⟨hg, k⟩, fun k => k.2⟩
  · rw [ev_if_f hg] at e
    rw [ev_no e]
    exact ⟨False.elim, fun k => hg k.1⟩
theorem ev_caG {mi' : Nat} {as : List Value} (e : T.1 mi pc (lo, st, h, n, q) = ev_if g (some (.inr (.inl (mi', as, pc', lo', st', h', n', q'))))) : ev_ok T mi pc lo st h n q P ↔ g ∧ ev_ok T mi' 0 (ev_lo (T.2.1 mi') as) [] h' n' q' (ev_kr T mi pc pc' lo' st' P) := by
  by_cases hg : g
  · rw [ev_if_t hg] at e
    rw [ev_ca e]
    exact ⟨fun k => ⟨hg, k⟩, fun k => k.2⟩
  · rw [ev_if_f hg] at e
    rw [ev_no e]
    exact ⟨False.elim, fun k => hg k.1⟩
theorem ev_goI {b : Prop} [Decidable b] {pa pb : Nat} (e : T.1 mi pc (lo, st, h, n, q) = some (.inl ((if b then pa else pb), lo', st', h', n', q'))) : ev_ok T mi pc lo st h n q P ↔ if b then ev_ok T mi pa lo' st' h' n' q' P else ev_ok T mi pb lo' st' h' n' q' P := by
  rw [ev_go e]
  split <;> rfl
theorem ev_kr_v {v : Option Value} : ev_kr T mi pc pc' lo st P (.inl v) h n q ↔ ev_ok T mi pc' lo (v.toList ++ st) h n q P := Iff.rfl
theorem ev_kr_1 {v : Value} : ev_kr T mi pc pc' lo st P (.inl (some v)) h n q ↔ ev_ok T mi pc' lo (v :: st) h n q P := Iff.rfl
theorem ev_kr_0 : ev_kr T mi pc pc' lo st P (.inl none) h n q ↔ ev_ok T mi pc' lo st h n q P := Iff.rfl
theorem ev_kr_x {E : Nat} (e : T.2.2 mi pc E = some none) : ev_kr T mi pc pc' lo st P (.inr E) h n q ↔ P (.inr E) h n q := by
  unfold ev_kr
  dsimp only
  rw [e]
theorem ev_kr_h {E : Nat} {k : Nat × Nat} (e : T.2.2 mi pc E = some (some k)) : ev_kr T mi pc pc' lo st P (.inr E) h n q ↔ ev_ok T mi k.1 (ev_st lo k.2 ev_J) [] h n q P := by
  unfold ev_kr
  dsimp only
  rw [e]
end EVG
