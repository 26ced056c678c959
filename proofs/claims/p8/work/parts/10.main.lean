/-! ===== the small machine's runs are the machine's ===== -/
section EVM
variable {X : ev_E} {l : Launch} {ms : Nat → ev_I} {T : ev_T}
/-- where a thrown object goes in a method: caught or on to the caller -/
def ev_Hs (X : ev_E) (l : Launch) (x : ev_I) (tx : ev_X) : Prop := ∀ (pc E : Nat) (p : Program) (e : Env) (R : Room) (s : State) (m : MethodId) (args : Array Value) (below : List Frame) (meth : Method) (c : Code) (n0 q0 : Nat) (lo : List Value) (K : ev_H), ev_At X x p R s m meth c →
  (tx pc E = some none → ev_VX X x p l e R s m args below meth c n0 q0 (vx_MQ below (ev_QC X (.inr E) K) (ev_XC X (.inr E) K) args s (K.2.1 - n0) (K.2.2 - q0) (fun a => X.1.heap.size ≤ a)) pc E lo K) ∧
  ∀ (k : Nat × Nat) (Q : State → Prop), tx pc E = some (some k) → ev_V X x p l e R s m args below meth c n0 q0 Q k.1 (ev_st lo k.2 ev_J, [], K) → ev_VX X x p l e R s m args below meth c n0 q0 Q pc E lo K
theorem ev_Hs_plain {x : ev_I} {tx : ev_X} (hh : x.2.2.2.2.1 = []) (h : ∀ pc E k, tx pc E ≠ some (some k)) : ev_Hs X l x tx := by
  intro pc E p e R s m args below meth c n0 q0 lo K hA
  refine ⟨fun _ => ?_, fun k Q hk => absurd hk (h pc E k)⟩
  intro H locs ls rest q ce hR hL hS hq hv hcl
  obtain ⟨hx, hb, hml, hown, hret, hlk, hnm, htab, hW, hbel, hz, hfr, hlo⟩ := hA
  refine vx_out (fun z hz => by rw [htab, hh] at hz; cases hz) hlk hq hv hcl (fun t ht _ => ⟨⟨E, rfl, rfl⟩, by rw [ht]; exact hR, fun a ha => by rw [ht]; exact ev_below (h := K.1) (n := 0) hz hS a ha⟩) hS.2.2 (Nat.le_refl _) (Nat.le_refl _)
theorem ev_sl_lg : ∀ (vs : List Value), (ev_sl vs).length = (lg_sl vs).length ∧ ∀ (i : Nat) (v : Value), (ev_sl vs)[i]? = some v → ev_isJ v = true ∨ (lg_sl vs)[i]? = some (.val v) := by
  intro vs
  induction vs with
  | nil => exact ⟨rfl, fun i v h => by simp [ev_sl] at h⟩
  | cons w vs ih =>
    obtain ⟨h1, h2⟩ := ih
    have e1 : ev_sl (w :: vs) = (if w.category = 2 then [w, ev_J] else [w]) ++ ev_sl vs := rfl
    have e2 : lg_sl (w :: vs) = (if w.category = 2 then [.val w, .second] else [.val w]) ++ lg_sl vs := rfl
    rw [e1, e2]
    split
    · refine ⟨by simp [h1], fun i v h => ?_⟩
      match i, h with
      | 0, h => cases h; exact Or.inr rfl
      | 1, h => cases h; exact Or.inl rfl
      | i + 2, h => exact h2 i v h
    · refine ⟨by simp [h1], fun i v h => ?_⟩
      match i, h with
      | 0, h => cases h; exact Or.inr rfl
      | i + 1, h => exact h2 i v h
theorem ev_L_entry {as : List Value} {nL : Nat} (h : (ev_sl as).length ≤ nL) : ev_L ((lg_sl as ++ List.replicate (nL - (lg_sl as).length) Slot.unset).toArray) nL (ev_lo nL as) := by
  obtain ⟨h1, h2⟩ := ev_sl_lg as
  obtain ⟨w1, w2, -⟩ := lv_entry as (n := nL) (by omega)
  refine ⟨w1, w2, by unfold ev_lo; rw [List.length_append, List.length_replicate]; omega, fun i v hv => ?_⟩
  unfold ev_lo at hv
  by_cases hi : i < (ev_sl as).length
  · rw [List.getElem?_append_left hi] at hv
    rcases h2 i v hv with h3 | h3
    · exact Or.inl h3
    · right
      rw [List.getElem?_toArray, List.getElem?_append_left (by omega)]
      exact h3
  · rw [List.getElem?_append_right (by omega)] at hv
    have := (List.getElem?_eq_some_iff.mp hv)
    obtain ⟨k1, k2⟩ := this
    rw [List.getElem_replicate] at k2
    rw [← k2]
    exact Or.inl rfl
/-- a run of a method from its entry, as a contract -/
theorem ev_ofV {y : ev_I} {as : List Value} {K : ev_H} {o : ev_O} {K' : ev_H} (hp : plainName y.1.cls = true) (hsl : (ev_sl as).length ≤ y.2.2.1)
    (h : ∀ (p : Program) (e : Env) (R : Room) (s : State) (m : MethodId) (args : Array Value) (below : List Frame) (meth : Method) (c : Code), ev_At X y p R s m meth c → K'.2.1 - K.2.1 ≤ R.cells → K'.2.2 - K.2.2 ≤ R.slots →
      ev_V X y p l e R s m args below meth c K.2.1 K.2.2 (vx_MQ below (ev_QC X o K') (ev_XC X o K') args s (K'.2.1 - K.2.1) (K'.2.2 - K.2.2) (fun a => X.1.heap.size ≤ a)) 0 (ev_lo y.2.2.1 as, [], K)) : ev_Met X l y as K o K' := by
  have key : ∀ (ws : List Cond) (p : Program) (e : Env) (s : State) (m : MethodId) (args : Array Value) (below : List Frame) (meth : Method) (c : Code) (s₁ : State), BodyLoose p l y.1 (headSpec ws (ev_rm y (K'.2.1 - K.2.1) (K'.2.2 - K.2.2))) y.2.1 y.2.2.1 y.2.2.2.1 e s m args below meth c s₁ → c.maxLocals = y.2.2.1 → c.exceptionTable.toList = tableOf y.2.2.2.2.1 → ev_Pc X as K args s →
      W p l e (ev_rm y (K'.2.1 - K.2.1) (K'.2.2 - K.2.2)) s m args below meth c s.heap [] 0 0 (vx_MQ below (ev_QC X o K') (ev_XC X o K') args s (K'.2.1 - K.2.1) (K'.2.2 - K.2.2) (fun a => X.1.heap.size ≤ a)) (entryFrame m args y.2.2.1) := by
    intro ws p e s m args below meth c s₁ B hml htab hv
    obtain ⟨rfl, hR, hW, hbel⟩ := hv
    rw [lg_entry_eq]
    have h1 := h p e (ev_rm y (K'.2.1 - K.2.1) (K'.2.2 - K.2.2)) s m as.toArray below meth c ⟨B.exec, B.bytes, hml, findClass_of_methodNamed B.named, B.returns, B.notSynchronized, (name_of_methodNamed B.named B.method).1, htab, hW, hbel, by have := hR.1; have := hR.2.1; omega, Nat.le_refl _, Nat.le_refl _⟩ (Nat.le_refl _) (Nat.le_refl _) s.heap [] _ hR (ev_L_entry hsl) va_S.rf
    dsimp only at h1
    exact W.cs (by omega) (by omega) h1
  unfold ev_Met
  rcases hh : y.2.2.2.2.1 with _ | ⟨r, hh'⟩
  · refine vx_ofW (cc := y.2.1) (maxL := y.2.2.1) (ret := y.2.2.2.1) (ws' := []) hp (ev_wd0 hh) fun p e s m args below meth c s₁ B hml ht hv => ?_
    refine key _ p e s m args below meth c s₁ B hml ?_ hv
    rw [hh]
    cases hl : c.exceptionTable.toList with
    | nil => rfl
    | cons z zs => exact (ht z (by rw [hl]; exact List.mem_cons_self)).elim
  · refine vx_ofWH (cc := y.2.1) (maxL := y.2.2.1) (ret := y.2.2.2.1) (hh := r :: hh') (ws' := []) hp (ev_wd1 hh) fun p e s m args below meth c s₁ B hml hv => ?_
    refine key _ p e s m args below meth c s₁ B hml ?_ hv
    rw [hh]
    exact vx_table (x := y.1) B (atoms_spec (ws := ev_wd y) B.pre _ (by rw [ev_wd1 hh]; exact List.mem_cons_self))
theorem ev_main (hT : ∀ mi pc, ev_Snd X l ms (ms mi) (T.2.2 mi) pc (T.1 mi pc)) (hH : ∀ mi, ev_Hs X l (ms mi) (T.2.2 mi)) (hn : ∀ mi, T.2.1 mi = (ms mi).2.2.1) (hp : ∀ mi, plainName (ms mi).1.cls = true) :
    ∀ (f mi pc : Nat) (S : ev_S) (o : ev_O) (K' : ev_H), ev_run T f mi pc S = some (o, K') → S.2.2.2.1 ≤ K'.2.1 ∧ S.2.2.2.2 ≤ K'.2.2 ∧
      ∀ (p : Program) (e : Env) (R : Room) (s : State) (m : MethodId) (args : Array Value) (below : List Frame) (meth : Method) (c : Code) (n0 q0 : Nat), ev_At X (ms mi) p R s m meth c → n0 ≤ S.2.2.2.1 → q0 ≤ S.2.2.2.2 → K'.2.1 - n0 ≤ R.cells → K'.2.2 - q0 ≤ R.slots →
        ev_V X (ms mi) p l e R s m args below meth c n0 q0 (vx_MQ below (ev_QC X o K') (ev_XC X o K') args s (K'.2.1 - n0) (K'.2.2 - q0) (fun a => X.1.heap.size ≤ a)) pc S := by
  intro f
  induction f with
  | zero => intro mi pc S o K' h; simp [ev_run] at h
  | succ f ih =>
    intro mi pc S o K' h
    have hs := hT mi pc S
    rw [ev_run] at h
    rcases hx : T.1 mi pc S with _ | (z | z | z | z)
    · rw [hx] at h; cases h
    · rw [hx] at h
      obtain ⟨g1, g2, g3⟩ := hs _ hx
      obtain ⟨i1, i2, i3⟩ := ih mi z.1 z.2 o K' h
      refine ⟨Nat.le_trans g1 i1, Nat.le_trans g2 i2, fun p e R s m args below meth c n0 q0 hA h1 h2 h3 h4 => ?_⟩
      exact g3 p e R s m args below meth c n0 q0 _ hA h1 h2 (by omega) (by omega) (i3 p e R s m args below meth c n0 q0 hA (Nat.le_trans h1 g1) (Nat.le_trans h2 g2) h3 h4)
    · rw [hx] at h
      dsimp only at h
      obtain ⟨g1, g2, g3⟩ := hs _ hx
      rcases hy : ev_run T f z.1 0 (ev_lo (T.2.1 z.1) z.2.1, [], z.2.2.2.2.2) with _ | ⟨v | E, H⟩
      · rw [hy] at h; cases h
      · rw [hy] at h
        dsimp only at h
        obtain ⟨j1, j2, j3⟩ := ih z.1 0 _ _ _ hy
        obtain ⟨i1, i2, i3⟩ := ih mi z.2.2.1 _ o K' h
        dsimp only at j1 j2 j3 i1 i2 i3
        rw [g1] at j1 j2 j3
        refine ⟨Nat.le_trans j1 i1, Nat.le_trans j2 i2, fun p e R s m args below meth c n0 q0 hA h1 h2 h3 h4 => ?_⟩
        have hM : ev_Met X l (ms z.1) z.2.1 S.2.2 (.inl v) H := ev_ofV (hp z.1) g2 fun p e R s m args below meth c hA' k1 k2 => by
          have k3 := j3 p e R s m args below meth c S.2.2.2.1 S.2.2.2.2 hA' (Nat.le_refl _) (Nat.le_refl _) k1 k2
          rw [hn z.1] at k3
          exact k3
        refine g3 (.inl v) H (fun E hE => by cases hE) j1 j2 hM p e R s m args below meth c n0 q0 _ hA h1 h2 (by omega) (by omega) (fun w hw => ?_) (fun E hE => by cases hE)
        cases hw
        exact i3 p e R s m args below meth c n0 q0 hA (Nat.le_trans h1 j1) (Nat.le_trans h2 j2) h3 h4
      · rw [hy] at h
        dsimp only at h
        obtain ⟨j1, j2, j3⟩ := ih z.1 0 _ _ _ hy
        dsimp only at j1 j2 j3
        rw [g1] at j1 j2 j3
        have hM : ev_Met X l (ms z.1) z.2.1 S.2.2 (.inr E) H := ev_ofV (hp z.1) g2 fun p e R s m args below meth c hA' k1 k2 => by
          have k3 := j3 p e R s m args below meth c S.2.2.2.1 S.2.2.2.2 hA' (Nat.le_refl _) (Nat.le_refl _) k1 k2
          rw [hn z.1] at k3
          exact k3
        rcases hz : T.2.2 mi pc E with _ | _ | k
        · rw [hz] at h; cases h
        · rw [hz] at h
          cases h
          refine ⟨j1, j2, fun p e R s m args below meth c n0 q0 hA h1 h2 h3 h4 => ?_⟩
          refine g3 (.inr E) K' (fun E' hE => by cases hE; rw [hz]; exact fun z => by cases z) j1 j2 hM p e R s m args below meth c n0 q0 _ hA h1 h2 h3 h4 (fun w hw => by cases hw) (fun E' hE => ?_)
          cases hE
          exact (hH mi pc E p e R s m args below meth c n0 q0 z.2.2.2.1 K' hA).1 hz
        · rw [hz] at h
          dsimp only at h
          obtain ⟨i1, i2, i3⟩ := ih mi k.1 _ o K' h
          dsimp only at i1 i2 i3
          refine ⟨Nat.le_trans j1 i1, Nat.le_trans j2 i2, fun p e R s m args below meth c n0 q0 hA h1 h2 h3 h4 => ?_⟩
          refine g3 (.inr E) H (fun E' hE => by cases hE; rw [hz]; exact fun z => by cases z) j1 j2 hM p e R s m args below meth c n0 q0 _ hA h1 h2 (by omega) (by omega) (fun w hw => by cases hw) (fun E' hE => ?_)
          cases hE
          exact (hH mi pc E p e R s m args below meth c n0 q0 z.2.2.2.1 H hA).2 k _ hz (i3 p e R s m args below meth c n0 q0 hA (Nat.le_trans h1 j1) (Nat.le_trans h2 j2) h3 h4)
    · rw [hx] at h
      dsimp only at h
      cases h
      obtain ⟨g1, g2⟩ := hs _ hx
      rw [g1] at g2 ⊢
      exact ⟨Nat.le_refl _, Nat.le_refl _, fun p e R s m args below meth c n0 q0 hA h1 h2 h3 h4 => g2 p e R s m args below meth c n0 q0 hA⟩
    · rw [hx] at h
      dsimp only at h
      cases h
      obtain ⟨g1, g2⟩ := hs _ hx
      rw [g1] at g2 ⊢
      exact ⟨Nat.le_succ _, Nat.le_add_right _ _, fun p e R s m args below meth c n0 q0 hA h1 h2 h3 h4 => g2 p e R s m args below meth c n0 q0 hA h1 h2 h3 h4⟩
end EVM
