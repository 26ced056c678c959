/-! ===== the small machine's runs are the machine's: also where a method is of a class that natives stand in for, but not for this one ===== -/
section EVZ
variable {X : ev_E} {l : Launch} {ms : Nat → ev_I} {T : ev_T}
theorem vz_ofW {y : MethodName} {ws ws' : List Cond} {rm : Room} {Pc : Array Value → State → Prop} {Qc : Array Value → State → Outcome → State → Prop} {XC : String → State → State → Prop} {mc ms : Nat} {free : Addr → Prop} {cc : ByteArray} {maxL : Nat} {ret : Option FieldType}
    (hy : plainFor y = true) (hw : ws = Cond.code y cc maxL ret :: ws')
    (body : ∀ p e s m args below meth c s₁, BodyLoose p l y (headSpec ws rm) cc maxL ret e s m args below meth c s₁ → c.maxLocals = maxL → (∀ x ∈ c.exceptionTable.toList, False) → Pc args s →
      W p l e (headSpec ws rm).room s m args below meth c s.heap [] 0 0 (vx_MQ below Qc XC args s mc ms free) (entryFrame m args maxL)) : vx_Met l y ws rm Pc Qc XC mc ms free := by
  refine MetFree.of_bodySF (code := cc) (maxLocals := maxL) (ret := ret) hy ?_ ?_
  · intro args s m h hn
    obtain ⟨meth, c, h1, h2, h3, h4, h5, h6, -, -⟩ := Cond.code_spec hn (atoms_spec (ws := ws) h _ (by rw [hw]; exact List.mem_cons_self))
    exact ⟨meth, c, h1, h2, h3, h4, h5, h6⟩
  · intro p e s m args below meth c s₁ B hml hP _
    have hh0 : s₁.heap = s.heap := by rw [B.state]; rfl
    have ht : ∀ x ∈ c.exceptionTable.toList, False := by
      obtain ⟨meth9, c9, h1, h2, -, -, -, -, h7, -⟩ := Cond.code_spec B.named (atoms_spec (ws := ws) B.pre _ (by rw [hw]; exact List.mem_cons_self))
      cases Option.some.inj (h1.symm.trans B.method)
      cases Option.some.inj (h2.symm.trans (Stand.of_body B).code)
      intro x hx
      rw [Array.isEmpty_iff.mp h7] at hx
      cases hx
    obtain ⟨t, a1, o, b1, b2, b3⟩ := body p e s m args below meth c s₁ B hml ht hP s₁ hh0 (Stand.of_body B)
    exact ⟨t, o, a1, b1, b2, b3⟩
theorem vz_ofWH {y : MethodName} {ws ws' : List Cond} {rm : Room} {Pc : Array Value → State → Prop} {Qc : Array Value → State → Outcome → State → Prop} {XC : String → State → State → Prop} {mc ms : Nat} {free : Addr → Prop} {cc : ByteArray} {maxL : Nat} {ret : Option FieldType} {hh : List (Nat × Nat × Nat × Nat)}
    (hy : plainFor y = true) (hw : ws = Cond.codeWith y cc maxL ret hh :: ws')
    (body : ∀ p e s m args below meth c s₁, BodyLoose p l y (headSpec ws rm) cc maxL ret e s m args below meth c s₁ → c.maxLocals = maxL → Pc args s →
      W p l e (headSpec ws rm).room s m args below meth c s.heap [] 0 0 (vx_MQ below Qc XC args s mc ms free) (entryFrame m args maxL)) : vx_Met l y ws rm Pc Qc XC mc ms free := by
  refine MetFree.of_bodySF (code := cc) (maxLocals := maxL) (ret := ret) hy ?_ ?_
  · intro args s m h hn
    obtain ⟨m9, meth, c, hn9, h1, h2, h3, h4, -, h5, h6, -⟩ := Cond.codeWith_spec (atoms_spec (ws := ws) h _ (by rw [hw]; exact List.mem_cons_self))
    cases hn.symm.trans hn9
    exact ⟨meth, c, h1, h2, h3, h4, h5, h6⟩
  · intro p e s m args below meth c s₁ B hml hP _
    have hh0 : s₁.heap = s.heap := by rw [B.state]; rfl
    obtain ⟨t, a1, o, b1, b2, b3⟩ := body p e s m args below meth c s₁ B hml hP s₁ hh0 (Stand.of_body B)
    exact ⟨t, o, a1, b1, b2, b3⟩
theorem ev_ofV2 {y : ev_I} {as : List Value} {K : ev_H} {o : ev_O} {K' : ev_H} (hp : plainFor y.1 = true) (hsl : (ev_sl as).length ≤ y.2.2.1)
    (h : ∀ (p : Program) (e : Env) (R : Room) (s : State) (m : MethodId) (args : Array Value) (below : List Frame) (meth : Method) (c : Code), ev_At X y p R s m meth c → K'.2.1 - K.2.1 ≤ R.cells → K'.2.2 - K.2.2 ≤ R.slots →
      ev_V X y p l e R s m args below meth c K.2.1 K.2.2 (vx_MQ below (ev_QC X o K') (ev_XC X o K') args s (K'.2.1 - K.2.1) (K'.2.2 - K.2.2) (fun a => X.1.heap.size ≤ a)) 0 (ev_lo y.2.2.1 as, [], K)) : ev_Met X l y as K o K' := by
  have key : ∀ (ws : List Cond) (p : Program) (e : Env) (s : State) (m : MethodId) (args : Array Value) (below : List Frame) (meth : Method) (c : Code) (s₁ : State), BodyLoose p l y.1 (headSpec ws (ev_rm y (K'.2.1 - K.2.1) (K'.2.2 - K.2.2))) y.2.1 y.2.2.1 y.2.2.2.1 e s m args below meth c s₁ → c.maxLocals = y.2.2.1 → c.exceptionTable.toList = tableOf y.2.2.2.2.1 → ev_Pc X as K args s →
      W p l e (ev_rm y (K'.2.1 - K.2.1) (K'.2.2 - K.2.2)) s m args below meth c s.heap [] 0 0 (vx_MQ below (ev_QC X o K') (ev_XC X o K') args s (K'.2.1 - K.2.1) (K'.2.2 - K.2.2) (fun a => X.1.heap.size ≤ a)) (entryFrame m args y.2.2.1) := by
    intro ws p e s m args below meth c s₁ B hml htab hv
    obtain ⟨rfl, hR, hW, hbel⟩ := hv
    rw [lg_entry_eq]
    have h1 := h p e (ev_rm y (K'.2.1 - K.2.1) (K'.2.2 - K.2.2)) s m as.toArray below meth c ⟨B.exec, B.bytes, hml, findClass_of_methodNamed B.named, B.returns, B.notSynchronized, (name_of_methodNamed B.named B.method).1, htab, hW, hbel, by have := hR.1; have := hR.2.1; omega, Nat.le_refl _, Nat.le_refl _⟩ (Nat.le_refl _) (Nat.le_refl _) s.heap [] _ hR (ev_L_entry hsl) va_S.rf
    dsimp only at h1
    exact W.cs (by omega) (by omega) h1
  unfold ev_Met
  rcases hh : y.2.2.2.2.1 with _ | ⟨r, hh'⟩
  · refine vz_ofW (cc := y.2.1) (maxL := y.2.2.1) (ret := y.2.2.2.1) (ws' := []) hp (ev_wd0 hh) fun p e s m args below meth c s₁ B hml ht hv => ?_
    refine key _ p e s m args below meth c s₁ B hml ?_ hv
    rw [hh]
    cases hl : c.exceptionTable.toList with
    | nil => rfl
    | cons z zs => exact (ht z (by rw [hl]; exact List.mem_cons_self)).elim
  · refine vz_ofWH (cc := y.2.1) (maxL := y.2.2.1) (ret := y.2.2.2.1) (hh := r :: hh') (ws' := []) hp (ev_wd1 hh) fun p e s m args below meth c s₁ B hml hv => ?_
    refine key _ p e s m args below meth c s₁ B hml ?_ hv
    rw [hh]
    exact vx_table (x := y.1) B (atoms_spec (ws := ev_wd y) B.pre _ (by rw [ev_wd1 hh]; exact List.mem_cons_self))
theorem ev_main2 (hT : ∀ mi pc, ev_Snd X l ms (ms mi) (T.2.2 mi) pc (T.1 mi pc)) (hH : ∀ mi, ev_Hs X l (ms mi) (T.2.2 mi)) (hn : ∀ mi, T.2.1 mi = (ms mi).2.2.1) (hp : ∀ mi, plainFor (ms mi).1 = true) :
    ∀ (f mi pc : Nat) (S : ev_S) (o : ev_O) (K' : ev_H), ev_run T f mi pc S = some (o, K') → S.2.2.2.1 ≤ K'.2.1 ∧ S.2.2.2.2 ≤ K'.2.2 ∧
      ∀ (p : Program) (e : Env) (R : Room) (s : State) (m : MethodId) (args : Array Value) (below : List Frame) (meth : Method) (c : Code) (n0 q0 : Nat), ev_At X (ms mi) p R s m meth c → n0 ≤ S.2.2.2.1 → q0 ≤ S.2.2.2.2 → K'.2.1 - n0 ≤ R.cells → K'.2.2 - q0 ≤ R.slots →
        ev_V X (ms mi) p l e R s m args below meth c n0 q0 (vx_MQ below (ev_QC X o K') (ev_XC X o K') args s (K'.2.1 - n0) (K'.2.2 - q0) (fun a => X.1.heap.size ≤ a)) pc S := by
  intro f
  induction f with
  | zero => intro mi pc S o K' h; simp [ev_run] at h
  | succ f ih =>
    intro mi pc S o K' h
    have hs := hT mi pc S
    rw [ev_run] at h
    rcases hx : T.1 mi pc S with _ | (z | z | z | z)
    · rw [hx] at h; cases h
    · rw [hx] at h
      obtain ⟨g1, g2, g3⟩ := hs _ hx
      obtain ⟨i1, i2, i3⟩ := ih mi z.1 z.2 o K' h
      refine ⟨Nat.le_trans g1 i1, Nat.le_trans g2 i2, fun p e R s m args below meth c n0 q0 hA h1 h2 h3 h4 => ?_⟩
      exact g3 p e R s m args below meth c n0 q0 _ hA h1 h2 (by omega) (by omega) (i3 p e R s m args below meth c n0 q0 hA (Nat.le_trans h1 g1) (Nat.le_trans h2 g2) h3 h4)
    · rw [hx] at h
      dsimp only at h
      obtain ⟨g1, g2, g3⟩ := hs _ hx
      rcases hy : ev_run T f z.1 0 (ev_lo (T.2.1 z.1) z.2.1, [], z.2.2.2.2.2) with _ | ⟨v | E, H⟩
      · rw [hy] at h; cases h
      · rw [hy] at h
        dsimp only at h
        obtain ⟨j1, j2, j3⟩ := ih z.1 0 _ _ _ hy
        obtain ⟨i1, i2, i3⟩ := ih mi z.2.2.1 _ o K' h
        dsimp only at j1 j2 j3 i1 i2 i3
        rw [g1] at j1 j2 j3
        refine ⟨Nat.le_trans j1 i1, Nat.le_trans j2 i2, fun p e R s m args below meth c n0 q0 hA h1 h2 h3 h4 => ?_⟩
        have hM : ev_Met X l (ms z.1) z.2.1 S.2.2 (.inl v) H := ev_ofV2 (hp z.1) g2 fun p e R s m args below meth c hA' k1 k2 => by
          have k3 := j3 p e R s m args below meth c S.2.2.2.1 S.2.2.2.2 hA' (Nat.le_refl _) (Nat.le_refl _) k1 k2
          rw [hn z.1] at k3
          exact k3
        refine g3 (.inl v) H (fun E hE => by cases hE) j1 j2 hM p e R s m args below meth c n0 q0 _ hA h1 h2 (by omega) (by omega) (fun w hw => ?_) (fun E hE => by cases hE)
        cases hw
        exact i3 p e R s m args below meth c n0 q0 hA (Nat.le_trans h1 j1) (Nat.le_trans h2 j2) h3 h4
      · rw [hy] at h
        dsimp only at h
        obtain ⟨j1, j2, j3⟩ := ih z.1 0 _ _ _ hy
        dsimp only at j1 j2 j3
        rw [g1] at j1 j2 j3
        have hM : ev_Met X l (ms z.1) z.2.1 S.2.2 (.inr E) H := ev_ofV2 (hp z.1) g2 fun p e R s m args below meth c hA' k1 k2 => by
          have k3 := j3 p e R s m args below meth c S.2.2.2.1 S.2.2.2.2 hA' (Nat.le_refl _) (Nat.le_refl _) k1 k2
          rw [hn z.1] at k3
          exact k3
        rcases hz : T.2.2 mi pc E with _ | _ | k
        · rw [hz] at h; cases h
        · rw [hz] at h
          cases h
          refine ⟨j1, j2, fun p e R s m args below meth c n0 q0 hA h1 h2 h3 h4 => ?_⟩
          refine g3 (.inr E) K' (fun E' hE => by cases hE; rw [hz]; exact fun z => by cases z) j1 j2 hM p e R s m args below meth c n0 q0 _ hA h1 h2 h3 h4 (fun w hw => by cases hw) (fun E' hE => ?_)
          cases hE
          exact (hH mi pc E p e R s m args below meth c n0 q0 z.2.2.2.1 K' hA).1 hz
        · rw [hz] at h
          dsimp only at h
          obtain ⟨i1, i2, i3⟩ := ih mi k.1 _ o K' h
          dsimp only at i1 i2 i3
          refine ⟨Nat.le_trans j1 i1, Nat.le_trans j2 i2, fun p e R s m args below meth c n0 q0 hA h1 h2 h3 h4 => ?_⟩
          refine g3 (.inr E) H (fun E' hE => by cases hE; rw [hz]; exact fun z => by cases z) j1 j2 hM p e R s m args below meth c n0 q0 _ hA h1 h2 (by omega) (by omega) (fun w hw => by cases hw) (fun E' hE => ?_)
          cases hE
          exact (hH mi pc E p e R s m args below meth c n0 q0 z.2.2.2.1 H hA).2 k _ hz (i3 p e R s m args below meth c n0 q0 hA (Nat.le_trans h1 j1) (Nat.le_trans h2 j2) h3 h4)
    · rw [hx] at h
      dsimp only at h
      cases h
      obtain ⟨g1, g2⟩ := hs _ hx
      rw [g1] at g2 ⊢
      exact ⟨Nat.le_refl _, Nat.le_refl _, fun p e R s m args below meth c n0 q0 hA h1 h2 h3 h4 => g2 p e R s m args below meth c n0 q0 hA⟩
    · rw [hx] at h
      dsimp only at h
      cases h
      obtain ⟨g1, g2⟩ := hs _ hx
      rw [g1] at g2 ⊢
      exact ⟨Nat.le_succ _, Nat.le_add_right _ _, fun p e R s m args below meth c n0 q0 hA h1 h2 h3 h4 => g2 p e R s m args below meth c n0 q0 hA h1 h2 h3 h4⟩
end EVZ
