/-! ===== what the start holds, read off the conditions ===== -/
section L85
variable {args : Array Value} {s : State}
theorem rd_arr {tm : Term} {ty : FieldType} {N : Nat} (harr : (Cond.arrayOf tm ty).before args s = true) (hlen : (Cond.eq (.length tm) (.int (Int32.ofNat N))).before args s = true) (hN : N < 2 ^ 31) : ∃ (a : Nat) (cell : Cell), tm.eval args s none [] s = some (.ref a) ∧ s.arrayAt? a = some cell ∧ s.heap[a]? = some cell ∧ s.isArrayOf cell ty ∧ cell.vm ≠ .unknown ∧ cell.slots.size = N := by
  have hv := va_eqt hlen
  obtain ⟨a, cell, ht, hat, e⟩ := Term.length_spec hv
  obtain ⟨hcell, hkn, -, -⟩ := State.arrayAt?_spec hat
  have hsz : cell.slots.size < 2 ^ 31 := by
    simp only [Term.eval, ht, hat, Option.bind_eq_bind, Option.bind_some] at hv
    by_cases hlt : cell.slots.size < 2147483648
    · exact hlt
    · simp [hlt] at hv
  exact ⟨a, cell, ht, hat, hcell, (Cond.arrayOf_spec harr ht hcell).1, hkn, nI_inj hsz hN (Value.int.inj e).symm⟩
theorem rd_elv {tm : Term} {a : Nat} {cell : Cell} (ht : tm.eval args s none [] s = some (.ref a)) (hat : s.arrayAt? a = some cell) {j : Nat} {v : Value} (hj : j < 2 ^ 31) (h : (Term.elem tm (.int (Int32.ofNat j))).eval args s none [] s = some v) : cell.slots[j]? = some v := by
  obtain ⟨a2, i, cell2, h1, h2, h3, h4, h5⟩ := Term.elem_spec h
  cases ht.symm.trans h1
  cases hat.symm.trans h3
  have hi : i = Int32.ofNat j := by
    have e : (Term.int (Int32.ofNat j)).eval args s none [] s = some (.int (Int32.ofNat j)) := rfl
    cases h2.symm.trans e
    rfl
  have hc : i.toNatClampNeg = j := by rw [hi]; exact Int32.toNatClampNeg_ofNat_of_lt hj
  rw [hc] at h5
  exact h5
theorem rd_el {tm : Term} {a : Nat} {cell : Cell} (ht : tm.eval args s none [] s = some (.ref a)) (hat : s.arrayAt? a = some cell) {j : Nat} {v : Int32} (hj : j < 2 ^ 31) (h : (Cond.eq (.elem tm (.int (Int32.ofNat j))) (.int v)).before args s = true) : cell.slots[j]? = some (.int v) := rd_elv ht hat hj (va_eqt h)
theorem rd_at {X : ev_E} {a k N : Nat} {cell : Cell} {ty : FieldType} {f : Nat → Value} (hcell : X.1.heap[a]? = some cell) (hof : X.1.isArrayOf cell ty) (hkn : cell.vm ≠ .unknown) (hk : X.2.2.2.1 k = cell.cls) (hN : cell.slots.size = N) (hf : ∀ j, j < N → cell.slots[j]? = some (f j)) : ev_atR X a (.inl (k, N, f)) X.1.heap := ⟨cell, hcell, hk.symm, hof.1, hkn, hN, hf⟩
theorem rd_ty {cell : Cell} {ty : FieldType} (hof : s.isArrayOf cell ty) : ArrOfT s cell.cls ty := fun n z => ⟨(fun k h => by cases h), hof.2⟩
theorem rd_cls {tm : Term} {C : String} {a : Nat} {cC : ClassId} (hex : (Cond.exactly tm C).before args s = true) (ht : tm.eval args s none [] s = some (.ref a)) (hC : s.vm.findClass C = some cC) : ∃ (cell : Cell) (k : Class), s.heap[a]? = some cell ∧ cell.cls = cC ∧ cell.vm.isStatics = false ∧ s.vm.classes[cC]? = some k ∧ (k.kind = .ordinary → cell.slots.size = k.instanceTypes.size) := by
  obtain ⟨a2, c, cell, k, q1, q2, q3, q4, q5, q6, q7⟩ := Cond.exactly_spec (args := args) (first := s) (o := none) (s := s) (idx := []) (t := tm) (cls := C) hex
  cases ht.symm.trans q1
  cases hC.symm.trans q2
  exact ⟨cell, k, q3, q6, q5, q4, q7⟩
theorem rd_fld {tm : Term} {o n d : String} {v : Value} {a i : Nat} {cell : Cell} (ht : tm.eval args s none [] s = some (.ref a)) (hv : (Term.field tm o n d).eval args s none [] s = some v) (hS : SlotIs s o n d i) (hcell : s.heap[a]? = some cell) : cell.vm ≠ .unknown ∧ cell.slots[i]? = some v := by
  obtain ⟨cf, k, fi, f, cell2, h1, h2, h3, h4, h5, -⟩ := vk_OFof (A := fun _ => False) ht hv (fun _ _ h => h)
  obtain ⟨cf', kf, fi', fd, g1, g2⟩ := hS
  cases h1.symm.trans g1
  cases hcell.symm.trans h3
  rw [g2] at h5
  exact ⟨h4, h5⟩
theorem rd_slot {ws : List Cond} {C : String} {T : u_T} {N : Nat} {cC : ClassId} {iS : Nat → Nat} (hts : ∀ w ∈ ws, w.before args s = true) (hin : ∀ w ∈ u_ws C T N, w ∈ ws) (hK : u_Kn s C T N cC iS) {k : Nat} (hk : k < N) {kC : Class} (hc : s.vm.classes[cC]? = some kC) : iS k < kC.instanceTypes.size := by
  obtain ⟨cf, kf, fi, fd, g1, g2⟩ := hK.1 k hk
  rcases u_lays hts hin hk with h | h
  · obtain ⟨c, kk, c', k', i, f, h1, h2, h3, h4, h5, h6, h7, -⟩ := Cond.lays_spec h
    cases h1.symm.trans hK.2.1
    cases h2.symm.trans hc
    cases h3.symm.trans g1
    rw [← g2]
    exact (Array.getElem?_eq_some_iff.mp h7).1
  · obtain ⟨c, kk, c', k', i, f, h1, h2, h3, h4, h5, h6, h6b, h7, -⟩ := Cond.laysFinal_spec h
    cases h1.symm.trans hK.2.1
    cases h2.symm.trans hc
    cases h3.symm.trans g1
    rw [← g2]
    exact (Array.getElem?_eq_some_iff.mp h7).1
/-- a text constant: its cell, its letters' cell -/
theorem rd_str {ws : List Cond} {tm : Term} {cS : ClassId} {iS : Nat → Nat} {N : Nat} (hts : ∀ w ∈ ws, w.before args s = true) (hin : ∀ w ∈ u_ws RJ0 TJ0 4, w ∈ ws) (hK : u_Kn s RJ0 TJ0 4 cS iS) (hex : (Cond.exactly tm "java/lang/String").before args s = true) (hco : (Cond.eq (.field tm "java/lang/String" "coder" "B") (.int 0)).before args s = true)
    (harr : (Cond.arrayOf (.field tm "java/lang/String" "value" "[B") .byte).before args s = true) (hlen : (Cond.eq (.length (.field tm "java/lang/String" "value" "[B")) (.int (Int32.ofNat N))).before args s = true) (hN : N < 2 ^ 31) :
    ∃ (a b : Nat) (cell cb : Cell) (r2 r3 : Value), tm.eval args s none [] s = some (.ref a) ∧ s.heap[a]? = some cell ∧ cell.cls = cS ∧ cell.vm.isStatics = false ∧ cell.vm ≠ .unknown ∧ (∀ j : Nat, j < 4 → cell.slots[iS j]? = some (vp_V [.ref b, .int 0, r2, r3] j)) ∧
      (Term.field tm "java/lang/String" "value" "[B").eval args s none [] s = some (.ref b) ∧ s.arrayAt? b = some cb ∧ s.heap[b]? = some cb ∧ s.isArrayOf cb .byte ∧ cb.vm ≠ .unknown ∧ cb.slots.size = N := by
  obtain ⟨b, cb, e1, e2, e3, e4, e5, e6⟩ := rd_arr harr hlen hN
  obtain ⟨a, c, cell0, k0, q1, -⟩ := Cond.exactly_spec (args := args) (first := s) (o := none) (s := s) (idx := []) (t := tm) (cls := "java/lang/String") hex
  obtain ⟨cell, k, f1, f2, f3, f4, f5⟩ := rd_cls hex q1 hK.2.1
  obtain ⟨g1, g2⟩ := rd_fld q1 e1 (hK.1 0 (by omega)) f1
  obtain ⟨-, g3⟩ := rd_fld q1 (va_eqt hco) (hK.1 1 (by omega)) f1
  obtain ⟨kC, hk1, hk2⟩ := hK.2.2
  cases f4.symm.trans hk1
  have hs := f5 hk2
  have g4 : ∃ v, cell.slots[iS 2]? = some v := ⟨_, Array.getElem?_eq_getElem (by rw [hs]; exact rd_slot hts hin hK (by omega) hk1)⟩
  have g5 : ∃ v, cell.slots[iS 3]? = some v := ⟨_, Array.getElem?_eq_getElem (by rw [hs]; exact rd_slot hts hin hK (by omega) hk1)⟩
  obtain ⟨r2, g4⟩ := g4
  obtain ⟨r3, g5⟩ := g5
  refine ⟨a, b, cell, cb, r2, r3, q1, f1, f2, f3, g1, fun j hj => ?_, e1, e2, e3, e4, e5, e6⟩
  have : j = 0 ∨ j = 1 ∨ j = 2 ∨ j = 3 := by omega
  rcases this with rfl | rfl | rfl | rfl
  · exact g2
  · exact g3
  · exact g4
  · exact g5
theorem rd_ra {ty : FieldType} (h : (Cond.arrayClass ty).before args s = true) : ∃ cA, ArrOfT s cA ty ∧ s.vm.findClass ("[" ++ ty.toString) = some cA := by
  obtain ⟨c, k, comp, h1, h2, h3⟩ := Cond.arrayClass_spec (args := args) (first := s) (o := none) (s := s) (idx := []) h
  exact ⟨c, fun n z => ⟨(fun k h => by cases h), k, h2, comp, h3⟩, h1⟩
theorem rd_ro {C : String} (h : (Cond.arrayOver (.object C)).before args s = true) : ∃ cA, ArrOfT s cA (.object C) ∧ va_RA s cA (.object C) := by
  obtain ⟨comp, c, k, h1, h2, h3, h4, h5⟩ := Cond.arrayOver_spec (args := args) (first := s) (o := none) (s := s) (idx := []) h
  exact ⟨c, fun n z => ⟨(fun k h => by cases h), k, h3, comp, h4⟩, k, comp, h3, h4, h1, h5⟩
end L85
