/-! ===== the cells that are only read: no two are one ===== -/
section L86
variable {s : State}
/-- which of the cells that are only read a may be -/
noncomputable def rd_tag (s : State) (a : Nat) : Nat := match s.heap[a]? with
  | none => 0
  | some cl0 => match s.vm.classes[cl0.cls]? with
    | none => 0
    | some k => match k.kind with
      | .array _ .int => 6
      | .array _ .byte => @ite _ (cl0.slots.size = 100) (Classical.propDecidable _) (@ite _ (cl0.slots[10]? = some (.int 48)) (Classical.propDecidable _) 7 8) (20 + cl0.slots.size)
      | .array _ _ => 1000 + cl0.slots.size
      | _ => @ite _ (k.instanceTypes.size = 4) (Classical.propDecidable _) 4 3
theorem rd_tag_i {a : Nat} {cell : Cell} (h : s.heap[a]? = some cell) (hof : s.isArrayOf cell .int) : rd_tag s a = 6 := by
  obtain ⟨-, k, hk, comp, hkind⟩ := hof
  unfold rd_tag
  simp only [h, hk, hkind]
theorem rd_tag_b {a : Nat} {cell : Cell} (h : s.heap[a]? = some cell) (hof : s.isArrayOf cell .byte) : rd_tag s a = @ite _ (cell.slots.size = 100) (Classical.propDecidable _) (@ite _ (cell.slots[10]? = some (.int 48)) (Classical.propDecidable _) 7 8) (20 + cell.slots.size) := by
  obtain ⟨-, k, hk, comp, hkind⟩ := hof
  unfold rd_tag
  simp only [h, hk, hkind]
theorem rd_tag_o {a : Nat} {cell : Cell} {C : String} (h : s.heap[a]? = some cell) (hof : s.isArrayOf cell (.object C)) : rd_tag s a = 1000 + cell.slots.size := by
  obtain ⟨-, k, hk, comp, hkind⟩ := hof
  unfold rd_tag
  simp only [h, hk, hkind]
theorem rd_tag_c {a : Nat} {cell : Cell} {k : Class} (h : s.heap[a]? = some cell) (hk : s.vm.classes[cell.cls]? = some k) (hkind : k.kind = .ordinary) : rd_tag s a = @ite _ (k.instanceTypes.size = 4) (Classical.propDecidable _) 4 3 := by
  unfold rd_tag
  simp only [h, hk, hkind]
theorem rd_tag_ne {a b m n : Nat} (h1 : rd_tag s a = m) (h2 : rd_tag s b = n) (h : ¬ m = n) : ¬ a = b := fun e => h (h1.symm.trans ((congrArg (rd_tag s) e).trans h2))
/-- the map of what is only read -/
noncomputable def rd_map (R : Nat → ev_C → Prop) : ev_M := fun a => @dite _ (∃ c, R a c) (Classical.propDecidable _) (fun h => some (Classical.choose h)) (fun _ => none)
theorem rd_map_y {R : Nat → ev_C → Prop} (hR : ∀ a c c', R a c → R a c' → c = c') {a : Nat} {c : ev_C} (h : R a c) : rd_map R a = some c := by
  unfold rd_map
  rw [dif_pos ⟨c, h⟩]
  exact congrArg some (hR a _ _ (Classical.choose_spec (⟨c, h⟩ : ∃ c, R a c)) h)
theorem rd_map_i {R : Nat → ev_C → Prop} {a : Nat} {c : ev_C} (h : rd_map R a = some c) : R a c := by
  unfold rd_map at h
  by_cases e : ∃ c, R a c
  · rw [dif_pos e] at h
    cases h
    exact Classical.choose_spec e
  · rw [dif_neg e] at h
    cases h
end L86
