section EVHN
/-! handlers: a row is (from, to, class thrown, handler, its class entry, the local that takes the thrown object, where it goes on) -/
abbrev ev_hr : Type := Nat × Nat × Nat × Nat × Nat × Nat × Nat
def ev_hf : List ev_hr → ev_X
  | [], _, _ => none
  | r :: rs, pc, E => bif (Nat.ble r.1 pc && Nat.ble (pc + 1) r.2.1 && Nat.beq E r.2.2.1) then some (some (r.2.2.2.2.2.2, r.2.2.2.2.2.1)) else ev_hf rs pc E
theorem ev_hf_s : ∀ {rs : List ev_hr} {pc E : Nat} {z}, ev_hf rs pc E = some z → ∃ (pre : List ev_hr) (r : ev_hr) (suf : List ev_hr), rs = pre ++ r :: suf ∧ z = some (r.2.2.2.2.2.2, r.2.2.2.2.2.1) ∧ r.1 ≤ pc ∧ pc < r.2.1 ∧ r.2.2.1 = E ∧ ∀ y ∈ pre, ¬ (y.1 ≤ pc ∧ pc < y.2.1) ∨ y.2.2.1 ≠ E := by
  intro rs
  induction rs with
  | nil => intro pc E z h; cases h
  | cons r rs ih =>
    intro pc E z h
    rw [ev_hf] at h
    by_cases hc : (Nat.ble r.1 pc && Nat.ble (pc + 1) r.2.1 && Nat.beq E r.2.2.1) = true
    · rw [hc] at h
      have h2 := hc
      simp only [Bool.and_eq_true] at h2
      obtain ⟨⟨h3, h4⟩, h5⟩ := h2
      refine ⟨[], r, rs, rfl, ?_, Nat.le_of_ble_eq_true h3, Nat.le_of_ble_eq_true h4, (Nat.eq_of_beq_eq_true h5).symm, fun y hy => nomatch hy⟩
      exact (Option.some.inj h).symm
    · have hc2 : (Nat.ble r.1 pc && Nat.ble (pc + 1) r.2.1 && Nat.beq E r.2.2.1) = false := by
        cases hz : (Nat.ble r.1 pc && Nat.ble (pc + 1) r.2.1 && Nat.beq E r.2.2.1) with
        | false => rfl
        | true => exact absurd hz hc
      rw [hc2] at h
      obtain ⟨pre, r', suf, h1, h2, h3, h4, h5, h6⟩ := ih h
      refine ⟨r :: pre, r', suf, by rw [h1]; rfl, h2, h3, h4, h5, fun y hy => ?_⟩
      rcases List.mem_cons.mp hy with rfl | hy
      · by_cases q : y.1 ≤ pc ∧ pc < y.2.1
        · right
          intro e
          apply hc
          simp [Nat.ble_eq.mpr q.1, Nat.ble_eq.mpr (show pc + 1 ≤ y.2.1 from q.2), e, Nat.beq_refl]
        · exact Or.inl q
      · exact h6 y hy
theorem ev_Nc_moved {a b : String} {u U : State} (hvm : u.vm.Alike U.vm) (h : va_Nc a b u) : va_Nc a b U := by
  obtain ⟨c, t, h1, h2, h3⟩ := h
  exact ⟨c, t, by rw [hvm.findClass]; exact h1, by rw [hvm.findClass]; exact h2, by rw [hvm.assignable]; exact h3⟩
theorem ev_Hs_rows {X : ev_E} {l : Launch} {x : ev_I} (hG : ev_Good X) (rs : List ev_hr) (hh : x.2.2.2.2.1 = rs.map (fun r => (r.1, r.2.1, r.2.2.2.1, r.2.2.2.2.1)))
    (hr : ∀ r ∈ rs, Cond.classLink x.1.cls r.2.2.2.2.1 (ev_nm r.2.2.1) ∈ lw_tbl ∧ r.2.2.2.2.1 ≠ 0 ∧ r.2.2.1 < 3 ∧ Cond.castable (ev_nm r.2.2.1) (ev_nm r.2.2.1) ∈ lw_tbl ∧ r.2.2.2.2.2.1 < x.2.2.1 ∧
      ((∃ f : Fin 4, decode x.2.1 r.2.2.2.1 = .ok (.astore_n f, 1) ∧ (f : Nat) = r.2.2.2.2.2.1 ∧ r.2.2.2.2.2.2 = r.2.2.2.1 + 1) ∨ (decode x.2.1 r.2.2.2.1 = .ok (.astore r.2.2.2.2.2.1, 2) ∧ r.2.2.2.2.2.2 = r.2.2.2.1 + 2))) : ev_Hs X l x (ev_hf rs) := by
  intro pc E p e R s m args below meth c n0 q0 lo K hA
  refine ⟨fun h => ?_, fun k Q h => ?_⟩
  · obtain ⟨pre, r, suf, h1, h2, -⟩ := ev_hf_s h
    cases h2
  · obtain ⟨pre, r, suf, h1, h2, h3, h4, h5, h6⟩ := ev_hf_s h
    cases h2
    intro kv
    intro H locs ls rest q ce hR hL hS hq hv hcl
    obtain ⟨hx, hb, hml, hown, hret, hlk, hnm, htab, hW, hbel, hz, hfr, hlo⟩ := hA
    obtain ⟨g1, g2, g3, g4, g5, g6⟩ := hr r (by rw [h1]; simp)
    have ht : c.exceptionTable.toList = (pre.map (fun r => (⟨r.1, r.2.1, r.2.2.2.1, r.2.2.2.2.1⟩ : ExceptionTableEntry))) ++ (⟨r.1, r.2.1, r.2.2.2.1, r.2.2.2.2.1⟩ : ExceptionTableEntry) :: (suf.map (fun r => (⟨r.1, r.2.1, r.2.2.2.1, r.2.2.2.2.1⟩ : ExceptionTableEntry))) := by
      rw [htab, hh, h1]
      simp [tableOf]
      constructor <;> rfl
    have hE3 : E < 3 := by rw [← h5]; exact g3
    refine vx_catch (own := x.1.cls) (name := ev_nm E) (E := ev_nm E) hown _ _ _ ht ?_ (by simp [covers, h3, h4]) g2 (by rw [← h5]; exact ev_word hG hW g1 rfl args) (by rw [← h5]; exact ev_word hG hW g4 rfl args) hq hv hcl ?_
    · intro z hz
      obtain ⟨y, hy, rfl⟩ := List.mem_map.mp hz
      rcases h6 y hy with h7 | h7
      · left
        by_cases q1 : y.1 ≤ pc
        · have q2 : ¬ pc < y.2.1 := fun q => h7 ⟨q1, q⟩
          simp [covers, q2]
        · simp [covers, q1]
      · right
        obtain ⟨k1, k2, k3, -⟩ := hr y (by rw [h1]; exact List.mem_append_left _ hy)
        exact ⟨k2, ev_nm y.2.2.1, ev_word hG hW k1 rfl args, ev_Nc_moved hW.alike (hG.2.2.2.2.2.2.2.2.2.2.2.2.2.2.2.2.2.1 E y.2.2.1 hE3 k3 (Ne.symm h7))⟩
    · rcases g6 with ⟨f, d, d2, d3⟩ | ⟨d, d3⟩
      · refine lv_astore_n hx hb d d2 (ev_al_has hL) g5 rfl (fun ls' h' => ?_)
        have k2 := kv H locs ls' hR (ev_L_st hL g5 (Or.inl rfl) h') hS
        rw [d3] at k2
        exact k2
      · refine lv_astore hx hb d (ev_al_has hL) g5 rfl (fun ls' h' => ?_)
        have k2 := kv H locs ls' hR (ev_L_st hL g5 (Or.inl rfl) h') hS
        rw [d3] at k2
        exact k2
end EVHN
