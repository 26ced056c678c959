section EVU
variable {X : ev_E} {l : Launch} {ms : Nat → ev_I} {x : ev_I} {tx : ev_X} {pc : Nat}
/-! references compared -/
def i_aceq (t f : Nat) : ev_S → ev_N := fun S => match S.2.1 with
  | .ref b :: .ref a :: st => some (.inl ((if a = b then t else f), S.1, st, S.2.2))
  | _ => none
def i_acne (t f : Nat) : ev_S → ev_N := fun S => match S.2.1 with
  | .ref b :: .ref a :: st => some (.inl ((if ¬ a = b then t else f), S.1, st, S.2.2))
  | _ => none
theorem s_aceq {off : Int} {tgt : Nat} (d : decode x.2.1 pc = .ok (.if_acmp .eq off, 3)) (ht : (pc : Int) + off = (tgt : Int)) : ev_Snd X l ms x tx pc (i_aceq tgt (pc + 3)) := by
  intro S y h
  obtain ⟨lo, st, K⟩ := S
  unfold i_aceq at h
  dsimp only at h
  split at h
  · rename_i b a st
    cases h
    exact ev_SG_same fun p e R s m args below meth c Q H locs cells slots ls hx hb hL k => lv_acmp_eq (rx := some a) (ry := some b) hx hb d ht (fun q => by have k2 := k ls hL; rw [if_pos (Option.some.inj q)] at k2; exact k2) (fun q => by have k2 := k ls hL; rw [if_neg (fun e => q (congrArg some e))] at k2; exact k2)
  · cases h
theorem s_acne {off : Int} {tgt : Nat} (d : decode x.2.1 pc = .ok (.if_acmp .ne off, 3)) (ht : (pc : Int) + off = (tgt : Int)) : ev_Snd X l ms x tx pc (i_acne tgt (pc + 3)) := by
  intro S y h
  obtain ⟨lo, st, K⟩ := S
  unfold i_acne at h
  dsimp only at h
  split at h
  · rename_i b a st
    cases h
    exact ev_SG_same fun p e R s m args below meth c Q H locs cells slots ls hx hb hL k => lv_acmp_ne (rx := some a) (ry := some b) hx hb d ht (fun q => by have k2 := k ls hL; rw [if_pos (fun e => q (congrArg some e))] at k2; exact k2) (fun q => by have k2 := k ls hL; rw [if_neg (not_not_intro (Option.some.inj q))] at k2; exact k2)
  · cases h
def i_nonnull (t : Nat) : ev_S → ev_N := fun S => match S.2.1 with
  | .ref _ :: st => some (.inl (t, S.1, st, S.2.2))
  | _ => none
theorem s_ifnonnull {off : Int} {tgt : Nat} (d : decode x.2.1 pc = .ok (.ifnonnull off, 3)) (ht : (pc : Int) + off = (tgt : Int)) : ev_Snd X l ms x tx pc (i_nonnull tgt) := by
  intro S y h
  obtain ⟨lo, st, K⟩ := S
  unfold i_nonnull at h
  dsimp only at h
  split at h
  · cases h
    exact ev_SG_same fun p e R s m args below meth c Q H locs cells slots ls hx hb hL k => lv_ifnonnull hx hb d ht (k ls hL)
  · cases h
/-! getClass of an array of Object -/
noncomputable def i_gc (X : ev_E) (p : Nat) : ev_S → ev_N := fun S => match S.2.1 with
  | .ref a :: st => ev_if (ev_isAk (S.2.2.1 a) 2 ∧ st.length ≤ 4) (some (.inl (p, S.1, .ref (X.2.2.2.2.2 4) :: st, S.2.2)))
  | _ => none
theorem s_getClass (hG : ev_Good X) {idx : Nat} (hl : Cond.methodLink x.1.cls idx ⟨"java/lang/Object", "getClass", "()Ljava/lang/Class;"⟩ ∈ lw_tbl) (hdc : Cond.declares ⟨"java/lang/Object", "getClass", "()Ljava/lang/Class;"⟩ ∈ lw_tbl) (hse : Cond.selects "[Ljava/lang/Object;" ⟨"java/lang/Object", "getClass", "()Ljava/lang/Class;"⟩ ⟨"java/lang/Object", "getClass", "()Ljava/lang/Class;"⟩ ∈ lw_tbl) (hgs : ev_gd (Cond.selects "[Ljava/lang/Object;" ⟨"java/lang/Object", "getClass", "()Ljava/lang/Class;"⟩ ⟨"java/lang/Object", "getClass", "()Ljava/lang/Class;"⟩) = true) (hin : Cond.instanceMethod ⟨"java/lang/Object", "getClass", "()Ljava/lang/Class;"⟩ ∈ lw_tbl) (hna : Cond.native ⟨"java/lang/Object", "getClass", "()Ljava/lang/Class;"⟩ ∈ lw_tbl) (hgn : ev_gd (Cond.native ⟨"java/lang/Object", "getClass", "()Ljava/lang/Class;"⟩) = true)
    (hd : decode x.2.1 pc = .ok (.invokevirtual idx, 3)) : ev_Snd X l ms x tx pc (i_gc X (pc + 3)) := by
  intro S y h
  obtain ⟨lo, st, K, n9, q9⟩ := S
  unfold i_gc at h
  dsimp only at h
  split at h
  · rename_i a st
    obtain ⟨⟨⟨n, f, he⟩, hst⟩, h⟩ := ev_if_s h
    cases h
    have hsum := ev_sum2 st
    refine ⟨Nat.le_refl _, Nat.le_refl _, fun p e R s m args below meth c n0 q0 Q hA h1 h2 h3 h4 kk => ?_⟩
    intro H locs ls hR hL hS
    obtain ⟨hx, hb, hml, hown, hret, hlk, hnm, htab, hW, hbel, hz, hfr, hlo⟩ := hA
    obtain ⟨hbs, hk6, hcell⟩ := hR.2.2 a _ he
    exact va_getC hx hb (hml.trans hL.1.symm) hown (ev_word hG hW hl rfl args) (ev_word hG hW hdc rfl args) (ev_word hG hW hse hgs args) (ev_word hG hW hin rfl args) (ev_word hG hW hna hgn args) (ev_Mi_moved hW.alike hG.2.2.2.2.2.2.2.2.2.2.2.2.2.2.2.1) ⟨_, hcell, rfl, ev_nmA hG hW (kd := 2) (by decide) rfl⟩ (by omega) (by omega) hd (kk H locs ls hR hL hS)
  · cases h
/-! what an array of Object may take -/
def ev_el (X : ev_E) (h : ev_M) (v : Value) : Prop := v = .null ∨ ∃ y, v = .ref y ∧ ((ev_isAk (h y) 0) ∨ ∃ ci r, vwCl[ci]? = some r ∧ r.1 = "java/lang/Integer" ∧ ev_isK (ev_lk X h y) ci)
theorem ev_elem (hG : ev_Good X) (hc1 : Cond.castable "[I" "java/lang/Object" ∈ lw_tbl) (hc2 : Cond.castable "java/lang/Integer" "java/lang/Object" ∈ lw_tbl) {h : ev_M} {n y : Nat} {s : State} {H : Heap} {locs : List Loc} (hW : X.1.WarmedH s.vm) (hs : ∀ a : Nat, a < X.1.heap.size → s.heap[a]? = X.1.heap[a]?) (hz : X.1.heap.size ≤ s.heap.size) (hR : ev_R X h n H) (hS : va_S (fun a => X.1.heap.size ≤ a) s.heap H locs) (hel : ev_el X h (.ref y)) :
    ∃ (cv : Cell) (kv : Class) (comp : ClassId), H[y]? = some cv ∧ cv.vm.isStatics = false ∧ s.vm.classes[cv.cls]? = some kv ∧ s.vm.findClass "java/lang/Object" = some comp ∧ s.vm.assignable cv.cls comp = true := by
  rcases hel with e | ⟨y', e, hy⟩
  · cases e
  · cases e
    rcases hy with ⟨N, f, he⟩ | ⟨ci, r, hc, hr, hk⟩
    · obtain ⟨hbs, hk6, hcell⟩ := hR.2.2 y _ he
      have hf := ev_nmA hG hW (kd := 0) (by decide) (nm := "[I") rfl
      obtain ⟨c0, t0, f1, f2, f3⟩ := Cond.castable_spec (ev_word hG hW hc1 rfl #[])
      cases hf.symm.trans f1
      obtain ⟨kC, hkC, -⟩ := Vm.findClass_spec hf
      exact ⟨_, kC, t0, hcell, rfl, hkC, f2, f3⟩
    · obtain ⟨cell, g1, g2, g3⟩ := ev_recv hG hc hW hs hz hR hS hk
      rw [hr] at g3
      obtain ⟨c0, t0, f1, f2, f3⟩ := Cond.castable_spec (ev_word hG hW hc2 rfl #[])
      cases g3.symm.trans f1
      obtain ⟨kC, hkC, -⟩ := Vm.findClass_spec g3
      exact ⟨cell, kC, t0, g1, g2, hkC, f2, f3⟩
noncomputable def i_aasto (X : ev_E) (p : Nat) : ev_S → ev_N := fun S => match S.2.1 with
  | v :: .int i :: .ref a :: st => ev_if ((∃ n f, S.2.2.1 a = some (.inl (2, n, f)) ∧ ¬ (i < 0 ∨ n ≤ i.toNatClampNeg)) ∧ ev_el X S.2.2.1 v) (some (.inl (p, S.1, st, ev_up S.2.2.1 a (ev_aS (S.2.2.1 a) i v), S.2.2.2)))
  | _ => none
theorem s_aastoreO (hG : ev_Good X) (hc1 : Cond.castable "[I" "java/lang/Object" ∈ lw_tbl) (hc2 : Cond.castable "java/lang/Integer" "java/lang/Object" ∈ lw_tbl) (d : decode x.2.1 pc = .ok (.aastore, 1)) : ev_Snd X l ms x tx pc (i_aasto X (pc + 1)) := by
  intro S y h
  obtain ⟨lo, st, K, n9, q9⟩ := S
  unfold i_aasto at h
  dsimp only at h
  split at h
  · rename_i v i a st
    obtain ⟨⟨⟨N, f, he, hin⟩, hel⟩, h⟩ := ev_if_s h
    cases h
    show ev_SG X l x pc _ _ _
    dsimp only
    rw [he]
    refine ⟨Nat.le_refl _, Nat.le_refl _, fun p e R s m args below meth c n0 q0 Q hA h1 h2 h3 h4 kk => ?_⟩
    intro H locs ls hR hL hS
    obtain ⟨hx, hb, hml, hown, hret, hlk, hnm, htab, hW, hbel, hz, hfr, hlo⟩ := hA
    obtain ⟨hbs, hk6, hcell⟩ := hR.2.2 a _ he
    have hlt : i.toNatClampNeg < N := Nat.not_le.mp fun q => hin (Or.inr q)
    have h0 : ¬ i < 0 := fun q => hin (Or.inl q)
    have hin' : ¬ (i < 0 ∨ (arrV (X.2.2.2.1 2) N f).slots.size ≤ i.toNatClampNeg) := by rw [arrV_size]; exact hin
    have arr : s.isArrayOf (arrV (X.2.2.2.1 2) N f) (.object "java/lang/Object") := ev_isArr hG hW (kd := 2) (by decide) rfl (fun j e => by cases e)
    have fin : ∀ H1 : Heap, H1[a]? = some ((arrV (X.2.2.2.1 2) N f).setSlot i.toNatClampNeg v) → H1.size = H.size → (∀ q, q ≠ a → H1[q]? = H[q]?) → W p l e R s m args below meth c H1 (locs ++ [⟨a, i.toNatClampNeg⟩]) (n9 - n0) (q9 - q0) Q (F0 m (pc + 1) ls st) := by
      intro H1 e1 z oq
      refine kk H1 _ ls (ev_R_up hR he z oq ⟨hk6, ?_⟩) hL (hS.put z oq hbs)
      rw [e1, arrV_store]
    by_cases hv : v = .null
    · subst hv
      exact va_WaastN (C := "java/lang/Object") hx hb hcell arr (fun e => by cases e) hin' rfl rfl d fin
    · have hel2 := hel
      rcases hel with e | ⟨y, rfl, -⟩
      · exact absurd e hv
      · obtain ⟨cv, kv, comp, g1, g2, g3, g4, g5⟩ := ev_elem hG hc1 hc2 hW hbel hz hR hS hel2
        obtain ⟨kA, comp', k1, k2, k3, -⟩ := (hG.2.2.2.1 2 (by decide)).moved hW.alike
        cases k3.symm.trans g4
        obtain ⟨kE, hkE, -⟩ := Vm.findClass_spec g4
        exact W.aast hx hb hcell (fun q h => by cases h) (fun h => by cases h) k1 k2 rfl hkE ⟨h0, by rw [arrV_size]; exact hlt⟩ g1 (fun q h => by rw [h] at g2; cases g2) g3 g5 rfl rfl d fin
  · cases h
/-! System.arraycopy -/
theorem ev_nn (z : Int32) (hz : ¬ z < 0) : z.toInt = (z.toNatClampNeg : Int) := by
  have hz0 : (0 : Int) ≤ z.toInt := by
    have := Int32.not_lt.mp hz
    simpa using Int32.le_iff_toInt_le.mp this
  show z.toInt = ((z.toInt.toNat : Nat) : Int)
  omega
def ev_aF (c : Option ev_C) : Nat → Value := match c with
  | some (.inl z) => z.2.2
  | _ => fun _ => .null
def ev_aC (c : Option ev_C) (f : Nat → Value) : ev_C := match c with
  | some (.inl z) => .inl (z.1, z.2.1, f)
  | _ => .inr (0, [])
def ev_ot (o : Bool) : FieldType := match o with
  | true => .object "java/lang/Object"
  | false => .byte
def ev_cf (X : ev_E) (h : ev_M) (o : Bool) (v : Value) : Prop := match o with
  | true => ev_el X h v
  | false => fits .byte v = true
noncomputable def i_cpy (X : ev_E) (o : Bool) (p : Nat) : ev_S → ev_N := fun S => match S.2.1 with
  | .int n :: .int dp :: .ref a :: .int sp :: .ref b :: st => ev_if (0 ≤ n ∧ 0 ≤ dp ∧ 0 ≤ sp ∧ st.length ≤ 4 ∧
      (∃ kd N f, ev_lk X S.2.2.1 b = some (.inl (kd, N, f)) ∧ kd < 20 ∧ ev_aT kd = ev_ot o ∧ sp.toNatClampNeg + n.toNatClampNeg ≤ N ∧ ∀ i, i < n.toNatClampNeg → ev_cf X S.2.2.1 o (f (sp.toNatClampNeg + i))) ∧
      ∃ kd N g, S.2.2.1 a = some (.inl (kd, N, g)) ∧ kd < 6 ∧ ev_aT kd = ev_ot o ∧ dp.toNatClampNeg + n.toNatClampNeg ≤ N)
      (some (.inl (p, S.1, st, ev_up S.2.2.1 a (ev_aC (S.2.2.1 a) (va_cpy (ev_aF (ev_lk X S.2.2.1 b)) (ev_aF (S.2.2.1 a)) sp.toNatClampNeg dp.toNatClampNeg n.toNatClampNeg)), S.2.2.2)))
  | _ => none
theorem s_arraycopy (hG : ev_Good X) (o : Bool) {idx : Nat} (hc1 : Cond.castable "[I" "java/lang/Object" ∈ lw_tbl) (hc2 : Cond.castable "java/lang/Integer" "java/lang/Object" ∈ lw_tbl) (hw : Cond.methodLink x.1.cls idx arraycopyName ∈ lw_tbl) (hna : Cond.native arraycopyName ∈ lw_tbl) (hgn : ev_gd (Cond.native arraycopyName) = true) (hst : Cond.static arraycopyName ∈ lw_tbl) (hin : Cond.initialized "java/lang/System" ∈ lw_tbl)
    (hd : decode x.2.1 pc = .ok (.invokestatic idx, 3)) : ev_Snd X l ms x tx pc (i_cpy X o (pc + 3)) := by
  intro S y h
  obtain ⟨lo, st, K, n9, q9⟩ := S
  unfold i_cpy at h
  dsimp only at h
  split at h
  · rename_i n dp a sp b st
    obtain ⟨⟨hn0, hd0, hs0, hstl, ⟨kd0, N0, f, he0, hk0, ht0, hle0, hel⟩, kd1, N1, g, he1, hk1, ht1, hle1⟩, h⟩ := ev_if_s h
    cases h
    show ev_SG X l x pc _ _ _
    dsimp only
    rw [he0, he1]
    dsimp only [ev_aF, ev_aC]
    have hsum := ev_sum2 st
    refine ⟨Nat.le_refl _, Nat.le_refl _, fun p e R s m args below meth c n0 q0 Q hA h1 h2 h3 h4 kk => ?_⟩
    intro H locs ls hR hL hS
    obtain ⟨hx, hb, hml, hown, hret, hlk, hnm, htab, hW, hbel, hz, hfr, hlo⟩ := hA
    obtain ⟨cs, z1, z2, z3, z4, z5, z6⟩ := ev_rd hG hbel hz hR hS he0
    obtain ⟨hbs, -, hcell⟩ := hR.2.2 a _ he1
    dsimp only at z2 z5 z6 hcell
    obtain ⟨-, k0, hk0', cm0, hkk0⟩ := ev_isArr hG hW hk0 z2 z3
    obtain ⟨-, k1, hk1', cm1, hkk1⟩ := ev_isArr hG hW (kd := kd1) (by omega) (cell := arrV (X.2.2.2.1 kd1) N1 g) rfl (fun j e => by cases e)
    intro T hT XX
    obtain ⟨vm', X', step⟩ := XX.arraycopy hx hown (ev_word hG hW hw rfl args) (ev_word hG hW hna hgn args) (ev_word hG hW hst rfl args) (ev_word hG hW hin rfl args) (src := b) (dst := a) (cs := cs) (cd := arrV (X.2.2.2.1 kd1) N1 g) (srcPos := sp) (destPos := dp) (n := n) (by rw [hT]; exact z1) (by rw [hT]; exact hcell)
      z3 (fun _ h => by cases h) z4 (fun h => by cases h) hk0' hk1' hkk0 hkk1 (by rw [ht0, ht1]; cases o <;> rfl) (Int32.not_lt.mpr hs0) (Int32.not_lt.mpr hd0) (Int32.not_lt.mpr hn0)
      (by rw [ev_nn sp (Int32.not_lt.mpr hs0), ev_nn n (Int32.not_lt.mpr hn0), z5]; omega)
      (by rw [ev_nn dp (Int32.not_lt.mpr hd0), ev_nn n (Int32.not_lt.mpr hn0)]; have z9 := arrV_size (X.2.2.2.1 kd1) N1 g; omega)
      (fun vm₁ hal i hi => by
        have e : cs.slots.getD (sp.toNatClampNeg + i) .null = f (sp.toNatClampNeg + i) := by
          rw [Array.getD_eq_getD_getElem?, z6 _ (by omega)]
          rfl
        rw [e, ht1]
        have hel' := hel i hi
        cases o with
        | false =>
          have hel'' : fits .byte (f (sp.toNatClampNeg + i)) = true := hel'
          refine ⟨hel'', ?_⟩
          cases hv : f (sp.toNatClampNeg + i) with
          | ref y => rw [hv] at hel''; cases hel''
          | _ => exact trivial
        | true =>
          have hel'' : ev_el X K (f (sp.toNatClampNeg + i)) := hel'
          have hel3 := hel''
          rcases hel'' with hv | ⟨y, hv, -⟩
          · rw [hv]; exact ⟨rfl, trivial⟩
          · rw [hv] at hel3 ⊢
            obtain ⟨cv, kv, comp, g1, g2, g3, g4, g5⟩ := ev_elem hG hc1 hc2 hW hbel hz hR hS hel3
            have hra := (hG.2.2.2.1 kd1 hk1).moved hW.alike
            rw [ht1] at hra
            obtain ⟨kA, comp', r1, r2, r3, -⟩ := hra
            cases hk1'.symm.trans r1
            have e9 := hkk1.symm.trans r2
            rw [ht1] at e9
            injection e9 with e10 e11
            subst e10
            cases r3.symm.trans g4
            obtain ⟨kE, hkE, -⟩ := Vm.findClass_spec g4
            obtain ⟨kC', hkC', -⟩ := hal.2.2 _ _ g3
            obtain ⟨kE', hkE', -⟩ := hal.2.2 _ _ hkE
            refine ⟨rfl, cv, (show T.heap[y]? = some cv by rw [hT]; exact g1), (fun q h => by rw [h] at g2; cases g2), ⟨kC', hkC'⟩, ?_, ?_⟩
            · exact ⟨kE', hkE'⟩
            · show vm₁.assignable _ _ = true
              rw [hal.assignable]
              exact g5)
      (g := F0 m pc ls (.int n :: .int dp :: .ref a :: .int sp :: .ref b :: st)) rfl (by rw [hml]; exact hL.1) (rest := st) rfl (by rw [hb]; exact hd) (by omega) (by show 2 * 0 + _ + _ ≤ _; have hw9 : nativeFrameWords "java/lang/System" "arraycopy" 5 ≤ 50 := (by decide); omega)
    have e1 : copied cs (arrV (X.2.2.2.1 kd1) N1 g) sp dp n = arrV (X.2.2.2.1 kd1) N1 (va_cpy f g sp.toNatClampNeg dp.toNatClampNeg n.toNatClampNeg) := va_copiedX (fun z => z) cs (X.2.2.2.1 kd1) f g z6 hle0
    rw [e1] at X' step
    have hl : a < H.size := (Array.getElem?_eq_some_iff.mp hcell).1
    have hheap : ((T.setVm vm').setCell a (arrV (X.2.2.2.1 kd1) N1 (va_cpy f g sp.toNatClampNeg dp.toNatClampNeg n.toNatClampNeg))).heap = H.setIfInBounds a (arrV (X.2.2.2.1 kd1) N1 (va_cpy f g sp.toNatClampNeg dp.toNatClampNeg n.toNatClampNeg)) := by rw [← hT]; rfl
    have oq : ∀ q : Nat, q ≠ a → (H.setIfInBounds a (arrV (X.2.2.2.1 kd1) N1 (va_cpy f g sp.toNatClampNeg dp.toNatClampNeg n.toNatClampNeg)))[q]? = H[q]? := fun q hq => by simp [Array.getElem?_setIfInBounds, Ne.symm hq]
    obtain ⟨t, a1, b1⟩ := kk _ _ ls (ev_R_up hR he1 (by simp) oq ⟨hk1, (show (H.setIfInBounds a _)[a]? = some _ by simp [Array.getElem?_setIfInBounds, hl])⟩) hL ⟨by simp; exact hS.1, fun q g1 g2 => by
        rw [oq q (fun e => g2 (by rw [e]; exact hbs))]
        exact hS.2.1 q g1 g2, fun q hq => by
        rcases List.mem_append.mp hq with h | h
        · exact hS.2.2 q h
        · obtain ⟨z, -, hz⟩ := List.mem_map.mp h
          rw [← hz]
          exact hbs⟩ _ hheap X'
    exact ⟨t, step t a1, b1⟩
  · cases h
/-! the clone of a byte array -/
noncomputable def i_cln (p : Nat) : ev_S → ev_N := fun S => match S.2.1 with
  | .ref a :: st => ev_if (st.length ≤ 4 ∧ ∃ N f, S.2.2.1 a = some (.inl (1, N, f)) ∧ ∀ i, i < N → fits .byte (f i) = true) (some (.inl (p, S.1, .ref S.2.2.2.1 :: st, ev_up S.2.2.1 S.2.2.2.1 (ev_aC (S.2.2.1 a) (ev_aF (S.2.2.1 a))), S.2.2.2.1 + 1, S.2.2.2.2 + ev_aN (S.2.2.1 a))))
  | _ => none
theorem s_cloneB (hG : ev_Good X) {idx : Nat} (hw : Cond.methodLink x.1.cls idx ⟨"[B", "clone", "()Ljava/lang/Object;"⟩ ∈ lw_tbl) (hsm : Cond.sameMethod "[B" "java/lang/Object" "clone" "()Ljava/lang/Object;" ∈ lw_tbl) (hgs : ev_gd (Cond.sameMethod "[B" "java/lang/Object" "clone" "()Ljava/lang/Object;") = true) (hna : Cond.native ⟨"java/lang/Object", "clone", "()Ljava/lang/Object;"⟩ ∈ lw_tbl) (hgn : ev_gd (Cond.native ⟨"java/lang/Object", "clone", "()Ljava/lang/Object;"⟩) = true)
    (hin : Cond.instanceMethod ⟨"java/lang/Object", "clone", "()Ljava/lang/Object;"⟩ ∈ lw_tbl) (hse : Cond.selects "[B" ⟨"[B", "clone", "()Ljava/lang/Object;"⟩ ⟨"java/lang/Object", "clone", "()Ljava/lang/Object;"⟩ ∈ lw_tbl) (hg2 : ev_gd (Cond.selects "[B" ⟨"[B", "clone", "()Ljava/lang/Object;"⟩ ⟨"java/lang/Object", "clone", "()Ljava/lang/Object;"⟩) = true) (hca : Cond.castable "[B" "java/lang/Cloneable" ∈ lw_tbl)
    (hd : decode x.2.1 pc = .ok (.invokevirtual idx, 3)) : ev_Snd X l ms x tx pc (i_cln (pc + 3)) := by
  intro S y h
  obtain ⟨lo, st, K, n9, q9⟩ := S
  unfold i_cln at h
  dsimp only at h
  split at h
  · rename_i a st
    obtain ⟨⟨hstl, N, f, he, hfit⟩, h⟩ := ev_if_s h
    cases h
    show ev_SG X l x pc _ _ _
    dsimp only
    rw [he]
    dsimp only [ev_aF, ev_aC, ev_aN]
    have hsum := ev_sum2 st
    refine ⟨Nat.le_succ _, Nat.le_add_right _ _, fun p e R s m args below meth c n0 q0 Q hA h1 h2 h3 h4 kk => ?_⟩
    intro H locs ls hR hL hS
    dsimp only at h1 h2 h3 h4 kk hR hL ⊢
    obtain ⟨hx, hb, hml, hown, hret, hlk, hnm, htab, hW, hbel, hz, hfr, hlo⟩ := hA
    obtain ⟨hbs, hk6, hcell⟩ := hR.2.2 a _ he
    dsimp only at hcell
    have hf := ev_nmA hG hW (kd := 1) (by decide) (nm := "[B") rfl
    obtain ⟨c0, t0', f1, f2, f3⟩ := Cond.castable_spec (ev_word hG hW hca rfl args)
    cases hf.symm.trans f1
    intro T hT XX
    obtain ⟨-, kA, hkA, comp, hkind⟩ := State.isArrayOf_alike XX.warmed.alike (ev_isArr hG hW (kd := 1) (by decide) (cell := arrV (X.2.2.2.1 1) N f) rfl (fun j e => by cases e))
    obtain ⟨-, kS, hkS, compS, hkindS⟩ := ev_isArr hG hW (kd := 1) (by decide) (cell := arrV (X.2.2.2.1 1) N f) rfl (fun j e => by cases e)
    obtain ⟨vm', X', step⟩ := XX.cloneArray hx hown (ev_word hG hW hw rfl args) (ev_word hG hW hsm hgs args) (ev_word hG hW hna hgn args) (ev_word hG hW hin rfl args) (ev_word hG hW hse hg2 args) (a := a) (cell := arrV (X.2.2.2.1 1) N f) (by rw [hT]; exact hcell) (fun k h => by cases h) (fun h => by cases h) hf f2 f3
      (fun i v hv => by
        have hi : i < N := by
          have := (Array.getElem?_eq_some_iff.mp hv).1
          rwa [arrV_size] at this
        rw [arrV_read _ _ hi] at hv
        cases hv
        have hk' : T.vm.classes[(arrV (X.2.2.2.1 1) N f).cls]? = some kA := hkA
        have hfi : fits (ev_aT 1) (f i) = true := hfit i hi
        simpa [State.fitsSlot, State.slotType?, hk', hkind] using hfi)
      (g := F0 m pc ls (.ref a :: st)) rfl (by rw [hml]; exact hL.1) rfl (by rw [hb]; exact hd) (by omega) (by show 2 * 0 + _ + 14 ≤ _; omega) (by omega) (by rw [arrV_size]; omega) (hloader := Vm.clonesLoader_of_array hkS hkindS)
    have hcE : ({ cls := (arrV (X.2.2.2.1 1) N f).cls, slots := (arrV (X.2.2.2.1 1) N f).slots } : Cell) = arrV (X.2.2.2.1 1) N f := rfl
    rw [hcE, arrV_size] at X'
    have o1 : ∀ q : Nat, q < n9 → (H.push (arrV (X.2.2.2.1 1) N f))[q]? = H[q]? := fun q hq => by rw [Array.getElem?_push, if_neg (by rw [hR.1]; omega)]
    have z1 : (H.push (arrV (X.2.2.2.1 1) N f)).size = n9 + 1 := by rw [Array.size_push, hR.1]
    have e1 : (H.push (arrV (X.2.2.2.1 1) N f))[n9]? = some (arrV (X.2.2.2.1 1) N f) := by rw [← hR.1, Array.getElem?_push_size]
    have k2 := kk (H.push (arrV (X.2.2.2.1 1) N f)) locs ls (ev_R_new hR z1 o1 ⟨Nat.le_of_ble_eq_true rfl, e1⟩) hL (ev_S_new hS hR.1 z1 o1)
    dsimp only at k2
    have k3 := W.cs (cells := n9 - n0 + 1) (slots := q9 - q0 + N) (by omega) (by omega) k2
    obtain ⟨t, b1, b2⟩ := k3 ((T.setVm vm').pushCell (arrV (X.2.2.2.1 1) N f)) (by rw [← hT]; rfl) X'
    refine ⟨t, step t ?_, b2⟩
    rw [hcE, hT, hR.1]
    exact b1
  · cases h
theorem ev_selP {C : String} {y z : MethodName} {s : State} {args : Array Value} (hz : (Cond.selects C z z).before args s = true) (hzc : z.cls = y.cls) (hy : y.cls ≠ "java/lang/invoke/MethodHandle" ∧ y.cls ≠ "java/lang/invoke/VarHandle") (hpriv : (Cond.privateMethod y).before args s = true) (hinst : (Cond.instanceMethod y).before args s = true) : (Cond.selects C y y).before args s = true := by
  obtain ⟨c, r, m, h1, h2, h3, h4, mk, h5, h6⟩ := Cond.selects_spec hz
  obtain ⟨mk', methM, hnamed, hmethM, -, -⟩ := Cond.instanceMethod_spec hinst
  have hfound : s.methodFound? y.cls y.name y.desc = some mk' := State.methodFound?_of_named hnamed hy
  have hsel : selectMethod {} s.vm c mk' = .method mk' := selectMethod_private hmethM (Cond.privateMethod_at hpriv mk' methM hnamed hmethM)
  have e1 : m.cls = mk'.cls := by
    have e2 := findClass_of_methodNamed h3
    rw [hzc] at e2
    exact Option.some.inj (e2.symm.trans (findClass_of_methodNamed hnamed))
  rw [e1] at h5
  simp only [Cond.before, Cond.holds, Cond.value, h1, hfound, hnamed, hsel, h5]
  simp [h6]
theorem s_invokevirtualP (hG : ev_Good X) {mi n ci idx : Nat} {r : vw_C} (hc : vwCl[ci]? = some r) (hcal : ev_cal ms x mi n) (hl : Cond.methodLink x.1.cls idx (ms mi).1 ∈ lw_tbl) (hin : Cond.instanceMethod (ms mi).1 ∈ lw_tbl) {z : MethodName} (hse : Cond.selects r.1 z z ∈ lw_tbl) (hzc : z.cls = (ms mi).1.cls) (hpr : Cond.privateMethod (ms mi).1 ∈ lw_tbl) (d : decode x.2.1 pc = .ok (.invokevirtual idx, 3)) : ev_Snd X l ms x tx pc (i_cV X mi n ci (ms mi).2.2.1 (pc + 3)) := by
  intro S y h
  obtain ⟨lo, st, K, n9, q9⟩ := S
  unfold i_cV at h
  dsimp only at h
  split at h
  · rename_i b rest hd
    obtain ⟨⟨hk, hlen, hrl, hsl⟩, h⟩ := ev_if_s h
    cases h
    refine ⟨rfl, hsl, fun o K' hx hn hq hM p e R s m args below meth c n0 q0 Q hA h1 h2 h3 h4 kv kx => ?_⟩
    intro H locs ls hR hL hS
    dsimp only at hn hq hM h1 h2 kv kx hR hL ⊢
    have hA' := hA
    obtain ⟨hx, hb, hml, hown, hret, hlk, hnm, htab, hW, hbel, hz, hfr, hlo⟩ := hA
    have hsum := ev_sum2 rest
    have hr := vx_runV (e := e) (below := below) (meth := meth) (mc := K'.2.1 - n9) (ms := K'.2.2 - q9) (H := H) (locs := locs) (cells := n9 - n0) (slots := q9 - q0) (Ts := []) (g := F0 m pc ls st) (rest := rest) (b := b) (As := (st.take n).reverse) ⟨hx, hb, hml, hown, fun _ h => by cases h⟩ hM ⟨ev_callB hG hcal hA' hl, ev_word hG hW hin rfl args, word_at hW (Or.inl rfl) (ev_selP (hG.1 _ hse) hzc hcal.2.2.2.1 (hG.1 _ hpr) (hG.1 _ hin))⟩
      ⟨ev_blind, ev_recv hG hc hW hbel hz hR hS hk, ev_pre hW hbel hz hR hS⟩ rfl (by rw [List.length_reverse]; exact hlen) hL.1 (ev_stk hd) (by show 2 * 0 + _ ≤ 8; omega) d ⟨by omega, by omega⟩
    refine ev_ofRun hr hS (fun v hv H1 locs1 hR1 hS1 => ?_) (fun E hE H1 locs1 q ce hR1 hS1 hq1 hq2 hq3 => ?_) hz (by rw [hR.1]; exact hn)
    · have k3 := kv v hv H1 locs1 ls hR1 hL hS1
      dsimp only at k3
      exact W.cs (by omega) (by omega) k3
    · have k2 := kx E hE H1 locs1 ls rest q ce hR1 hL hS1 hq1 hq2 hq3
      rw [show n9 - n0 + (K'.2.1 - n9) = K'.2.1 - n0 by omega, show q9 - q0 + (K'.2.2 - q9) = K'.2.2 - q0 by omega]
      exact k2
  · cases h
end EVU
