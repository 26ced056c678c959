section EVH
variable {X : ev_E} {l : Launch} {ms : Nat → ev_I} {x : ev_I} {tx : ev_X} {pc : Nat}
/-! fields -/
def ev_isO (c : Option ev_C) (ci k : Nat) : Prop := ∃ fs : List Value, c = some (.inr (ci, fs)) ∧ k < fs.length
def ev_fG (c : Option ev_C) (k : Nat) : Value := match c with
  | some (.inr z) => vp_V z.2 k
  | _ => .null
def ev_fS (c : Option ev_C) (k : Nat) (v : Value) : ev_C := match c with
  | some (.inr z) => .inr (z.1, z.2.set k v)
  | _ => .inr (0, [])
noncomputable def i_gf (X : ev_E) (ci k p : Nat) : ev_S → ev_N := fun S => match S.2.1 with
  | .ref a :: st => ev_if (ev_isO (ev_lk X S.2.2.1 a) ci k) (some (.inl (p, S.1, ev_fG (ev_lk X S.2.2.1 a) k :: st, S.2.2)))
  | _ => none
theorem ev_getf (hG : ev_Good X) {ci k : Nat} {r : vw_C} (hc : vwCl[ci]? = some r) (hr : ev_cw r) (hk : k < r.2.2) {lo st : List Value} {K : ev_H} {a : Nat} {fs : List Value} (he : ev_lk X K.1 a = some (.inr (ci, fs)))
    (row : ∀ (p : Program) (e : Env) (R : Room) (s : State) (m : MethodId) (args : Array Value) (below : List Frame) (meth : Method) (c : Code) (Q : State → Prop) (H : Heap) (locs : List Loc) (cells slots : Nat) (ls : Array Slot), ev_At X x p R s m meth c → ∀ (cf i : Nat) (kc : Class) (f : Field) (cell : Cell) (v : Value), s.fieldFound? (r.2.1 k).1 (r.2.1 k).2.1 (r.2.1 k).2.2.1 = some (cf, kc, i, f) → f.isStatic = false → H[a]? = some cell → cell.vm ≠ .unknown → cell.slots[f.slot]? = some v →
      W p l e R s m args below meth c H locs cells slots Q (F0 m (pc + 3) ls (v :: st)) → W p l e R s m args below meth c H locs cells slots Q (F0 m pc ls (.ref a :: st))) :
    ev_SG X l x pc (lo, .ref a :: st, K) (pc + 3) (lo, vp_V fs k :: st, K) := by
  refine ⟨Nat.le_refl _, Nat.le_refl _, fun p e R s m args below meth c n0 q0 Q hA h1 h2 h3 h4 kk => ?_⟩
  intro H locs ls hR hL hS
  have hA' := hA
  obtain ⟨hx, hb, hml, hown, hret, hlk, hnm, htab, hW, hbel, hz, hfr, hlo⟩ := hA
  obtain ⟨r', cell, e1, e2, e3, e4, e5, e6⟩ := ev_rd hG hbel hz hR hS he
  cases e1.symm.trans hc
  obtain ⟨hS1, hfc, kC, hkC, hkind⟩ := ev_cls hG hW hc
  obtain ⟨cf, kf, fi, f, hi, hsl⟩ := hS1 k hk
  have hst := (u_facts hfc hkC (u_lays (N := r.2.2) (ev_lays hG hW hr args) (fun w h => h) hk) hi).1
  exact row p e R s m args below meth c Q H locs _ _ ls hA' cf fi kf f cell _ hi hst e2 e5 (by rw [hsl]; exact e6 k hk) (kk H locs ls hR hL hS)
theorem s_getfield (hG : ev_Good X) {ci k idx : Nat} {r : vw_C} {ref : String} (hc : vwCl[ci]? = some r) (hr : ev_cw r) (hk : k < r.2.2) (hw : Cond.fieldLink x.1.cls idx ref (r.2.1 k).2.1 (r.2.1 k).2.2.1 ∈ lw_tbl) (hg : ev_gd (Cond.fieldLink x.1.cls idx ref (r.2.1 k).2.1 (r.2.1 k).2.2.1) = true)
    (hs : ref = (r.2.1 k).1 ∨ (Cond.sameField ref (r.2.1 k).1 (r.2.1 k).2.1 (r.2.1 k).2.2.1 ∈ lw_tbl ∧ ev_gd (Cond.sameField ref (r.2.1 k).1 (r.2.1 k).2.1 (r.2.1 k).2.2.1) = true)) (d : decode x.2.1 pc = .ok (.getfield idx, 3)) : ev_Snd X l ms x tx pc (i_gf X ci k (pc + 3)) := by
  intro S y h
  obtain ⟨lo, st, K⟩ := S
  unfold i_gf at h
  dsimp only at h
  split at h
  · rename_i a st
    obtain ⟨⟨fs, he, hkl⟩, h⟩ := ev_if_s h
    cases h
    show ev_SG X l x pc _ _ _
    dsimp only
    rw [he]
    refine ev_getf hG hc hr hk he fun p e R s m args below meth c Q H locs cells slots ls hA cf i kc f cell v hi hst hcell hkn hsl kk => ?_
    refine W.getf (cf := cf) (i := i) (k := kc) (f := f) hA.1 hA.2.1 hA.2.2.2.1 (ev_word hG hA.2.2.2.2.2.2.2.2.1 hw hg args) ?_ hst hcell hkn hsl rfl rfl d kk
    rcases hs with rfl | ⟨h1, h2⟩
    · exact hi
    · exact u_same (ev_word hG hA.2.2.2.2.2.2.2.2.1 h1 h2 args) _ hi
  · cases h
theorem s_getfieldN (hG : ev_Good X) {ci k idx : Nat} {r : vw_C} {host : String} (hc : vwCl[ci]? = some r) (hr : ev_cw r) (hk : k < r.2.2) (hw : Cond.fieldLinkNest x.1.cls idx (r.2.1 k).1 (r.2.1 k).2.1 (r.2.1 k).2.2.1 host ∈ lw_tbl) (hg : ev_gd (Cond.fieldLinkNest x.1.cls idx (r.2.1 k).1 (r.2.1 k).2.1 (r.2.1 k).2.2.1 host) = true)
    (d : decode x.2.1 pc = .ok (.getfield idx, 3)) : ev_Snd X l ms x tx pc (i_gf X ci k (pc + 3)) := by
  intro S y h
  obtain ⟨lo, st, K⟩ := S
  unfold i_gf at h
  dsimp only at h
  split at h
  · rename_i a st
    obtain ⟨⟨fs, he, hkl⟩, h⟩ := ev_if_s h
    cases h
    show ev_SG X l x pc _ _ _
    dsimp only
    rw [he]
    refine ev_getf hG hc hr hk he fun p e R s m args below meth c Q H locs cells slots ls hA cf i kc f cell v hi hst hcell hkn hsl kk => ?_
    exact va_Wgetf hA.1 hA.2.1 hA.2.2.2.1 (ev_word hG hA.2.2.2.2.2.2.2.2.1 hw hg args) hi hst hcell hkn hsl rfl rfl d kk
  · cases h
def ev_fit (ty : FieldType) (v : Value) : Prop := narrow ty v = v ∧ fits ty v = true
noncomputable def i_pf (ci k : Nat) (ty : FieldType) (p : Nat) : ev_S → ev_N := fun S => match S.2.1 with
  | v :: .ref a :: st => ev_if (ev_isO (S.2.2.1 a) ci k ∧ ev_fit ty v) (some (.inl (p, S.1, st, ev_up S.2.2.1 a (ev_fS (S.2.2.1 a) k v), S.2.2.2)))
  | _ => none
def ev_ap (r : vw_C) : Prop := ∃ ty : Nat → FieldType, (∀ k, k < r.2.2 → parseFieldDescriptor (r.2.1 k).2.2.1 = some (ty k)) ∧ ∀ a, a < r.2.2 → ∀ b, b < r.2.2 → a ≠ b → (r.2.1 a).2.1 ≠ (r.2.1 b).2.1
theorem ev_apart (hG : ev_Good X) {s : State} (hW : X.1.WarmedH s.vm) {ci : Nat} {r : vw_C} (hc : vwCl[ci]? = some r) (hr : ev_cw r) (ha : ev_ap r) (args : Array Value) : ∀ i j, i < r.2.2 → j < r.2.2 → i ≠ j → X.2.2.1.2 ci i ≠ X.2.2.1.2 ci j := by
  obtain ⟨ty, h1, h2⟩ := ha
  intro i j hi hj hne
  obtain ⟨hS, -⟩ := ev_cls hG hW hc
  obtain ⟨_, _, _, fa, hia, ea⟩ := hS i hi
  obtain ⟨_, _, _, fb, hib, eb⟩ := hS j hj
  rw [← ea, ← eb]
  refine u_apart (u_lays (N := r.2.2) (ev_lays hG hW hr args) (fun w h => h) hi) (u_lays (N := r.2.2) (ev_lays hG hW hr args) (fun w h => h) hj) hia hib ?_
  rw [(State.fieldFound?_type hia (h1 i hi)).1, (State.fieldFound?_type hib (h1 j hj)).1]
  exact h2 i hi j hj hne
theorem ev_putf (hG : ev_Good X) {ci k : Nat} {ty : FieldType} {r : vw_C} (hc : vwCl[ci]? = some r) (hr : ev_cw r) (ha : ev_ap r) (hk : k < r.2.2) {lo st : List Value} {h : ev_M} {n q : Nat} {a : Nat} {v : Value} {fs : List Value} (he : h a = some (.inr (ci, fs))) (hl : k < fs.length)
    (row : ∀ (p : Program) (e : Env) (R : Room) (s : State) (m : MethodId) (args : Array Value) (below : List Frame) (meth : Method) (c : Code) (Q : State → Prop) (H : Heap) (locs : List Loc) (cells slots : Nat) (ls : Array Slot), ev_At X x p R s m meth c → ∀ (cf i : Nat) (kc kC : Class) (f : Field) (cell : Cell), s.fieldFound? (r.2.1 k).1 (r.2.1 k).2.1 (r.2.1 k).2.2.1 = some (cf, kc, i, f) → f.isStatic = false → H[a]? = some cell → cell.vm = .none → f.slot < cell.slots.size → s.vm.findClass r.1 = some cell.cls → s.vm.classes[cell.cls]? = some kC → kC.kind = .ordinary →
      (∀ H' : Heap, H'[a]? = some (cell.setSlot f.slot v) → H'.size = H.size → (∀ q, q ≠ a → H'[q]? = H[q]?) → W p l e R s m args below meth c H' (locs ++ [⟨a, f.slot⟩]) cells slots Q (F0 m (pc + 3) ls st)) → W p l e R s m args below meth c H locs cells slots Q (F0 m pc ls (v :: .ref a :: st))) :
    ev_SG X l x pc (lo, v :: .ref a :: st, h, n, q) (pc + 3) (lo, st, ev_up h a (.inr (ci, fs.set k v)), n, q) := by
  refine ⟨Nat.le_refl _, Nat.le_refl _, fun p e R s m args below meth c n0 q0 Q hA h1 h2 h3 h4 kk => ?_⟩
  intro H locs ls hR hL hS
  have hA' := hA
  obtain ⟨hx, hb, hml, hown, hret, hlk, hnm, htab, hW, hbel, hz, hfr, hlo⟩ := hA
  obtain ⟨hbs, r', e1, cell, q1, q2, q3, q4⟩ := hR.2.2 a _ he
  cases e1.symm.trans hc
  obtain ⟨hS1, hfc, kC, hkC, hkind⟩ := ev_cls hG hW hc
  obtain ⟨cf, kf, fi, f, hi, hsl⟩ := hS1 k hk
  have hst := (u_facts hfc hkC (u_lays (N := r.2.2) (ev_lays hG hW hr args) (fun w h => h) hk) hi).1
  have hap := ev_apart hG hW hc hr ha args
  refine row p e R s m args below meth c Q H locs _ _ ls hA' cf fi kf kC f cell hi hst q1 q3 (by rw [hsl]; exact k2_hasslot (q4 k hk)) (by rw [q2]; exact hfc) (by rw [q2]; exact hkC) hkind fun H' e1 e2 e3 => ?_
  rw [hsl] at e1 ⊢
  exact kk H' _ ls (ev_R_up hR he e2 e3 ⟨r, hc, t_OB.to (V := updV (vp_V fs) k v) ⟨_, e1, q2, q3, t_set q4 hap hk v⟩ (fun j _ => vp_updV_set hl v j)⟩) hL (hS.put e2 e3 hbs)
theorem s_putfield (hG : ev_Good X) {ci k idx : Nat} {ty : FieldType} {r : vw_C} {ref : String} (hc : vwCl[ci]? = some r) (hr : ev_cw r) (ha : ev_ap r) (hk : k < r.2.2) (hfin : (r.2.1 k).2.2.2 = false) (hty : parseFieldDescriptor (r.2.1 k).2.2.1 = some ty) (hw : Cond.fieldLink x.1.cls idx ref (r.2.1 k).2.1 (r.2.1 k).2.2.1 ∈ lw_tbl) (hg : ev_gd (Cond.fieldLink x.1.cls idx ref (r.2.1 k).2.1 (r.2.1 k).2.2.1) = true)
    (hs : ref = (r.2.1 k).1 ∨ (Cond.sameField ref (r.2.1 k).1 (r.2.1 k).2.1 (r.2.1 k).2.2.1 ∈ lw_tbl ∧ ev_gd (Cond.sameField ref (r.2.1 k).1 (r.2.1 k).2.1 (r.2.1 k).2.2.1) = true)) (d : decode x.2.1 pc = .ok (.putfield idx, 3)) : ev_Snd X l ms x tx pc (i_pf ci k ty (pc + 3)) := by
  intro S y h
  obtain ⟨lo, st, K, n, q⟩ := S
  unfold i_pf at h
  dsimp only at h
  split at h
  · rename_i v a st
    obtain ⟨⟨⟨fs, he, hkl⟩, hfit⟩, h⟩ := ev_if_s h
    cases h
    show ev_SG X l x pc _ _ _
    dsimp only
    rw [he]
    refine ev_putf hG (ty := ty) hc hr ha hk he hkl fun p e R s m args below meth c Q H locs cells slots ls hA cf i kc kC f cell hi hst hcell hvm hlt hfc hkC hkind kk => ?_
    have hlay := ev_lays hG hA.2.2.2.2.2.2.2.2.1 hr args _ (u_in_lay hk)
    unfold u_lay at hlay
    rw [if_neg (by rw [hfin]; decide)] at hlay
    refine W.putK hA.1 hA.2.1 (f := f) ⟨hA.2.2.2.1, ev_word hG hA.2.2.2.2.2.2.2.2.1 hw hg args, ⟨cf, kc, i, ?_⟩, hst⟩ (u_store hfc hkC hkind hlay hi hty hfit.1 hfit.2) hcell hvm hlt rfl rfl d kk
    rcases hs with rfl | ⟨h1, h2⟩
    · exact hi
    · exact u_same (ev_word hG hA.2.2.2.2.2.2.2.2.1 h1 h2 args) _ hi
  · cases h
theorem s_putfieldN (hG : ev_Good X) {ci k idx : Nat} {ty : FieldType} {r : vw_C} {host : String} (hc : vwCl[ci]? = some r) (hr : ev_cw r) (ha : ev_ap r) (hk : k < r.2.2) (hfin : (r.2.1 k).2.2.2 = false) (hty : parseFieldDescriptor (r.2.1 k).2.2.1 = some ty) (hw : Cond.fieldLinkNest x.1.cls idx (r.2.1 k).1 (r.2.1 k).2.1 (r.2.1 k).2.2.1 host ∈ lw_tbl) (hg : ev_gd (Cond.fieldLinkNest x.1.cls idx (r.2.1 k).1 (r.2.1 k).2.1 (r.2.1 k).2.2.1 host) = true)
    (d : decode x.2.1 pc = .ok (.putfield idx, 3)) : ev_Snd X l ms x tx pc (i_pf ci k ty (pc + 3)) := by
  intro S y h
  obtain ⟨lo, st, K, n, q⟩ := S
  unfold i_pf at h
  dsimp only at h
  split at h
  · rename_i v a st
    obtain ⟨⟨⟨fs, he, hkl⟩, hfit⟩, h⟩ := ev_if_s h
    cases h
    show ev_SG X l x pc _ _ _
    dsimp only
    rw [he]
    refine ev_putf hG (ty := ty) hc hr ha hk he hkl fun p e R s m args below meth c Q H locs cells slots ls hA cf i kc kC f cell hi hst hcell hvm hlt hfc hkC hkind kk => ?_
    have hlay := ev_lays hG hA.2.2.2.2.2.2.2.2.1 hr args _ (u_in_lay hk)
    unfold u_lay at hlay
    rw [if_neg (by rw [hfin]; decide)] at hlay
    exact va_WputK hA.1 hA.2.1 (f := f) hA.2.2.2.1 (ev_word hG hA.2.2.2.2.2.2.2.2.1 hw hg args) hi hst (u_store hfc hkC hkind hlay hi hty hfit.1 hfit.2) hcell hvm hlt rfl rfl d kk
  · cases h
theorem s_putfieldF (hG : ev_Good X) {ci k idx : Nat} {ty : FieldType} {r : vw_C} (hc : vwCl[ci]? = some r) (hr : ev_cw r) (ha : ev_ap r) (hk : k < r.2.2) (hfin : (r.2.1 k).2.2.2 = true) (hin : x.1.name = "<init>") (hdecl : (r.2.1 k).1 = x.1.cls) (hty : parseFieldDescriptor (r.2.1 k).2.2.1 = some ty) (hw : Cond.fieldLink x.1.cls idx (r.2.1 k).1 (r.2.1 k).2.1 (r.2.1 k).2.2.1 ∈ lw_tbl) (hg : ev_gd (Cond.fieldLink x.1.cls idx (r.2.1 k).1 (r.2.1 k).2.1 (r.2.1 k).2.2.1) = true)
    (d : decode x.2.1 pc = .ok (.putfield idx, 3)) : ev_Snd X l ms x tx pc (i_pf ci k ty (pc + 3)) := by
  intro S y h
  obtain ⟨lo, st, K, n, q⟩ := S
  unfold i_pf at h
  dsimp only at h
  split at h
  · rename_i v a st
    obtain ⟨⟨⟨fs, he, hkl⟩, hfit⟩, h⟩ := ev_if_s h
    cases h
    show ev_SG X l x pc _ _ _
    dsimp only
    rw [he]
    refine ev_putf hG (ty := ty) hc hr ha hk he hkl fun p e R s m args below meth c Q H locs cells slots ls hA cf i kc kC f cell hi hst hcell hvm hlt hfc hkC hkind kk => ?_
    have hlay := ev_lays hG hA.2.2.2.2.2.2.2.2.1 hr args _ (u_in_lay hk)
    unfold u_lay at hlay
    rw [if_pos hfin] at hlay
    have hcf : m.cls = cf := by
      obtain ⟨_, _, c', _, _, _, -, -, hf', -, -, -, hown2, -⟩ := Cond.laysFinal_spec hlay
      have e1 : c' = cf := by have := hi.symm.trans hf'; simp at this; exact this.1.symm
      rw [hdecl] at hown2
      rw [← e1]; exact Option.some.inj (hA.2.2.2.1.symm.trans hown2)
    exact W.putFinK hA.1 hA.2.1 hA.2.2.2.1 (ev_word hG hA.2.2.2.2.2.2.2.2.1 hw hg args) hi hst hcf (hA.2.2.2.2.2.2.1.trans hin) (u_fits hfc hkC hkind (Or.inr hlay) hi hty hfit.1 hfit.2) hcell hvm hlt rfl rfl d kk
  · cases h
/-! new objects -/
def i_nw (ci N : Nat) (fs : List Value) (p : Nat) : ev_S → ev_N := fun S => some (.inl (p, S.1, .ref S.2.2.2.1 :: S.2.1, ev_up S.2.2.1 S.2.2.2.1 (.inr (ci, fs)), S.2.2.2.1 + 1, S.2.2.2.2 + N))
theorem s_new (hG : ev_Good X) {ci idx : Nat} {r : vw_C} {fs : List Value} (hc : vwCl[ci]? = some r) (hr : ev_cw r) (ty : Nat → FieldType) (hty : ∀ k, k < r.2.2 → parseFieldDescriptor (r.2.1 k).2.2.1 = some (ty k)) (hfs : ∀ j, j < r.2.2 → defaultValue (ty j) = vp_V fs j)
    (hw1 : Cond.classLink x.1.cls idx r.1 ∈ lw_tbl) (hg1 : ev_gd (Cond.classLink x.1.cls idx r.1) = true) (hw2 : Cond.instantiable r.1 r.2.2 ∈ lw_tbl) (hg2 : ev_gd (Cond.instantiable r.1 r.2.2) = true) (hw3 : Cond.initialized r.1 ∈ lw_tbl) (hg3 : ev_gd (Cond.initialized r.1) = true)
    (d : decode x.2.1 pc = .ok (.new idx, 3)) : ev_Snd X l ms x tx pc (i_nw ci r.2.2 fs (pc + 3)) := by
  intro S y h
  obtain ⟨lo, st, K, n, q⟩ := S
  cases h
  refine ⟨Nat.le_succ _, Nat.le_add_right _ _, fun p e R s m args below meth c n0 q0 Q hA h1 h2 h3 h4 kk => ?_⟩
  intro H locs ls hR hL hS
  dsimp only at h1 h2 h3 h4 kk hR hL ⊢
  obtain ⟨hx, hb, hml, hown, hret, hlk, hnm, htab, hW, hbel, hz, hfr, hlo⟩ := hA
  have hKn := ev_cls hG hW hc
  refine W.newcK hx hb hown (ev_word hG hW hw1 hg1 args) (ev_word hG hW hw2 hg2 args) (ev_word hG hW hw3 hg3 args) rfl d (by omega) (by omega) hKn.2.1 hR.1 fun H1 kC hkC e1 z1 o1 => ?_
  have k2 := kk H1 locs ls (ev_R_new hR z1 o1 ⟨r, hc, (u_born ty (ev_lays hG hW hr args) (fun w h => h) hKn hkC e1 hty).to hfs⟩) hL (ev_S_new hS hR.1 z1 o1)
  dsimp only at k2
  exact W.cs (by omega) (by omega) k2
noncomputable def i_na (kd : Nat) (v : Value) (p : Nat) : ev_S → ev_N := fun S => match S.2.1 with
  | .int i :: st => ev_if (0 ≤ i ∧ i.toNatClampNeg ≤ 100000) (some (.inl (p, S.1, .ref S.2.2.2.1 :: st, ev_up S.2.2.1 S.2.2.2.1 (.inl (kd, i.toNatClampNeg, fun _ => v)), S.2.2.2.1 + 1, S.2.2.2.2 + i.toNatClampNeg)))
  | _ => none
theorem s_newarray (hG : ev_Good X) {kd : Nat} {at' : ArrayType} (hk : kd < 6) (hty : newarray.typeOf at' = ev_aT kd) (hcb : componentBytes (newarray.typeOf at') ≤ 8) (hp : (newarray.typeOf at').isReference = false) (d : decode x.2.1 pc = .ok (.newarray at', 2)) (hw : Cond.arrayClass (newarray.typeOf at') ∈ lw_tbl) : ev_Snd X l ms x tx pc (i_na kd (defaultValue (newarray.typeOf at')) (pc + 2)) := by
  intro S y h
  obtain ⟨lo, st, K, n, q⟩ := S
  unfold i_na at h
  dsimp only at h
  split at h
  · rename_i i st
    obtain ⟨⟨hi0, hi1⟩, h⟩ := ev_if_s h
    cases h
    refine ⟨Nat.le_succ _, Nat.le_add_right _ _, fun p e R s m args below meth c n0 q0 Q hA h1 h2 h3 h4 kk => ?_⟩
    intro H locs ls hR hL hS
    dsimp only at h1 h2 h3 h4 kk hR hL ⊢
    obtain ⟨hx, hb, hml, hown, hret, hlk, hnm, htab, hW, hbel, hz, hfr, hlo⟩ := hA
    have hbytes : i.toNatClampNeg * componentBytes (newarray.typeOf at') ≤ 536870912 := Nat.le_trans (Nat.mul_le_mul hi1 hcb) (Nat.le_of_ble_eq_true rfl)
    refine va_newaK hx hb (ev_word hG hW hw rfl args) rfl d rfl (Int32.not_lt.mpr hi0) rfl hbytes (by omega) (by omega) hR.1 fun H1 cA e1 z1 o1 hAr hNm => ?_
    have hra := (hG.2.2.2.1 kd hk).moved hW.alike
    have hcA : cA = X.2.2.2.1 kd := by
      rw [← hty] at hra
      unfold va_RA at hra
      split at hra
      · rename_i C e9
        rw [e9] at hp
        cases hp
      · exact Option.some.inj (hNm.symm.trans hra)
    subst hcA
    have k2 := kk H1 locs ls (ev_R_new hR z1 o1 ⟨hk, e1⟩) hL (ev_S_new hS hR.1 z1 o1)
    dsimp only at k2
    exact W.cs (by omega) (by omega) k2
  · cases h
theorem s_anewarray (hG : ev_Good X) {kd idx : Nat} {C : String} (hk : kd < 6) (hty : ev_aT kd = .object C) (d : decode x.2.1 pc = .ok (.anewarray idx, 3)) (hw1 : Cond.classLink x.1.cls idx C ∈ lw_tbl) (hg1 : ev_gd (Cond.classLink x.1.cls idx C) = true) (hw2 : Cond.arrayOver (.object C) ∈ lw_tbl) : ev_Snd X l ms x tx pc (i_na kd .null (pc + 3)) := by
  intro S y h
  obtain ⟨lo, st, K, n, q⟩ := S
  unfold i_na at h
  dsimp only at h
  split at h
  · rename_i i st
    obtain ⟨⟨hi0, hi1⟩, h⟩ := ev_if_s h
    cases h
    refine ⟨Nat.le_succ _, Nat.le_add_right _ _, fun p e R s m args below meth c n0 q0 Q hA h1 h2 h3 h4 kk => ?_⟩
    intro H locs ls hR hL hS
    dsimp only at h1 h2 h3 h4 kk hR hL ⊢
    obtain ⟨hx, hb, hml, hown, hret, hlk, hnm, htab, hW, hbel, hz, hfr, hlo⟩ := hA
    have hover : (Cond.arrayOver (.object C)).before args s = true := va_AO.use (va_AO.moved hW.alike (va_AO.of (hG.1 _ hw2)))
    have hbytes : i.toNatClampNeg * 4 ≤ 536870912 := by omega
    refine W.anew hx hb hown (ev_word hG hW hw1 hg1 args) hover rfl d rfl (Int32.not_lt.mpr hi0) hbytes (by omega) (by omega) fun cA kA comp f1 f2 f3 f4 => ?_
    have hra := (hG.2.2.2.1 kd hk).moved hW.alike
    have hcA : cA = X.2.2.2.1 kd := by
      rw [hty] at hra
      obtain ⟨kA', comp', g1, g2, g3, g4⟩ := hra
      exact Option.some.inj (f1.symm.trans g4)
    subst hcA
    have hsz := hR.1
    subst hsz
    rw [arrV_new]
    have o1 : ∀ (z : Cell) (q : Nat), q < H.size → (H.push z)[q]? = H[q]? := fun z q hq => by rw [Array.getElem?_push, if_neg (Nat.ne_of_lt hq)]
    have z1 : ∀ z : Cell, (H.push z).size = H.size + 1 := fun z => by simp
    have k2 := kk (H.push (arrV (X.2.2.2.1 kd) i.toNatClampNeg (fun _ => .null))) locs ls (ev_R_new hR (z1 _) (o1 _) ⟨hk, by simp⟩) hL (ev_S_new hS rfl (z1 _) (o1 _))
    dsimp only at k2
    exact W.cs (by omega) (by omega) k2
  · cases h
/-! arrays -/
def ev_isA (c : Option ev_C) : Prop := ∃ (kd n : Nat) (f : Nat → Value), c = some (.inl (kd, n, f)) ∧ kd < 20
def ev_aN (c : Option ev_C) : Nat := match c with
  | some (.inl z) => z.2.1
  | _ => 0
noncomputable def i_len (X : ev_E) (p : Nat) : ev_S → ev_N := fun S => match S.2.1 with
  | .ref a :: st => ev_if (ev_isA (ev_lk X S.2.2.1 a)) (some (.inl (p, S.1, .int (Int32.ofNat (ev_aN (ev_lk X S.2.2.1 a))) :: st, S.2.2)))
  | _ => none
theorem ev_isArr (hG : ev_Good X) {s : State} (hW : X.1.WarmedH s.vm) {kd : Nat} (hk : kd < 20) {cell : Cell} (hc : cell.cls = X.2.2.2.1 kd) (hv : ∀ j, cell.vm ≠ .statics j) : s.isArrayOf cell (ev_aT kd) := by
  have h1 := arrOfT_moved hW.alike (hG.2.2.1 kd hk) 0 (fun _ => .null)
  obtain ⟨h2, k, h3, h4⟩ := h1
  exact ⟨hv, k, by rw [hc]; exact h3, h4⟩
theorem s_arraylength (hG : ev_Good X) (d : decode x.2.1 pc = .ok (.arraylength, 1)) : ev_Snd X l ms x tx pc (i_len X (pc + 1)) := by
  intro S y h
  obtain ⟨lo, st, K⟩ := S
  unfold i_len at h
  dsimp only at h
  split at h
  · rename_i a st
    obtain ⟨⟨kd, n, f, he, hk⟩, h⟩ := ev_if_s h
    cases h
    show ev_SG X l x pc _ _ _
    dsimp only
    rw [he]
    refine ⟨Nat.le_refl _, Nat.le_refl _, fun p e R s m args below meth c n0 q0 Q hA h1 h2 h3 h4 kk => ?_⟩
    intro H locs ls hR hL hS
    obtain ⟨hx, hb, hml, hown, hret, hlk, hnm, htab, hW, hbel, hz, hfr, hlo⟩ := hA
    obtain ⟨cell, e1, e2, e3, e4, e5, e6⟩ := ev_rd hG hbel hz hR hS he
    exact W.alen (ty := ev_aT kd) hx hb e1 (ev_isArr hG hW hk e2 e3) (by rw [e5]; rfl) rfl rfl d (kk H locs ls hR hL hS)
  · cases h
def ev_inA (c : Option ev_C) (i : Int32) (t : FieldType → Bool) : Prop := ∃ (kd n : Nat) (f : Nat → Value), c = some (.inl (kd, n, f)) ∧ kd < 20 ∧ t (ev_aT kd) = true ∧ ¬ (i < 0 ∨ n ≤ i.toNatClampNeg)
def ev_aG (c : Option ev_C) (i : Int32) : Value := match c with
  | some (.inl z) => z.2.2 i.toNatClampNeg
  | _ => .null
def ev_aS (c : Option ev_C) (i : Int32) (v : Value) : ev_C := match c with
  | some (.inl z) => .inl (z.1, z.2.1, updV z.2.2 i.toNatClampNeg v)
  | _ => .inr (0, [])
def ev_tI (t : FieldType) : Bool := decide (t = .int)
def ev_tB (t : FieldType) : Bool := decide (t = .byte)
noncomputable def i_ald (X : ev_E) (t : FieldType → Bool) (p : Nat) : ev_S → ev_N := fun S => match S.2.1 with
  | .int i :: .ref a :: st => ev_if (ev_inA (ev_lk X S.2.2.1 a) i t) (some (.inl (p, S.1, ev_aG (ev_lk X S.2.2.1 a) i :: st, S.2.2)))
  | _ => none

theorem s_iaload (hG : ev_Good X) (d : decode x.2.1 pc = .ok (.iaload, 1)) : ev_Snd X l ms x tx pc (i_ald X ev_tI (pc + 1)) := by
  intro S y h
  obtain ⟨lo, st, K⟩ := S
  unfold i_ald at h
  dsimp only at h
  split at h
  · rename_i i a st
    obtain ⟨⟨kd, n, f, he, hk, ht, hin⟩, h⟩ := ev_if_s h
    cases h
    show ev_SG X l x pc _ _ _
    dsimp only
    rw [he]
    refine ⟨Nat.le_refl _, Nat.le_refl _, fun p e R s m args below meth c n0 q0 Q hA h1 h2 h3 h4 kk => ?_⟩
    intro H locs ls hR hL hS
    obtain ⟨hx, hb, hml, hown, hret, hlk, hnm, htab, hW, hbel, hz, hfr, hlo⟩ := hA
    obtain ⟨cell, e1, e2, e3, e4, e5, e6⟩ := ev_rd hG hbel hz hR hS he
    have hlt : i.toNatClampNeg < n := Nat.not_le.mp fun q => hin (Or.inr q)
    exact W.iald hx hb e1 (by have z := ev_isArr hG hW hk e2 e3; rw [(of_decide_eq_true ht)] at z; exact z) e4 (by rw [e5]; exact hin) (e6 _ hlt) rfl rfl d (kk H locs ls hR hL hS)
  · cases h
theorem s_baload (hG : ev_Good X) (d : decode x.2.1 pc = .ok (.baload, 1)) : ev_Snd X l ms x tx pc (i_ald X ev_tB (pc + 1)) := by
  intro S y h
  obtain ⟨lo, st, K⟩ := S
  unfold i_ald at h
  dsimp only at h
  split at h
  · rename_i i a st
    obtain ⟨⟨kd, n, f, he, hk, ht, hin⟩, h⟩ := ev_if_s h
    cases h
    show ev_SG X l x pc _ _ _
    dsimp only
    rw [he]
    refine ⟨Nat.le_refl _, Nat.le_refl _, fun p e R s m args below meth c n0 q0 Q hA h1 h2 h3 h4 kk => ?_⟩
    intro H locs ls hR hL hS
    obtain ⟨hx, hb, hml, hown, hret, hlk, hnm, htab, hW, hbel, hz, hfr, hlo⟩ := hA
    obtain ⟨cell, e1, e2, e3, e4, e5, e6⟩ := ev_rd hG hbel hz hR hS he
    have hlt : i.toNatClampNeg < n := Nat.not_le.mp fun q => hin (Or.inr q)
    exact W.bald hx hb e1 (by have z := ev_isArr hG hW hk e2 e3; rw [(of_decide_eq_true ht)] at z; exact z) e4 (by rw [e5]; exact hin) (e6 _ hlt) rfl rfl d (kk H locs ls hR hL hS)
  · cases h
theorem s_aaload (hG : ev_Good X) (d : decode x.2.1 pc = .ok (.aaload, 1)) : ev_Snd X l ms x tx pc (i_ald X FieldType.isReference (pc + 1)) := by
  intro S y h
  obtain ⟨lo, st, K⟩ := S
  unfold i_ald at h
  dsimp only at h
  split at h
  · rename_i i a st
    obtain ⟨⟨kd, n, f, he, hk, ht, hin⟩, h⟩ := ev_if_s h
    cases h
    show ev_SG X l x pc _ _ _
    dsimp only
    rw [he]
    refine ⟨Nat.le_refl _, Nat.le_refl _, fun p e R s m args below meth c n0 q0 Q hA h1 h2 h3 h4 kk => ?_⟩
    intro H locs ls hR hL hS
    obtain ⟨hx, hb, hml, hown, hret, hlk, hnm, htab, hW, hbel, hz, hfr, hlo⟩ := hA
    obtain ⟨cell, e1, e2, e3, e4, e5, e6⟩ := ev_rd hG hbel hz hR hS he
    have hlt : i.toNatClampNeg < n := Nat.not_le.mp fun q => hin (Or.inr q)
    exact W.aald (ty := ev_aT kd) hx hb e1 (ev_isArr hG hW hk e2 e3) ht e4 (by rw [e5]; exact hin) (e6 _ hlt) rfl rfl d (kk H locs ls hR hL hS)
  · cases h
noncomputable def i_ast (t : FieldType → Bool) (g : Int32 → Int32) (p : Nat) : ev_S → ev_N := fun S => match S.2.1 with
  | .int v :: .int i :: .ref a :: st => ev_if (ev_inA (S.2.2.1 a) i t) (some (.inl (p, S.1, st, ev_up S.2.2.1 a (ev_aS (S.2.2.1 a) i (.int (g v))), S.2.2.2)))
  | _ => none
theorem s_iastore (hG : ev_Good X) (d : decode x.2.1 pc = .ok (.iastore, 1)) : ev_Snd X l ms x tx pc (i_ast ev_tI (fun v => v) (pc + 1)) := by
  intro S y h
  obtain ⟨lo, st, K, n, q⟩ := S
  unfold i_ast at h
  dsimp only at h
  split at h
  · rename_i v i a st
    obtain ⟨⟨kd, N, f, he, hk, ht, hin⟩, h⟩ := ev_if_s h
    cases h
    show ev_SG X l x pc _ _ _
    dsimp only
    rw [he]
    refine ⟨Nat.le_refl _, Nat.le_refl _, fun p e R s m args below meth c n0 q0 Q hA h1 h2 h3 h4 kk => ?_⟩
    intro H locs ls hR hL hS
    obtain ⟨hx, hb, hml, hown, hret, hlk, hnm, htab, hW, hbel, hz, hfr, hlo⟩ := hA
    obtain ⟨hbs, hk6, hcell⟩ := hR.2.2 a _ he
    have hlt : i.toNatClampNeg < N := Nat.not_le.mp fun q => hin (Or.inr q)
    refine W.iast hx hb hcell (by have z := ev_isArr hG hW hk (cell := arrV (X.2.2.2.1 kd) N f) rfl (fun j e => by cases e); rw [of_decide_eq_true ht] at z; exact z) (fun e => by cases e) (by show ¬ (i < 0 ∨ (arrV _ _ _).slots.size ≤ _); rw [arrV_size]; exact hin) rfl rfl d fun H1 e1 z oq => ?_
    refine kk H1 _ ls (ev_R_up hR he z oq ⟨hk6, ?_⟩) hL (hS.put z oq hbs)
    rw [e1, arrV_store]
    try rfl
  · cases h
theorem s_bastore (hG : ev_Good X) (d : decode x.2.1 pc = .ok (.bastore, 1)) : ev_Snd X l ms x tx pc (i_ast ev_tB (vp_nar .byte) (pc + 1)) := by
  intro S y h
  obtain ⟨lo, st, K, n, q⟩ := S
  unfold i_ast at h
  dsimp only at h
  split at h
  · rename_i v i a st
    obtain ⟨⟨kd, N, f, he, hk, ht, hin⟩, h⟩ := ev_if_s h
    cases h
    show ev_SG X l x pc _ _ _
    dsimp only
    rw [he]
    refine ⟨Nat.le_refl _, Nat.le_refl _, fun p e R s m args below meth c n0 q0 Q hA h1 h2 h3 h4 kk => ?_⟩
    intro H locs ls hR hL hS
    obtain ⟨hx, hb, hml, hown, hret, hlk, hnm, htab, hW, hbel, hz, hfr, hlo⟩ := hA
    obtain ⟨hbs, hk6, hcell⟩ := hR.2.2 a _ he
    have hlt : i.toNatClampNeg < N := Nat.not_le.mp fun q => hin (Or.inr q)
    refine W.bast hx hb hcell (by have z := ev_isArr hG hW hk (cell := arrV (X.2.2.2.1 kd) N f) rfl (fun j e => by cases e); rw [of_decide_eq_true ht] at z; exact z) (fun e => by cases e) (by show ¬ (i < 0 ∨ (arrV _ _ _).slots.size ≤ _); rw [arrV_size]; exact hin) rfl rfl d fun H1 e1 z oq => ?_
    refine kk H1 _ ls (ev_R_up hR he z oq ⟨hk6, ?_⟩) hL (hS.put z oq hbs)
    rw [e1, arrV_store]
    try rfl
  · cases h
noncomputable def i_aast (kd ci : Nat) (p : Nat) : ev_S → ev_N := fun S => match S.2.1 with
  | .ref v :: .int i :: .ref a :: st => ev_if (ev_inA (S.2.2.1 a) i FieldType.isReference ∧ (∃ n f, S.2.2.1 a = some (.inl (kd, n, f))) ∧ ∃ fs, S.2.2.1 v = some (.inr (ci, fs))) (some (.inl (p, S.1, st, ev_up S.2.2.1 a (ev_aS (S.2.2.1 a) i (.ref v)), S.2.2.2)))
  | _ => none
theorem s_aastore (hG : ev_Good X) {kd ci : Nat} {r : vw_C} (hk6 : kd < 6) (hc : vwCl[ci]? = some r) (hty : ev_aT kd = .object r.1) (d : decode x.2.1 pc = .ok (.aastore, 1)) : ev_Snd X l ms x tx pc (i_aast kd ci (pc + 1)) := by
  intro S y h
  obtain ⟨lo, st, K, n, q⟩ := S
  unfold i_aast at h
  dsimp only at h
  split at h
  · rename_i v i a st
    obtain ⟨⟨⟨kd', N, f, he, hk, ht, hin⟩, ⟨N', f', he'⟩, fs, hv⟩, h⟩ := ev_if_s h
    cases he.symm.trans he'
    cases h
    show ev_SG X l x pc _ _ _
    dsimp only
    rw [he]
    refine ⟨Nat.le_refl _, Nat.le_refl _, fun p e R s m args below meth c n0 q0 Q hA h1 h2 h3 h4 kk => ?_⟩
    intro H locs ls hR hL hS
    obtain ⟨hx, hb, hml, hown, hret, hlk, hnm, htab, hW, hbel, hz, hfr, hlo⟩ := hA
    obtain ⟨hbs, -, hcell⟩ := hR.2.2 a _ he
    obtain ⟨hbv, r', e9, cellV, g1, g2, g3, -⟩ := hR.2.2 v _ hv
    cases e9.symm.trans hc
    have hlt : i.toNatClampNeg < N := Nat.not_le.mp fun q => hin (Or.inr q)
    have h0 : ¬ i < 0 := fun q => hin (Or.inl q)
    have hcls := (ev_cls hG hW hc).2
    have hra := (hG.2.2.2.1 kd hk6).moved hW.alike
    rw [hty] at hra
    obtain ⟨kA, comp, k1, k2, k3, -⟩ := hra
    have hcomp : comp = X.2.2.1.1 ci := Option.some.inj (k3.symm.trans hcls.1)
    subst hcomp
    have hasg := va_assign hcls
    obtain ⟨-, kC, hkC, -⟩ := hcls
    refine W.aast hx hb hcell (fun q h => by cases h) (fun h => by cases h) k1 k2 rfl hkC ⟨h0, by show _ < (arrV _ _ _).slots.size; rw [arrV_size]; exact hlt⟩ g1 (fun q h => by rw [g3] at h; cases h) (by rw [g2]; exact hkC) (by rw [g2]; exact hasg) rfl rfl d fun H1 e1 z oq => ?_
    refine kk H1 _ ls (ev_R_up hR he z oq ⟨hk6, ?_⟩) hL (hS.put z oq hbs)
    rw [e1, arrV_store]
  · cases h
def i_lcmp (p : Nat) : ev_S → ev_N := fun S => match S.2.1 with
  | .long b :: .long a :: st => some (.inl (p, S.1, .int (lg_cmp a b) :: st, S.2.2))
  | _ => none
theorem s_lcmp (d : decode x.2.1 pc = .ok (.lcmp, 1)) : ev_Snd X l ms x tx pc (i_lcmp (pc + 1)) := by
  intro S y h
  obtain ⟨lo, st, K⟩ := S
  unfold i_lcmp at h
  dsimp only at h
  split at h
  · cases h
    exact ev_SG_same fun p e R s m args below meth c Q H locs cells slots ls hx hb hL k => W.lcmp hx hb d (k ls hL)
  · cases h
theorem s_ldc2 (hG : ev_Good X) {idx : Nat} {v : Int64} (hw : Cond.constantLong x.1.cls idx v ∈ lw_tbl) (hg : ev_gd (Cond.constantLong x.1.cls idx v) = true) (d : decode x.2.1 pc = .ok (.ldc2_w idx, 3)) : ev_Snd X l ms x tx pc (i_psh (.long v) (pc + 3)) := by
  intro S y h
  obtain ⟨lo, st, K⟩ := S
  cases h
  refine ⟨Nat.le_refl _, Nat.le_refl _, fun p e R s m args below meth c n0 q0 Q hA h1 h2 h3 h4 kk => ?_⟩
  intro H locs ls hR hL hS
  exact lv_ldc2 hA.1 hA.2.1 hA.2.2.2.1 (ev_word hG hA.2.2.2.2.2.2.2.2.1 hw hg args) d (kk H locs ls hR hL hS)
theorem s_ldc (hG : ev_Good X) {idx : Nat} {v : Int32} (hw : Cond.constant x.1.cls idx v ∈ lw_tbl) (hg : ev_gd (Cond.constant x.1.cls idx v) = true) (d : decode x.2.1 pc = .ok (.ldc idx, 2)) : ev_Snd X l ms x tx pc (i_psh (.int v) (pc + 2)) := by
  intro S y h
  obtain ⟨lo, st, K⟩ := S
  cases h
  refine ⟨Nat.le_refl _, Nat.le_refl _, fun p e R s m args below meth c n0 q0 Q hA h1 h2 h3 h4 kk => ?_⟩
  intro H locs ls hR hL hS
  exact lv_ldc hA.1 hA.2.1 hA.2.2.2.1 (ev_word hG hA.2.2.2.2.2.2.2.2.1 hw hg args) d (kk H locs ls hR hL hS)
/-! a switch by numbers lo, lo + 1 .. -/
def i_sw (lo : Int) (ts : List Nat) (df : Nat) : ev_S → ev_N := fun S => match S.2.1 with
  | .int a :: st => some (.inl ((if a.toInt < lo ∨ lo + ts.length ≤ a.toInt then df else ts.getD (a.toInt - lo).toNat df), S.1, st, S.2.2))
  | _ => none
theorem s_tableswitch {dflt lo hi : Int} {offs : Array Int} {len df : Nat} {ts : List Nat} (d : decode x.2.1 pc = .ok (.tableswitch dflt lo hi offs, len)) (hd : (pc : Int) + dflt = (df : Int)) (hl : hi + 1 = lo + ts.length) (ho : offs.toList.map (fun o => (pc : Int) + o) = ts.map (fun (t : Nat) => (t : Int))) : ev_Snd X l ms x tx pc (i_sw lo ts df) := by
  intro S y h
  obtain ⟨loc, st, K⟩ := S
  unfold i_sw at h
  dsimp only at h
  split at h
  · rename_i a st
    cases h
    refine ev_SG_same fun p e R s m args below meth c Q H locs cells slots ls hx hb hL k => ?_
    have k2 := k ls hL
    by_cases hc : a.toInt < lo ∨ lo + ts.length ≤ a.toInt
    · rw [if_pos hc] at k2
      exact lv_tableOut hx hb d (by omega) hd k2
    · rw [if_neg hc] at k2
      have hlt : (a.toInt - lo).toNat < ts.length := by omega
      have hsz : offs.toList.length = ts.length := by have := congrArg List.length ho; simpa using this
      have hlt2 : (a.toInt - lo).toNat < offs.toList.length := by omega
      have e1 : (offs.toList.map (fun o => (pc : Int) + o))[(a.toInt - lo).toNat]? = (ts.map (fun (t : Nat) => (t : Int)))[(a.toInt - lo).toNat]? := by rw [ho]
      rw [List.getElem?_map, List.getElem?_map, List.getElem?_eq_getElem hlt, List.getElem?_eq_getElem hlt2] at e1
      have e2 : (pc : Int) + offs.toList[(a.toInt - lo).toNat] = (ts[(a.toInt - lo).toNat] : Int) := by simpa using e1
      rw [List.getD_eq_getElem?_getD, List.getElem?_eq_getElem hlt] at k2
      exact lv_tableIn hx hb d (by omega) (by omega) (by rw [← Array.getElem?_toList, List.getElem?_eq_getElem hlt2]) e2 k2
  · cases h
end EVH
