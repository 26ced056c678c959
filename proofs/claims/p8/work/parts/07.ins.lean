def ev_QC (X : ev_E) (o : ev_O) (K : ev_H) : Array Value → State → Outcome → State → Prop := fun _ st oc t => (∃ v, o = .inl v ∧ oc = .returned v) ∧ ev_R X K.1 K.2.1 t.heap ∧ ∀ a : Nat, a < X.1.heap.size → t.heap[a]? = st.heap[a]?
def ev_XC (X : ev_E) (o : ev_O) (K : ev_H) : String → State → State → Prop := fun E st t => (∃ k, o = .inr k ∧ E = ev_nm k) ∧ ev_R X K.1 K.2.1 t.heap ∧ ∀ a : Nat, a < X.1.heap.size → t.heap[a]? = st.heap[a]?
def ev_Pc (X : ev_E) (as : List Value) (K : ev_H) : Array Value → State → Prop := fun v U => v = as.toArray ∧ ev_R X K.1 K.2.1 U.heap ∧ X.1.WarmedH U.vm ∧ ∀ a : Nat, a < X.1.heap.size → U.heap[a]? = X.1.heap[a]?
def ev_wd (x : ev_I) : List Cond := match x.2.2.2.2.1 with
  | [] => [Cond.code x.1 x.2.1 x.2.2.1 x.2.2.2.1]
  | r :: hh => [Cond.codeWith x.1 x.2.1 x.2.2.1 x.2.2.2.1 (r :: hh)]
def ev_rm (x : ev_I) (mc ms : Nat) : Room := { frames := 12 + x.2.2.2.2.2, cells := mc, slots := ms, locals := 200 + 130 * x.2.2.2.2.2 }
def ev_Met (X : ev_E) (l : Launch) (x : ev_I) (as : List Value) (K : ev_H) (o : ev_O) (K' : ev_H) : Prop :=
  vx_Met l x.1 (ev_wd x) (ev_rm x (K'.2.1 - K.2.1) (K'.2.2 - K.2.2)) (ev_Pc X as K) (ev_QC X o K') (ev_XC X o K') (K'.2.1 - K.2.1) (K'.2.2 - K.2.2) (fun a => X.1.heap.size ≤ a)
/-- thrown over the frame -/
def ev_VX (X : ev_E) (x : ev_I) (p : Program) (l : Launch) (e : Env) (R : Room) (s : State) (m : MethodId) (args : Array Value) (below : List Frame) (meth : Method) (c : Code) (n0 q0 : Nat) (Q : State → Prop) (pc : Nat) (E : Nat) (lo : List Value) (K : ev_H) : Prop :=
  ∀ (H : Heap) (locs : List Loc) (ls : Array Slot) (rest : List Value) (q : Addr) (ce : Cell), ev_R X K.1 K.2.1 H → ev_L ls x.2.2.1 lo → va_S (fun a => X.1.heap.size ≤ a) s.heap H locs → H[q]? = some ce → ce.vm = .none → s.vm.findClass (ev_nm E) = some ce.cls →
    vx_W p l e R s m args below meth c H locs (K.2.1 - n0) (K.2.2 - q0) Q (F0 m pc ls rest) q
/-- a call -/
def ev_SC (X : ev_E) (l : Launch) (ms : Nat → ev_I) (x : ev_I) (tx : ev_X) (pc : Nat) (S : ev_S) (mi : Nat) (as : List Value) (pc' : Nat) (S' : ev_S) : Prop :=
  S'.2.2 = S.2.2 ∧ (ev_sl as).length ≤ (ms mi).2.2.1 ∧ ∀ (o : ev_O) (K' : ev_H), (∀ E, o = .inr E → tx pc E ≠ none) → S.2.2.2.1 ≤ K'.2.1 → S.2.2.2.2 ≤ K'.2.2 → ev_Met X l (ms mi) as S.2.2 o K' → ∀ (p : Program) (e : Env) (R : Room) (s : State) (m : MethodId) (args : Array Value) (below : List Frame) (meth : Method) (c : Code) (n0 q0 : Nat) (Q : State → Prop),
    ev_At X x p R s m meth c → n0 ≤ S.2.2.2.1 → q0 ≤ S.2.2.2.2 → K'.2.1 - n0 ≤ R.cells → K'.2.2 - q0 ≤ R.slots → (∀ v, o = .inl v → ev_V X x p l e R s m args below meth c n0 q0 Q pc' (S'.1, v.toList ++ S'.2.1, K')) → (∀ E, o = .inr E → ev_VX X x p l e R s m args below meth c n0 q0 Q pc E S'.1 K') →
    ev_V X x p l e R s m args below meth c n0 q0 Q pc S
def ev_SR (X : ev_E) (l : Launch) (x : ev_I) (pc : Nat) (S : ev_S) (v : Option Value) (K : ev_H) : Prop :=
  K = S.2.2 ∧ ∀ (p : Program) (e : Env) (R : Room) (s : State) (m : MethodId) (args : Array Value) (below : List Frame) (meth : Method) (c : Code) (n0 q0 : Nat), ev_At X x p R s m meth c →
    ev_V X x p l e R s m args below meth c n0 q0 (vx_MQ below (ev_QC X (.inl v) K) (ev_XC X (.inl v) K) args s (K.2.1 - n0) (K.2.2 - q0) (fun a => X.1.heap.size ≤ a)) pc S
def ev_ST (X : ev_E) (l : Launch) (x : ev_I) (pc : Nat) (S : ev_S) (E : Nat) (K : ev_H) : Prop :=
  K = S.2.2 ∧ ∀ (p : Program) (e : Env) (R : Room) (s : State) (m : MethodId) (args : Array Value) (below : List Frame) (meth : Method) (c : Code) (n0 q0 : Nat), ev_At X x p R s m meth c → n0 ≤ K.2.1 → q0 ≤ K.2.2 → K.2.1 + 1 - n0 ≤ R.cells → K.2.2 + 6 - q0 ≤ R.slots →
    ev_V X x p l e R s m args below meth c n0 q0 (vx_MQ below (ev_QC X (.inr E) (K.1, K.2.1 + 1, K.2.2 + 6)) (ev_XC X (.inr E) (K.1, K.2.1 + 1, K.2.2 + 6)) args s (K.2.1 + 1 - n0) (K.2.2 + 6 - q0) (fun a => X.1.heap.size ≤ a)) pc S
def ev_Sx (X : ev_E) (l : Launch) (ms : Nat → ev_I) (x : ev_I) (tx : ev_X) (pc : Nat) (S : ev_S) (y : (Nat × ev_S) ⊕ ((Nat × List Value × Nat × ev_S) ⊕ ((Option Value × ev_H) ⊕ (Nat × ev_H)))) : Prop := match y with
  | .inl z => ev_SG X l x pc S z.1 z.2
  | .inr (.inl z) => ev_SC X l ms x tx pc S z.1 z.2.1 z.2.2.1 z.2.2.2
  | .inr (.inr (.inl z)) => ev_SR X l x pc S z.1 z.2
  | .inr (.inr (.inr z)) => ev_ST X l x pc S z.1 z.2
def ev_Snd (X : ev_E) (l : Launch) (ms : Nat → ev_I) (x : ev_I) (tx : ev_X) (pc : Nat) (I : ev_S → ev_N) : Prop := ∀ (S : ev_S) y, I S = some y → ev_Sx X l ms x tx pc S y
def ev_gd (w : Cond) : Bool := match w with
  | .castable _ _ => true
  | .declares _ => true
  | .fieldLinkNest _ _ _ _ _ _ => true
  | .methodLinkNest _ _ _ _ => true
  | w => goodWord w
theorem ev_word {X : ev_E} (hG : ev_Good X) {s : State} (hW : X.1.WarmedH s.vm) {w : Cond} (hm : w ∈ lw_tbl) (hg : ev_gd w = true) (args : Array Value) : w.before args s = true := by
  have h := hG.1 w hm
  unfold ev_gd at hg
  split at hg
  · exact va_Nw.use rfl (va_Nw.warmC hW (va_Nw.of rfl h))
  · exact va_Nw.use rfl (va_Nw.warmD hW (va_Nw.of rfl h))
  · exact va_Nw.use rfl (va_Nw.warmF hW (va_Nw.of rfl h))
  · exact va_Nw.use rfl (va_Nw.warmM hW (va_Nw.of rfl h))
  · exact word_at hW (good_of_word hg) h
/-- what is read in the heap -/
theorem ev_atR_kept {X : ev_E} {a : Nat} {c : ev_C} {H H1 : Heap} (h : ev_atR X a c H) (e : H1[a]? = H[a]?) : ev_atR X a c H1 := by
  rcases c with x | x
  · obtain ⟨cell, h1, h2⟩ := h
    exact ⟨cell, e.trans h1, h2⟩
  · obtain ⟨r, cell, h0, h1, h2⟩ := h
    exact ⟨r, cell, h0, e.trans h1, h2⟩
theorem ev_atR_lt {X : ev_E} {a : Nat} {c : ev_C} {H : Heap} (h : ev_atR X a c H) : a < H.size := by
  rcases c with x | x
  · obtain ⟨cell, h1, h2⟩ := h
    exact (Array.getElem?_eq_some_iff.mp h1).1
  · obtain ⟨r, cell, h0, h1, h2⟩ := h
    exact (Array.getElem?_eq_some_iff.mp h1).1
theorem ev_atW_R {X : ev_E} {a : Nat} {c : ev_C} {H : Heap} (h : ev_atW X a c H) : ev_atR X a c H := by
  rcases c with x | x
  · exact ⟨_, h.2, rfl, fun j e => (by cases e), fun e => (by cases e), arrV_size _ _ _, fun j hj => arrV_read _ _ hj⟩
  · obtain ⟨r, h0, cell, h1, h2, h3, h4⟩ := h
    exact ⟨r, cell, h0, h1, h2, by rw [h3]; rfl, by rw [h3]; exact fun e => (by cases e), h4⟩
theorem ev_rd {X : ev_E} (hG : ev_Good X) {h : ev_M} {n a : Nat} {c : ev_C} {s : State} {H : Heap} {locs : List Loc} (hs : ∀ a : Nat, a < X.1.heap.size → s.heap[a]? = X.1.heap[a]?) (hz : X.1.heap.size ≤ s.heap.size) (hR : ev_R X h n H) (hS : va_S (fun a => X.1.heap.size ≤ a) s.heap H locs) (hc : ev_lk X h a = some c) : ev_atR X a c H := by
  unfold ev_lk at hc
  cases hx : h a with
  | some c' =>
    rw [hx] at hc
    cases hc
    exact ev_atW_R (hR.2.2 a _ hx).2
  | none =>
    rw [hx] at hc
    have h1 := hG.2.2.2.2.1 a c hc
    have h2 := ev_atR_lt h1
    exact ev_atR_kept h1 ((hS.2.1 a (Nat.lt_of_lt_of_le h2 hz) (Nat.not_le.mpr h2)).trans (hs a h2))
theorem ev_own {X : ev_E} {h : ev_M} {a : Nat} {c : ev_C} (e : h a = some c) : ev_lk X h a = some c := by unfold ev_lk; rw [e]
theorem ev_cls {X : ev_E} (hG : ev_Good X) {s : State} (hW : X.1.WarmedH s.vm) {ci : Nat} {r : vw_C} (hc : vwCl[ci]? = some r) : u_Kn s r.1 r.2.1 r.2.2 (X.2.2.1.1 ci) (X.2.2.1.2 ci) := u_Kn_moved hW.alike (hG.2.1.1 ci r hc)
def ev_cw (r : vw_C) : Prop := ∀ w ∈ u_ws r.1 r.2.1 r.2.2, w ∈ lw_tbl ∧ ev_gd w = true
theorem ev_lays {X : ev_E} (hG : ev_Good X) {s : State} (hW : X.1.WarmedH s.vm) {r : vw_C} (hr : ev_cw r) (args : Array Value) : ∀ w ∈ u_ws r.1 r.2.1 r.2.2, w.before args s = true := fun w hw => ev_word hG hW (hr w hw).1 (hr w hw).2 args
/-- the heap behind a write -/
theorem ev_atW_kept {X : ev_E} {a : Nat} {c : ev_C} {H H1 : Heap} (h : ev_atW X a c H) (e : H1[a]? = H[a]?) : ev_atW X a c H1 := by
  rcases c with x | x
  · exact ⟨h.1, e.trans h.2⟩
  · obtain ⟨r, h0, h1⟩ := h
    exact ⟨r, h0, h1.kept e⟩
theorem ev_R_up {X : ev_E} {h : ev_M} {n a : Nat} {c c0 : ev_C} {H H1 : Heap} (hR : ev_R X h n H) (h0 : h a = some c0) (hz : H1.size = H.size) (ho : ∀ q : Nat, q ≠ a → H1[q]? = H[q]?) (hc : ev_atW X a c H1) : ev_R X (ev_up h a c) n H1 := by
  refine ⟨hz.trans hR.1, hR.2.1, fun b d hd => ?_⟩
  unfold ev_up at hd
  split at hd
  · rename_i e
    subst e
    cases hd
    exact ⟨(hR.2.2 b c0 h0).1, hc⟩
  · rename_i e
    exact ⟨(hR.2.2 b d hd).1, ev_atW_kept (hR.2.2 b d hd).2 (ho b e)⟩
theorem ev_R_new {X : ev_E} {h : ev_M} {n : Nat} {c : ev_C} {H H1 : Heap} (hR : ev_R X h n H) (hz : H1.size = n + 1) (ho : ∀ q : Nat, q < n → H1[q]? = H[q]?) (hc : ev_atW X n c H1) : ev_R X (ev_up h n c) (n + 1) H1 := by
  refine ⟨hz, Nat.le_succ_of_le hR.2.1, fun b d hd => ?_⟩
  unfold ev_up at hd
  split at hd
  · rename_i e
    subst e
    cases hd
    exact ⟨hR.2.1, hc⟩
  · have h1 := hR.2.2 b d hd
    have h2 := ev_atR_lt (ev_atW_R h1.2)
    rw [hR.1] at h2
    exact ⟨h1.1, ev_atW_kept h1.2 (ho b h2)⟩
theorem ev_S_new {A : Nat → Prop} {H0 H H1 : Heap} {locs : List Loc} {n : Nat} (hS : va_S A H0 H locs) (hn : H.size = n) (hz : H1.size = n + 1) (ho : ∀ q : Nat, q < n → H1[q]? = H[q]?) : va_S A H0 H1 locs :=
  ⟨by have := hS.1; omega, fun q h1 h2 => by rw [ho q (by have := hS.1; omega)]; exact hS.2.1 q h1 h2, hS.2.2⟩
section EVI
variable {X : ev_E} {l : Launch} {ms : Nat → ev_I} {x : ev_I} {tx : ev_X} {pc : Nat}

def i_psh (v : Value) (p : Nat) : ev_S → ev_N := fun S => some (.inl (p, S.1, v :: S.2.1, S.2.2))
theorem s_iconst {n : Int} {v : Int32} (d : decode x.2.1 pc = .ok (.iconst n, 1)) (hv : Int32.ofInt n = v) : ev_Snd X l ms x tx pc (i_psh (.int v) (pc + 1)) := by
  intro S y h
  cases h
  exact ev_SG_same fun p e R s m args below meth c Q H locs cells slots ls hx hb hL k => lv_iconst hx hb d hv (k ls hL)
theorem s_bipush {n : Int} {v : Int32} (d : decode x.2.1 pc = .ok (.bipush n, 2)) (hv : (Int8.ofInt n).toInt32 = v) : ev_Snd X l ms x tx pc (i_psh (.int v) (pc + 2)) := by
  intro S y h
  cases h
  exact ev_SG_same fun p e R s m args below meth c Q H locs cells slots ls hx hb hL k => lv_bipush hx hb d hv (k ls hL)
theorem s_sipush {n : Int} {v : Int32} (d : decode x.2.1 pc = .ok (.sipush n, 3)) (hv : (Int16.ofInt n).toInt32 = v) : ev_Snd X l ms x tx pc (i_psh (.int v) (pc + 3)) := by
  intro S y h
  cases h
  exact ev_SG_same fun p e R s m args below meth c Q H locs cells slots ls hx hb hL k => lv_sipush hx hb d hv (k ls hL)
theorem s_lconst {n : Fin 2} {v : Int64} (d : decode x.2.1 pc = .ok (.lconst n, 1)) (hv : Int64.ofNat (n : Nat) = v) : ev_Snd X l ms x tx pc (i_psh (.long v) (pc + 1)) := by
  intro S y h
  cases h
  exact ev_SG_same fun p e R s m args below meth c Q H locs cells slots ls hx hb hL k => lv_lconst hx hb d hv (k ls hL)
theorem s_null (d : decode x.2.1 pc = .ok (.aconst_null, 1)) : ev_Snd X l ms x tx pc (i_psh .null (pc + 1)) := by
  intro S y h
  cases h
  exact ev_SG_same fun p e R s m args below meth c Q H locs cells slots ls hx hb hL k => lv_null hx hb d (k ls hL)
def i_il (k p : Nat) : ev_S → ev_N := fun S => match S.1[k]? with
  | some (.int v) => some (.inl (p, S.1, .int v :: S.2.1, S.2.2))
  | _ => none
theorem s_iload_n {f : Fin 4} {k : Nat} (d : decode x.2.1 pc = .ok (.iload_n f, 1)) (hi : (f : Nat) = k) : ev_Snd X l ms x tx pc (i_il k (pc + 1)) := by
  intro S y h
  unfold i_il at h
  split at h
  · rename_i v hv
    cases h
    exact ev_SG_same fun p e R s m args below meth c Q H locs cells slots ls hx hb hL k => lv_iload_n hx hb d hi (hL.get hv rfl) (k ls hL)
  · cases h
theorem s_iload {k : Nat} (d : decode x.2.1 pc = .ok (.iload k, 2)) : ev_Snd X l ms x tx pc (i_il k (pc + 2)) := by
  intro S y h
  unfold i_il at h
  split at h
  · rename_i v hv
    cases h
    exact ev_SG_same fun p e R s m args below meth c Q H locs cells slots ls hx hb hL k => lv_iload hx hb d (hL.get hv rfl) (k ls hL)
  · cases h
def i_ll (k p : Nat) : ev_S → ev_N := fun S => match S.1[k]? with
  | some (.long v) => some (.inl (p, S.1, .long v :: S.2.1, S.2.2))
  | _ => none
theorem s_lload_n {f : Fin 4} {k : Nat} (d : decode x.2.1 pc = .ok (.lload_n f, 1)) (hi : (f : Nat) = k) : ev_Snd X l ms x tx pc (i_ll k (pc + 1)) := by
  intro S y h
  unfold i_ll at h
  split at h
  · rename_i v hv
    cases h
    exact ev_SG_same fun p e R s m args below meth c Q H locs cells slots ls hx hb hL k => lv_lload_n hx hb d hi (hL.get hv rfl) (k ls hL)
  · cases h
theorem s_lload {k : Nat} (d : decode x.2.1 pc = .ok (.lload k, 2)) : ev_Snd X l ms x tx pc (i_ll k (pc + 2)) := by
  intro S y h
  unfold i_ll at h
  split at h
  · rename_i v hv
    cases h
    exact ev_SG_same fun p e R s m args below meth c Q H locs cells slots ls hx hb hL k => lv_lload hx hb d (hL.get hv rfl) (k ls hL)
  · cases h
def i_al (k p : Nat) : ev_S → ev_N := fun S => match S.1[k]? with
  | some (.ref v) => some (.inl (p, S.1, .ref v :: S.2.1, S.2.2))
  | _ => none
theorem s_aload_n {f : Fin 4} {k : Nat} (d : decode x.2.1 pc = .ok (.aload_n f, 1)) (hi : (f : Nat) = k) : ev_Snd X l ms x tx pc (i_al k (pc + 1)) := by
  intro S y h
  unfold i_al at h
  split at h
  · rename_i v hv
    cases h
    exact ev_SG_same fun p e R s m args below meth c Q H locs cells slots ls hx hb hL k => lv_aload_n hx hb d hi (hL.get hv rfl) (k ls hL)
  · cases h
theorem s_aload {k : Nat} (d : decode x.2.1 pc = .ok (.aload k, 2)) : ev_Snd X l ms x tx pc (i_al k (pc + 2)) := by
  intro S y h
  unfold i_al at h
  split at h
  · rename_i v hv
    cases h
    exact ev_SG_same fun p e R s m args below meth c Q H locs cells slots ls hx hb hL k => lv_aload hx hb d (hL.get hv rfl) (k ls hL)
  · cases h
def i_is (k p : Nat) : ev_S → ev_N := fun S => match S.2.1 with
  | .int v :: st => some (.inl (p, ev_st S.1 k (.int v), st, S.2.2))
  | _ => none
theorem s_istore_n {f : Fin 4} {k : Nat} (d : decode x.2.1 pc = .ok (.istore_n f, 1)) (hi : (f : Nat) = k) (hn : k < x.2.2.1) : ev_Snd X l ms x tx pc (i_is k (pc + 1)) := by
  intro S y h
  obtain ⟨lo, st, K⟩ := S
  unfold i_is at h
  dsimp only at h
  split at h
  · rename_i v st
    cases h
    exact ev_SG_same fun p e R s m args below meth c Q H locs cells slots ls hx hb hL k => lv_istore_n hx hb d hi (ev_al_has hL) hn rfl (fun ls' h' => k ls' (ev_L_st hL hn (Or.inr rfl) h'))
  · cases h
theorem s_istore {k : Nat} (d : decode x.2.1 pc = .ok (.istore k, 2)) (hn : k < x.2.2.1) : ev_Snd X l ms x tx pc (i_is k (pc + 2)) := by
  intro S y h
  obtain ⟨lo, st, K⟩ := S
  unfold i_is at h
  dsimp only at h
  split at h
  · rename_i v st
    cases h
    exact ev_SG_same fun p e R s m args below meth c Q H locs cells slots ls hx hb hL k => lv_istore hx hb d (ev_al_has hL) hn rfl (fun ls' h' => k ls' (ev_L_st hL hn (Or.inr rfl) h'))
  · cases h
def i_as (k p : Nat) : ev_S → ev_N := fun S => match S.2.1 with
  | .ref v :: st => some (.inl (p, ev_st S.1 k (.ref v), st, S.2.2))
  | _ => none
theorem s_astore_n {f : Fin 4} {k : Nat} (d : decode x.2.1 pc = .ok (.astore_n f, 1)) (hi : (f : Nat) = k) (hn : k < x.2.2.1) : ev_Snd X l ms x tx pc (i_as k (pc + 1)) := by
  intro S y h
  obtain ⟨lo, st, K⟩ := S
  unfold i_as at h
  dsimp only at h
  split at h
  · rename_i v st
    cases h
    exact ev_SG_same fun p e R s m args below meth c Q H locs cells slots ls hx hb hL k => lv_astore_n hx hb d hi (ev_al_has hL) hn rfl (fun ls' h' => k ls' (ev_L_st hL hn (Or.inr rfl) h'))
  · cases h
theorem s_astore {k : Nat} (d : decode x.2.1 pc = .ok (.astore k, 2)) (hn : k < x.2.2.1) : ev_Snd X l ms x tx pc (i_as k (pc + 2)) := by
  intro S y h
  obtain ⟨lo, st, K⟩ := S
  unfold i_as at h
  dsimp only at h
  split at h
  · rename_i v st
    cases h
    exact ev_SG_same fun p e R s m args below meth c Q H locs cells slots ls hx hb hL k => lv_astore hx hb d (ev_al_has hL) hn rfl (fun ls' h' => k ls' (ev_L_st hL hn (Or.inr rfl) h'))
  · cases h
def i_ls (k p : Nat) : ev_S → ev_N := fun S => match S.2.1 with
  | .long v :: st => some (.inl (p, (ev_st S.1 k (.long v)).set (k + 1) ev_J, st, S.2.2))
  | _ => none
theorem s_lstore_n {f : Fin 4} {k : Nat} (d : decode x.2.1 pc = .ok (.lstore_n f, 1)) (hi : (f : Nat) = k) (hn : k + 1 < x.2.2.1) : ev_Snd X l ms x tx pc (i_ls k (pc + 1)) := by
  intro S y h
  obtain ⟨lo, st, K⟩ := S
  unfold i_ls at h
  dsimp only at h
  split at h
  · rename_i v st
    cases h
    exact ev_SG_same fun p e R s m args below meth c Q H locs cells slots ls hx hb hL k => lv_lstore_n hx hb d hi (ev_al_has hL) hn rfl (fun ls' h' => k ls' (ev_L_st2 hL hn h'))
  · cases h
theorem s_lstore {k : Nat} (d : decode x.2.1 pc = .ok (.lstore k, 2)) (hn : k + 1 < x.2.2.1) : ev_Snd X l ms x tx pc (i_ls k (pc + 2)) := by
  intro S y h
  obtain ⟨lo, st, K⟩ := S
  unfold i_ls at h
  dsimp only at h
  split at h
  · rename_i v st
    cases h
    exact ev_SG_same fun p e R s m args below meth c Q H locs cells slots ls hx hb hL k => lv_lstore hx hb d (ev_al_has hL) hn rfl (fun ls' h' => k ls' (ev_L_st2 hL hn h'))
  · cases h
def i_inc (k : Nat) (n : Int32) (p : Nat) : ev_S → ev_N := fun S => match S.1[k]? with
  | some (.int v) => some (.inl (p, ev_st S.1 k (.int (v + n)), S.2.1, S.2.2))
  | _ => none
theorem s_iinc {k : Nat} {n : Int} {n' : Int32} (d : decode x.2.1 pc = .ok (.iinc k n, 3)) (hn' : Int32.ofInt n = n') (hn : k < x.2.2.1) : ev_Snd X l ms x tx pc (i_inc k n' (pc + 3)) := by
  intro S y h
  obtain ⟨lo, st, K⟩ := S
  unfold i_inc at h
  dsimp only at h
  split at h
  · rename_i v hv
    cases h
    refine ev_SG_same fun p e R s m args below meth c Q H locs cells slots ls hx hb hL kk => ?_
    obtain ⟨j, hj⟩ := List.getElem?_of_mem (ev_al_mem hv rfl)
    exact lv_iinc (v := v + n') hx hb d (ev_al_has hL) hj (by rw [hn']) hn rfl (fun ls' h' => kk ls' (ev_L_st hL hn (Or.inr rfl) h'))
  · cases h
def i_goto (p : Nat) : ev_S → ev_N := fun S => some (.inl (p, S))
theorem s_goto {off : Int} {tgt : Nat} (d : decode x.2.1 pc = .ok (.goto off, 3)) (ht : (pc : Int) + off = (tgt : Int)) : ev_Snd X l ms x tx pc (i_goto tgt) := by
  intro S y h
  cases h
  exact ev_SG_same fun p e R s m args below meth c Q H locs cells slots ls hx hb hL k => lv_goto hx hb d ht (k ls hL)
def i_ii (f : Int32 → Int32 → Int32) (p : Nat) : ev_S → ev_N := fun S => match S.2.1 with
  | .int b :: .int a :: st => some (.inl (p, S.1, .int (f a b) :: st, S.2.2))
  | _ => none
noncomputable def i_iid (f : Int32 → Int32 → Int32) (p : Nat) : ev_S → ev_N := fun S => match S.2.1 with
  | .int b :: .int a :: st => ev_if (¬ b = 0) (some (.inl (p, S.1, .int (f a b) :: st, S.2.2)))
  | _ => none
def i_i1 (f : Int32 → Int32) (p : Nat) : ev_S → ev_N := fun S => match S.2.1 with
  | .int a :: st => some (.inl (p, S.1, .int (f a) :: st, S.2.2))
  | _ => none
def i_l2 (f : Int64 → Int64 → Int64) (p : Nat) : ev_S → ev_N := fun S => match S.2.1 with
  | .long b :: .long a :: st => some (.inl (p, S.1, .long (f a b) :: st, S.2.2))
  | _ => none
def i_i2l (p : Nat) : ev_S → ev_N := fun S => match S.2.1 with
  | .int a :: st => some (.inl (p, S.1, .long a.toInt64 :: st, S.2.2))
  | _ => none
theorem s_iadd (d : decode x.2.1 pc = .ok (.iadd, 1)) : ev_Snd X l ms x tx pc (i_ii (fun a b => a + b) (pc + 1)) := by
  intro S y h
  obtain ⟨lo, st, K⟩ := S
  unfold i_ii at h
  dsimp only at h
  split at h
  · cases h
    exact ev_SG_same fun p e R s m args below meth c Q H locs cells slots ls hx hb hL k => lv_iadd hx hb d (k ls hL)
  · cases h
theorem s_isub (d : decode x.2.1 pc = .ok (.isub, 1)) : ev_Snd X l ms x tx pc (i_ii (fun a b => a - b) (pc + 1)) := by
  intro S y h
  obtain ⟨lo, st, K⟩ := S
  unfold i_ii at h
  dsimp only at h
  split at h
  · cases h
    exact ev_SG_same fun p e R s m args below meth c Q H locs cells slots ls hx hb hL k => lv_isub hx hb d (k ls hL)
  · cases h
theorem s_imul (d : decode x.2.1 pc = .ok (.imul, 1)) : ev_Snd X l ms x tx pc (i_ii (fun a b => a * b) (pc + 1)) := by
  intro S y h
  obtain ⟨lo, st, K⟩ := S
  unfold i_ii at h
  dsimp only at h
  split at h
  · cases h
    exact ev_SG_same fun p e R s m args below meth c Q H locs cells slots ls hx hb hL k => lv_imul hx hb d (k ls hL)
  · cases h
theorem s_iand (d : decode x.2.1 pc = .ok (.iand, 1)) : ev_Snd X l ms x tx pc (i_ii (fun a b => a &&& b) (pc + 1)) := by
  intro S y h
  obtain ⟨lo, st, K⟩ := S
  unfold i_ii at h
  dsimp only at h
  split at h
  · cases h
    exact ev_SG_same fun p e R s m args below meth c Q H locs cells slots ls hx hb hL k => lv_iand hx hb d (k ls hL)
  · cases h
theorem s_ior (d : decode x.2.1 pc = .ok (.ior, 1)) : ev_Snd X l ms x tx pc (i_ii (fun a b => a ||| b) (pc + 1)) := by
  intro S y h
  obtain ⟨lo, st, K⟩ := S
  unfold i_ii at h
  dsimp only at h
  split at h
  · cases h
    exact ev_SG_same fun p e R s m args below meth c Q H locs cells slots ls hx hb hL k => lv_ior hx hb d (k ls hL)
  · cases h
theorem s_ishl (d : decode x.2.1 pc = .ok (.ishl, 1)) : ev_Snd X l ms x tx pc (i_ii (fun a b => a <<< (b &&& 31)) (pc + 1)) := by
  intro S y h
  obtain ⟨lo, st, K⟩ := S
  unfold i_ii at h
  dsimp only at h
  split at h
  · cases h
    exact ev_SG_same fun p e R s m args below meth c Q H locs cells slots ls hx hb hL k => lv_ishl hx hb d (k ls hL)
  · cases h
theorem s_ishr (d : decode x.2.1 pc = .ok (.ishr, 1)) : ev_Snd X l ms x tx pc (i_ii (fun a b => a >>> (b &&& 31)) (pc + 1)) := by
  intro S y h
  obtain ⟨lo, st, K⟩ := S
  unfold i_ii at h
  dsimp only at h
  split at h
  · cases h
    exact ev_SG_same fun p e R s m args below meth c Q H locs cells slots ls hx hb hL k => lv_ishr hx hb d (k ls hL)
  · cases h
theorem s_iushr (d : decode x.2.1 pc = .ok (.iushr, 1)) : ev_Snd X l ms x tx pc (i_ii (fun a b => (a.toUInt32 >>> (b.toUInt32 &&& Int32.toUInt32 31)).toInt32) (pc + 1)) := by
  intro S y h
  obtain ⟨lo, st, K⟩ := S
  unfold i_ii at h
  dsimp only at h
  split at h
  · cases h
    exact ev_SG_same fun p e R s m args below meth c Q H locs cells slots ls hx hb hL k => lv_iushr hx hb d rfl (k ls hL)
  · cases h
theorem s_idiv (d : decode x.2.1 pc = .ok (.idiv, 1)) : ev_Snd X l ms x tx pc (i_iid (fun a b => a / b) (pc + 1)) := by
  intro S y h
  obtain ⟨lo, st, K⟩ := S
  unfold i_iid at h
  dsimp only at h
  split at h
  · obtain ⟨hne, h⟩ := ev_if_s h
    cases h
    exact ev_SG_same fun p e R s m args below meth c Q H locs cells slots ls hx hb hL k => lv_idiv hx hb d hne (k ls hL)
  · cases h
theorem s_irem (d : decode x.2.1 pc = .ok (.irem, 1)) : ev_Snd X l ms x tx pc (i_iid (fun a b => a - a / b * b) (pc + 1)) := by
  intro S y h
  obtain ⟨lo, st, K⟩ := S
  unfold i_iid at h
  dsimp only at h
  split at h
  · obtain ⟨hne, h⟩ := ev_if_s h
    cases h
    exact ev_SG_same fun p e R s m args below meth c Q H locs cells slots ls hx hb hL k => lv_irem hx hb d hne (k ls hL)
  · cases h
theorem s_ineg (d : decode x.2.1 pc = .ok (.ineg, 1)) : ev_Snd X l ms x tx pc (i_i1 (fun a => -a) (pc + 1)) := by
  intro S y h
  obtain ⟨lo, st, K⟩ := S
  unfold i_i1 at h
  dsimp only at h
  split at h
  · cases h
    exact ev_SG_same fun p e R s m args below meth c Q H locs cells slots ls hx hb hL k => lv_ineg hx hb d (k ls hL)
  · cases h
theorem s_i2b (d : decode x.2.1 pc = .ok (.i2b, 1)) : ev_Snd X l ms x tx pc (i_i1 (fun a => a.toInt8.toInt32) (pc + 1)) := by
  intro S y h
  obtain ⟨lo, st, K⟩ := S
  unfold i_i1 at h
  dsimp only at h
  split at h
  · cases h
    exact ev_SG_same fun p e R s m args below meth c Q H locs cells slots ls hx hb hL k => lv_i2b hx hb d rfl (k ls hL)
  · cases h
theorem s_i2c (d : decode x.2.1 pc = .ok (.i2c, 1)) : ev_Snd X l ms x tx pc (i_i1 (fun a => (a.toUInt32 % 65536).toInt32) (pc + 1)) := by
  intro S y h
  obtain ⟨lo, st, K⟩ := S
  unfold i_i1 at h
  dsimp only at h
  split at h
  · cases h
    exact ev_SG_same fun p e R s m args below meth c Q H locs cells slots ls hx hb hL k => lv_i2c hx hb d rfl (k ls hL)
  · cases h
theorem s_ladd (d : decode x.2.1 pc = .ok (.ladd, 1)) : ev_Snd X l ms x tx pc (i_l2 (fun a b => a + b) (pc + 1)) := by
  intro S y h
  obtain ⟨lo, st, K⟩ := S
  unfold i_l2 at h
  dsimp only at h
  split at h
  · cases h
    exact ev_SG_same fun p e R s m args below meth c Q H locs cells slots ls hx hb hL k => lv_ladd hx hb d (k ls hL)
  · cases h
theorem s_lmul (d : decode x.2.1 pc = .ok (.lmul, 1)) : ev_Snd X l ms x tx pc (i_l2 (fun a b => a * b) (pc + 1)) := by
  intro S y h
  obtain ⟨lo, st, K⟩ := S
  unfold i_l2 at h
  dsimp only at h
  split at h
  · cases h
    exact ev_SG_same fun p e R s m args below meth c Q H locs cells slots ls hx hb hL k => lv_lmul hx hb d (k ls hL)
  · cases h
theorem s_i2l (d : decode x.2.1 pc = .ok (.i2l, 1)) : ev_Snd X l ms x tx pc (i_i2l (pc + 1)) := by
  intro S y h
  obtain ⟨lo, st, K⟩ := S
  unfold i_i2l at h
  dsimp only at h
  split at h
  · cases h
    exact ev_SG_same fun p e R s m args below meth c Q H locs cells slots ls hx hb hL k => lv_i2l hx hb d rfl (k ls hL)
  · cases h
def ev_c1 (v : Value) : Bool := match v with
  | .long _ => false
  | .double _ => false
  | _ => true
theorem ev_c1_cat {v : Value} (h : ev_c1 v = true) : v.category = 1 := by cases v <;> first | rfl | cases h
def i_dup (p : Nat) : ev_S → ev_N := fun S => match S.2.1 with
  | a :: st => bif ev_c1 a then some (.inl (p, S.1, a :: a :: st, S.2.2)) else none
  | _ => none
def i_pop (p : Nat) : ev_S → ev_N := fun S => match S.2.1 with
  | a :: st => bif ev_c1 a then some (.inl (p, S.1, st, S.2.2)) else none
  | _ => none
def i_dx1 (p : Nat) : ev_S → ev_N := fun S => match S.2.1 with
  | a :: b :: st => bif ev_c1 a && ev_c1 b then some (.inl (p, S.1, a :: b :: a :: st, S.2.2)) else none
  | _ => none
def i_dx2 (p : Nat) : ev_S → ev_N := fun S => match S.2.1 with
  | a :: b :: c :: st => bif ev_c1 a && ev_c1 b && ev_c1 c then some (.inl (p, S.1, a :: b :: c :: a :: st, S.2.2)) else none
  | _ => none
def i_d2 (p : Nat) : ev_S → ev_N := fun S => match S.2.1 with
  | a :: b :: st => bif ev_c1 a && ev_c1 b then some (.inl (p, S.1, a :: b :: a :: b :: st, S.2.2)) else none
  | _ => none
def i_pop2l (p : Nat) : ev_S → ev_N := fun S => match S.2.1 with
  | .long _ :: st => some (.inl (p, S.1, st, S.2.2))
  | _ => none
theorem s_dup (d : decode x.2.1 pc = .ok (.dup, 1)) : ev_Snd X l ms x tx pc (i_dup (pc + 1)) := by
  intro S y h
  obtain ⟨lo, st, K⟩ := S
  unfold i_dup at h
  dsimp only at h
  split at h
  · rename_i a st
    cases ha : ev_c1 a <;> rw [ha] at h <;> cases h
    exact ev_SG_same fun p e R s m args below meth c Q H locs cells slots ls hx hb hL k => lv_dup hx hb d (ev_c1_cat ha) (k ls hL)
  · cases h
theorem s_pop (d : decode x.2.1 pc = .ok (.pop, 1)) : ev_Snd X l ms x tx pc (i_pop (pc + 1)) := by
  intro S y h
  obtain ⟨lo, st, K⟩ := S
  unfold i_pop at h
  dsimp only at h
  split at h
  · rename_i a st
    cases ha : ev_c1 a <;> rw [ha] at h <;> cases h
    exact ev_SG_same fun p e R s m args below meth c Q H locs cells slots ls hx hb hL k => lv_pop hx hb d (ev_c1_cat ha) (k ls hL)
  · cases h
theorem s_dup_x1 (d : decode x.2.1 pc = .ok (.dup_x1, 1)) : ev_Snd X l ms x tx pc (i_dx1 (pc + 1)) := by
  intro S y h
  obtain ⟨lo, st, K⟩ := S
  unfold i_dx1 at h
  dsimp only at h
  split at h
  · rename_i a b st
    cases ha : ev_c1 a <;> cases hb : ev_c1 b <;> rw [ha, hb] at h <;> cases h
    exact ev_SG_same fun p e R s m args below meth c Q H locs cells slots ls hx hb' hL k => lv_dup_x1 hx hb' d (ev_c1_cat ha) (ev_c1_cat hb) (k ls hL)
  · cases h
theorem s_dup_x2 (d : decode x.2.1 pc = .ok (.dup_x2, 1)) : ev_Snd X l ms x tx pc (i_dx2 (pc + 1)) := by
  intro S y h
  obtain ⟨lo, st, K⟩ := S
  unfold i_dx2 at h
  dsimp only at h
  split at h
  · rename_i a b c st
    cases ha : ev_c1 a <;> cases hb : ev_c1 b <;> cases hc : ev_c1 c <;> rw [ha, hb, hc] at h <;> cases h
    exact ev_SG_same fun p e R s m args below meth c Q H locs cells slots ls hx hb' hL k => lv_dup_x2 hx hb' d (ev_c1_cat ha) (ev_c1_cat hb) (ev_c1_cat hc) (k ls hL)
  · cases h
theorem s_dup2 (d : decode x.2.1 pc = .ok (.dup2, 1)) : ev_Snd X l ms x tx pc (i_d2 (pc + 1)) := by
  intro S y h
  obtain ⟨lo, st, K⟩ := S
  unfold i_d2 at h
  dsimp only at h
  split at h
  · rename_i a b st
    cases ha : ev_c1 a <;> cases hb : ev_c1 b <;> rw [ha, hb] at h <;> cases h
    exact ev_SG_same fun p e R s m args below meth c Q H locs cells slots ls hx hb' hL k => lv_dup2_11 hx hb' d (ev_c1_cat ha) (ev_c1_cat hb) (k ls hL)
  · cases h
theorem s_pop2 (d : decode x.2.1 pc = .ok (.pop2, 1)) : ev_Snd X l ms x tx pc (i_pop2l (pc + 1)) := by
  intro S y h
  obtain ⟨lo, st, K⟩ := S
  unfold i_pop2l at h
  dsimp only at h
  split at h
  · cases h
    exact ev_SG_same fun p e R s m args below meth c Q H locs cells slots ls hx hb hL k => lv_pop2_2 hx hb d rfl (k ls hL)
  · cases h
def i_ifeq (t f : Nat) : ev_S → ev_N := fun S => match S.2.1 with
  | .int a :: st => some (.inl ((if a = 0 then t else f), S.1, st, S.2.2))
  | _ => none
theorem s_ifeq {off : Int} {tgt : Nat} (d : decode x.2.1 pc = .ok (.ifCond .eq off, 3)) (ht : (pc : Int) + off = (tgt : Int)) : ev_Snd X l ms x tx pc (i_ifeq tgt (pc + 3)) := by
  intro S y h
  obtain ⟨lo, st, K⟩ := S
  unfold i_ifeq at h
  dsimp only at h
  split at h
  · rename_i a st
    cases h
    exact ev_SG_same fun p e R s m args below meth c Q H locs cells slots ls hx hb hL k => lv_if_eq hx hb d ht (fun q => by have k2 := k ls hL; rw [if_pos q] at k2; exact k2) (fun q => by have k2 := k ls hL; rw [if_neg q] at k2; exact k2)
  · cases h
def i_iceq (t f : Nat) : ev_S → ev_N := fun S => match S.2.1 with
  | .int b :: .int a :: st => some (.inl ((if a = b then t else f), S.1, st, S.2.2))
  | _ => none
theorem s_iceq {off : Int} {tgt : Nat} (d : decode x.2.1 pc = .ok (.if_icmp .eq off, 3)) (ht : (pc : Int) + off = (tgt : Int)) : ev_Snd X l ms x tx pc (i_iceq tgt (pc + 3)) := by
  intro S y h
  obtain ⟨lo, st, K⟩ := S
  unfold i_iceq at h
  dsimp only at h
  split at h
  · rename_i b a st
    cases h
    exact ev_SG_same fun p e R s m args below meth c Q H locs cells slots ls hx hb hL k => lv_icmp_eq hx hb d ht (fun q => by have k2 := k ls hL; rw [if_pos q] at k2; exact k2) (fun q => by have k2 := k ls hL; rw [if_neg q] at k2; exact k2)
  · cases h
def i_ifne (t f : Nat) : ev_S → ev_N := fun S => match S.2.1 with
  | .int a :: st => some (.inl ((if ¬ a = 0 then t else f), S.1, st, S.2.2))
  | _ => none
theorem s_ifne {off : Int} {tgt : Nat} (d : decode x.2.1 pc = .ok (.ifCond .ne off, 3)) (ht : (pc : Int) + off = (tgt : Int)) : ev_Snd X l ms x tx pc (i_ifne tgt (pc + 3)) := by
  intro S y h
  obtain ⟨lo, st, K⟩ := S
  unfold i_ifne at h
  dsimp only at h
  split at h
  · rename_i a st
    cases h
    exact ev_SG_same fun p e R s m args below meth c Q H locs cells slots ls hx hb hL k => lv_if_ne hx hb d ht (fun q => by have k2 := k ls hL; rw [if_pos q] at k2; exact k2) (fun q => by have k2 := k ls hL; rw [if_neg (not_not_intro q)] at k2; exact k2)
  · cases h
def i_icne (t f : Nat) : ev_S → ev_N := fun S => match S.2.1 with
  | .int b :: .int a :: st => some (.inl ((if ¬ a = b then t else f), S.1, st, S.2.2))
  | _ => none
theorem s_icne {off : Int} {tgt : Nat} (d : decode x.2.1 pc = .ok (.if_icmp .ne off, 3)) (ht : (pc : Int) + off = (tgt : Int)) : ev_Snd X l ms x tx pc (i_icne tgt (pc + 3)) := by
  intro S y h
  obtain ⟨lo, st, K⟩ := S
  unfold i_icne at h
  dsimp only at h
  split at h
  · rename_i b a st
    cases h
    exact ev_SG_same fun p e R s m args below meth c Q H locs cells slots ls hx hb hL k => lv_icmp_ne hx hb d ht (fun q => by have k2 := k ls hL; rw [if_pos q] at k2; exact k2) (fun q => by have k2 := k ls hL; rw [if_neg (not_not_intro q)] at k2; exact k2)
  · cases h
def i_iflt (t f : Nat) : ev_S → ev_N := fun S => match S.2.1 with
  | .int a :: st => some (.inl ((if a < 0 then t else f), S.1, st, S.2.2))
  | _ => none
theorem s_iflt {off : Int} {tgt : Nat} (d : decode x.2.1 pc = .ok (.ifCond .lt off, 3)) (ht : (pc : Int) + off = (tgt : Int)) : ev_Snd X l ms x tx pc (i_iflt tgt (pc + 3)) := by
  intro S y h
  obtain ⟨lo, st, K⟩ := S
  unfold i_iflt at h
  dsimp only at h
  split at h
  · rename_i a st
    cases h
    exact ev_SG_same fun p e R s m args below meth c Q H locs cells slots ls hx hb hL k => lv_if_lt hx hb d ht (fun q => by have k2 := k ls hL; rw [if_pos q] at k2; exact k2) (fun q => by have k2 := k ls hL; rw [if_neg q] at k2; exact k2)
  · cases h
def i_iclt (t f : Nat) : ev_S → ev_N := fun S => match S.2.1 with
  | .int b :: .int a :: st => some (.inl ((if a < b then t else f), S.1, st, S.2.2))
  | _ => none
theorem s_iclt {off : Int} {tgt : Nat} (d : decode x.2.1 pc = .ok (.if_icmp .lt off, 3)) (ht : (pc : Int) + off = (tgt : Int)) : ev_Snd X l ms x tx pc (i_iclt tgt (pc + 3)) := by
  intro S y h
  obtain ⟨lo, st, K⟩ := S
  unfold i_iclt at h
  dsimp only at h
  split at h
  · rename_i b a st
    cases h
    exact ev_SG_same fun p e R s m args below meth c Q H locs cells slots ls hx hb hL k => lv_icmp_lt hx hb d ht (fun q => by have k2 := k ls hL; rw [if_pos q] at k2; exact k2) (fun q => by have k2 := k ls hL; rw [if_neg q] at k2; exact k2)
  · cases h
def i_ifge (t f : Nat) : ev_S → ev_N := fun S => match S.2.1 with
  | .int a :: st => some (.inl ((if 0 ≤ a then t else f), S.1, st, S.2.2))
  | _ => none
theorem s_ifge {off : Int} {tgt : Nat} (d : decode x.2.1 pc = .ok (.ifCond .ge off, 3)) (ht : (pc : Int) + off = (tgt : Int)) : ev_Snd X l ms x tx pc (i_ifge tgt (pc + 3)) := by
  intro S y h
  obtain ⟨lo, st, K⟩ := S
  unfold i_ifge at h
  dsimp only at h
  split at h
  · rename_i a st
    cases h
    exact ev_SG_same fun p e R s m args below meth c Q H locs cells slots ls hx hb hL k => lv_if_ge hx hb d ht (fun q => by have k2 := k ls hL; rw [if_pos q] at k2; exact k2) (fun q => by have k2 := k ls hL; rw [if_neg q] at k2; exact k2)
  · cases h
def i_icge (t f : Nat) : ev_S → ev_N := fun S => match S.2.1 with
  | .int b :: .int a :: st => some (.inl ((if b ≤ a then t else f), S.1, st, S.2.2))
  | _ => none
theorem s_icge {off : Int} {tgt : Nat} (d : decode x.2.1 pc = .ok (.if_icmp .ge off, 3)) (ht : (pc : Int) + off = (tgt : Int)) : ev_Snd X l ms x tx pc (i_icge tgt (pc + 3)) := by
  intro S y h
  obtain ⟨lo, st, K⟩ := S
  unfold i_icge at h
  dsimp only at h
  split at h
  · rename_i b a st
    cases h
    exact ev_SG_same fun p e R s m args below meth c Q H locs cells slots ls hx hb hL k => lv_icmp_ge hx hb d ht (fun q => by have k2 := k ls hL; rw [if_pos q] at k2; exact k2) (fun q => by have k2 := k ls hL; rw [if_neg q] at k2; exact k2)
  · cases h
def i_ifgt (t f : Nat) : ev_S → ev_N := fun S => match S.2.1 with
  | .int a :: st => some (.inl ((if 0 < a then t else f), S.1, st, S.2.2))
  | _ => none
theorem s_ifgt {off : Int} {tgt : Nat} (d : decode x.2.1 pc = .ok (.ifCond .gt off, 3)) (ht : (pc : Int) + off = (tgt : Int)) : ev_Snd X l ms x tx pc (i_ifgt tgt (pc + 3)) := by
  intro S y h
  obtain ⟨lo, st, K⟩ := S
  unfold i_ifgt at h
  dsimp only at h
  split at h
  · rename_i a st
    cases h
    exact ev_SG_same fun p e R s m args below meth c Q H locs cells slots ls hx hb hL k => lv_if_gt hx hb d ht (fun q => by have k2 := k ls hL; rw [if_pos q] at k2; exact k2) (fun q => by have k2 := k ls hL; rw [if_neg q] at k2; exact k2)
  · cases h
def i_icgt (t f : Nat) : ev_S → ev_N := fun S => match S.2.1 with
  | .int b :: .int a :: st => some (.inl ((if b < a then t else f), S.1, st, S.2.2))
  | _ => none
theorem s_icgt {off : Int} {tgt : Nat} (d : decode x.2.1 pc = .ok (.if_icmp .gt off, 3)) (ht : (pc : Int) + off = (tgt : Int)) : ev_Snd X l ms x tx pc (i_icgt tgt (pc + 3)) := by
  intro S y h
  obtain ⟨lo, st, K⟩ := S
  unfold i_icgt at h
  dsimp only at h
  split at h
  · rename_i b a st
    cases h
    exact ev_SG_same fun p e R s m args below meth c Q H locs cells slots ls hx hb hL k => lv_icmp_gt hx hb d ht (fun q => by have k2 := k ls hL; rw [if_pos q] at k2; exact k2) (fun q => by have k2 := k ls hL; rw [if_neg q] at k2; exact k2)
  · cases h
def i_ifle (t f : Nat) : ev_S → ev_N := fun S => match S.2.1 with
  | .int a :: st => some (.inl ((if a ≤ 0 then t else f), S.1, st, S.2.2))
  | _ => none
theorem s_ifle {off : Int} {tgt : Nat} (d : decode x.2.1 pc = .ok (.ifCond .le off, 3)) (ht : (pc : Int) + off = (tgt : Int)) : ev_Snd X l ms x tx pc (i_ifle tgt (pc + 3)) := by
  intro S y h
  obtain ⟨lo, st, K⟩ := S
  unfold i_ifle at h
  dsimp only at h
  split at h
  · rename_i a st
    cases h
    exact ev_SG_same fun p e R s m args below meth c Q H locs cells slots ls hx hb hL k => lv_if_le hx hb d ht (fun q => by have k2 := k ls hL; rw [if_pos q] at k2; exact k2) (fun q => by have k2 := k ls hL; rw [if_neg q] at k2; exact k2)
  · cases h
def i_icle (t f : Nat) : ev_S → ev_N := fun S => match S.2.1 with
  | .int b :: .int a :: st => some (.inl ((if a ≤ b then t else f), S.1, st, S.2.2))
  | _ => none
theorem s_icle {off : Int} {tgt : Nat} (d : decode x.2.1 pc = .ok (.if_icmp .le off, 3)) (ht : (pc : Int) + off = (tgt : Int)) : ev_Snd X l ms x tx pc (i_icle tgt (pc + 3)) := by
  intro S y h
  obtain ⟨lo, st, K⟩ := S
  unfold i_icle at h
  dsimp only at h
  split at h
  · rename_i b a st
    cases h
    exact ev_SG_same fun p e R s m args below meth c Q H locs cells slots ls hx hb hL k => lv_icmp_le hx hb d ht (fun q => by have k2 := k ls hL; rw [if_pos q] at k2; exact k2) (fun q => by have k2 := k ls hL; rw [if_neg q] at k2; exact k2)
  · cases h
end EVI