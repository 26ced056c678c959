/-! ===== what the small machine's steps mean on the machine itself ===== -/
abbrev ev_E : Type := State × Array Value × va_G × (Nat → ClassId) × ev_M × (Nat → Nat)
abbrev ev_I : Type := MethodName × ByteArray × Nat × Option FieldType × List (Nat × Nat × Nat × Nat) × Nat
def ev_aT : Nat → FieldType := fun k => match k with
  | 0 => .int
  | 1 => .byte
  | 2 => .object "java/lang/Object"
  | 3 => .object "Lastasked$Table"
  | 4 => .object "Lastasked$Keeper"
  | 5 => .object "LastaskedModel$Table"
  | 6 => .int
  | 7 => .byte
  | 8 => .byte
  | 9 => .object "java/lang/Integer"
  | 10 => .object "java/lang/Object"
  | _ => .byte
/-- a cell as it can be read -/
def ev_atR (X : ev_E) (a : Nat) (c : ev_C) (H : Heap) : Prop := match c with
  | .inl x => ∃ cell : Cell, H[a]? = some cell ∧ cell.cls = X.2.2.2.1 x.1 ∧ (∀ j, cell.vm ≠ .statics j) ∧ cell.vm ≠ .unknown ∧ cell.slots.size = x.2.1 ∧ ∀ j : Nat, j < x.2.1 → cell.slots[j]? = some (x.2.2 j)
  | .inr x => ∃ (r : vw_C) (cell : Cell), vwCl[x.1]? = some r ∧ H[a]? = some cell ∧ cell.cls = X.2.2.1.1 x.1 ∧ cell.vm.isStatics = false ∧ cell.vm ≠ .unknown ∧ ∀ j : Nat, j < r.2.2 → cell.slots[X.2.2.1.2 x.1 j]? = some (vp_V x.2 j)
/-- a cell of the small machine's own -/
def ev_atW (X : ev_E) (a : Nat) (c : ev_C) (H : Heap) : Prop := match c with
  | .inl x => x.1 < 6 ∧ H[a]? = some (arrV (X.2.2.2.1 x.1) x.2.1 x.2.2)
  | .inr x => ∃ r : vw_C, vwCl[x.1]? = some r ∧ t_OB a (X.2.2.1.1 x.1) r.2.2 (X.2.2.1.2 x.1) H (vp_V x.2)
def ev_R (X : ev_E) (h : ev_M) (n : Nat) (H : Heap) : Prop := H.size = n ∧ X.1.heap.size ≤ n ∧ ∀ (a : Nat) (c : ev_C), h a = some c → X.1.heap.size ≤ a ∧ ev_atW X a c H
def ev_lk (X : ev_E) (h : ev_M) (a : Nat) : Option ev_C := match h a with
  | some c => some c
  | none => X.2.2.2.2.1 a
def ev_isJ (v : Value) : Bool := match v with
  | .retAddr _ => true
  | _ => false
def ev_L (ls : Array Slot) (nL : Nat) (lo : List Value) : Prop := ls.size = nL ∧ lv_wf ls ∧ lo.length = nL ∧ ∀ (i : Nat) (v : Value), lo[i]? = some v → ev_isJ v = true ∨ ls[i]? = some (.val v)
/-- what holds at the start, of which all the rest is told -/
def ev_nm : Nat → String := fun k => match k with
  | 0 => "java/lang/IndexOutOfBoundsException"
  | 1 => "java/lang/IllegalArgumentException"
  | _ => "java/lang/IllegalStateException"
def ev_Zs (X : ev_E) : Prop :=
  vx_Zq Bundle.tN "UNASSIGNED_STACK" Bundle.steD (fun q => X.1.heap.size ≤ q) X.1 X.1.heap ∧ vx_Zq Bundle.tN "SUPPRESSED_SENTINEL" Bundle.listD (fun q => X.1.heap.size ≤ q) X.1 X.1.heap ∧
  (∀ (own : String) (k : Nat) (tx : String), Cond.stringRef own k tx ∈ lw_tbl → ∃ sa : Nat, vk_R own k tx sa X.1) ∧ (∀ (k : Nat) (tx : String), Cond.stringRef "LastaskedModel" k tx ∈ lw_tbl → vk_R "LastaskedModel" k tx (X.2.2.2.2.2 (1000 + k)) X.1) ∧
  va_Z "java/lang/String" "COMPACT_STRINGS" "Z" (.int 1) (fun q => X.1.heap.size ≤ q) X.1 X.1.heap ∧ va_Z "java/lang/Integer$IntegerCache" "high" "I" (.int 127) (fun q => X.1.heap.size ≤ q) X.1 X.1.heap ∧
  va_Z "java/lang/Integer$IntegerCache" "cache" "[Ljava/lang/Integer;" (.ref (X.2.2.2.2.2 0)) (fun q => X.1.heap.size ≤ q) X.1 X.1.heap ∧ va_Z "java/util/ArrayList" "DEFAULTCAPACITY_EMPTY_ELEMENTDATA" "[Ljava/lang/Object;" (.ref (X.2.2.2.2.2 1)) (fun q => X.1.heap.size ≤ q) X.1 X.1.heap ∧
  va_Z "java/lang/Integer" "DigitOnes" "[B" (.ref (X.2.2.2.2.2 2)) (fun q => X.1.heap.size ≤ q) X.1 X.1.heap ∧ va_Z "java/lang/Integer" "DigitTens" "[B" (.ref (X.2.2.2.2.2 3)) (fun q => X.1.heap.size ≤ q) X.1 X.1.heap ∧
  va_Mi "[Ljava/lang/Object;" (X.2.2.2.2.2 4) X.1 ∧ True ∧ (∀ i j, i < 3 → j < 3 → i ≠ j → va_Nc (ev_nm i) (ev_nm j) X.1) ∧
  ∀ a, X.1.heap.size ≤ a → X.2.2.2.2.1 a = none
def ev_Good (X : ev_E) : Prop :=
  (∀ w ∈ lw_tbl, w.before X.2.1 X.1 = true) ∧ va_K X.2.2.1 vwCl [] X.1 ∧ (∀ k, k < 20 → ArrOfT X.1 (X.2.2.2.1 k) (ev_aT k)) ∧ (∀ k, k < 6 → va_RA X.1 (X.2.2.2.1 k) (ev_aT k)) ∧
  (∀ (a : Nat) (c : ev_C), X.2.2.2.2.1 a = some c → ev_atR X a c X.1.heap) ∧ ev_Zs X
def ev_At (X : ev_E) (x : ev_I) (p : Program) (R : Room) (s : State) (m : MethodId) (meth : Method) (c : Code) : Prop :=
  p.tables.exec = Jvm.exec ∧ c.code = x.2.1 ∧ c.maxLocals = x.2.2.1 ∧ s.vm.findClass x.1.cls = some m.cls ∧ meth.sig.returnType = x.2.2.2.1 ∧ meth.locks = false ∧ meth.name = x.1.name ∧ c.exceptionTable.toList = tableOf x.2.2.2.2.1 ∧
  X.1.WarmedH s.vm ∧ (∀ a : Nat, a < X.1.heap.size → s.heap[a]? = X.1.heap[a]?) ∧ X.1.heap.size ≤ s.heap.size ∧ 12 + x.2.2.2.2.2 ≤ R.frames ∧ 200 + 130 * x.2.2.2.2.2 ≤ R.locals
def ev_V (X : ev_E) (x : ev_I) (p : Program) (l : Launch) (e : Env) (R : Room) (s : State) (m : MethodId) (args : Array Value) (below : List Frame) (meth : Method) (c : Code) (n0 q0 : Nat) (Q : State → Prop) (pc : Nat) (S : ev_S) : Prop :=
  ∀ (H : Heap) (locs : List Loc) (ls : Array Slot), ev_R X S.2.2.1 S.2.2.2.1 H → ev_L ls x.2.2.1 S.1 → va_S (fun a => X.1.heap.size ≤ a) s.heap H locs → W p l e R s m args below meth c H locs (S.2.2.2.1 - n0) (S.2.2.2.2 - q0) Q (F0 m pc ls S.2.1)
/-- going on -/
def ev_SG (X : ev_E) (l : Launch) (x : ev_I) (pc : Nat) (S : ev_S) (pc' : Nat) (S' : ev_S) : Prop :=
  S.2.2.2.1 ≤ S'.2.2.2.1 ∧ S.2.2.2.2 ≤ S'.2.2.2.2 ∧ ∀ (p : Program) (e : Env) (R : Room) (s : State) (m : MethodId) (args : Array Value) (below : List Frame) (meth : Method) (c : Code) (n0 q0 : Nat) (Q : State → Prop),
    ev_At X x p R s m meth c → n0 ≤ S.2.2.2.1 → q0 ≤ S.2.2.2.2 → S'.2.2.2.1 - n0 ≤ R.cells → S'.2.2.2.2 - q0 ≤ R.slots → ev_V X x p l e R s m args below meth c n0 q0 Q pc' S' → ev_V X x p l e R s m args below meth c n0 q0 Q pc S
theorem ev_SG_same {X : ev_E} {l : Launch} {x : ev_I} {pc pc' : Nat} {lo lo' st st' : List Value} {K : ev_H}
    (h : ∀ (p : Program) (e : Env) (R : Room) (s : State) (m : MethodId) (args : Array Value) (below : List Frame) (meth : Method) (c : Code) (Q : State → Prop) (H : Heap) (locs : List Loc) (cells slots : Nat) (ls : Array Slot), p.tables.exec = Jvm.exec → c.code = x.2.1 → ev_L ls x.2.2.1 lo →
      (∀ ls', ev_L ls' x.2.2.1 lo' → W p l e R s m args below meth c H locs cells slots Q (F0 m pc' ls' st')) → W p l e R s m args below meth c H locs cells slots Q (F0 m pc ls st)) : ev_SG X l x pc (lo, st, K) pc' (lo', st', K) := by
  refine ⟨Nat.le_refl _, Nat.le_refl _, fun p e R s m args below meth c n0 q0 Q hA h1 h2 h3 h4 k => ?_⟩
  intro H locs ls hR hL hS
  exact h p e R s m args below meth c Q H locs _ _ ls hA.1 hA.2.1 hL (fun ls' hL' => k H locs ls' hR hL' hS)
theorem ev_L.get {ls : Array Slot} {nL : Nat} {lo : List Value} (h : ev_L ls nL lo) {i : Nat} {v : Value} (hi : lo[i]? = some v) (hJ : ev_isJ v = false) : ls[i]? = some (.val v) := by
  rcases h.2.2.2 i v hi with h1 | h1
  · rw [hJ] at h1; cases h1
  · exact h1
def ev_al (lo : List Value) : List (Nat × Value) := (List.range lo.length).filterMap fun i => match lo[i]? with
  | some v => if ev_isJ v then none else some (i, v)
  | none => none
theorem ev_al_has {ls : Array Slot} {nL : Nat} {lo : List Value} (h : ev_L ls nL lo) : lv_has ls nL (ev_al lo) := by
  refine ⟨h.1, h.2.1, fun q hq => ?_⟩
  obtain ⟨i, -, hi⟩ := List.mem_filterMap.mp hq
  rcases hv : lo[i]? with _ | v
  · rw [hv] at hi; cases hi
  · rw [hv] at hi
    dsimp only at hi
    split at hi
    · cases hi
    · rename_i hJ
      cases hi
      exact h.get hv (by simpa using hJ)
theorem ev_al_mem {lo : List Value} {i : Nat} {v : Value} (hi : lo[i]? = some v) (hJ : ev_isJ v = false) : (i, v) ∈ ev_al lo := by
  refine List.mem_filterMap.mpr ⟨i, List.mem_range.mpr (List.getElem?_eq_some_iff.mp hi).1, ?_⟩
  rw [hi]
  simp [hJ]
theorem ev_st_len {lo : List Value} {k : Nat} {v : Value} : (ev_st lo k v).length = lo.length := by
  unfold ev_st
  cases k <;> simp
theorem ev_set_get {l : List Value} {k : Nat} {v w : Value} (h : (l.set k v)[k]? = some w) : w = v := by
  have h1 := (List.getElem?_eq_some_iff.mp h).1
  rw [List.length_set] at h1
  rw [List.getElem?_set_self h1] at h
  exact (Option.some.inj h).symm
theorem ev_st_get {lo : List Value} {k : Nat} {v w : Value} {i : Nat} (h : (ev_st lo k v)[i]? = some w) : (i = k ∧ w = v) ∨ (¬ i = k ∧ ((i + 1 = k ∧ lo[i]? = some w ∧ ¬ w.category = 2) ∨ (i + 1 = k ∧ w = ev_J) ∨ (¬ i + 1 = k ∧ lo[i]? = some w))) := by
  unfold ev_st at h
  by_cases hk : i = k
  · subst hk
    exact Or.inl ⟨rfl, ev_set_get h⟩
  · right
    refine ⟨hk, ?_⟩
    rw [List.getElem?_set_ne (Ne.symm hk)] at h
    cases k with
    | zero => exact Or.inr (Or.inr ⟨by omega, h⟩)
    | succ j =>
      dsimp only at h
      by_cases hj : i = j
      · subst hj
        have hw := ev_set_get h
        have hlt : i < lo.length := by
          have h1 := (List.getElem?_eq_some_iff.mp h).1
          rwa [List.length_set] at h1
        have hx : lo[i]? = some lo[i] := List.getElem?_eq_getElem hlt
        rw [List.getD_eq_getElem?_getD, hx] at hw
        dsimp only [Option.getD] at hw
        unfold ev_k at hw
        split at hw
        · exact Or.inr (Or.inl ⟨rfl, hw⟩)
        · rename_i hc
          exact Or.inl ⟨rfl, by rw [hw]; exact hx, by rw [hw]; exact hc⟩
      · rw [List.getElem?_set_ne (Ne.symm hj)] at h
        exact Or.inr (Or.inr ⟨by omega, h⟩)
theorem ev_L_st {ls ls' : Array Slot} {nL i : Nat} {lo : List Value} {v v0 : Value} (hL : ev_L ls nL lo) (hi : i < nL) (hv : ev_isJ v0 = true ∨ v0 = v)
    (h : lv_has ls' nL ((i, v) :: (ev_al lo).filter (fun q => !(q.1 == i) && !(q.1 + 1 == i && q.2.category == 2)))) : ev_L ls' nL (ev_st lo i v0) := by
  refine ⟨h.1, h.2.1, ev_st_len.trans hL.2.2.1, fun j w hw => ?_⟩
  rcases ev_st_get hw with ⟨rfl, rfl⟩ | ⟨h1, h2⟩
  · rcases hv with hv | hv
    · exact Or.inl hv
    · subst hv
      exact Or.inr (h.2.2 (j, w) List.mem_cons_self)
  · rcases h2 with ⟨h3, h4, h5⟩ | ⟨h3, h4⟩ | ⟨h3, h4⟩
    · rcases hJ : ev_isJ w with _ | _
      · refine Or.inr (h.2.2 (j, w) (List.mem_cons_of_mem _ (List.mem_filter.mpr ⟨ev_al_mem h4 hJ, ?_⟩)))
        simp [h1, h5]
      · exact Or.inl rfl
    · subst h4
      exact Or.inl rfl
    · rcases hJ : ev_isJ w with _ | _
      · refine Or.inr (h.2.2 (j, w) (List.mem_cons_of_mem _ (List.mem_filter.mpr ⟨ev_al_mem h4 hJ, ?_⟩)))
        simp [h1, h3]
      · exact Or.inl rfl
theorem ev_L_st2 {ls ls' : Array Slot} {nL i : Nat} {lo : List Value} {v : Value} (hL : ev_L ls nL lo) (hi : i + 1 < nL)
    (h : lv_has ls' nL ((i, v) :: (ev_al lo).filter (fun q => !(q.1 == i) && (!(q.1 == i + 1) && !(q.1 + 1 == i && q.2.category == 2))))) : ev_L ls' nL ((ev_st lo i v).set (i + 1) ev_J) := by
  refine ⟨h.1, h.2.1, by rw [List.length_set]; exact ev_st_len.trans hL.2.2.1, fun j w hw => ?_⟩
  by_cases hj : j = i + 1
  · subst hj
    rw [List.getElem?_set_self (by rw [ev_st_len, hL.2.2.1]; exact hi)] at hw
    cases hw
    exact Or.inl rfl
  · rw [List.getElem?_set_ne (Ne.symm hj)] at hw
    rcases ev_st_get hw with ⟨rfl, rfl⟩ | ⟨h1, h2⟩
    · exact Or.inr (h.2.2 (j, w) List.mem_cons_self)
    · rcases h2 with ⟨h3, h4, h5⟩ | ⟨h3, h4⟩ | ⟨h3, h4⟩
      · rcases hJ : ev_isJ w with _ | _
        · refine Or.inr (h.2.2 (j, w) (List.mem_cons_of_mem _ (List.mem_filter.mpr ⟨ev_al_mem h4 hJ, ?_⟩)))
          simp [h1, h5, hj]
        · exact Or.inl rfl
      · subst h4
        exact Or.inl rfl
      · rcases hJ : ev_isJ w with _ | _
        · refine Or.inr (h.2.2 (j, w) (List.mem_cons_of_mem _ (List.mem_filter.mpr ⟨ev_al_mem h4 hJ, ?_⟩)))
          simp [h1, h3, hj]
        · exact Or.inl rfl
