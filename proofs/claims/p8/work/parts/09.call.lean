section EVT
variable {p : Program} {l : Launch} {e : Env} {R : Room} {s : State} {m : MethodId} {args : Array Value} {below : List Frame} {meth : Method} {c : Code} {H : Heap} {locs : List Loc} {cells slots : Nat} {Q : State → Prop}
variable {mc ms : Nat} {free : Addr → Prop} {A0 A1 : Nat → Prop} {H0 : Heap} {a : Array Value} {ls : Array Slot} {st0 rest : List Value}
variable {Qc : Array Value → State → Outcome → State → Prop} {XC : String → State → State → Prop}
theorem ev_throwS {cc : ByteArray} {pc : Nat} (hexec : p.tables.exec = Jvm.exec) (hb : c.code = cc) (hl : l.stackTraces = false) {own cls text : String} {names : List String} {ik is ic mc ms sa : Nat} {A : Nat → Prop}
    (hown : s.vm.findClass own = some m.cls) (hcls : Bundle.fit cls = true) (hnames : ∀ n ∈ names, Bundle.fit n = true)
    (hk : (Cond.classLink own ik cls).before args s = true) (hini : (Cond.initialized cls).before args s = true) (hstr : vk_R own is text sa s) (hat : ∀ w ∈ vx_atS own ic cls names, w.before args s = true)
    (hgood : ∀ w ∈ Cond.classLink own ik cls :: Cond.initialized cls :: vx_atS own ic cls names, vx_ot w = true)
    (hU : vx_Zq Bundle.tN "UNASSIGNED_STACK" Bundle.steD A s s.heap) (hN : vx_Zq Bundle.tN "SUPPRESSED_SENTINEL" Bundle.listD A s s.heap) (hS : va_S A s.heap H locs) (hsize : ls.size = c.maxLocals)
    (d0 : decode cc pc = .ok (.new ik, 3)) (d3 : decode cc (pc + 3) = .ok (.dup, 1)) (d4 : decode cc (pc + 4) = .ok (.ldc is, 2)) (d6 : decode cc (pc + 6) = .ok (.invokespecial ic, 3)) (d9 : decode cc (pc + 9) = .ok (.athrow, 1))
    (hout : ∀ x ∈ c.exceptionTable.toList, covers x (pc + 9) = false)
    (hRframes : names.length + 3 < R.frames) (hRlocals : (rest.map fun v => v.category).sum + (13 * (names.length + 1) + 43) ≤ R.locals) (hRcells : cells + 1 ≤ R.cells) (hRslots : slots + 6 ≤ R.slots) (hlocks : meth.locks = false)
    (hx : ∀ t : State, s.vm.Alike t.vm → t.heap.size = H.size + 1 → (∀ q : Nat, q < H.size → t.heap[q]? = H[q]?) → XC cls s t)
    (hf : ∀ z ∈ locs, free z.base) (hc : cells + 1 ≤ mc) (hs : slots + 6 ≤ ms) :
    W p l e R s m args below meth c H locs cells slots (vx_MQ below Qc XC args s mc ms free) (F0 m pc ls rest) := by
  intro T hT X
  have htr : e.platform.stackTraces = false := (show e.platform.stackTraces = l.stackTraces by rw [X.admits.platform]).trans hl
  have Y := vx_rebase X (R' := { frames := R.frames, locals := R.locals, cells := 1, slots := 6 }) (Nat.le_refl _) (Nat.le_refl _) hRcells hRslots
  obtain ⟨s', hA⟩ : ∃ z, z = (T.setVm s.vm).setFrames (.invoking m args :: below) := ⟨_, rfl⟩
  rw [← hA] at Y
  have hvm : s'.vm = s.vm := by rw [hA]; rfl
  have hhp : s'.heap = H := by rw [hA]; exact hT
  have hW0 : s.WarmedH s'.vm := by rw [hvm]; exact State.WarmedH.refl s
  have hat' : ∀ w ∈ vx_atS own ic cls names, w.before args s' = true := fun w hw => vx_ot_at hW0 hvm.symm (hgood w (List.mem_cons_of_mem _ (List.mem_cons_of_mem _ hw))) (hat w hw)
  have hk' : (Cond.classLink own ik cls).before args s' = true := vx_ot_at hW0 hvm.symm (hgood _ List.mem_cons_self) hk
  have hini' : (Cond.initialized cls).before args s' = true := vx_ot_at hW0 hvm.symm (hgood _ (List.mem_cons_of_mem _ List.mem_cons_self)) hini
  have hU' : vx_Zq Bundle.tN "UNASSIGNED_STACK" Bundle.steD A s' s'.heap := by rw [hhp]; exact vx_Zq.moved hW0.alike (hU.kept hS.2.1)
  have hN' : vx_Zq Bundle.tN "SUPPRESSED_SENTINEL" Bundle.listD A s' s'.heap := by rw [hhp]; exact vx_Zq.moved hW0.alike (hN.kept hS.2.1)
  have h : ∀ w ∈ Bundle.ownAtoms own ic cls names, w.before args s' = true := vx_own hat' (vx_isRefq hU'.1) (vx_isRefq hN'.1) hU'.2.word hN'.2.word
  have hown' : s'.vm.findClass own = some m.cls := by rw [hvm]; exact hown
  have hins : (Cond.instantiable cls 6).before args s' = true := h _ (by simp [Bundle.ownAtoms])
  obtain ⟨vm₁, cX, kX, hfX, hkX, -, -, X₁, st1⟩ := Y.newCold hexec (own := own) (C := cls) (index := ik) (n := 6) hown' hk' hins hini'
    (g := F0 m pc ls rest) rfl (by rw [hb]; exact d0) (Nat.le_refl _) (Nat.le_refl _)
  generalize hT1 : (T.setVm vm₁).pushCell { cls := cX, slots := kX.instanceTypes.map defaultValue, vm := .none } = T1 at X₁ st1
  have hcat : (Value.ref T.heap.size).category = 1 := rfl
  have hcellA : T1.heap[T.heap.size]? = some (freshCell cX kX) := by rw [← hT1]; exact State.heap_pushCell_size _ _
  have d3' : decode c.code (pc + 3) = .ok (.dup, 1) := by rw [hb]; exact d3
  have d4' : decode c.code (pc + 4) = .ok (.ldc is, 2) := by rw [hb]; exact d4
  have hstr' : vk_R own is text sa s' := vk_R.warm hW0 hstr
  obtain ⟨U, hsteps, hrun, hend, hW, hsame, ce, hce, hO⟩ := X₁.ctorThrowS hexec htr (own := own) (cls := cls) (names := names) (ic := ic) hown' hcls hnames h (fun x hx => nomatch hx) hfX hkX hcellA (by rw [hhp, hT]; exact Nat.le_refl _) (msg := .ref sa) rfl
    (g := { method := m, pc := pc + 6, locals := ls, stack := .ref sa :: .ref T.heap.size :: .ref T.heap.size :: rest, locked := none }) rfl hsize rfl rfl (rest := rest) rfl
    (by rw [hb]; exact d6) (by rw [hb]; exact d9) hout hRframes (by simp only [List.map_cons, List.sum_cons, hcat]; omega) hlocks
  obtain ⟨f1, f2⟩ := vx_frame hsame
  rw [hhp] at f1 f2
  have hWs : s.WarmedH U.vm := State.WarmedH.trans hW0 hW
  have hcl : s.vm.findClass cls = some ce.cls := by
    have h9 := hO.cls
    rw [hvm] at h9
    exact h9
  have hall : s.sameButNew ({ U with vm := s.vm } : State) locs mc ms := by
    subst hA
    obtain ⟨e1, e2⟩ := hsame
    rw [State.setFrames_setFrames] at e1
    have h2 : (T.setVm s.vm).sameButNew ({ U with vm := s.vm } : State) [] (0 + 1) (0 + 6) := ⟨e1, e2⟩
    have h3 := X.same.trans h2
    rw [List.append_nil] at h3
    exact h3.mono hc hs
  have hz9 : U.heap.size = H.size + 1 := by
    have g1 : T.heap.size < U.heap.size := (Array.getElem?_eq_some_iff.mp hce).1
    have g2 : U.heap.size ≤ s'.heap.size + (0 + 1) := hsame.2.2.1
    rw [hhp] at g2
    rw [hT] at g1
    omega
  refine ⟨U, ?_, .threw T.heap.size, hrun, hend, Or.inr ⟨T.heap.size, rfl, cls, ce, locs, hx U hWs.alike hz9 (fun q hq => f2 q hq (fun z hz => nomatch hz)), hce, hO.vm, hcl, hWs, hall, hf⟩⟩
  refine st1 _ ?_
  show Steps p.tables e below (T1.setTop { method := m, pc := pc + 3, locals := ls, stack := .ref T.heap.size :: rest, locked := none }) _
  jvm_step X₁.here [X₁.here.top, hexec, d3', Value.category]
  exact X₁.ldcString hexec (own := own) (text := text) (index := is) (a := sa) hown' hstr'.1 hstr'.2
    (g := { method := m, pc := pc + 4, locals := ls, stack := .ref T.heap.size :: .ref T.heap.size :: rest, locked := none }) rfl d4' _ hsteps
end EVT

section EVC
variable {X : ev_E} {l : Launch} {ms : Nat → ev_I} {x : ev_I} {tx : ev_X} {pc : Nat}
theorem ev_below {h : ev_M} {n : Nat} {s : State} {H : Heap} {locs : List Loc} (hz : X.1.heap.size ≤ s.heap.size) (hS : va_S (fun a => X.1.heap.size ≤ a) s.heap H locs) : ∀ a : Nat, a < X.1.heap.size → H[a]? = s.heap[a]? := fun a ha => hS.2.1 a (Nat.lt_of_lt_of_le ha hz) (Nat.not_le.mpr ha)
/-! ends -/
noncomputable def i_ir (ty : FieldType) : ev_S → ev_N := fun S => match S.2.1 with
  | [.int v] => ev_if (narrow ty (.int v) = .int v) (some (.inr (.inr (.inl (some (.int v), S.2.2)))))
  | _ => none
theorem ev_post {o : ev_O} {v : Option Value} {K : ev_H} {s t : State} {args : Array Value} {H : Heap} {locs : List Loc} (ho : o = .inl v) (hR : ev_R X K.1 K.2.1 H) (hz : X.1.heap.size ≤ s.heap.size) (hS : va_S (fun a => X.1.heap.size ≤ a) s.heap H locs) (ht : t.heap = H) : ev_QC X o K args s (.returned v) t :=
  ⟨⟨v, ho, rfl⟩, by rw [ht]; exact hR, fun a ha => by rw [ht]; exact ev_below (h := K.1) (n := 0) hz hS a ha⟩
theorem s_ireturn {ty : FieldType} (hr : x.2.2.2.1 = some ty) (d : decode x.2.1 pc = .ok (.ireturn, 1)) : ev_Snd X l ms x tx pc (i_ir ty) := by
  intro S y h
  obtain ⟨lo, st, K⟩ := S
  unfold i_ir at h
  dsimp only at h
  split at h
  · rename_i v
    obtain ⟨hn, h⟩ := ev_if_s h
    cases h
    refine ⟨rfl, fun p e R s m args below meth c n0 q0 hA => ?_⟩
    intro H locs ls hR hL hS
    obtain ⟨hx, hb, hml, hown, hret, hlk, hnm, htab, hW, hbel, hz, hfr, hlo⟩ := hA
    exact vx_ret (W.zret hx hb (hret.trans hr) hn (fun t ht hW => ev_post rfl hR hz hS ht) hS.2.2 d hlk)
  · cases h
def i_lr : ev_S → ev_N := fun S => match S.2.1 with
  | [.long v] => some (.inr (.inr (.inl (some (.long v), S.2.2))))
  | _ => none
theorem s_lreturn (hr : x.2.2.2.1 = some .long) (d : decode x.2.1 pc = .ok (.lreturn, 1)) : ev_Snd X l ms x tx pc i_lr := by
  intro S y h
  obtain ⟨lo, st, K⟩ := S
  unfold i_lr at h
  dsimp only at h
  split at h
  · rename_i v
    cases h
    refine ⟨rfl, fun p e R s m args below meth c n0 q0 hA => ?_⟩
    intro H locs ls hR hL hS
    obtain ⟨hx, hb, hml, hown, hret, hlk, hnm, htab, hW, hbel, hz, hfr, hlo⟩ := hA
    exact vx_ret (W.lret hx hb (hret.trans hr) (fun t ht hW => ev_post rfl hR hz hS ht) hS.2.2 d hlk)
  · cases h
def i_ar : ev_S → ev_N := fun S => match S.2.1 with
  | [.ref v] => some (.inr (.inr (.inl (some (.ref v), S.2.2))))
  | _ => none
theorem s_areturn {rt : FieldType} (hr : x.2.2.2.1 = some rt) (hrt : (∃ n, rt = .object n) ∨ ∃ t, rt = .array t) (d : decode x.2.1 pc = .ok (.areturn, 1)) : ev_Snd X l ms x tx pc i_ar := by
  intro S y h
  obtain ⟨lo, st, K⟩ := S
  unfold i_ar at h
  dsimp only at h
  split at h
  · rename_i v
    cases h
    refine ⟨rfl, fun p e R s m args below meth c n0 q0 hA => ?_⟩
    intro H locs ls hR hL hS
    obtain ⟨hx, hb, hml, hown, hret, hlk, hnm, htab, hW, hbel, hz, hfr, hlo⟩ := hA
    exact vx_ret (W.aret hx hb (hret.trans hr) hrt (Or.inr ⟨v, rfl⟩) (fun t ht hW => ev_post rfl hR hz hS ht) hS.2.2 d hlk)
  · cases h
def i_vr : ev_S → ev_N := fun S => match S.2.1 with
  | [] => some (.inr (.inr (.inl (none, S.2.2))))
  | _ => none
theorem s_return (hr : x.2.2.2.1 = none) (d : decode x.2.1 pc = .ok (.return_, 1)) : ev_Snd X l ms x tx pc i_vr := by
  intro S y h
  obtain ⟨lo, st, K⟩ := S
  unfold i_vr at h
  dsimp only at h
  split at h
  · cases h
    refine ⟨rfl, fun p e R s m args below meth c n0 q0 hA => ?_⟩
    intro H locs ls hR hL hS
    obtain ⟨hx, hb, hml, hown, hret, hlk, hnm, htab, hW, hbel, hz, hfr, hlo⟩ := hA
    exact vx_ret (W.vret hx hb (hret.trans hr) (fun t ht hW => ev_post rfl hR hz hS ht) hS.2.2 d hlk)
  · cases h
/-! new E("text") thrown -/
def i_thr (E : Nat) : ev_S → ev_N := fun S => bif Nat.ble S.2.1.length 4 then some (.inr (.inr (.inr (E, S.2.2)))) else none
theorem ev_sum2 : ∀ st : List Value, (st.map fun v => v.category).sum ≤ 2 * st.length := by
  intro st
  induction st with
  | nil => exact Nat.le_refl _
  | cons v st ih =>
    rw [List.map_cons, List.sum_cons, List.length_cons]
    have := lv_cat v
    omega
theorem s_throw (hG : ev_Good X) (hl : l.stackTraces = false) {E : Nat} {text : String} {names : List String} {ik is ic : Nat} (hcls : Bundle.fit (ev_nm E) = true) (hnames : ∀ n ∈ names, Bundle.fit n = true) (hlen : names.length ≤ 4) (hhh : x.2.2.2.2.1 = [])
    (hw1 : Cond.classLink x.1.cls ik (ev_nm E) ∈ lw_tbl) (hw2 : Cond.initialized (ev_nm E) ∈ lw_tbl) (hw3 : ∀ w ∈ vx_atS x.1.cls ic (ev_nm E) names, w ∈ lw_tbl ∧ ev_gd w = true) (hgood : ∀ w ∈ Cond.classLink x.1.cls ik (ev_nm E) :: Cond.initialized (ev_nm E) :: vx_atS x.1.cls ic (ev_nm E) names, vx_ot w = true)
    (hstr : ∃ sa, vk_R x.1.cls is text sa X.1)
    (d0 : decode x.2.1 pc = .ok (.new ik, 3)) (d3 : decode x.2.1 (pc + 3) = .ok (.dup, 1)) (d4 : decode x.2.1 (pc + 4) = .ok (.ldc is, 2)) (d6 : decode x.2.1 (pc + 6) = .ok (.invokespecial ic, 3)) (d9 : decode x.2.1 (pc + 9) = .ok (.athrow, 1)) : ev_Snd X l ms x tx pc (i_thr E) := by
  intro S y h
  obtain ⟨lo, st, K⟩ := S
  unfold i_thr at h
  dsimp only at h
  cases hst : Nat.ble st.length 4 with
  | false => rw [hst] at h; cases h
  | true =>
    rw [hst] at h
    cases h
    have hst := Nat.le_of_ble_eq_true hst
    refine ⟨rfl, fun p e R s m args below meth c n0 q0 hA h1 h2 h3 h4 => ?_⟩
    intro H locs ls hR hL hS
    dsimp only at h1 h2 h3 h4 hR hL ⊢
    obtain ⟨hx, hb, hml, hown, hret, hlk, hnm, htab, hW, hbel, hz, hfr, hlo⟩ := hA
    obtain ⟨sa, hstr⟩ := hstr
    have hsum := ev_sum2 st
    have hzs := hG.2.2.2.2.2
    refine ev_throwS hx hb hl (A := fun q => X.1.heap.size ≤ q) (ik := ik) (is := is) (ic := ic) (sa := sa) (text := text) (names := names) hown hcls hnames (ev_word hG hW hw1 rfl args) (ev_word hG hW hw2 rfl args) (vk_R.warm hW hstr) (fun w hw => ev_word hG hW (hw3 w hw).1 (hw3 w hw).2 args) hgood
      ((vx_Zq.moved hW.alike (vx_Zq.kept hzs.1 (fun a ha _ => hbel a ha)))) ((vx_Zq.moved hW.alike (vx_Zq.kept hzs.2.1 (fun a ha _ => hbel a ha)))) hS (hL.1.trans hml.symm) d0 d3 d4 d6 d9 (by rw [htab, hhh]; exact fun z hz => by cases hz)
      (by omega) (by omega) (by omega) (by omega) hlk ?_ hS.2.2 (by omega) (by omega)
    intro t hal hsz hold
    refine ⟨⟨E, rfl, rfl⟩, ⟨by rw [hsz, hR.1], Nat.le_succ_of_le hR.2.1, fun a c hc => ?_⟩, fun a ha => ?_⟩
    · have k1 := hR.2.2 a c hc
      exact ⟨k1.1, ev_atW_kept k1.2 (hold a (ev_atR_lt (ev_atW_R k1.2)))⟩
    · have k1 := hS.1
      rw [hold a (by omega)]
      exact ev_below (h := K.1) (n := 0) hz hS a ha
/-! calls -/
theorem ev_ofRun {o : ev_O} {K' : ev_H} {p : Program} {e : Env} {R : Room} {s : State} {m : MethodId} {args a : Array Value} {below : List Frame} {meth : Method} {c : Code} {H : Heap} {locs : List Loc} {cells slots mc mc' : Nat} {Q : State → Prop} {ls : Array Slot} {st0 rest : List Value}
    (hr : vx_Run p l e R s m args below meth c H locs cells slots mc mc' (F0 m pc ls st0) rest (ev_QC X o K' a) (ev_XC X o K') (fun a => X.1.heap.size ≤ a)) (hS : va_S (fun a => X.1.heap.size ≤ a) s.heap H locs)
    (kv : ∀ v, o = .inl v → ∀ (H1 : Heap) (locs1 : List Loc), ev_R X K'.1 K'.2.1 H1 → va_S (fun a => X.1.heap.size ≤ a) s.heap H1 locs1 → W p l e R s m args below meth c H1 locs1 (cells + mc) (slots + mc') Q (F0 m (pc + 3) ls (v.toList ++ rest)))
    (kx : ∀ E, o = .inr E → ∀ (H1 : Heap) (locs1 : List Loc) (q : Addr) (ce : Cell), ev_R X K'.1 K'.2.1 H1 → va_S (fun a => X.1.heap.size ≤ a) s.heap H1 locs1 → H1[q]? = some ce → ce.vm = .none → s.vm.findClass (ev_nm E) = some ce.cls → vx_W p l e R s m args below meth c H1 locs1 (cells + mc) (slots + mc') Q (F0 m pc ls rest) q)
    (hz : X.1.heap.size ≤ s.heap.size) (hH : H.size ≤ K'.2.1) : W p l e R s m args below meth c H locs cells slots Q (F0 m pc ls st0) := by
  intro T hT XX
  have keep : ∀ (st₀ t T' : State) (L : List Loc), st₀.heap = H → T'.heap = t.heap → ev_R X K'.1 K'.2.1 t.heap → (∀ a : Nat, a < X.1.heap.size → t.heap[a]? = st₀.heap[a]?) → (∀ q ∈ L, X.1.heap.size ≤ q.base) → va_S (fun a => X.1.heap.size ≤ a) s.heap T'.heap (locs ++ L) := by
    intro st₀ t T' L h0 e1 hR hk hL
    refine ⟨?_, fun q h1 h2 => ?_, fun q hq => ?_⟩
    · rw [e1, hR.1]
      exact Nat.le_trans hS.1 hH
    · rw [e1, hk q (Nat.not_le.mp h2), h0]
      exact hS.2.1 q h1 h2
    · rcases List.mem_append.mp hq with h | h
      · exact hS.2.2 q h
      · exact hL q h
  rcases hr T hT XX with ⟨v, st₀, t, T', L, h0, X', hL, e1, e2, ⟨⟨v', hv, hv2⟩, hR, hk⟩, st⟩ | ⟨q, st₀, t, T', L, E, ce, h0, X', hL, e1, e2, ⟨⟨k, hv, hv2⟩, hR, hk⟩, hce, hcv, hcl, st⟩
  · cases hv2
    obtain ⟨t2, a1, b1⟩ := kv v hv T'.heap (locs ++ L) (by rw [e1]; exact hR) (keep st₀ t T' L h0 e1 hR hk hL) T' rfl X'
    exact ⟨t2, st t2 a1, b1⟩
  · subst hv2
    obtain ⟨t2, a1, b1⟩ := kx k hv T'.heap (locs ++ L) q ce (by rw [e1]; exact hR) (keep st₀ t T' L h0 e1 hR hk hL) (by rw [e1]; exact hce) hcv hcl T' rfl X'
    exact ⟨t2, st.trans a1, b1⟩
theorem ev_ofRunM {v0 : Option Value} {K' : ev_H} {p : Program} {e : Env} {R : Room} {s : State} {m : MethodId} {args a : Array Value} {below : List Frame} {meth : Method} {c : Code} {H : Heap} {locs : List Loc} {cells slots mc mc' : Nat} {Q : State → Prop} {ls : Array Slot} {st0 rest : List Value}
    (hr : va_Run p l e R s m args below meth c H locs cells slots mc mc' (F0 m pc ls st0) rest (ev_QC X (.inl v0) K' a) (fun a => X.1.heap.size ≤ a)) (hS : va_S (fun a => X.1.heap.size ≤ a) s.heap H locs)
    (kv : ∀ (H1 : Heap) (locs1 : List Loc), ev_R X K'.1 K'.2.1 H1 → va_S (fun a => X.1.heap.size ≤ a) s.heap H1 locs1 → W p l e R s m args below meth c H1 locs1 (cells + mc) (slots + mc') Q (F0 m (pc + 3) ls (v0.toList ++ rest)))
    (hz : X.1.heap.size ≤ s.heap.size) (hH : H.size ≤ K'.2.1) : W p l e R s m args below meth c H locs cells slots Q (F0 m pc ls st0) := by
  refine ev_ofRun (o := .inl v0) (K' := K') (a := a) (mc := mc) (mc' := mc') (rest := rest) (fun T hT XX => Or.inl (hr T hT XX)) hS (fun v hv => ?_) (fun E hE => by cases hE) hz hH
  cases hv
  exact kv
theorem ev_blind {as : List Value} {K : ev_H} : FrameBlind (ev_Pc X as K) := fun _ _ _ _ q => q
theorem ev_pre {as : List Value} {h : ev_M} {n q : Nat} {s : State} {H : Heap} {locs : List Loc} (hW : X.1.WarmedH s.vm) (hbel : ∀ a : Nat, a < X.1.heap.size → s.heap[a]? = X.1.heap[a]?) (hz : X.1.heap.size ≤ s.heap.size) (hR : ev_R X h n H) (hS : va_S (fun a => X.1.heap.size ≤ a) s.heap H locs) :
    ∀ U : State, U.heap = H → s.WarmedH U.vm → ev_Pc X as (h, n, q) as.toArray U := fun U hU hWU => ⟨rfl, by rw [hU]; exact hR, State.WarmedH.trans hW hWU, fun a ha => by rw [hU]; exact (ev_below (h := h) (n := 0) hz hS a ha).trans (hbel a ha)⟩
theorem ev_wd0 {y : ev_I} (h : y.2.2.2.2.1 = []) : ev_wd y = [Cond.code y.1 y.2.1 y.2.2.1 y.2.2.2.1] := by unfold ev_wd; rw [h]
theorem ev_wd1 {y : ev_I} {r : Nat × Nat × Nat × Nat} {hh : List (Nat × Nat × Nat × Nat)} (h : y.2.2.2.2.1 = r :: hh) : ev_wd y = [Cond.codeWith y.1 y.2.1 y.2.2.1 y.2.2.2.1 (r :: hh)] := by unfold ev_wd; rw [h]
theorem ev_MetR {y : ev_I} {as : List Value} {K : ev_H} {v : Option Value} {K' : ev_H} (h : ev_Met X l y as K (.inl v) K') : Met l y.1 (ev_wd y) (ev_rm y (K'.2.1 - K.2.1) (K'.2.2 - K.2.2)) (ev_Pc X as K) (ev_QC X (.inl v) K') (K'.2.1 - K.2.1) (K'.2.2 - K.2.2) (fun a => X.1.heap.size ≤ a) := by
  refine MetFree.mono h (fun _ _ k => k) (fun _ _ _ _ _ k => k) (fun a st o t _ k => ?_)
  rcases k with k | ⟨q, -, E, ce, L, ⟨⟨k, hk, -⟩, -⟩, -⟩
  · exact k
  · cases hk
/-- what a callee must be, for its words -/
def ev_cal (ms : Nat → ev_I) (x : ev_I) (mi n : Nat) : Prop := (ms mi).2.2.2.2.1 = [] ∧ Cond.code (ms mi).1 (ms mi).2.1 (ms mi).2.2.1 (ms mi).2.2.2.1 ∈ lw_tbl ∧ Cond.initialized (ms mi).1.cls ∈ lw_tbl ∧ ((ms mi).1.cls ≠ "java/lang/invoke/MethodHandle" ∧ (ms mi).1.cls ≠ "java/lang/invoke/VarHandle") ∧
  (parseMethodDescriptor (ms mi).1.desc).map (fun d => d.parameters.length) = some n ∧ (ms mi).2.2.2.2.2 + 1 ≤ x.2.2.2.2.2 ∧ (ms mi).2.2.1 ≤ 100
theorem ev_callB (hG : ev_Good X) {mi n idx : Nat} (hc : ev_cal ms x mi n) {p : Program} {R : Room} {s : State} {m : MethodId} {meth : Method} {c : Code} (hA : ev_At X x p R s m meth c) (hl : Cond.methodLink x.1.cls idx (ms mi).1 ∈ lw_tbl) {mc mc' : Nat} {args : Array Value} :
    CallB R s args x.1.cls idx (ms mi).1 (ms mi).2.1 (ms mi).2.2.1 (ms mi).2.2.2.1 (ev_wd (ms mi)) (ev_rm (ms mi) mc mc') mc mc' n := by
  obtain ⟨hhh, hcode, hini, hno, hlen, hht, hmx⟩ := hc
  obtain ⟨hx, hb, hml, hown, hret, hlk, hnm, htab, hW, hbel, hz, hfr, hlo⟩ := hA
  refine ⟨rfl, rfl, ?_, ?_, ?_, by rw [ev_wd0 hhh]; exact List.mem_cons_self, ev_word hG hW hcode rfl args, ev_word hG hW hini rfl args, hno, fun sig h => ?_, ev_word hG hW hl rfl args⟩
  · show 12 + (ms mi).2.2.2.2.2 + 1 ≤ R.frames
    omega
  · show 8 + ((ms mi).2.2.1 + 11) + (200 + 130 * (ms mi).2.2.2.2.2) ≤ R.locals
    omega
  · intro w hw a' U hWU
    rw [ev_wd0 hhh] at hw
    rw [List.mem_singleton.mp hw]
    exact ev_word hG (State.WarmedH.trans hW hWU) hcode rfl a'
  · rw [h] at hlen
    exact (Option.some.inj hlen).symm
def ev_isK (c : Option ev_C) (ci : Nat) : Prop := ∃ fs : List Value, c = some (.inr (ci, fs))
noncomputable def i_cV (X : ev_E) (mi n ci nL p : Nat) : ev_S → ev_N := fun S => match S.2.1.drop n with
  | .ref b :: rest => ev_if (ev_isK (ev_lk X S.2.2.1 b) ci ∧ (S.2.1.take n).length = n ∧ (rest.length ≤ 4 ∨ (rest.map fun v => v.category).sum ≤ 8) ∧ (ev_sl (.ref b :: (S.2.1.take n).reverse)).length ≤ nL) (some (.inr (.inl (mi, .ref b :: (S.2.1.take n).reverse, p, S.1, rest, S.2.2))))
  | _ => none
theorem ev_stk {n : Nat} {st rest : List Value} (h : st.drop n = rest) : st = (st.take n).reverse.reverse ++ rest := by
  rw [List.reverse_reverse, ← h, List.take_append_drop]
theorem ev_recv (hG : ev_Good X) {ci : Nat} {r : vw_C} (hc : vwCl[ci]? = some r) {h : ev_M} {n b : Nat} {s : State} {H : Heap} {locs : List Loc} (hW : X.1.WarmedH s.vm) (hs : ∀ a : Nat, a < X.1.heap.size → s.heap[a]? = X.1.heap[a]?) (hz : X.1.heap.size ≤ s.heap.size) (hR : ev_R X h n H) (hS : va_S (fun a => X.1.heap.size ≤ a) s.heap H locs) (hk : ev_isK (ev_lk X h b) ci) :
    ∃ cellB : Cell, H[b]? = some cellB ∧ cellB.vm.isStatics = false ∧ s.vm.findClass r.1 = some cellB.cls := by
  obtain ⟨fs, he⟩ := hk
  obtain ⟨r', cell, e1, e2, e3, e4, e5, e6⟩ := ev_rd hG hs hz hR hS he
  cases e1.symm.trans hc
  exact ⟨cell, e2, e4, by rw [e3]; exact (ev_cls hG hW hc).2.1⟩
theorem s_invokevirtual (hG : ev_Good X) {mi n ci idx : Nat} {r : vw_C} (hc : vwCl[ci]? = some r) (hcal : ev_cal ms x mi n) (hl : Cond.methodLink x.1.cls idx (ms mi).1 ∈ lw_tbl) (hin : Cond.instanceMethod (ms mi).1 ∈ lw_tbl) (hse : Cond.selects r.1 (ms mi).1 (ms mi).1 ∈ lw_tbl) (d : decode x.2.1 pc = .ok (.invokevirtual idx, 3)) : ev_Snd X l ms x tx pc (i_cV X mi n ci (ms mi).2.2.1 (pc + 3)) := by
  intro S y h
  obtain ⟨lo, st, K, n9, q9⟩ := S
  unfold i_cV at h
  dsimp only at h
  split at h
  · rename_i b rest hd
    obtain ⟨⟨hk, hlen, hrl, hsl⟩, h⟩ := ev_if_s h
    cases h
    refine ⟨rfl, hsl, fun o K' hx hn hq hM p e R s m args below meth c n0 q0 Q hA h1 h2 h3 h4 kv kx => ?_⟩
    intro H locs ls hR hL hS
    dsimp only at hn hq hM h1 h2 kv kx hR hL ⊢
    have hA' := hA
    obtain ⟨hx, hb, hml, hown, hret, hlk, hnm, htab, hW, hbel, hz, hfr, hlo⟩ := hA
    have hsum := ev_sum2 rest
    have hr := vx_runV (e := e) (below := below) (meth := meth) (mc := K'.2.1 - n9) (ms := K'.2.2 - q9) (H := H) (locs := locs) (cells := n9 - n0) (slots := q9 - q0) (Ts := []) (g := F0 m pc ls st) (rest := rest) (b := b) (As := (st.take n).reverse) ⟨hx, hb, hml, hown, fun _ h => by cases h⟩ hM ⟨ev_callB hG hcal hA' hl, ev_word hG hW hin rfl args, ev_word hG hW hse rfl args⟩
      ⟨ev_blind, ev_recv hG hc hW hbel hz hR hS hk, ev_pre hW hbel hz hR hS⟩ rfl (by rw [List.length_reverse]; exact hlen) hL.1 (ev_stk hd) (by show 2 * 0 + _ ≤ 8; omega) d ⟨by omega, by omega⟩
    refine ev_ofRun hr hS (fun v hv H1 locs1 hR1 hS1 => ?_) (fun E hE H1 locs1 q ce hR1 hS1 hq1 hq2 hq3 => ?_) hz (by rw [hR.1]; exact hn)
    · have k3 := kv v hv H1 locs1 ls hR1 hL hS1
      dsimp only at k3
      exact W.cs (by omega) (by omega) k3
    · have k2 := kx E hE H1 locs1 ls rest q ce hR1 hL hS1 hq1 hq2 hq3
      rw [show n9 - n0 + (K'.2.1 - n9) = K'.2.1 - n0 by omega, show q9 - q0 + (K'.2.2 - q9) = K'.2.2 - q0 by omega]
      exact k2
  · cases h
noncomputable def i_cS (mi n nL p : Nat) : ev_S → ev_N := fun S => ev_if ((S.2.1.take n).length = n ∧ (S.2.1.drop n).length ≤ 4 ∧ (ev_sl (S.2.1.take n).reverse).length ≤ nL) (some (.inr (.inl (mi, (S.2.1.take n).reverse, p, S.1, S.2.1.drop n, S.2.2))))
theorem s_invokestatic (hG : ev_Good X) {mi n idx : Nat} (hcal : ev_cal ms x mi n) (hl : Cond.methodLink x.1.cls idx (ms mi).1 ∈ lw_tbl) (hin : Cond.static (ms mi).1 ∈ lw_tbl) (d : decode x.2.1 pc = .ok (.invokestatic idx, 3)) : ev_Snd X l ms x tx pc (i_cS mi n (ms mi).2.2.1 (pc + 3)) := by
  intro S y h
  obtain ⟨lo, st, K, n9, q9⟩ := S
  unfold i_cS at h
  dsimp only at h
  obtain ⟨⟨hlen, hrl, hsl⟩, h⟩ := ev_if_s h
  cases h
  refine ⟨rfl, hsl, fun o K' hx hn hq hM p e R s m args below meth c n0 q0 Q hA h1 h2 h3 h4 kv kx => ?_⟩
  intro H locs ls hR hL hS
  dsimp only at hn hq hM h1 h2 kv kx hR hL ⊢
  have hA' := hA
  obtain ⟨hx, hb, hml, hown, hret, hlk, hnm, htab, hW, hbel, hz, hfr, hlo⟩ := hA
  have hsum := ev_sum2 (st.drop n)
  have hr := vx_runS (e := e) (below := below) (meth := meth) (mc := K'.2.1 - n9) (ms := K'.2.2 - q9) (H := H) (locs := locs) (cells := n9 - n0) (slots := q9 - q0) (Ts := []) (g := F0 m pc ls st) (rest := st.drop n) (As := (st.take n).reverse) ⟨hx, hb, hml, hown, fun _ h => by cases h⟩ hM ⟨ev_callB hG hcal hA' hl, ev_word hG hW hin rfl args⟩
    ⟨ev_blind, ev_pre hW hbel hz hR hS⟩ rfl (by rw [List.length_reverse]; exact hlen) hL.1 (ev_stk rfl) (by show 2 * 0 + _ ≤ 8; omega) d ⟨by omega, by omega⟩
  refine ev_ofRun hr hS (fun v hv H1 locs1 hR1 hS1 => ?_) (fun E hE H1 locs1 q ce hR1 hS1 hq1 hq2 hq3 => ?_) hz (by rw [hR.1]; exact hn)
  · have k3 := kv v hv H1 locs1 ls hR1 hL hS1
    dsimp only at k3
    exact W.cs (by omega) (by omega) k3
  · have k2 := kx E hE H1 locs1 ls (st.drop n) q ce hR1 hL hS1 hq1 hq2 hq3
    rw [show n9 - n0 + (K'.2.1 - n9) = K'.2.1 - n0 by omega, show q9 - q0 + (K'.2.2 - q9) = K'.2.2 - q0 by omega]
    exact k2
/-- .. an <init>, of an object that has just been made -/
noncomputable def i_cI (mi n nL p : Nat) : ev_S → ev_N := fun S => match S.2.1.drop n with
  | .ref b :: rest => ev_if ((S.2.1.take n).length = n ∧ (rest.length ≤ 4 ∨ (rest.map fun v => v.category).sum ≤ 8) ∧ (ev_sl (.ref b :: (S.2.1.take n).reverse)).length ≤ nL) (some (.inr (.inl (mi, .ref b :: (S.2.1.take n).reverse, p, S.1, rest, S.2.2))))
  | _ => none
theorem s_invokeinit (hG : ev_Good X) {mi n idx : Nat} (hcal : ev_cal ms x mi n) (hret : (ms mi).2.2.2.1 = none) (hl : Cond.methodLink x.1.cls idx (ms mi).1 ∈ lw_tbl) (hin : Cond.instanceMethod (ms mi).1 ∈ lw_tbl) (hnm : (ms mi).1.name = "<init>") (htx : ∀ E, tx pc E = none) (d : decode x.2.1 pc = .ok (.invokespecial idx, 3)) : ev_Snd X l ms x tx pc (i_cI mi n (ms mi).2.2.1 (pc + 3)) := by
  intro S y h
  obtain ⟨lo, st, K, n9, q9⟩ := S
  unfold i_cI at h
  dsimp only at h
  split at h
  · rename_i b rest hd
    obtain ⟨⟨hlen, hrl, hsl⟩, h⟩ := ev_if_s h
    cases h
    refine ⟨rfl, hsl, fun o K' hx hn hq hM p e R s m args below meth c n0 q0 Q hA h1 h2 h3 h4 kv kx => ?_⟩
    rcases o with v | E
    · intro H locs ls hR hL hS
      dsimp only at hn hq hM h1 h2 kv kx hR hL ⊢
      have hA' := hA
      obtain ⟨hx, hb, hml, hown, hret', hlk, hnm', htab, hW, hbel, hz, hfr, hlo⟩ := hA
      have hsum := ev_sum2 rest
      have hB := ev_callB hG hcal hA' hl (mc := K'.2.1 - n9) (mc' := K'.2.2 - q9) (args := args)
      rw [hret] at hB
      have hr := va_runI (e := e) (below := below) (meth := meth) (mc := K'.2.1 - n9) (ms := K'.2.2 - q9) (H := H) (locs := locs) (cells := n9 - n0) (slots := q9 - q0) (Ts := []) (g := F0 m pc ls st) (rest := rest) (b := b) (As := (st.take n).reverse) ⟨hx, hb, hml, hown, fun _ h => by cases h⟩ (ev_MetR hM) ⟨hB, hnm, ev_word hG hW hin rfl args⟩
        ⟨ev_blind, ev_pre hW hbel hz hR hS⟩ rfl (by rw [List.length_reverse]; exact hlen) hL.1 (ev_stk hd) (by show 2 * 0 + _ ≤ 8; omega) d ⟨by omega, by omega⟩
      refine ev_ofRunM hr hS (fun H1 locs1 hR1 hS1 => ?_) hz (by rw [hR.1]; exact hn)
      have k3 := kv v rfl H1 locs1 ls hR1 hL hS1
      dsimp only at k3
      exact W.cs (by omega) (by omega) k3
    · exact absurd (htx E) (hx E rfl)
  · cases h
end EVC
