section EVT2
variable {p : Program} {l : Launch} {e : Env} {R : Room} {s : State} {m : MethodId} {args : Array Value} {below : List Frame} {meth : Method} {c : Code} {H : Heap} {locs : List Loc} {cells slots : Nat} {Q : State → Prop}
variable {mc ms : Nat} {free : Addr → Prop} {A0 A1 : Nat → Prop} {H0 : Heap} {a : Array Value} {ls : Array Slot} {st0 rest : List Value}
variable {Qc : Array Value → State → Outcome → State → Prop} {XC : String → State → State → Prop}
theorem ev_throwSW {cc : ByteArray} {pc : Nat} (hexec : p.tables.exec = Jvm.exec) (hb : c.code = cc) (hl : l.stackTraces = false) {own cls text : String} {names : List String} {ik is ic mc ms sa : Nat} {A : Nat → Prop}
    (hown : s.vm.findClass own = some m.cls) (hcls : Bundle.fit cls = true) (hnames : ∀ n ∈ names, Bundle.fit n = true)
    (hk : (Cond.classLink own ik cls).before args s = true) (hini : (Cond.initialized cls).before args s = true) (hstr : vk_R own is text sa s) (hat : ∀ w ∈ vx_atS own ic cls names, w.before args s = true)
    (hgood : ∀ w ∈ Cond.classLink own ik cls :: Cond.initialized cls :: vx_atS own ic cls names, vx_ot w = true)
    (hU : vx_Zq Bundle.tN "UNASSIGNED_STACK" Bundle.steD A s s.heap) (hN : vx_Zq Bundle.tN "SUPPRESSED_SENTINEL" Bundle.listD A s s.heap) (hS : va_S A s.heap H locs) (hsize : ls.size = c.maxLocals)
    (d0 : decode cc pc = .ok (.new ik, 3)) (d3 : decode cc (pc + 3) = .ok (.dup, 1)) (d4 : decode cc (pc + 4) = .ok (.ldc_w is, 3)) (d7 : decode cc (pc + 7) = .ok (.invokespecial ic, 3)) (d10 : decode cc (pc + 10) = .ok (.athrow, 1))
    (hout : ∀ x ∈ c.exceptionTable.toList, covers x (pc + 10) = false)
    (hRframes : names.length + 3 < R.frames) (hRlocals : (rest.map fun v => v.category).sum + (13 * (names.length + 1) + 43) ≤ R.locals) (hRcells : cells + 1 ≤ R.cells) (hRslots : slots + 6 ≤ R.slots) (hlocks : meth.locks = false)
    (hx : ∀ t : State, s.vm.Alike t.vm → t.heap.size = H.size + 1 → (∀ q : Nat, q < H.size → t.heap[q]? = H[q]?) → XC cls s t)
    (hf : ∀ z ∈ locs, free z.base) (hc : cells + 1 ≤ mc) (hs : slots + 6 ≤ ms) :
    W p l e R s m args below meth c H locs cells slots (vx_MQ below Qc XC args s mc ms free) (F0 m pc ls rest) := by
  intro T hT X
  have htr : e.platform.stackTraces = false := (show e.platform.stackTraces = l.stackTraces by rw [X.admits.platform]).trans hl
  have Y := vx_rebase X (R' := { frames := R.frames, locals := R.locals, cells := 1, slots := 6 }) (Nat.le_refl _) (Nat.le_refl _) hRcells hRslots
  obtain ⟨s', hA⟩ : ∃ z, z = (T.setVm s.vm).setFrames (.invoking m args :: below) := ⟨_, rfl⟩
  rw [← hA] at Y
  have hvm : s'.vm = s.vm := by rw [hA]; rfl
  have hhp : s'.heap = H := by rw [hA]; exact hT
  have hW0 : s.WarmedH s'.vm := by rw [hvm]; exact State.WarmedH.refl s
  have hat' : ∀ w ∈ vx_atS own ic cls names, w.before args s' = true := fun w hw => vx_ot_at hW0 hvm.symm (hgood w (List.mem_cons_of_mem _ (List.mem_cons_of_mem _ hw))) (hat w hw)
  have hk' : (Cond.classLink own ik cls).before args s' = true := vx_ot_at hW0 hvm.symm (hgood _ List.mem_cons_self) hk
  have hini' : (Cond.initialized cls).before args s' = true := vx_ot_at hW0 hvm.symm (hgood _ (List.mem_cons_of_mem _ List.mem_cons_self)) hini
  have hU' : vx_Zq Bundle.tN "UNASSIGNED_STACK" Bundle.steD A s' s'.heap := by rw [hhp]; exact vx_Zq.moved hW0.alike (hU.kept hS.2.1)
  have hN' : vx_Zq Bundle.tN "SUPPRESSED_SENTINEL" Bundle.listD A s' s'.heap := by rw [hhp]; exact vx_Zq.moved hW0.alike (hN.kept hS.2.1)
  have h : ∀ w ∈ Bundle.ownAtoms own ic cls names, w.before args s' = true := vx_own hat' (vx_isRefq hU'.1) (vx_isRefq hN'.1) hU'.2.word hN'.2.word
  have hown' : s'.vm.findClass own = some m.cls := by rw [hvm]; exact hown
  have hins : (Cond.instantiable cls 6).before args s' = true := h _ (by simp [Bundle.ownAtoms])
  obtain ⟨vm₁, cX, kX, hfX, hkX, -, -, X₁, st1⟩ := Y.newCold hexec (own := own) (C := cls) (index := ik) (n := 6) hown' hk' hins hini'
    (g := F0 m pc ls rest) rfl (by rw [hb]; exact d0) (Nat.le_refl _) (Nat.le_refl _)
  generalize hT1 : (T.setVm vm₁).pushCell { cls := cX, slots := kX.instanceTypes.map defaultValue, vm := .none } = T1 at X₁ st1
  have hcat : (Value.ref T.heap.size).category = 1 := rfl
  have hcellA : T1.heap[T.heap.size]? = some (freshCell cX kX) := by rw [← hT1]; exact State.heap_pushCell_size _ _
  have d3' : decode c.code (pc + 3) = .ok (.dup, 1) := by rw [hb]; exact d3
  have d4' : decode c.code (pc + 4) = .ok (.ldc_w is, 3) := by rw [hb]; exact d4
  have hstr' : vk_R own is text sa s' := vk_R.warm hW0 hstr
  obtain ⟨U, hsteps, hrun, hend, hW, hsame, ce, hce, hO⟩ := X₁.ctorThrowS hexec htr (own := own) (cls := cls) (names := names) (ic := ic) hown' hcls hnames h (fun x hx => nomatch hx) hfX hkX hcellA (by rw [hhp, hT]; exact Nat.le_refl _) (msg := .ref sa) rfl
    (g := { method := m, pc := pc + 7, locals := ls, stack := .ref sa :: .ref T.heap.size :: .ref T.heap.size :: rest, locked := none }) rfl hsize rfl rfl (rest := rest) rfl
    (by rw [hb]; exact d7) (by rw [hb]; exact d10) hout hRframes (by simp only [List.map_cons, List.sum_cons, hcat]; omega) hlocks
  obtain ⟨f1, f2⟩ := vx_frame hsame
  rw [hhp] at f1 f2
  have hWs : s.WarmedH U.vm := State.WarmedH.trans hW0 hW
  have hcl : s.vm.findClass cls = some ce.cls := by
    have h9 := hO.cls
    rw [hvm] at h9
    exact h9
  have hall : s.sameButNew ({ U with vm := s.vm } : State) locs mc ms := by
    subst hA
    obtain ⟨e1, e2⟩ := hsame
    rw [State.setFrames_setFrames] at e1
    have h2 : (T.setVm s.vm).sameButNew ({ U with vm := s.vm } : State) [] (0 + 1) (0 + 6) := ⟨e1, e2⟩
    have h3 := X.same.trans h2
    rw [List.append_nil] at h3
    exact h3.mono hc hs
  have hz9 : U.heap.size = H.size + 1 := by
    have g1 : T.heap.size < U.heap.size := (Array.getElem?_eq_some_iff.mp hce).1
    have g2 : U.heap.size ≤ s'.heap.size + (0 + 1) := hsame.2.2.1
    rw [hhp] at g2
    rw [hT] at g1
    omega
  refine ⟨U, ?_, .threw T.heap.size, hrun, hend, Or.inr ⟨T.heap.size, rfl, cls, ce, locs, hx U hWs.alike hz9 (fun q hq => f2 q hq (fun z hz => nomatch hz)), hce, hO.vm, hcl, hWs, hall, hf⟩⟩
  refine st1 _ ?_
  show Steps p.tables e below (T1.setTop { method := m, pc := pc + 3, locals := ls, stack := .ref T.heap.size :: rest, locked := none }) _
  jvm_step X₁.here [X₁.here.top, hexec, d3', Value.category]
  exact X₁.ldcStringW hexec (own := own) (text := text) (index := is) (a := sa) hown' hstr'.1 hstr'.2
    (g := { method := m, pc := pc + 4, locals := ls, stack := .ref T.heap.size :: .ref T.heap.size :: rest, locked := none }) rfl d4' _ hsteps
end EVT2

section EVD
variable {X : ev_E} {l : Launch} {ms : Nat → ev_I} {x : ev_I} {tx : ev_X} {pc : Nat}
theorem s_throwW (hG : ev_Good X) (hl : l.stackTraces = false) {E : Nat} {text : String} {names : List String} {ik is ic : Nat} (hcls : Bundle.fit (ev_nm E) = true) (hnames : ∀ n ∈ names, Bundle.fit n = true) (hlen : names.length ≤ 4) (hhh : x.2.2.2.2.1 = [])
    (hw1 : Cond.classLink x.1.cls ik (ev_nm E) ∈ lw_tbl) (hw2 : Cond.initialized (ev_nm E) ∈ lw_tbl) (hw3 : ∀ w ∈ vx_atS x.1.cls ic (ev_nm E) names, w ∈ lw_tbl ∧ ev_gd w = true) (hgood : ∀ w ∈ Cond.classLink x.1.cls ik (ev_nm E) :: Cond.initialized (ev_nm E) :: vx_atS x.1.cls ic (ev_nm E) names, vx_ot w = true)
    (hstr : ∃ sa, vk_R x.1.cls is text sa X.1)
    (d0 : decode x.2.1 pc = .ok (.new ik, 3)) (d3 : decode x.2.1 (pc + 3) = .ok (.dup, 1)) (d4 : decode x.2.1 (pc + 4) = .ok (.ldc_w is, 3)) (d6 : decode x.2.1 (pc + 7) = .ok (.invokespecial ic, 3)) (d9 : decode x.2.1 (pc + 10) = .ok (.athrow, 1)) : ev_Snd X l ms x tx pc (i_thr E) := by
  intro S y h
  obtain ⟨lo, st, K⟩ := S
  unfold i_thr at h
  dsimp only at h
  cases hst : Nat.ble st.length 4 with
  | false => rw [hst] at h; cases h
  | true =>
    rw [hst] at h
    cases h
    have hst := Nat.le_of_ble_eq_true hst
    refine ⟨rfl, fun p e R s m args below meth c n0 q0 hA h1 h2 h3 h4 => ?_⟩
    intro H locs ls hR hL hS
    dsimp only at h1 h2 h3 h4 hR hL ⊢
    obtain ⟨hx, hb, hml, hown, hret, hlk, hnm, htab, hW, hbel, hz, hfr, hlo⟩ := hA
    obtain ⟨sa, hstr⟩ := hstr
    have hsum := ev_sum2 st
    have hzs := hG.2.2.2.2.2
    refine ev_throwSW hx hb hl (A := fun q => X.1.heap.size ≤ q) (ik := ik) (is := is) (ic := ic) (sa := sa) (text := text) (names := names) hown hcls hnames (ev_word hG hW hw1 rfl args) (ev_word hG hW hw2 rfl args) (vk_R.warm hW hstr) (fun w hw => ev_word hG hW (hw3 w hw).1 (hw3 w hw).2 args) hgood
      ((vx_Zq.moved hW.alike (vx_Zq.kept hzs.1 (fun a ha _ => hbel a ha)))) ((vx_Zq.moved hW.alike (vx_Zq.kept hzs.2.1 (fun a ha _ => hbel a ha)))) hS (hL.1.trans hml.symm) d0 d3 d4 d6 d9 (by rw [htab, hhh]; exact fun z hz => by cases hz)
      (by omega) (by omega) (by omega) (by omega) hlk ?_ hS.2.2 (by omega) (by omega)
    intro t hal hsz hold
    refine ⟨⟨E, rfl, rfl⟩, ⟨by rw [hsz, hR.1], Nat.le_succ_of_le hR.2.1, fun a c hc => ?_⟩, fun a ha => ?_⟩
    · have k1 := hR.2.2 a c hc
      exact ⟨k1.1, ev_atW_kept k1.2 (hold a (ev_atR_lt (ev_atW_R k1.2)))⟩
    · have k1 := hS.1
      rw [hold a (by omega)]
      exact ev_below (h := K.1) (n := 0) hz hS a ha

/-! a constructor of Object -/
def i_oi (p : Nat) : ev_S → ev_N := fun S => match S.2.1 with
  | .ref a :: st => bif Nat.ble st.length 4 then some (.inl (p, S.1, st, S.2.2)) else none
  | _ => none
theorem s_objinit (hG : ev_Good X) {idx : Nat} (hw : Cond.methodLink x.1.cls idx Lib.objectInit ∈ lw_tbl) (hw2 : Cond.instanceMethod Lib.objectInit ∈ lw_tbl) (hw3 : Cond.code Lib.objectInit ⟨#[0xb1]⟩ 1 none ∈ lw_tbl) (d : decode x.2.1 pc = .ok (.invokespecial idx, 3)) : ev_Snd X l ms x tx pc (i_oi (pc + 3)) := by
  intro S y h
  obtain ⟨lo, st, K⟩ := S
  unfold i_oi at h
  dsimp only at h
  split at h
  · rename_i a st
    cases hb : Nat.ble st.length 4 <;> rw [hb] at h <;> cases h
    have hst := Nat.le_of_ble_eq_true hb
    have hsum := ev_sum2 st
    refine ⟨Nat.le_refl _, Nat.le_refl _, fun p e R s m args below meth c n0 q0 Q hA h1 h2 h3 h4 kk => ?_⟩
    intro H locs ls hR hL hS
    obtain ⟨hx, hb, hml, hown, hret, hlk, hnm, htab, hW, hbel, hz, hfr, hlo⟩ := hA
    exact W.objInit hx hb hown (ev_word hG hW hw rfl args) (ev_word hG hW hw2 rfl args) (ev_word hG hW hw3 rfl args) rfl (hL.1.trans hml.symm) rfl d (by omega) (by show 2 * 0 + _ + 12 ≤ _; omega) (kk H locs ls hR hL hS)
  · cases h
/-! a private constructor of a nest mate -/
theorem s_invokeinitN (hG : ev_Good X) {mi n idx : Nat} {host : String} (hcal : ev_cal ms x mi n) (hret : (ms mi).2.2.2.1 = none) (hl : Cond.methodLinkNest x.1.cls idx (ms mi).1 host ∈ lw_tbl) (hin : Cond.instanceMethod (ms mi).1 ∈ lw_tbl) (hnm : (ms mi).1.name = "<init>") (htx : ∀ E, tx pc E = none) (d : decode x.2.1 pc = .ok (.invokespecial idx, 3)) : ev_Snd X l ms x tx pc (i_cI mi n (ms mi).2.2.1 (pc + 3)) := by
  intro S y h
  obtain ⟨lo, st, K, n9, q9⟩ := S
  unfold i_cI at h
  dsimp only at h
  split at h
  · rename_i b rest hd
    obtain ⟨⟨hlen, hrl, hsl⟩, h⟩ := ev_if_s h
    cases h
    refine ⟨rfl, hsl, fun o K' hx hn hq hM p e R s m args below meth c n0 q0 Q hA h1 h2 h3 h4 kv kx => ?_⟩
    rcases o with v | E
    · intro H locs ls hR hL hS
      dsimp only at hn hq hM h1 h2 kv kx hR hL ⊢
      obtain ⟨hx, hb, hml, hown, hret', hlk, hnm', htab, hW, hbel, hz, hfr, hlo⟩ := hA
      have hsum := ev_sum2 rest
      obtain ⟨hhh, hcode, hini, hno, hpar, hht, hmx⟩ := hcal
      have hB : va_CN R s args x.1.cls idx (ms mi).1 host (ms mi).2.1 (ms mi).2.2.1 none (ev_wd (ms mi)) (ev_rm (ms mi) (K'.2.1 - n9) (K'.2.2 - q9)) (K'.2.1 - n9) (K'.2.2 - q9) n := by
        refine ⟨⟨rfl, rfl, ?_, ?_, ?_, by rw [ev_wd0 hhh, hret]; exact List.mem_cons_self⟩, by rw [← hret]; exact ev_word hG hW hcode rfl args, ev_word hG hW hini rfl args, hno, fun sig h => ?_, ev_word hG hW hl rfl args⟩
        · show 12 + (ms mi).2.2.2.2.2 + 1 ≤ R.frames
          omega
        · show 8 + ((ms mi).2.2.1 + 11) + (200 + 130 * (ms mi).2.2.2.2.2) ≤ R.locals
          omega
        · intro w hw a' U hWU
          rw [ev_wd0 hhh] at hw
          rw [List.mem_singleton.mp hw]
          exact ev_word hG (State.WarmedH.trans hW hWU) hcode rfl a'
        · rw [h] at hpar
          exact (Option.some.inj hpar).symm
      have hr := va_runIN (e := e) (below := below) (meth := meth) (mc := K'.2.1 - n9) (ms := K'.2.2 - q9) (H := H) (locs := locs) (cells := n9 - n0) (slots := q9 - q0) (Ts := []) (g := F0 m pc ls st) (rest := rest) (b := b) (As := (st.take n).reverse) ⟨hx, hb, hml, hown, fun _ h => by cases h⟩ (ev_MetR hM) ⟨hB, hnm, ev_word hG hW hin rfl args⟩
        ⟨ev_blind, ev_pre hW hbel hz hR hS⟩ rfl (by rw [List.length_reverse]; exact hlen) hL.1 (ev_stk hd) (by show 2 * 0 + _ ≤ 8; omega) d ⟨by omega, by omega⟩
      refine ev_ofRunM hr hS (fun H1 locs1 hR1 hS1 => ?_) hz (by rw [hR.1]; exact hn)
      have k3 := kv v rfl H1 locs1 ls hR1 hL hS1
      dsimp only at k3
      exact W.cs (by omega) (by omega) k3
    · exact absurd (htx E) (hx E rfl)
  · cases h
/-! a static method with handlers of its own; it lets nothing out -/
def ev_calW (ms : Nat → ev_I) (x : ev_I) (mi n : Nat) : Prop := (ms mi).2.2.2.2.1 ≠ [] ∧ Cond.codeWith (ms mi).1 (ms mi).2.1 (ms mi).2.2.1 (ms mi).2.2.2.1 (ms mi).2.2.2.2.1 ∈ lw_tbl ∧ Cond.initialized (ms mi).1.cls ∈ lw_tbl ∧ ((ms mi).1.cls ≠ "java/lang/invoke/MethodHandle" ∧ (ms mi).1.cls ≠ "java/lang/invoke/VarHandle") ∧
  (parseMethodDescriptor (ms mi).1.desc).map (fun d => d.parameters.length) = some n ∧ (ms mi).2.2.2.2.2 + 1 ≤ x.2.2.2.2.2 ∧ (ms mi).2.2.1 ≤ 100
theorem s_invokestaticW (hG : ev_Good X) {mi n idx : Nat} (hcal : ev_calW ms x mi n) (hl : Cond.methodLink x.1.cls idx (ms mi).1 ∈ lw_tbl) (hin : Cond.static (ms mi).1 ∈ lw_tbl) (d : decode x.2.1 pc = .ok (.invokestatic idx, 3)) : ev_Snd X l ms x tx pc (i_cS mi n (ms mi).2.2.1 (pc + 3)) := by
  intro S y h
  obtain ⟨lo, st, K, n9, q9⟩ := S
  unfold i_cS at h
  dsimp only at h
  obtain ⟨⟨hlen, hrl, hsl⟩, h⟩ := ev_if_s h
  cases h
  refine ⟨rfl, hsl, fun o K' hx hn hq hM p e R s m args below meth c n0 q0 Q hA h1 h2 h3 h4 kv kx => ?_⟩
  intro H locs ls hR hL hS
  dsimp only at hn hq hM h1 h2 kv kx hR hL ⊢
  obtain ⟨hx, hb, hml, hown, hret, hlk, hnm, htab, hW, hbel, hz, hfr, hlo⟩ := hA
  have hsum := ev_sum2 (st.drop n)
  obtain ⟨hhh, hcode, hini, hno, hpar, hht, hmx⟩ := hcal
  have hwd : ev_wd (ms mi) = [Cond.codeWith (ms mi).1 (ms mi).2.1 (ms mi).2.2.1 (ms mi).2.2.2.1 (ms mi).2.2.2.2.1] := by
    rcases hq9 : (ms mi).2.2.2.2.1 with _ | ⟨r, hh⟩
    · exact absurd hq9 hhh
    · exact ev_wd1 hq9
  have hB : vx_CSW R s args x.1.cls idx (ms mi).1 (ms mi).2.1 (ms mi).2.2.1 (ms mi).2.2.2.1 (ms mi).2.2.2.2.1 (ev_wd (ms mi)) (ev_rm (ms mi) (K'.2.1 - n9) (K'.2.2 - q9)) (K'.2.1 - n9) (K'.2.2 - q9) n := by
    refine ⟨⟨rfl, rfl, ?_, ?_, ?_, by rw [hwd]; exact List.mem_cons_self⟩, ev_word hG hW hcode rfl args, ev_word hG hW hini rfl args, hno, fun sig h => ?_, ev_word hG hW hl rfl args, ev_word hG hW hin rfl args⟩
    · show 12 + (ms mi).2.2.2.2.2 + 1 ≤ R.frames
      omega
    · show 8 + ((ms mi).2.2.1 + 11) + (200 + 130 * (ms mi).2.2.2.2.2) ≤ R.locals
      omega
    · intro w hw a' U hWU
      rw [hwd] at hw
      rw [List.mem_singleton.mp hw]
      exact ev_word hG (State.WarmedH.trans hW hWU) hcode rfl a'
    · rw [h] at hpar
      exact (Option.some.inj hpar).symm
  have hr := vx_runSX (e := e) (below := below) (meth := meth) (mc := K'.2.1 - n9) (ms := K'.2.2 - q9) (H := H) (locs := locs) (cells := n9 - n0) (slots := q9 - q0) (Ts := []) (g := F0 m pc ls st) (rest := st.drop n) (As := (st.take n).reverse) ⟨hx, hb, hml, hown, fun _ h => by cases h⟩ hM hB
    ⟨ev_blind, ev_pre hW hbel hz hR hS⟩ rfl (by rw [List.length_reverse]; exact hlen) hL.1 (ev_stk rfl) (by show 2 * 0 + _ ≤ 8; omega) d ⟨by omega, by omega⟩
  refine ev_ofRun hr hS (fun v hv H1 locs1 hR1 hS1 => ?_) (fun E hE H1 locs1 q ce hR1 hS1 hq1 hq2 hq3 => ?_) hz (by rw [hR.1]; exact hn)
  · have k3 := kv v hv H1 locs1 ls hR1 hL hS1
    dsimp only at k3
    exact W.cs (by omega) (by omega) k3
  · have k2 := kx E hE H1 locs1 ls (st.drop n) q ce hR1 hL hS1 hq1 hq2 hq3
    rw [show n9 - n0 + (K'.2.1 - n9) = K'.2.1 - n0 by omega, show q9 - q0 + (K'.2.2 - q9) = K'.2.2 - q0 by omega]
    exact k2
/-! what never runs, in the small machine -/
def i_no : ev_S → ev_N := fun _ => none
theorem s_no : ev_Snd X l ms x tx pc i_no := fun _ _ h => by cases h
end EVD
