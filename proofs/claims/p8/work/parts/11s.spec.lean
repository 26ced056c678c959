section EVS
variable {X : ev_E} {l : Launch} {ms : Nat → ev_I} {x : ev_I} {tx : ev_X} {pc : Nat}
theorem s_getstatic (hG : ev_Good X) {C n d ref : String} {idx : Nat} {v : Value} (hZ : va_Z C n d v (fun q => X.1.heap.size ≤ q) X.1 X.1.heap) (hs : ref = C) (hw : Cond.fieldLink x.1.cls idx ref n d ∈ lw_tbl) (hd : decode x.2.1 pc = .ok (.getstatic idx, 3)) : ev_Snd X l ms x tx pc (i_psh v (pc + 3)) := by
  subst hs
  intro S y h
  obtain ⟨lo, st, K⟩ := S
  cases h
  refine ⟨Nat.le_refl _, Nat.le_refl _, fun p e R s m args below meth c n0 q0 Q hA h1 h2 h3 h4 kk => ?_⟩
  intro H locs ls hR hL hS
  obtain ⟨hx, hb, hml, hown, hret, hlk, hnm, htab, hW, hbel, hz, hfr, hlo⟩ := hA
  exact va_gets hx hb (va_Z.moved hW.alike (va_Z.kept hZ (fun a ha _ => hbel a ha))) hS hown (ev_word hG hW hw rfl args) (fun _ h => h) hd (kk H locs ls hR hL hS)
theorem s_ldcS (hG : ev_Good X) {k : Nat} {tx' : String} (hcls : x.1.cls = "LastaskedModel") (hw : Cond.stringRef "LastaskedModel" k tx' ∈ lw_tbl) (hd : decode x.2.1 pc = .ok (.ldc k, 2)) : ev_Snd X l ms x tx pc (i_psh (.ref (X.2.2.2.2.2 (1000 + k))) (pc + 2)) := by
  intro S y h
  obtain ⟨lo, st, K⟩ := S
  cases h
  refine ⟨Nat.le_refl _, Nat.le_refl _, fun p e R s m args below meth c n0 q0 Q hA h1 h2 h3 h4 kk => ?_⟩
  intro H locs ls hR hL hS
  obtain ⟨hx, hb, hml, hown, hret, hlk, hnm, htab, hW, hbel, hz, hfr, hlo⟩ := hA
  rw [hcls] at hown
  exact va_ldcS hx hb hown (vk_R.warm hW (hG.2.2.2.2.2.2.2.2.1 k tx' hw)) hd (kk H locs ls hR hL hS)
theorem ev_Mi_moved {C : String} {mi : Nat} {u U : State} (hvm : u.vm.Alike U.vm) (h : va_Mi C mi u) : va_Mi C mi U := by
  obtain ⟨c, k, h1, h2, h3⟩ := h
  obtain ⟨k', hk', he⟩ := hvm.2.2 _ _ h2
  exact ⟨c, k', by rw [hvm.findClass]; exact h1, hk', by rw [he]; exact h3⟩
theorem s_ldcM (hG : ev_Good X) {k : Nat} (hw : Cond.classLink x.1.cls k "[Ljava/lang/Object;" ∈ lw_tbl) (hd : decode x.2.1 pc = .ok (.ldc k, 2)) : ev_Snd X l ms x tx pc (i_psh (.ref (X.2.2.2.2.2 4)) (pc + 2)) := by
  intro S y h
  obtain ⟨lo, st, K⟩ := S
  cases h
  refine ⟨Nat.le_refl _, Nat.le_refl _, fun p e R s m args below meth c n0 q0 Q hA h1 h2 h3 h4 kk => ?_⟩
  intro H locs ls hR hL hS
  obtain ⟨hx, hb, hml, hown, hret, hlk, hnm, htab, hW, hbel, hz, hfr, hlo⟩ := hA
  exact va_ldcM hx hb hown (ev_word hG hW hw rfl args) (ev_Mi_moved hW.alike hG.2.2.2.2.2.2.2.2.2.2.2.2.2.2.2.1) hd (kk H locs ls hR hL hS)
/-! casts that hold -/
def ev_isAk (c : Option ev_C) (kd : Nat) : Prop := ∃ (n : Nat) (f : Nat → Value), c = some (.inl (kd, n, f))
noncomputable def i_cca (kd p : Nat) : ev_S → ev_N := fun S => match S.2.1 with
  | .ref a :: st => ev_if (ev_isAk (S.2.2.1 a) kd) (some (.inl (p, S.1, .ref a :: st, S.2.2)))
  | _ => none
theorem ev_nmA (hG : ev_Good X) {s : State} (hW : X.1.WarmedH s.vm) {kd : Nat} (hk : kd < 6) {nm : String} (hn : "[" ++ (ev_aT kd).toString = nm) : s.vm.findClass nm = some (X.2.2.2.1 kd) := by
  have hra := (hG.2.2.2.1 kd hk).moved hW.alike
  rw [← hn]
  generalize ev_aT kd = ty at hra ⊢
  cases ty with
  | object C =>
    obtain ⟨kA, comp, g1, g2, g3, g4⟩ := hra
    exact g4
  | _ => exact hra
theorem s_castA (hG : ev_Good X) {kd idx : Nat} {nm : String} (hk : kd < 6) (hn : "[" ++ (ev_aT kd).toString = nm) (hw : Cond.classLink x.1.cls idx nm ∈ lw_tbl) (hd : decode x.2.1 pc = .ok (.checkcast idx, 3)) : ev_Snd X l ms x tx pc (i_cca kd (pc + 3)) := by
  intro S y h
  obtain ⟨lo, st, K, n9, q9⟩ := S
  unfold i_cca at h
  dsimp only at h
  split at h
  · rename_i a st
    obtain ⟨⟨n, f, he⟩, h⟩ := ev_if_s h
    cases h
    refine ⟨Nat.le_refl _, Nat.le_refl _, fun p e R s m args below meth c n0 q0 Q hA h1 h2 h3 h4 kk => ?_⟩
    intro H locs ls hR hL hS
    obtain ⟨hx, hb, hml, hown, hret, hlk, hnm, htab, hW, hbel, hz, hfr, hlo⟩ := hA
    obtain ⟨hbs, hk6, hcell⟩ := hR.2.2 a _ he
    intro T hT XX
    obtain ⟨vm', X', st'⟩ := XX.checkcastYes hx hown (ev_word hG hW hw rfl args) (by rw [hT]; exact hcell) rfl (ev_nmA hG hW hk hn) (va_asg _ _) (g := F0 m pc ls (.ref a :: st)) rfl rfl (by rw [hb]; exact hd)
    obtain ⟨t, a1, b1⟩ := kk H locs ls hR hL hS (T.setVm vm') hT X'
    exact ⟨t, st' t a1, b1⟩
  · cases h
noncomputable def i_cco (X : ev_E) (ci p : Nat) : ev_S → ev_N := fun S => match S.2.1 with
  | .ref a :: st => ev_if (ev_isK (ev_lk X S.2.2.1 a) ci) (some (.inl (p, S.1, .ref a :: st, S.2.2)))
  | _ => none
theorem s_castO (hG : ev_Good X) {ci idx : Nat} {r : vw_C} (hc : vwCl[ci]? = some r) (hw : Cond.classLink x.1.cls idx r.1 ∈ lw_tbl) (hd : decode x.2.1 pc = .ok (.checkcast idx, 3)) : ev_Snd X l ms x tx pc (i_cco X ci (pc + 3)) := by
  intro S y h
  obtain ⟨lo, st, K, n9, q9⟩ := S
  unfold i_cco at h
  dsimp only at h
  split at h
  · rename_i a st
    obtain ⟨hk, h⟩ := ev_if_s h
    cases h
    refine ⟨Nat.le_refl _, Nat.le_refl _, fun p e R s m args below meth c n0 q0 Q hA h1 h2 h3 h4 kk => ?_⟩
    intro H locs ls hR hL hS
    obtain ⟨hx, hb, hml, hown, hret, hlk, hnm, htab, hW, hbel, hz, hfr, hlo⟩ := hA
    exact va_castS hx hb hown (ev_word hG hW hw rfl args) (ev_cls hG hW hc).2 (ev_recv hG hc hW hbel hz hR hS hk) hd (kk H locs ls hR hL hS)
  · cases h
/-! other calls: through an interface, of a superclass's method, of an inherited one; none of them lets a throw out -/
noncomputable def i_cF (X : ev_E) (mi n ci nL p : Nat) : ev_S → ev_N := i_cV X mi n ci nL p
theorem ev_ofRun5 {v0 : Option Value} {K' : ev_H} {p : Program} {e : Env} {R : Room} {s : State} {m : MethodId} {args a : Array Value} {below : List Frame} {meth : Method} {c : Code} {H : Heap} {locs : List Loc} {cells slots mc mc' : Nat} {Q : State → Prop} {ls : Array Slot} {st0 rest : List Value}
    (hr : va_Run5 p l e R s m args below meth c H locs cells slots mc mc' (F0 m pc ls st0) rest (ev_QC X (.inl v0) K' a) (fun a => X.1.heap.size ≤ a)) (hS : va_S (fun a => X.1.heap.size ≤ a) s.heap H locs)
    (kv : ∀ (H1 : Heap) (locs1 : List Loc), ev_R X K'.1 K'.2.1 H1 → va_S (fun a => X.1.heap.size ≤ a) s.heap H1 locs1 → W p l e R s m args below meth c H1 locs1 (cells + mc) (slots + mc') Q (F0 m (pc + 5) ls (v0.toList ++ rest)))
    (hz : X.1.heap.size ≤ s.heap.size) (hH : H.size ≤ K'.2.1) : W p l e R s m args below meth c H locs cells slots Q (F0 m pc ls st0) := by
  intro T hT XX
  obtain ⟨v, st₀, t, T', L, h0, X', hL, e1, e2, ⟨⟨v', hv, hv2⟩, hR, hk⟩, st⟩ := hr T hT XX
  cases hv2
  cases hv
  have hS2 : va_S (fun a => X.1.heap.size ≤ a) s.heap T'.heap (locs ++ L) := by
    refine ⟨?_, fun q h1 h2 => ?_, fun q hq => ?_⟩
    · rw [e1, hR.1]
      exact Nat.le_trans hS.1 hH
    · rw [e1, hk q (Nat.not_le.mp h2), h0]
      exact hS.2.1 q h1 h2
    · rcases List.mem_append.mp hq with h | h
      · exact hS.2.2 q h
      · exact hL q h
  obtain ⟨t2, a1, b1⟩ := kv T'.heap (locs ++ L) (by rw [e1]; exact hR) hS2 T' rfl X'
  exact ⟨t2, st t2 a1, b1⟩

theorem s_super (hG : ev_Good X) {mi n ci idx : Nat} {r : vw_C} (hc : vwCl[ci]? = some r) (hcal : ev_cal ms x mi n) (hl : Cond.methodLink x.1.cls idx (ms mi).1 ∈ lw_tbl) (hsm : Cond.sameMethod (ms mi).1.cls (ms mi).1.cls (ms mi).1.name (ms mi).1.desc ∈ lw_tbl) (hgs : ev_gd (Cond.sameMethod (ms mi).1.cls (ms mi).1.cls (ms mi).1.name (ms mi).1.desc) = true) (hsu : Cond.superclass x.1.cls (ms mi).1.cls ∈ lw_tbl) (hin : Cond.instanceMethod (ms mi).1 ∈ lw_tbl) (hnm : (ms mi).1.name ≠ "<init>") (htx : ∀ E, tx pc E = none) (d : decode x.2.1 pc = .ok (.invokespecial idx, 3)) : ev_Snd X l ms x tx pc (i_cV X mi n ci (ms mi).2.2.1 (pc + 3)) := by
  intro S y h
  obtain ⟨lo, st, K, n9, q9⟩ := S
  unfold i_cV at h
  dsimp only at h
  split at h
  · rename_i b rest hd
    obtain ⟨⟨hk, hlen, hrl, hsl⟩, h⟩ := ev_if_s h
    cases h
    refine ⟨rfl, hsl, fun o K' hx hn hq hM p e R s m args below meth c n0 q0 Q hA h1 h2 h3 h4 kv kx => ?_⟩
    rcases o with v | E
    · intro H locs ls hR hL hS
      dsimp only at hn hq hM h1 h2 kv kx hR hL ⊢
      obtain ⟨hx, hb, hml, hown, hret', hlk, hnm', htab, hW, hbel, hz, hfr, hlo⟩ := hA
      have hsum := ev_sum2 rest
      obtain ⟨hhh, hcode, hini, hno, hpar, hht, hmx⟩ := hcal
      have hroom : (ev_rm (ms mi) (K'.2.1 - n9) (K'.2.2 - q9)).frames + 1 ≤ R.frames := by
        show 12 + (ms mi).2.2.2.2.2 + 1 ≤ R.frames
        omega
      have hloc : 8 + ((ms mi).2.2.1 + 11) + (ev_rm (ms mi) (K'.2.1 - n9) (K'.2.2 - q9)).locals ≤ R.locals := by
        show 8 + ((ms mi).2.2.1 + 11) + (200 + 130 * (ms mi).2.2.2.2.2) ≤ R.locals
        omega
      have hws : ∀ w ∈ ev_wd (ms mi), ∀ (a' : Array Value) (U : State), s.WarmedH U.vm → w.before a' U = true := by
        intro w hw a' U hWU
        rw [ev_wd0 hhh] at hw
        rw [List.mem_singleton.mp hw]
        exact ev_word hG (State.WarmedH.trans hW hWU) hcode rfl a'
      have hmem : Cond.code (ms mi).1 (ms mi).2.1 (ms mi).2.2.1 (ms mi).2.2.2.1 ∈ ev_wd (ms mi) := by rw [ev_wd0 hhh]; exact List.mem_cons_self
      have hps : ∀ sig, parseMethodDescriptor (ms mi).1.desc = some sig → n = sig.parameters.length := fun sig h => by
        rw [h] at hpar
        exact (Option.some.inj hpar).symm
      have hcd : (Cond.code (ms mi).1 (ms mi).2.1 (ms mi).2.2.1 (ms mi).2.2.2.1).before args s = true := ev_word hG hW hcode rfl args
      have hin9 : (Cond.initialized (ms mi).1.cls).before args s = true := ev_word hG hW hini rfl args
      have hB : va_CS R s args x.1.cls idx (ms mi).1 (ms mi).2.1 (ms mi).2.2.1 (ms mi).2.2.2.1 (ev_wd (ms mi)) (ev_rm (ms mi) (K'.2.1 - n9) (K'.2.2 - q9)) (K'.2.1 - n9) (K'.2.2 - q9) n :=
        ⟨⟨rfl, rfl, hroom, hloc, hws, hmem⟩, ev_word hG hW hl rfl args, ev_word hG hW hsm hgs args, ev_word hG hW hsu rfl args, ev_word hG hW hin rfl args, hin9, hcd, hnm, hps⟩
      have hr := va_runSU (e := e) (below := below) (meth := meth) (mc := K'.2.1 - n9) (ms := K'.2.2 - q9) (H := H) (locs := locs) (cells := n9 - n0) (slots := q9 - q0) (Ts := []) (g := F0 m pc ls st) (rest := rest) (b := b) (As := (st.take n).reverse) (ev_cls hG hW hc).2 ⟨hx, hb, hml, hown, fun _ h => by cases h⟩ (ev_MetR hM) hB
        ⟨ev_blind, ev_recv hG hc hW hbel hz hR hS hk, ev_pre hW hbel hz hR hS⟩ rfl (by rw [List.length_reverse]; exact hlen) hL.1 (ev_stk hd) (by show 2 * 0 + _ ≤ 8; omega) d ⟨by omega, by omega⟩
      refine ev_ofRunM hr hS (fun H1 locs1 hR1 hS1 => ?_) hz (by rw [hR.1]; exact hn)
      have k3 := kv v rfl H1 locs1 ls hR1 hL hS1
      dsimp only at k3
      exact W.cs (by omega) (by omega) k3
    · exact absurd (htx E) (hx E rfl)
  · cases h
theorem s_invokeif (hG : ev_Good X) {mi n ci idx count : Nat} {r : vw_C} (hc : vwCl[ci]? = some r) (hcal : ev_cal ms x mi n) {y : MethodName} (hl : Cond.methodLink x.1.cls idx y ∈ lw_tbl) (hdc : Cond.declares y ∈ lw_tbl) (hif : Cond.interfaceMethod y.cls y.cls y.name y.desc ∈ lw_tbl) (hse : Cond.selects r.1 y (ms mi).1 ∈ lw_tbl) (hin : Cond.instanceMethod (ms mi).1 ∈ lw_tbl) (hpu : Cond.publicMethod (ms mi).1 ∈ lw_tbl) (hun : Cond.unhidden r.1 y.name y.desc ∈ lw_tbl) (hca : Cond.castable r.1 y.cls ∈ lw_tbl) (hy : y.cls ≠ "java/lang/invoke/MethodHandle" ∧ y.cls ≠ "java/lang/invoke/VarHandle") (hds : y.desc = (ms mi).1.desc) (htx : ∀ E, tx pc E = none) (d : decode x.2.1 pc = .ok (.invokeinterface idx count, 5)) : ev_Snd X l ms x tx pc (i_cV X mi n ci (ms mi).2.2.1 (pc + 5)) := by
  intro S y h
  obtain ⟨lo, st, K, n9, q9⟩ := S
  unfold i_cV at h
  dsimp only at h
  split at h
  · rename_i b rest hd
    obtain ⟨⟨hk, hlen, hrl, hsl⟩, h⟩ := ev_if_s h
    cases h
    refine ⟨rfl, hsl, fun o K' hx hn hq hM p e R s m args below meth c n0 q0 Q hA h1 h2 h3 h4 kv kx => ?_⟩
    rcases o with v | E
    · intro H locs ls hR hL hS
      dsimp only at hn hq hM h1 h2 kv kx hR hL ⊢
      obtain ⟨hx, hb, hml, hown, hret', hlk, hnm', htab, hW, hbel, hz, hfr, hlo⟩ := hA
      have hsum := ev_sum2 rest
      obtain ⟨hhh, hcode, hini, hno, hpar, hht, hmx⟩ := hcal
      have hroom : (ev_rm (ms mi) (K'.2.1 - n9) (K'.2.2 - q9)).frames + 1 ≤ R.frames := by
        show 12 + (ms mi).2.2.2.2.2 + 1 ≤ R.frames
        omega
      have hloc : 8 + ((ms mi).2.2.1 + 11) + (ev_rm (ms mi) (K'.2.1 - n9) (K'.2.2 - q9)).locals ≤ R.locals := by
        show 8 + ((ms mi).2.2.1 + 11) + (200 + 130 * (ms mi).2.2.2.2.2) ≤ R.locals
        omega
      have hws : ∀ w ∈ ev_wd (ms mi), ∀ (a' : Array Value) (U : State), s.WarmedH U.vm → w.before a' U = true := by
        intro w hw a' U hWU
        rw [ev_wd0 hhh] at hw
        rw [List.mem_singleton.mp hw]
        exact ev_word hG (State.WarmedH.trans hW hWU) hcode rfl a'
      have hmem : Cond.code (ms mi).1 (ms mi).2.1 (ms mi).2.2.1 (ms mi).2.2.2.1 ∈ ev_wd (ms mi) := by rw [ev_wd0 hhh]; exact List.mem_cons_self
      have hps : ∀ sig, parseMethodDescriptor (ms mi).1.desc = some sig → n = sig.parameters.length := fun sig h => by
        rw [h] at hpar
        exact (Option.some.inj hpar).symm
      have hcd : (Cond.code (ms mi).1 (ms mi).2.1 (ms mi).2.2.1 (ms mi).2.2.2.1).before args s = true := ev_word hG hW hcode rfl args
      have hin9 : (Cond.initialized (ms mi).1.cls).before args s = true := ev_word hG hW hini rfl args
      have hF := va_Fw.moved hy hW.alike (va_Fw.of (hG.1 _ hdc) (hG.1 _ hif) (hG.1 _ hpu) (hG.1 _ hun) (hG.1 _ hca))
      have hB : va_CI R s args x.1.cls r.1 idx y (ms mi).1 (ms mi).2.1 (ms mi).2.2.1 (ms mi).2.2.2.1 (ev_wd (ms mi)) (ev_rm (ms mi) (K'.2.1 - n9) (K'.2.2 - q9)) (K'.2.1 - n9) (K'.2.2 - q9) n :=
        ⟨⟨rfl, rfl, hroom, hloc, hws, hmem⟩, ev_word hG hW hl rfl args, va_any rfl hF.1, va_any rfl hF.2.1, ev_word hG hW hse rfl args, ev_word hG hW hin rfl args, va_any rfl hF.2.2.1, va_any rfl hF.2.2.2.1, va_any rfl hF.2.2.2.2, hin9, hcd, hy, by rw [hds]; exact hps⟩
      have hr := va_runF (e := e) (below := below) (meth := meth) (mc := K'.2.1 - n9) (ms := K'.2.2 - q9) (H := H) (locs := locs) (cells := n9 - n0) (slots := q9 - q0) (Ts := []) (g := F0 m pc ls st) (rest := rest) (b := b) (As := (st.take n).reverse) (ev_cls hG hW hc).2 ⟨hx, hb, hml, hown, fun _ h => by cases h⟩ (ev_MetR hM) hB
        ⟨ev_blind, ev_recv hG hc hW hbel hz hR hS hk, ev_pre hW hbel hz hR hS⟩ rfl (by rw [List.length_reverse]; exact hlen) hL.1 (ev_stk hd) (by show 2 * 0 + _ ≤ 8; omega) d ⟨by omega, by omega⟩
      refine ev_ofRun5 hr hS (fun H1 locs1 hR1 hS1 => ?_) hz (by rw [hR.1]; exact hn)
      have k3 := kv v rfl H1 locs1 ls hR1 hL hS1
      dsimp only at k3
      exact W.cs (by omega) (by omega) k3
    · exact absurd (htx E) (hx E rfl)
  · cases h
theorem s_invokeU (hG : ev_Good X) {mi n ci idx : Nat} {r : vw_C} (hc : vwCl[ci]? = some r) (hcal : ev_cal ms x mi n) {y : MethodName} {bts : ByteArray} {mxl : Nat} {rt9 : Option FieldType} (hl : Cond.methodLink x.1.cls idx y ∈ lw_tbl) (hsm : Cond.sameMethod y.cls y.cls y.name y.desc ∈ lw_tbl) (hgs : ev_gd (Cond.sameMethod y.cls y.cls y.name y.desc) = true) (hiy : Cond.instanceMethod y ∈ lw_tbl) (hcy : Cond.code y bts mxl rt9 ∈ lw_tbl) (hse : Cond.selects r.1 y (ms mi).1 ∈ lw_tbl) (hg2 : ev_gd (Cond.selects r.1 y (ms mi).1) = true) (hin : Cond.instanceMethod (ms mi).1 ∈ lw_tbl) (hy : y.cls ≠ "java/lang/invoke/MethodHandle" ∧ y.cls ≠ "java/lang/invoke/VarHandle") (hds : y.desc = (ms mi).1.desc) (htx : ∀ E, tx pc E = none) (d : decode x.2.1 pc = .ok (.invokevirtual idx, 3)) : ev_Snd X l ms x tx pc (i_cV X mi n ci (ms mi).2.2.1 (pc + 3)) := by
  intro S y h
  obtain ⟨lo, st, K, n9, q9⟩ := S
  unfold i_cV at h
  dsimp only at h
  split at h
  · rename_i b rest hd
    obtain ⟨⟨hk, hlen, hrl, hsl⟩, h⟩ := ev_if_s h
    cases h
    refine ⟨rfl, hsl, fun o K' hx hn hq hM p e R s m args below meth c n0 q0 Q hA h1 h2 h3 h4 kv kx => ?_⟩
    rcases o with v | E
    · intro H locs ls hR hL hS
      dsimp only at hn hq hM h1 h2 kv kx hR hL ⊢
      obtain ⟨hx, hb, hml, hown, hret', hlk, hnm', htab, hW, hbel, hz, hfr, hlo⟩ := hA
      have hsum := ev_sum2 rest
      obtain ⟨hhh, hcode, hini, hno, hpar, hht, hmx⟩ := hcal
      have hroom : (ev_rm (ms mi) (K'.2.1 - n9) (K'.2.2 - q9)).frames + 1 ≤ R.frames := by
        show 12 + (ms mi).2.2.2.2.2 + 1 ≤ R.frames
        omega
      have hloc : 8 + ((ms mi).2.2.1 + 11) + (ev_rm (ms mi) (K'.2.1 - n9) (K'.2.2 - q9)).locals ≤ R.locals := by
        show 8 + ((ms mi).2.2.1 + 11) + (200 + 130 * (ms mi).2.2.2.2.2) ≤ R.locals
        omega
      have hws : ∀ w ∈ ev_wd (ms mi), ∀ (a' : Array Value) (U : State), s.WarmedH U.vm → w.before a' U = true := by
        intro w hw a' U hWU
        rw [ev_wd0 hhh] at hw
        rw [List.mem_singleton.mp hw]
        exact ev_word hG (State.WarmedH.trans hW hWU) hcode rfl a'
      have hmem : Cond.code (ms mi).1 (ms mi).2.1 (ms mi).2.2.1 (ms mi).2.2.2.1 ∈ ev_wd (ms mi) := by rw [ev_wd0 hhh]; exact List.mem_cons_self
      have hps : ∀ sig, parseMethodDescriptor (ms mi).1.desc = some sig → n = sig.parameters.length := fun sig h => by
        rw [h] at hpar
        exact (Option.some.inj hpar).symm
      have hcd : (Cond.code (ms mi).1 (ms mi).2.1 (ms mi).2.2.1 (ms mi).2.2.2.1).before args s = true := ev_word hG hW hcode rfl args
      have hin9 : (Cond.initialized (ms mi).1.cls).before args s = true := ev_word hG hW hini rfl args
      have hB : va_CU R s args x.1.cls r.1 y.cls idx y (ms mi).1 (ms mi).2.1 (ms mi).2.2.1 (ms mi).2.2.2.1 (ev_wd (ms mi)) (ev_rm (ms mi) (K'.2.1 - n9) (K'.2.2 - q9)) (K'.2.1 - n9) (K'.2.2 - q9) n :=
        ⟨⟨rfl, rfl, hroom, hloc, hws, hmem⟩, hcd, hin9, hy, by rw [hds]; exact hps, ev_word hG hW hl rfl args, ev_word hG hW hsm hgs args, va_Decl.of (ev_word hG hW hiy rfl args) (ev_word hG hW hcy rfl args), ev_word hG hW hse hg2 args, ev_word hG hW hin rfl args⟩
      have hr := va_runU (e := e) (below := below) (meth := meth) (mc := K'.2.1 - n9) (ms := K'.2.2 - q9) (H := H) (locs := locs) (cells := n9 - n0) (slots := q9 - q0) (Ts := []) (g := F0 m pc ls st) (rest := rest) (b := b) (As := (st.take n).reverse)  ⟨hx, hb, hml, hown, fun _ h => by cases h⟩ (ev_MetR hM) hB
        ⟨ev_blind, ev_recv hG hc hW hbel hz hR hS hk, ev_pre hW hbel hz hR hS⟩ rfl (by rw [List.length_reverse]; exact hlen) hL.1 (ev_stk hd) (by show 2 * 0 + _ ≤ 8; omega) d ⟨by omega, by omega⟩
      refine ev_ofRunM hr hS (fun H1 locs1 hR1 hS1 => ?_) hz (by rw [hR.1]; exact hn)
      have k3 := kv v rfl H1 locs1 ls hR1 hL hS1
      dsimp only at k3
      exact W.cs (by omega) (by omega) k3
    · exact absurd (htx E) (hx E rfl)
  · cases h
end EVS
