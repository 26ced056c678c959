/-! ===== joined: 04.dec0, 05.run, 06.rel, 07.ins, 08.heap, 09.call, 10.main, 11.more, 11s.spec, 11t.spec, 11u.hand, 11v.walk ===== -/
section
/-! ===== decode rows that are named ===== -/
theorem dX0_init_7 : decode cX0_init 7 = .ok (.newarray .int, 2) := by decide +kernel
theorem dX0_init_15 : decode cX0_init 15 = .ok (.newarray .int, 2) := by decide +kernel
theorem dX0_init_23 : decode cX0_init 23 = .ok (.newarray .int, 2) := by decide +kernel
theorem dX0_init_31 : decode cX0_init 31 = .ok (.newarray .int, 2) := by decide +kernel
theorem dX0_init_39 : decode cX0_init 39 = .ok (.newarray .int, 2) := by decide +kernel
theorem dX2_init_7 : decode cX2_init 7 = .ok (.newarray .int, 2) := by decide +kernel
theorem dX2_init_15 : decode cX2_init 15 = .ok (.newarray .int, 2) := by decide +kernel
theorem dX5_init_48 : decode cX5_init 48 = .ok (.newarray .int, 2) := by decide +kernel
theorem dX5_make_23 : decode cX5_make 23 = .ok (.new 58, 3) := by decide +kernel
theorem dX5_make_26 : decode cX5_make 26 = .ok (.dup, 1) := by decide +kernel
theorem dX5_make_27 : decode cX5_make 27 = .ok (.ldc 60, 2) := by decide +kernel
theorem dX5_make_29 : decode cX5_make 29 = .ok (.invokespecial 62, 3) := by decide +kernel
theorem dX5_make_32 : decode cX5_make 32 = .ok (.athrow, 1) := by decide +kernel
theorem dX5_putIfAbsent_27 : decode cX5_putIfAbsent 27 = .ok (.new 94, 3) := by decide +kernel
theorem dX5_putIfAbsent_30 : decode cX5_putIfAbsent 30 = .ok (.dup, 1) := by decide +kernel
theorem dX5_putIfAbsent_31 : decode cX5_putIfAbsent 31 = .ok (.ldc 96, 2) := by decide +kernel
theorem dX5_putIfAbsent_33 : decode cX5_putIfAbsent 33 = .ok (.invokespecial 98, 3) := by decide +kernel
theorem dX5_putIfAbsent_36 : decode cX5_putIfAbsent 36 = .ok (.athrow, 1) := by decide +kernel
theorem dX5_ofTable_10 : decode cX5_ofTable 10 = .ok (.tableswitch 67 0 4 #[34, 47, 52, 57, 62], 34) := by decide +kernel
theorem dX5_ofTable_77 : decode cX5_ofTable 77 = .ok (.new 58, 3) := by decide +kernel
theorem dX5_ofTable_80 : decode cX5_ofTable 80 = .ok (.dup, 1) := by decide +kernel
theorem dX5_ofTable_81 : decode cX5_ofTable 81 = .ok (.ldc 155, 2) := by decide +kernel
theorem dX5_ofTable_83 : decode cX5_ofTable 83 = .ok (.invokespecial 62, 3) := by decide +kernel
theorem dX5_ofTable_86 : decode cX5_ofTable 86 = .ok (.athrow, 1) := by decide +kernel
theorem dX5_askRow_14 : decode cX5_askRow 14 = .ok (.new 58, 3) := by decide +kernel
theorem dX5_askRow_17 : decode cX5_askRow 17 = .ok (.dup, 1) := by decide +kernel
theorem dX5_askRow_18 : decode cX5_askRow 18 = .ok (.ldc 188, 2) := by decide +kernel
theorem dX5_askRow_20 : decode cX5_askRow 20 = .ok (.invokespecial 62, 3) := by decide +kernel
theorem dX5_askRow_23 : decode cX5_askRow 23 = .ok (.athrow, 1) := by decide +kernel
theorem dX5_askRow_35 : decode cX5_askRow 35 = .ok (.new 58, 3) := by decide +kernel
theorem dX5_askRow_38 : decode cX5_askRow 38 = .ok (.dup, 1) := by decide +kernel
theorem dX5_askRow_39 : decode cX5_askRow 39 = .ok (.ldc 190, 2) := by decide +kernel
theorem dX5_askRow_41 : decode cX5_askRow 41 = .ok (.invokespecial 62, 3) := by decide +kernel
theorem dX5_askRow_44 : decode cX5_askRow 44 = .ok (.athrow, 1) := by decide +kernel
theorem dX5_house_1 : decode cX5_house 1 = .ok (.tableswitch 66 0 4 #[35, 40, 48, 56, 61], 35) := by decide +kernel
theorem dX5_house_67 : decode cX5_house 67 = .ok (.new 58, 3) := by decide +kernel
theorem dX5_house_70 : decode cX5_house 70 = .ok (.dup, 1) := by decide +kernel
theorem dX5_house_71 : decode cX5_house 71 = .ok (.ldc 155, 2) := by decide +kernel
theorem dX5_house_73 : decode cX5_house 73 = .ok (.invokespecial 62, 3) := by decide +kernel
theorem dX5_house_76 : decode cX5_house 76 = .ok (.athrow, 1) := by decide +kernel
theorem dX5_tableOf_9 : decode cX5_tableOf 9 = .ok (.new 302, 3) := by decide +kernel
theorem dX5_tableOf_12 : decode cX5_tableOf 12 = .ok (.dup, 1) := by decide +kernel
theorem dX5_tableOf_13 : decode cX5_tableOf 13 = .ok (.ldc_w 304, 3) := by decide +kernel
theorem dX5_tableOf_16 : decode cX5_tableOf 16 = .ok (.invokespecial 306, 3) := by decide +kernel
theorem dX5_tableOf_19 : decode cX5_tableOf 19 = .ok (.athrow, 1) := by decide +kernel
theorem dX5_demandSize_11 : decode cX5_demandSize 11 = .ok (.new 58, 3) := by decide +kernel
theorem dX5_demandSize_14 : decode cX5_demandSize 14 = .ok (.dup, 1) := by decide +kernel
theorem dX5_demandSize_15 : decode cX5_demandSize 15 = .ok (.ldc_w 307, 3) := by decide +kernel
theorem dX5_demandSize_18 : decode cX5_demandSize 18 = .ok (.invokespecial 62, 3) := by decide +kernel
theorem dX5_demandSize_21 : decode cX5_demandSize 21 = .ok (.athrow, 1) := by decide +kernel
theorem dX5_demandKey_10 : decode cX5_demandKey 10 = .ok (.new 58, 3) := by decide +kernel
theorem dX5_demandKey_13 : decode cX5_demandKey 13 = .ok (.dup, 1) := by decide +kernel
theorem dX5_demandKey_14 : decode cX5_demandKey 14 = .ok (.ldc_w 309, 3) := by decide +kernel
theorem dX5_demandKey_17 : decode cX5_demandKey 17 = .ok (.invokespecial 62, 3) := by decide +kernel
theorem dX5_demandKey_20 : decode cX5_demandKey 20 = .ok (.athrow, 1) := by decide +kernel
theorem dX5_demandValue_10 : decode cX5_demandValue 10 = .ok (.new 58, 3) := by decide +kernel
theorem dX5_demandValue_13 : decode cX5_demandValue 13 = .ok (.dup, 1) := by decide +kernel
theorem dX5_demandValue_14 : decode cX5_demandValue 14 = .ok (.ldc_w 311, 3) := by decide +kernel
theorem dX5_demandValue_17 : decode cX5_demandValue 17 = .ok (.invokespecial 62, 3) := by decide +kernel
theorem dX5_demandValue_20 : decode cX5_demandValue 20 = .ok (.athrow, 1) := by decide +kernel
theorem dX5_demandKindOfWalk_9 : decode cX5_demandKindOfWalk 9 = .ok (.new 58, 3) := by decide +kernel
theorem dX5_demandKindOfWalk_12 : decode cX5_demandKindOfWalk 12 = .ok (.dup, 1) := by decide +kernel
theorem dX5_demandKindOfWalk_13 : decode cX5_demandKindOfWalk 13 = .ok (.ldc_w 313, 3) := by decide +kernel
theorem dX5_demandKindOfWalk_16 : decode cX5_demandKindOfWalk 16 = .ok (.invokespecial 62, 3) := by decide +kernel
theorem dX5_demandKindOfWalk_19 : decode cX5_demandKindOfWalk 19 = .ok (.athrow, 1) := by decide +kernel
theorem dX5_demandRoomFor_14 : decode cX5_demandRoomFor 14 = .ok (.new 94, 3) := by decide +kernel
theorem dX5_demandRoomFor_17 : decode cX5_demandRoomFor 17 = .ok (.dup, 1) := by decide +kernel
theorem dX5_demandRoomFor_18 : decode cX5_demandRoomFor 18 = .ok (.ldc_w 315, 3) := by decide +kernel
theorem dX5_demandRoomFor_21 : decode cX5_demandRoomFor 21 = .ok (.invokespecial 98, 3) := by decide +kernel
theorem dX5_demandRoomFor_24 : decode cX5_demandRoomFor 24 = .ok (.athrow, 1) := by decide +kernel
theorem dX8_put_114 : decode cX8_put 114 = .ok (.newarray .int, 2) := by decide +kernel
theorem dX8_putIfAbsent_95 : decode cX8_putIfAbsent 95 = .ok (.newarray .int, 2) := by decide +kernel
theorem dX8_copy_54 : decode cX8_copy 54 = .ok (.invokeinterface 104 1, 5) := by decide +kernel
theorem dX8_copy_64 : decode cX8_copy 64 = .ok (.invokeinterface 110 1, 5) := by decide +kernel
theorem dX8_copy_76 : decode cX8_copy 76 = .ok (.newarray .int, 2) := by decide +kernel
theorem dX8_copy_123 : decode cX8_copy 123 = .ok (.invokeinterface 104 1, 5) := by decide +kernel
theorem dX8_copy_133 : decode cX8_copy 133 = .ok (.invokeinterface 110 1, 5) := by decide +kernel
theorem dX8_text_44 : decode cX8_text 44 = .ok (.invokeinterface 104 1, 5) := by decide +kernel
theorem dX8_text_54 : decode cX8_text 54 = .ok (.invokeinterface 110 1, 5) := by decide +kernel
theorem dX8_tableNow_21 : decode cX8_tableNow 21 = .ok (.invokeinterface 104 1, 5) := by decide +kernel
theorem dX8_tableNow_31 : decode cX8_tableNow 31 = .ok (.invokeinterface 110 1, 5) := by decide +kernel
theorem dX8_tableNow_54 : decode cX8_tableNow 54 = .ok (.newarray .int, 2) := by decide +kernel
theorem dX8_bestNow_2 : decode cX8_bestNow 2 = .ok (.newarray .int, 2) := by decide +kernel
theorem dX8_houseNow_45 : decode cX8_houseNow 45 = .ok (.newarray .int, 2) := by decide +kernel
theorem dJ5_init_d00df_12 : decode cJ5_init_d00df 12 = .ok (.newarray .byte, 2) := by decide +kernel
theorem dJ2_newBytesFor_77867_4 : decode cJ2_newBytesFor_77867 4 = .ok (.newarray .byte, 2) := by decide +kernel
theorem dJ2_compress_39247_1 : decode cJ2_compress_39247 1 = .ok (.newarray .byte, 2) := by decide +kernel
theorem dJ7_copyOf_9075b_15 : decode cJ7_copyOf_9075b 15 = .ok (.newarray .byte, 2) := by decide +kernel
theorem dJ7_copyOfRangeByte_39247_10 : decode cJ7_copyOfRangeByte_39247 10 = .ok (.newarray .byte, 2) := by decide +kernel
theorem dL_make_16 : decode cL_make 16 = .ok (.astore 5, 2) := by decide +kernel
theorem dL_make_20 : decode cL_make 20 = .ok (.astore 5, 2) := by decide +kernel
theorem dL_put_16 : decode cL_put 16 = .ok (.astore 5, 2) := by decide +kernel
theorem dL_put_20 : decode cL_put 20 = .ok (.astore 5, 2) := by decide +kernel
theorem dL_putIfAbsent_16 : decode cL_putIfAbsent 16 = .ok (.astore 5, 2) := by decide +kernel
theorem dL_putIfAbsent_20 : decode cL_putIfAbsent 20 = .ok (.astore 5, 2) := by decide +kernel
theorem dL_putIfAbsent_24 : decode cL_putIfAbsent 24 = .ok (.astore 5, 2) := by decide +kernel
theorem dL_get_14 : decode cL_get 14 = .ok (.astore 4, 2) := by decide +kernel
theorem dL_get_18 : decode cL_get 18 = .ok (.astore 4, 2) := by decide +kernel
theorem dL_getOr_16 : decode cL_getOr 16 = .ok (.astore 5, 2) := by decide +kernel
theorem dL_getOr_20 : decode cL_getOr 20 = .ok (.astore 5, 2) := by decide +kernel
theorem dL_remove_14 : decode cL_remove 14 = .ok (.astore 4, 2) := by decide +kernel
theorem dL_remove_18 : decode cL_remove 18 = .ok (.astore 4, 2) := by decide +kernel
theorem dL_clear_13 : decode cL_clear 13 = .ok (.astore_n 3, 1) := by decide +kernel
theorem dL_set_16 : decode cL_set 16 = .ok (.astore 5, 2) := by decide +kernel
theorem dL_set_20 : decode cL_set 20 = .ok (.astore 5, 2) := by decide +kernel
theorem dL_copy_14 : decode cL_copy 14 = .ok (.astore 4, 2) := by decide +kernel
theorem dL_has_21 : decode cL_has 21 = .ok (.astore 4, 2) := by decide +kernel
theorem dL_has_25 : decode cL_has 25 = .ok (.astore 4, 2) := by decide +kernel
theorem dL_size_13 : decode cL_size 13 = .ok (.astore_n 3, 1) := by decide +kernel
theorem dL_keyAt_14 : decode cL_keyAt 14 = .ok (.astore 4, 2) := by decide +kernel
theorem dL_valueAt_14 : decode cL_valueAt 14 = .ok (.astore 4, 2) := by decide +kernel
theorem dL_pairAt_14 : decode cL_pairAt 14 = .ok (.astore 4, 2) := by decide +kernel
theorem dL_placeOf_14 : decode cL_placeOf 14 = .ok (.astore 4, 2) := by decide +kernel
theorem dL_placeOf_18 : decode cL_placeOf 18 = .ok (.astore 4, 2) := by decide +kernel
theorem dL_eldest_13 : decode cL_eldest 13 = .ok (.astore_n 3, 1) := by decide +kernel
theorem dL_latest_13 : decode cL_latest 13 = .ok (.astore_n 3, 1) := by decide +kernel
theorem dL_text_13 : decode cL_text 13 = .ok (.astore 4, 2) := by decide +kernel
theorem dL_text_17 : decode cL_text 17 = .ok (.astore 4, 2) := by decide +kernel
theorem dL_ofTable_14 : decode cL_ofTable 14 = .ok (.astore 4, 2) := by decide +kernel
theorem dL_ofTable_18 : decode cL_ofTable 18 = .ok (.astore 4, 2) := by decide +kernel
theorem dL_walk_14 : decode cL_walk 14 = .ok (.astore 4, 2) := by decide +kernel
theorem dL_walk_18 : decode cL_walk 18 = .ok (.astore 4, 2) := by decide +kernel
theorem dL_step_13 : decode cL_step 13 = .ok (.astore_n 3, 1) := by decide +kernel
theorem dL_cut_13 : decode cL_cut 13 = .ok (.astore_n 3, 1) := by decide +kernel
theorem dL_hasMore_20 : decode cL_hasMore 20 = .ok (.astore_n 3, 1) := by decide +kernel
theorem dL_isStale_20 : decode cL_isStale 20 = .ok (.astore_n 3, 1) := by decide +kernel
theorem dL_rest_13 : decode cL_rest 13 = .ok (.astore_n 3, 1) := by decide +kernel
theorem dL_ask_13 : decode cL_ask 13 = .ok (.astore_n 3, 1) := by decide +kernel
theorem dL_ask_16 : decode cL_ask 16 = .ok (.astore_n 3, 1) := by decide +kernel
theorem dL_askRow_16 : decode cL_askRow 16 = .ok (.astore 5, 2) := by decide +kernel
theorem dL_askRow_20 : decode cL_askRow 20 = .ok (.astore 5, 2) := by decide +kernel
theorem dL_depth_13 : decode cL_depth 13 = .ok (.astore_n 3, 1) := by decide +kernel
theorem dL_kept_12 : decode cL_kept 12 = .ok (.astore_n 3, 1) := by decide +kernel
theorem dL_keeps_21 : decode cL_keeps 21 = .ok (.astore 4, 2) := by decide +kernel
theorem dL_takenAt_14 : decode cL_takenAt 14 = .ok (.astore 4, 2) := by decide +kernel
theorem dL_misses_13 : decode cL_misses 13 = .ok (.astore_n 3, 1) := by decide +kernel
theorem dL_hits_13 : decode cL_hits 13 = .ok (.astore_n 3, 1) := by decide +kernel
theorem dL_lost_13 : decode cL_lost 13 = .ok (.astore_n 3, 1) := by decide +kernel
theorem dL_best_13 : decode cL_best 13 = .ok (.astore_n 3, 1) := by decide +kernel
theorem dL_house_13 : decode cL_house 13 = .ok (.astore_n 3, 1) := by decide +kernel
theorem dL_law_43 : decode cL_law 43 = .ok (.tableswitch 1670 0 44 #[193, 261, 313, 365, 405, 457, 497, 525, 577, 617, 657, 685, 725, 765, 805, 845, 873, 901, 941, 981, 1021, 1049, 1077, 1105, 1133, 1161, 1189, 1241, 1254, 1267, 1292, 1317, 1345, 1358, 1386, 1426, 1466, 1494, 1522, 1550, 1575, 1603, 1631, 1644, 1657], 193) := by decide +kernel
end
section
/-! ===== a small machine of cells: its states, its runs (a method number, a place in its bytes, locals by place, the stack, the cells by address, the next address, the slots used) ===== -/
abbrev ev_C : Type := (Nat × Nat × (Nat → Value)) ⊕ (Nat × List Value)
abbrev ev_M : Type := Nat → Option ev_C
abbrev ev_H : Type := ev_M × Nat × Nat
abbrev ev_S : Type := List Value × List Value × ev_H
abbrev ev_O : Type := Option Value ⊕ Nat
abbrev ev_N : Type := Option ((Nat × ev_S) ⊕ ((Nat × List Value × Nat × ev_S) ⊕ ((Option Value × ev_H) ⊕ (Nat × ev_H))))
abbrev ev_X : Type := Nat → Nat → Option (Option (Nat × Nat))
abbrev ev_T : Type := (Nat → Nat → ev_S → ev_N) × (Nat → Nat) × (Nat → ev_X)
def ev_J : Value := .retAddr 0
def ev_k (v : Value) : Value := if v.category = 2 then ev_J else v
def ev_st (lo : List Value) (k : Nat) (v : Value) : List Value := (match k with
  | 0 => lo
  | j + 1 => lo.set j (ev_k (lo.getD j ev_J))).set k v
def ev_sl (vs : List Value) : List Value := vs.flatMap fun v => if v.category = 2 then [v, ev_J] else [v]
def ev_lo (n : Nat) (vs : List Value) : List Value := ev_sl vs ++ List.replicate (n - (ev_sl vs).length) ev_J
def ev_up (h : ev_M) (a : Nat) (c : ev_C) : ev_M := fun x => if x = a then some c else h x
def ev_run (T : ev_T) : Nat → Nat → Nat → ev_S → Option (ev_O × ev_H)
  | 0, _, _, _ => none
  | f + 1, mi, pc, S =>
    match T.1 mi pc S with
    | none => none
    | some (.inl x) => ev_run T f mi x.1 x.2
    | some (.inr (.inl x)) =>
      match ev_run T f x.1 0 (ev_lo (T.2.1 x.1) x.2.1, [], x.2.2.2.2.2) with
      | none => none
      | some (.inl v, H) => ev_run T f mi x.2.2.1 (x.2.2.2.1, v.toList ++ x.2.2.2.2.1, H)
      | some (.inr E, H) =>
        match T.2.2 mi pc E with
        | none => none
        | some none => some (.inr E, H)
        | some (some k) => ev_run T f mi k.1 (ev_st x.2.2.2.1 k.2 ev_J, [], H)
    | some (.inr (.inr (.inl x))) => some (.inl x.1, x.2)
    | some (.inr (.inr (.inr x))) => some (.inr x.1, (x.2.1, x.2.2.1 + 1, x.2.2.2 + 6))
theorem ev_run_succ {T : ev_T} : ∀ {f mi pc : Nat} {S : ev_S} {r : ev_O × ev_H}, ev_run T f mi pc S = some r → ev_run T (f + 1) mi pc S = some r := by
  intro f
  induction f with
  | zero => intro mi pc S r h; simp [ev_run] at h
  | succ f ih =>
    intro mi pc S r h
    rw [ev_run] at h
    rw [ev_run]
    rcases hx : T.1 mi pc S with _ | (x | x | x | x)
    · rw [hx] at h; exact h
    · rw [hx] at h; exact ih h
    · rw [hx] at h
      dsimp only at h ⊢
      rcases hy : ev_run T f x.1 0 (ev_lo (T.2.1 x.1) x.2.1, [], x.2.2.2.2.2) with _ | ⟨v | E, H⟩
      · rw [hy] at h; cases h
      · rw [hy] at h
        rw [ih hy]
        exact ih h
      · rw [hy] at h
        rw [ih hy]
        dsimp only at h ⊢
        rcases hz : T.2.2 mi pc E with _ | _ | k
        · rw [hz] at h; exact h
        · rw [hz] at h; exact h
        · rw [hz] at h; exact ih h
    · rw [hx] at h; exact h
    · rw [hx] at h; exact h
theorem ev_run_le {T : ev_T} {f g mi pc : Nat} {S : ev_S} {r : ev_O × ev_H} (hfg : f ≤ g) (h : ev_run T f mi pc S = some r) : ev_run T g mi pc S = some r := by
  induction hfg with
  | refl => exact h
  | step _ ih => exact ev_run_succ ih
/-- the run from here comes to an end of which P holds -/
def ev_ok (T : ev_T) (mi pc : Nat) (lo st : List Value) (h : ev_M) (n q : Nat) (P : ev_O → ev_M → Nat → Nat → Prop) : Prop :=
  ∃ (f : Nat) (o : ev_O × ev_H), ev_run T f mi pc (lo, st, h, n, q) = some o ∧ P o.1 o.2.1 o.2.2.1 o.2.2.2
/-- what is behind a call -/
def ev_kr (T : ev_T) (mi pc pc' : Nat) (lo st : List Value) (P : ev_O → ev_M → Nat → Nat → Prop) : ev_O → ev_M → Nat → Nat → Prop := fun o h n q => match o with
  | .inl v => ev_ok T mi pc' lo (v.toList ++ st) h n q P
  | .inr E => match T.2.2 mi pc E with
    | none => False
    | some none => P (.inr E) h n q
    | some (some k) => ev_ok T mi k.1 (ev_st lo k.2 ev_J) [] h n q P
section EVR
variable {T : ev_T} {mi pc pc' : Nat} {lo st lo' st' : List Value} {h h' : ev_M} {n q n' q' : Nat} {P P' : ev_O → ev_M → Nat → Nat → Prop}
theorem ev_mono (hP : ∀ o h n q, P o h n q → P' o h n q) (k : ev_ok T mi pc lo st h n q P) : ev_ok T mi pc lo st h n q P' := by
  obtain ⟨f, o, h1, h2⟩ := k
  exact ⟨f, o, h1, hP _ _ _ _ h2⟩
theorem ev_go (e : T.1 mi pc (lo, st, h, n, q) = some (.inl (pc', lo', st', h', n', q'))) : ev_ok T mi pc lo st h n q P ↔ ev_ok T mi pc' lo' st' h' n' q' P := by
  constructor
  · rintro ⟨f, o, h1, h2⟩
    cases f with
    | zero => simp [ev_run] at h1
    | succ f =>
      rw [ev_run, e] at h1
      exact ⟨f, o, h1, h2⟩
  · rintro ⟨f, o, h1, h2⟩
    refine ⟨f + 1, o, ?_, h2⟩
    rw [ev_run, e]
    exact h1
theorem ev_re {v : Option Value} (e : T.1 mi pc (lo, st, h, n, q) = some (.inr (.inr (.inl (v, h', n', q'))))) : ev_ok T mi pc lo st h n q P ↔ P (.inl v) h' n' q' := by
  constructor
  · rintro ⟨f, o, h1, h2⟩
    cases f with
    | zero => simp [ev_run] at h1
    | succ f =>
      rw [ev_run, e] at h1
      cases h1
      exact h2
  · intro h2
    refine ⟨1, (.inl v, h', n', q'), ?_, h2⟩
    rw [ev_run, e]
theorem ev_th {E : Nat} (e : T.1 mi pc (lo, st, h, n, q) = some (.inr (.inr (.inr (E, h', n', q'))))) : ev_ok T mi pc lo st h n q P ↔ P (.inr E) h' (n' + 1) (q' + 6) := by
  constructor
  · rintro ⟨f, o, h1, h2⟩
    cases f with
    | zero => simp [ev_run] at h1
    | succ f =>
      rw [ev_run, e] at h1
      cases h1
      exact h2
  · intro h2
    refine ⟨1, (.inr E, h', n' + 1, q' + 6), ?_, h2⟩
    rw [ev_run, e]
theorem ev_no (e : T.1 mi pc (lo, st, h, n, q) = none) : ev_ok T mi pc lo st h n q P ↔ False := by
  constructor
  · rintro ⟨f, o, h1, h2⟩
    cases f with
    | zero => simp [ev_run] at h1
    | succ f =>
      rw [ev_run, e] at h1
      cases h1
  · exact False.elim
theorem ev_ca {mi' : Nat} {as : List Value} (e : T.1 mi pc (lo, st, h, n, q) = some (.inr (.inl (mi', as, pc', lo', st', h', n', q')))) : ev_ok T mi pc lo st h n q P ↔ ev_ok T mi' 0 (ev_lo (T.2.1 mi') as) [] h' n' q' (ev_kr T mi pc pc' lo' st' P) := by
  constructor
  · rintro ⟨f, o, h1, h2⟩
    cases f with
    | zero => simp [ev_run] at h1
    | succ f =>
      rw [ev_run, e] at h1
      dsimp only at h1
      rcases hy : ev_run T f mi' 0 (ev_lo (T.2.1 mi') as, [], h', n', q') with _ | ⟨v | E, H⟩
      · rw [hy] at h1; cases h1
      · rw [hy] at h1
        exact ⟨f, _, hy, f, o, h1, h2⟩
      · rw [hy] at h1
        dsimp only at h1
        refine ⟨f, _, hy, ?_⟩
        unfold ev_kr
        dsimp only
        rcases hz : T.2.2 mi pc E with _ | _ | k
        · rw [hz] at h1; cases h1
        · rw [hz] at h1; cases h1; exact h2
        · rw [hz] at h1; exact ⟨f, o, h1, h2⟩
  · rintro ⟨f, ⟨v | E, H⟩, h1, h2⟩
    · obtain ⟨g, o, h3, h4⟩ := h2
      refine ⟨max f g + 1, o, ?_, h4⟩
      rw [ev_run, e]
      dsimp only
      rw [ev_run_le (Nat.le_max_left f g) h1]
      exact ev_run_le (Nat.le_max_right f g) h3
    · unfold ev_kr at h2
      dsimp only at h2
      rcases hz : T.2.2 mi pc E with _ | _ | k
      · rw [hz] at h2; exact h2.elim
      · rw [hz] at h2
        refine ⟨f + 1, (.inr E, H), ?_, h2⟩
        rw [ev_run, e]
        dsimp only
        rw [h1]
        dsimp only
        rw [hz]
      · rw [hz] at h2
        obtain ⟨g, o, h3, h4⟩ := h2
        refine ⟨max f g + 1, o, ?_, h4⟩
        rw [ev_run, e]
        dsimp only
        rw [ev_run_le (Nat.le_max_left f g) h1]
        dsimp only
        rw [hz]
        exact ev_run_le (Nat.le_max_right f g) h3
end EVR
/-- a guarded step -/
noncomputable def ev_if (g : Prop) (x : ev_N) : ev_N := @ite ev_N g (Classical.propDecidable g) x none
theorem ev_if_t {g : Prop} {x : ev_N} (h : g) : ev_if g x = x := if_pos h
theorem ev_if_f {g : Prop} {x : ev_N} (h : ¬ g) : ev_if g x = none := if_neg h
theorem ev_if_s {g : Prop} {x : ev_N} {y} (h : ev_if g x = some y) : g ∧ x = some y := by
  by_cases hg : g
  · rw [ev_if_t hg] at h; exact ⟨hg, h⟩
  · rw [ev_if_f hg] at h; cases h
section EVG
variable {T : ev_T} {mi pc pc' : Nat} {lo st lo' st' : List Value} {h h' : ev_M} {n q n' q' : Nat} {P P' : ev_O → ev_M → Nat → Nat → Prop} {g : Prop}
theorem ev_goG (e : T.1 mi pc (lo, st, h, n, q) = ev_if g (some (.inl (pc', lo', st', h', n', q')))) : ev_ok T mi pc lo st h n q P ↔ g ∧ ev_ok T mi pc' lo' st' h' n' q' P := by
  by_cases hg : g
  · rw [ev_if_t hg] at e
    rw [ev_go e]
    exact ⟨fun k => ⟨hg, k⟩, fun k => k.2⟩
  · rw [ev_if_f hg] at e
    rw [ev_no e]
    exact ⟨False.elim, fun k => hg k.1⟩
theorem ev_caG {mi' : Nat} {as : List Value} (e : T.1 mi pc (lo, st, h, n, q) = ev_if g (some (.inr (.inl (mi', as, pc', lo', st', h', n', q'))))) : ev_ok T mi pc lo st h n q P ↔ g ∧ ev_ok T mi' 0 (ev_lo (T.2.1 mi') as) [] h' n' q' (ev_kr T mi pc pc' lo' st' P) := by
  by_cases hg : g
  · rw [ev_if_t hg] at e
    rw [ev_ca e]
    exact ⟨fun k => ⟨hg, k⟩, fun k => k.2⟩
  · rw [ev_if_f hg] at e
    rw [ev_no e]
    exact ⟨False.elim, fun k => hg k.1⟩
theorem ev_goI {b : Prop} [Decidable b] {pa pb : Nat} (e : T.1 mi pc (lo, st, h, n, q) = some (.inl ((if b then pa else pb), lo', st', h', n', q'))) : ev_ok T mi pc lo st h n q P ↔ if b then ev_ok T mi pa lo' st' h' n' q' P else ev_ok T mi pb lo' st' h' n' q' P := by
  rw [ev_go e]
  split <;> rfl
theorem ev_kr_v {v : Option Value} : ev_kr T mi pc pc' lo st P (.inl v) h n q ↔ ev_ok T mi pc' lo (v.toList ++ st) h n q P := Iff.rfl
theorem ev_kr_1 {v : Value} : ev_kr T mi pc pc' lo st P (.inl (some v)) h n q ↔ ev_ok T mi pc' lo (v :: st) h n q P := Iff.rfl
theorem ev_kr_0 : ev_kr T mi pc pc' lo st P (.inl none) h n q ↔ ev_ok T mi pc' lo st h n q P := Iff.rfl
theorem ev_kr_x {E : Nat} (e : T.2.2 mi pc E = some none) : ev_kr T mi pc pc' lo st P (.inr E) h n q ↔ P (.inr E) h n q := by
  unfold ev_kr
  dsimp only
  rw [e]
theorem ev_kr_h {E : Nat} {k : Nat × Nat} (e : T.2.2 mi pc E = some (some k)) : ev_kr T mi pc pc' lo st P (.inr E) h n q ↔ ev_ok T mi k.1 (ev_st lo k.2 ev_J) [] h n q P := by
  unfold ev_kr
  dsimp only
  rw [e]
end EVG
end
section
/-! ===== what the small machine's steps mean on the machine itself ===== -/
abbrev ev_E : Type := State × Array Value × va_G × (Nat → ClassId) × ev_M × (Nat → Nat)
abbrev ev_I : Type := MethodName × ByteArray × Nat × Option FieldType × List (Nat × Nat × Nat × Nat) × Nat
def ev_aT : Nat → FieldType := fun k => match k with
  | 0 => .int
  | 1 => .byte
  | 2 => .object "java/lang/Object"
  | 3 => .object "Lastasked$Table"
  | 4 => .object "Lastasked$Keeper"
  | 5 => .object "LastaskedModel$Table"
  | 6 => .int
  | 7 => .byte
  | 8 => .byte
  | 9 => .object "java/lang/Integer"
  | 10 => .object "java/lang/Object"
  | _ => .byte
/-- a cell as it can be read -/
def ev_atR (X : ev_E) (a : Nat) (c : ev_C) (H : Heap) : Prop := match c with
  | .inl x => ∃ cell : Cell, H[a]? = some cell ∧ cell.cls = X.2.2.2.1 x.1 ∧ (∀ j, cell.vm ≠ .statics j) ∧ cell.vm ≠ .unknown ∧ cell.slots.size = x.2.1 ∧ ∀ j : Nat, j < x.2.1 → cell.slots[j]? = some (x.2.2 j)
  | .inr x => ∃ (r : vw_C) (cell : Cell), vwCl[x.1]? = some r ∧ H[a]? = some cell ∧ cell.cls = X.2.2.1.1 x.1 ∧ cell.vm.isStatics = false ∧ cell.vm ≠ .unknown ∧ ∀ j : Nat, j < r.2.2 → cell.slots[X.2.2.1.2 x.1 j]? = some (vp_V x.2 j)
/-- a cell of the small machine's own -/
def ev_atW (X : ev_E) (a : Nat) (c : ev_C) (H : Heap) : Prop := match c with
  | .inl x => x.1 < 6 ∧ H[a]? = some (arrV (X.2.2.2.1 x.1) x.2.1 x.2.2)
  | .inr x => ∃ r : vw_C, vwCl[x.1]? = some r ∧ t_OB a (X.2.2.1.1 x.1) r.2.2 (X.2.2.1.2 x.1) H (vp_V x.2)
def ev_R (X : ev_E) (h : ev_M) (n : Nat) (H : Heap) : Prop := H.size = n ∧ X.1.heap.size ≤ n ∧ ∀ (a : Nat) (c : ev_C), h a = some c → X.1.heap.size ≤ a ∧ ev_atW X a c H
def ev_lk (X : ev_E) (h : ev_M) (a : Nat) : Option ev_C := match h a with
  | some c => some c
  | none => X.2.2.2.2.1 a
def ev_isJ (v : Value) : Bool := match v with
  | .retAddr _ => true
  | _ => false
def ev_L (ls : Array Slot) (nL : Nat) (lo : List Value) : Prop := ls.size = nL ∧ lv_wf ls ∧ lo.length = nL ∧ ∀ (i : Nat) (v : Value), lo[i]? = some v → ev_isJ v = true ∨ ls[i]? = some (.val v)
/-- what holds at the start, of which all the rest is told -/
def ev_nm : Nat → String := fun k => match k with
  | 0 => "java/lang/IndexOutOfBoundsException"
  | 1 => "java/lang/IllegalArgumentException"
  | _ => "java/lang/IllegalStateException"
def ev_Zs (X : ev_E) : Prop :=
  vx_Zq Bundle.tN "UNASSIGNED_STACK" Bundle.steD (fun q => X.1.heap.size ≤ q) X.1 X.1.heap ∧ vx_Zq Bundle.tN "SUPPRESSED_SENTINEL" Bundle.listD (fun q => X.1.heap.size ≤ q) X.1 X.1.heap ∧
  (∀ (own : String) (k : Nat) (tx : String), Cond.stringRef own k tx ∈ lw_tbl → ∃ sa : Nat, vk_R own k tx sa X.1) ∧ (∀ (k : Nat) (tx : String), Cond.stringRef "LastaskedModel" k tx ∈ lw_tbl → vk_R "LastaskedModel" k tx (X.2.2.2.2.2 (1000 + k)) X.1) ∧
  va_Z "java/lang/String" "COMPACT_STRINGS" "Z" (.int 1) (fun q => X.1.heap.size ≤ q) X.1 X.1.heap ∧ va_Z "java/lang/Integer$IntegerCache" "high" "I" (.int 127) (fun q => X.1.heap.size ≤ q) X.1 X.1.heap ∧
  va_Z "java/lang/Integer$IntegerCache" "cache" "[Ljava/lang/Integer;" (.ref (X.2.2.2.2.2 0)) (fun q => X.1.heap.size ≤ q) X.1 X.1.heap ∧ va_Z "java/util/ArrayList" "DEFAULTCAPACITY_EMPTY_ELEMENTDATA" "[Ljava/lang/Object;" (.ref (X.2.2.2.2.2 1)) (fun q => X.1.heap.size ≤ q) X.1 X.1.heap ∧
  va_Z "java/lang/Integer" "DigitOnes" "[B" (.ref (X.2.2.2.2.2 2)) (fun q => X.1.heap.size ≤ q) X.1 X.1.heap ∧ va_Z "java/lang/Integer" "DigitTens" "[B" (.ref (X.2.2.2.2.2 3)) (fun q => X.1.heap.size ≤ q) X.1 X.1.heap ∧
  va_Mi "[Ljava/lang/Object;" (X.2.2.2.2.2 4) X.1 ∧ True ∧ (∀ i j, i < 3 → j < 3 → i ≠ j → va_Nc (ev_nm i) (ev_nm j) X.1) ∧
  ∀ a, X.1.heap.size ≤ a → X.2.2.2.2.1 a = none
def ev_Good (X : ev_E) : Prop :=
  (∀ w ∈ lw_tbl, w.before X.2.1 X.1 = true) ∧ va_K X.2.2.1 vwCl [] X.1 ∧ (∀ k, k < 20 → ArrOfT X.1 (X.2.2.2.1 k) (ev_aT k)) ∧ (∀ k, k < 6 → va_RA X.1 (X.2.2.2.1 k) (ev_aT k)) ∧
  (∀ (a : Nat) (c : ev_C), X.2.2.2.2.1 a = some c → ev_atR X a c X.1.heap) ∧ ev_Zs X
def ev_At (X : ev_E) (x : ev_I) (p : Program) (R : Room) (s : State) (m : MethodId) (meth : Method) (c : Code) : Prop :=
  p.tables.exec = Jvm.exec ∧ c.code = x.2.1 ∧ c.maxLocals = x.2.2.1 ∧ s.vm.findClass x.1.cls = some m.cls ∧ meth.sig.returnType = x.2.2.2.1 ∧ meth.locks = false ∧ meth.name = x.1.name ∧ c.exceptionTable.toList = tableOf x.2.2.2.2.1 ∧
  X.1.WarmedH s.vm ∧ (∀ a : Nat, a < X.1.heap.size → s.heap[a]? = X.1.heap[a]?) ∧ X.1.heap.size ≤ s.heap.size ∧ 12 + x.2.2.2.2.2 ≤ R.frames ∧ 200 + 130 * x.2.2.2.2.2 ≤ R.locals
def ev_V (X : ev_E) (x : ev_I) (p : Program) (l : Launch) (e : Env) (R : Room) (s : State) (m : MethodId) (args : Array Value) (below : List Frame) (meth : Method) (c : Code) (n0 q0 : Nat) (Q : State → Prop) (pc : Nat) (S : ev_S) : Prop :=
  ∀ (H : Heap) (locs : List Loc) (ls : Array Slot), ev_R X S.2.2.1 S.2.2.2.1 H → ev_L ls x.2.2.1 S.1 → va_S (fun a => X.1.heap.size ≤ a) s.heap H locs → W p l e R s m args below meth c H locs (S.2.2.2.1 - n0) (S.2.2.2.2 - q0) Q (F0 m pc ls S.2.1)
/-- going on -/
def ev_SG (X : ev_E) (l : Launch) (x : ev_I) (pc : Nat) (S : ev_S) (pc' : Nat) (S' : ev_S) : Prop :=
  S.2.2.2.1 ≤ S'.2.2.2.1 ∧ S.2.2.2.2 ≤ S'.2.2.2.2 ∧ ∀ (p : Program) (e : Env) (R : Room) (s : State) (m : MethodId) (args : Array Value) (below : List Frame) (meth : Method) (c : Code) (n0 q0 : Nat) (Q : State → Prop),
    ev_At X x p R s m meth c → n0 ≤ S.2.2.2.1 → q0 ≤ S.2.2.2.2 → S'.2.2.2.1 - n0 ≤ R.cells → S'.2.2.2.2 - q0 ≤ R.slots → ev_V X x p l e R s m args below meth c n0 q0 Q pc' S' → ev_V X x p l e R s m args below meth c n0 q0 Q pc S
theorem ev_SG_same {X : ev_E} {l : Launch} {x : ev_I} {pc pc' : Nat} {lo lo' st st' : List Value} {K : ev_H}
    (h : ∀ (p : Program) (e : Env) (R : Room) (s : State) (m : MethodId) (args : Array Value) (below : List Frame) (meth : Method) (c : Code) (Q : State → Prop) (H : Heap) (locs : List Loc) (cells slots : Nat) (ls : Array Slot), p.tables.exec = Jvm.exec → c.code = x.2.1 → ev_L ls x.2.2.1 lo →
      (∀ ls', ev_L ls' x.2.2.1 lo' → W p l e R s m args below meth c H locs cells slots Q (F0 m pc' ls' st')) → W p l e R s m args below meth c H locs cells slots Q (F0 m pc ls st)) : ev_SG X l x pc (lo, st, K) pc' (lo', st', K) := by
  refine ⟨Nat.le_refl _, Nat.le_refl _, fun p e R s m args below meth c n0 q0 Q hA h1 h2 h3 h4 k => ?_⟩
  intro H locs ls hR hL hS
  exact h p e R s m args below meth c Q H locs _ _ ls hA.1 hA.2.1 hL (fun ls' hL' => k H locs ls' hR hL' hS)
theorem ev_L.get {ls : Array Slot} {nL : Nat} {lo : List Value} (h : ev_L ls nL lo) {i : Nat} {v : Value} (hi : lo[i]? = some v) (hJ : ev_isJ v = false) : ls[i]? = some (.val v) := by
  rcases h.2.2.2 i v hi with h1 | h1
  · rw [hJ] at h1; cases h1
  · exact h1
def ev_al (lo : List Value) : List (Nat × Value) := (List.range lo.length).filterMap fun i => match lo[i]? with
  | some v => if ev_isJ v then none else some (i, v)
  | none => none
theorem ev_al_has {ls : Array Slot} {nL : Nat} {lo : List Value} (h : ev_L ls nL lo) : lv_has ls nL (ev_al lo) := by
  refine ⟨h.1, h.2.1, fun q hq => ?_⟩
  obtain ⟨i, -, hi⟩ := List.mem_filterMap.mp hq
  rcases hv : lo[i]? with _ | v
  · rw [hv] at hi; cases hi
  · rw [hv] at hi
    dsimp only at hi
    split at hi
    · cases hi
    · rename_i hJ
      cases hi
      exact h.get hv (by simpa using hJ)
theorem ev_al_mem {lo : List Value} {i : Nat} {v : Value} (hi : lo[i]? = some v) (hJ : ev_isJ v = false) : (i, v) ∈ ev_al lo := by
  refine List.mem_filterMap.mpr ⟨i, List.mem_range.mpr (List.getElem?_eq_some_iff.mp hi).1, ?_⟩
  rw [hi]
  simp [hJ]
theorem ev_st_len {lo : List Value} {k : Nat} {v : Value} : (ev_st lo k v).length = lo.length := by
  unfold ev_st
  cases k <;> simp
theorem ev_set_get {l : List Value} {k : Nat} {v w : Value} (h : (l.set k v)[k]? = some w) : w = v := by
  have h1 := (List.getElem?_eq_some_iff.mp h).1
  rw [List.length_set] at h1
  rw [List.getElem?_set_self h1] at h
  exact (Option.some.inj h).symm
theorem ev_st_get {lo : List Value} {k : Nat} {v w : Value} {i : Nat} (h : (ev_st lo k v)[i]? = some w) : (i = k ∧ w = v) ∨ (¬ i = k ∧ ((i + 1 = k ∧ lo[i]? = some w ∧ ¬ w.category = 2) ∨ (i + 1 = k ∧ w = ev_J) ∨ (¬ i + 1 = k ∧ lo[i]? = some w))) := by
  unfold ev_st at h
  by_cases hk : i = k
  · subst hk
    exact Or.inl ⟨rfl, ev_set_get h⟩
  · right
    refine ⟨hk, ?_⟩
    rw [List.getElem?_set_ne (Ne.symm hk)] at h
    cases k with
    | zero => exact Or.inr (Or.inr ⟨by omega, h⟩)
    | succ j =>
      dsimp only at h
      by_cases hj : i = j
      · subst hj
        have hw := ev_set_get h
        have hlt : i < lo.length := by
          have h1 := (List.getElem?_eq_some_iff.mp h).1
          rwa [List.length_set] at h1
        have hx : lo[i]? = some lo[i] := List.getElem?_eq_getElem hlt
        rw [List.getD_eq_getElem?_getD, hx] at hw
        dsimp only [Option.getD] at hw
        unfold ev_k at hw
        split at hw
        · exact Or.inr (Or.inl ⟨rfl, hw⟩)
        · rename_i hc
          exact Or.inl ⟨rfl, by rw [hw]; exact hx, by rw [hw]; exact hc⟩
      · rw [List.getElem?_set_ne (Ne.symm hj)] at h
        exact Or.inr (Or.inr ⟨by omega, h⟩)
theorem ev_L_st {ls ls' : Array Slot} {nL i : Nat} {lo : List Value} {v v0 : Value} (hL : ev_L ls nL lo) (hi : i < nL) (hv : ev_isJ v0 = true ∨ v0 = v)
    (h : lv_has ls' nL ((i, v) :: (ev_al lo).filter (fun q => !(q.1 == i) && !(q.1 + 1 == i && q.2.category == 2)))) : ev_L ls' nL (ev_st lo i v0) := by
  refine ⟨h.1, h.2.1, ev_st_len.trans hL.2.2.1, fun j w hw => ?_⟩
  rcases ev_st_get hw with ⟨rfl, rfl⟩ | ⟨h1, h2⟩
  · rcases hv with hv | hv
    · exact Or.inl hv
    · subst hv
      exact Or.inr (h.2.2 (j, w) List.mem_cons_self)
  · rcases h2 with ⟨h3, h4, h5⟩ | ⟨h3, h4⟩ | ⟨h3, h4⟩
    · rcases hJ : ev_isJ w with _ | _
      · refine Or.inr (h.2.2 (j, w) (List.mem_cons_of_mem _ (List.mem_filter.mpr ⟨ev_al_mem h4 hJ, ?_⟩)))
        simp [h1, h5]
      · exact Or.inl rfl
    · subst h4
      exact Or.inl rfl
    · rcases hJ : ev_isJ w with _ | _
      · refine Or.inr (h.2.2 (j, w) (List.mem_cons_of_mem _ (List.mem_filter.mpr ⟨ev_al_mem h4 hJ, ?_⟩)))
        simp [h1, h3]
      · exact Or.inl rfl
theorem ev_L_st2 {ls ls' : Array Slot} {nL i : Nat} {lo : List Value} {v : Value} (hL : ev_L ls nL lo) (hi : i + 1 < nL)
    (h : lv_has ls' nL ((i, v) :: (ev_al lo).filter (fun q => !(q.1 == i) && (!(q.1 == i + 1) && !(q.1 + 1 == i && q.2.category == 2))))) : ev_L ls' nL ((ev_st lo i v).set (i + 1) ev_J) := by
  refine ⟨h.1, h.2.1, by rw [List.length_set]; exact ev_st_len.trans hL.2.2.1, fun j w hw => ?_⟩
  by_cases hj : j = i + 1
  · subst hj
    rw [List.getElem?_set_self (by rw [ev_st_len, hL.2.2.1]; exact hi)] at hw
    cases hw
    exact Or.inl rfl
  · rw [List.getElem?_set_ne (Ne.symm hj)] at hw
    rcases ev_st_get hw with ⟨rfl, rfl⟩ | ⟨h1, h2⟩
    · exact Or.inr (h.2.2 (j, w) List.mem_cons_self)
    · rcases h2 with ⟨h3, h4, h5⟩ | ⟨h3, h4⟩ | ⟨h3, h4⟩
      · rcases hJ : ev_isJ w with _ | _
        · refine Or.inr (h.2.2 (j, w) (List.mem_cons_of_mem _ (List.mem_filter.mpr ⟨ev_al_mem h4 hJ, ?_⟩)))
          simp [h1, h5, hj]
        · exact Or.inl rfl
      · subst h4
        exact Or.inl rfl
      · rcases hJ : ev_isJ w with _ | _
        · refine Or.inr (h.2.2 (j, w) (List.mem_cons_of_mem _ (List.mem_filter.mpr ⟨ev_al_mem h4 hJ, ?_⟩)))
          simp [h1, h3, hj]
        · exact Or.inl rfl
end
section
def ev_QC (X : ev_E) (o : ev_O) (K : ev_H) : Array Value → State → Outcome → State → Prop := fun _ st oc t => (∃ v, o = .inl v ∧ oc = .returned v) ∧ ev_R X K.1 K.2.1 t.heap ∧ ∀ a : Nat, a < X.1.heap.size → t.heap[a]? = st.heap[a]?
def ev_XC (X : ev_E) (o : ev_O) (K : ev_H) : String → State → State → Prop := fun E st t => (∃ k, o = .inr k ∧ E = ev_nm k) ∧ ev_R X K.1 K.2.1 t.heap ∧ ∀ a : Nat, a < X.1.heap.size → t.heap[a]? = st.heap[a]?
def ev_Pc (X : ev_E) (as : List Value) (K : ev_H) : Array Value → State → Prop := fun v U => v = as.toArray ∧ ev_R X K.1 K.2.1 U.heap ∧ X.1.WarmedH U.vm ∧ ∀ a : Nat, a < X.1.heap.size → U.heap[a]? = X.1.heap[a]?
def ev_wd (x : ev_I) : List Cond := match x.2.2.2.2.1 with
  | [] => [Cond.code x.1 x.2.1 x.2.2.1 x.2.2.2.1]
  | r :: hh => [Cond.codeWith x.1 x.2.1 x.2.2.1 x.2.2.2.1 (r :: hh)]
def ev_rm (x : ev_I) (mc ms : Nat) : Room := { frames := 12 + x.2.2.2.2.2, cells := mc, slots := ms, locals := 200 + 130 * x.2.2.2.2.2 }
def ev_Met (X : ev_E) (l : Launch) (x : ev_I) (as : List Value) (K : ev_H) (o : ev_O) (K' : ev_H) : Prop :=
  vx_Met l x.1 (ev_wd x) (ev_rm x (K'.2.1 - K.2.1) (K'.2.2 - K.2.2)) (ev_Pc X as K) (ev_QC X o K') (ev_XC X o K') (K'.2.1 - K.2.1) (K'.2.2 - K.2.2) (fun a => X.1.heap.size ≤ a)
/-- thrown over the frame -/
def ev_VX (X : ev_E) (x : ev_I) (p : Program) (l : Launch) (e : Env) (R : Room) (s : State) (m : MethodId) (args : Array Value) (below : List Frame) (meth : Method) (c : Code) (n0 q0 : Nat) (Q : State → Prop) (pc : Nat) (E : Nat) (lo : List Value) (K : ev_H) : Prop :=
  ∀ (H : Heap) (locs : List Loc) (ls : Array Slot) (rest : List Value) (q : Addr) (ce : Cell), ev_R X K.1 K.2.1 H → ev_L ls x.2.2.1 lo → va_S (fun a => X.1.heap.size ≤ a) s.heap H locs → H[q]? = some ce → ce.vm = .none → s.vm.findClass (ev_nm E) = some ce.cls →
    vx_W p l e R s m args below meth c H locs (K.2.1 - n0) (K.2.2 - q0) Q (F0 m pc ls rest) q
/-- a call -/
def ev_SC (X : ev_E) (l : Launch) (ms : Nat → ev_I) (x : ev_I) (tx : ev_X) (pc : Nat) (S : ev_S) (mi : Nat) (as : List Value) (pc' : Nat) (S' : ev_S) : Prop :=
  S'.2.2 = S.2.2 ∧ (ev_sl as).length ≤ (ms mi).2.2.1 ∧ ∀ (o : ev_O) (K' : ev_H), (∀ E, o = .inr E → tx pc E ≠ none) → S.2.2.2.1 ≤ K'.2.1 → S.2.2.2.2 ≤ K'.2.2 → ev_Met X l (ms mi) as S.2.2 o K' → ∀ (p : Program) (e : Env) (R : Room) (s : State) (m : MethodId) (args : Array Value) (below : List Frame) (meth : Method) (c : Code) (n0 q0 : Nat) (Q : State → Prop),
    ev_At X x p R s m meth c → n0 ≤ S.2.2.2.1 → q0 ≤ S.2.2.2.2 → K'.2.1 - n0 ≤ R.cells → K'.2.2 - q0 ≤ R.slots → (∀ v, o = .inl v → ev_V X x p l e R s m args below meth c n0 q0 Q pc' (S'.1, v.toList ++ S'.2.1, K')) → (∀ E, o = .inr E → ev_VX X x p l e R s m args below meth c n0 q0 Q pc E S'.1 K') →
    ev_V X x p l e R s m args below meth c n0 q0 Q pc S
def ev_SR (X : ev_E) (l : Launch) (x : ev_I) (pc : Nat) (S : ev_S) (v : Option Value) (K : ev_H) : Prop :=
  K = S.2.2 ∧ ∀ (p : Program) (e : Env) (R : Room) (s : State) (m : MethodId) (args : Array Value) (below : List Frame) (meth : Method) (c : Code) (n0 q0 : Nat), ev_At X x p R s m meth c →
    ev_V X x p l e R s m args below meth c n0 q0 (vx_MQ below (ev_QC X (.inl v) K) (ev_XC X (.inl v) K) args s (K.2.1 - n0) (K.2.2 - q0) (fun a => X.1.heap.size ≤ a)) pc S
def ev_ST (X : ev_E) (l : Launch) (x : ev_I) (pc : Nat) (S : ev_S) (E : Nat) (K : ev_H) : Prop :=
  K = S.2.2 ∧ ∀ (p : Program) (e : Env) (R : Room) (s : State) (m : MethodId) (args : Array Value) (below : List Frame) (meth : Method) (c : Code) (n0 q0 : Nat), ev_At X x p R s m meth c → n0 ≤ K.2.1 → q0 ≤ K.2.2 → K.2.1 + 1 - n0 ≤ R.cells → K.2.2 + 6 - q0 ≤ R.slots →
    ev_V X x p l e R s m args below meth c n0 q0 (vx_MQ below (ev_QC X (.inr E) (K.1, K.2.1 + 1, K.2.2 + 6)) (ev_XC X (.inr E) (K.1, K.2.1 + 1, K.2.2 + 6)) args s (K.2.1 + 1 - n0) (K.2.2 + 6 - q0) (fun a => X.1.heap.size ≤ a)) pc S
def ev_Sx (X : ev_E) (l : Launch) (ms : Nat → ev_I) (x : ev_I) (tx : ev_X) (pc : Nat) (S : ev_S) (y : (Nat × ev_S) ⊕ ((Nat × List Value × Nat × ev_S) ⊕ ((Option Value × ev_H) ⊕ (Nat × ev_H)))) : Prop := match y with
  | .inl z => ev_SG X l x pc S z.1 z.2
  | .inr (.inl z) => ev_SC X l ms x tx pc S z.1 z.2.1 z.2.2.1 z.2.2.2
  | .inr (.inr (.inl z)) => ev_SR X l x pc S z.1 z.2
  | .inr (.inr (.inr z)) => ev_ST X l x pc S z.1 z.2
def ev_Snd (X : ev_E) (l : Launch) (ms : Nat → ev_I) (x : ev_I) (tx : ev_X) (pc : Nat) (I : ev_S → ev_N) : Prop := ∀ (S : ev_S) y, I S = some y → ev_Sx X l ms x tx pc S y
def ev_gd (w : Cond) : Bool := match w with
  | .castable _ _ => true
  | .declares _ => true
  | .fieldLinkNest _ _ _ _ _ _ => true
  | .methodLinkNest _ _ _ _ => true
  | w => goodWord w
theorem ev_word {X : ev_E} (hG : ev_Good X) {s : State} (hW : X.1.WarmedH s.vm) {w : Cond} (hm : w ∈ lw_tbl) (hg : ev_gd w = true) (args : Array Value) : w.before args s = true := by
  have h := hG.1 w hm
  unfold ev_gd at hg
  split at hg
  · exact va_Nw.use rfl (va_Nw.warmC hW (va_Nw.of rfl h))
  · exact va_Nw.use rfl (va_Nw.warmD hW (va_Nw.of rfl h))
  · exact va_Nw.use rfl (va_Nw.warmF hW (va_Nw.of rfl h))
  · exact va_Nw.use rfl (va_Nw.warmM hW (va_Nw.of rfl h))
  · exact word_at hW (good_of_word hg) h
/-- what is read in the heap -/
theorem ev_atR_kept {X : ev_E} {a : Nat} {c : ev_C} {H H1 : Heap} (h : ev_atR X a c H) (e : H1[a]? = H[a]?) : ev_atR X a c H1 := by
  rcases c with x | x
  · obtain ⟨cell, h1, h2⟩ := h
    exact ⟨cell, e.trans h1, h2⟩
  · obtain ⟨r, cell, h0, h1, h2⟩ := h
    exact ⟨r, cell, h0, e.trans h1, h2⟩
theorem ev_atR_lt {X : ev_E} {a : Nat} {c : ev_C} {H : Heap} (h : ev_atR X a c H) : a < H.size := by
  rcases c with x | x
  · obtain ⟨cell, h1, h2⟩ := h
    exact (Array.getElem?_eq_some_iff.mp h1).1
  · obtain ⟨r, cell, h0, h1, h2⟩ := h
    exact (Array.getElem?_eq_some_iff.mp h1).1
theorem ev_atW_R {X : ev_E} {a : Nat} {c : ev_C} {H : Heap} (h : ev_atW X a c H) : ev_atR X a c H := by
  rcases c with x | x
  · exact ⟨_, h.2, rfl, fun j e => (by cases e), fun e => (by cases e), arrV_size _ _ _, fun j hj => arrV_read _ _ hj⟩
  · obtain ⟨r, h0, cell, h1, h2, h3, h4⟩ := h
    exact ⟨r, cell, h0, h1, h2, by rw [h3]; rfl, by rw [h3]; exact fun e => (by cases e), h4⟩
theorem ev_rd {X : ev_E} (hG : ev_Good X) {h : ev_M} {n a : Nat} {c : ev_C} {s : State} {H : Heap} {locs : List Loc} (hs : ∀ a : Nat, a < X.1.heap.size → s.heap[a]? = X.1.heap[a]?) (hz : X.1.heap.size ≤ s.heap.size) (hR : ev_R X h n H) (hS : va_S (fun a => X.1.heap.size ≤ a) s.heap H locs) (hc : ev_lk X h a = some c) : ev_atR X a c H := by
  unfold ev_lk at hc
  cases hx : h a with
  | some c' =>
    rw [hx] at hc
    cases hc
    exact ev_atW_R (hR.2.2 a _ hx).2
  | none =>
    rw [hx] at hc
    have h1 := hG.2.2.2.2.1 a c hc
    have h2 := ev_atR_lt h1
    exact ev_atR_kept h1 ((hS.2.1 a (Nat.lt_of_lt_of_le h2 hz) (Nat.not_le.mpr h2)).trans (hs a h2))
theorem ev_own {X : ev_E} {h : ev_M} {a : Nat} {c : ev_C} (e : h a = some c) : ev_lk X h a = some c := by unfold ev_lk; rw [e]
theorem ev_cls {X : ev_E} (hG : ev_Good X) {s : State} (hW : X.1.WarmedH s.vm) {ci : Nat} {r : vw_C} (hc : vwCl[ci]? = some r) : u_Kn s r.1 r.2.1 r.2.2 (X.2.2.1.1 ci) (X.2.2.1.2 ci) := u_Kn_moved hW.alike (hG.2.1.1 ci r hc)
def ev_cw (r : vw_C) : Prop := ∀ w ∈ u_ws r.1 r.2.1 r.2.2, w ∈ lw_tbl ∧ ev_gd w = true
theorem ev_lays {X : ev_E} (hG : ev_Good X) {s : State} (hW : X.1.WarmedH s.vm) {r : vw_C} (hr : ev_cw r) (args : Array Value) : ∀ w ∈ u_ws r.1 r.2.1 r.2.2, w.before args s = true := fun w hw => ev_word hG hW (hr w hw).1 (hr w hw).2 args
/-- the heap behind a write -/
theorem ev_atW_kept {X : ev_E} {a : Nat} {c : ev_C} {H H1 : Heap} (h : ev_atW X a c H) (e : H1[a]? = H[a]?) : ev_atW X a c H1 := by
  rcases c with x | x
  · exact ⟨h.1, e.trans h.2⟩
  · obtain ⟨r, h0, h1⟩ := h
    exact ⟨r, h0, h1.kept e⟩
theorem ev_R_up {X : ev_E} {h : ev_M} {n a : Nat} {c c0 : ev_C} {H H1 : Heap} (hR : ev_R X h n H) (h0 : h a = some c0) (hz : H1.size = H.size) (ho : ∀ q : Nat, q ≠ a → H1[q]? = H[q]?) (hc : ev_atW X a c H1) : ev_R X (ev_up h a c) n H1 := by
  refine ⟨hz.trans hR.1, hR.2.1, fun b d hd => ?_⟩
  unfold ev_up at hd
  split at hd
  · rename_i e
    subst e
    cases hd
    exact ⟨(hR.2.2 b c0 h0).1, hc⟩
  · rename_i e
    exact ⟨(hR.2.2 b d hd).1, ev_atW_kept (hR.2.2 b d hd).2 (ho b e)⟩
theorem ev_R_new {X : ev_E} {h : ev_M} {n : Nat} {c : ev_C} {H H1 : Heap} (hR : ev_R X h n H) (hz : H1.size = n + 1) (ho : ∀ q : Nat, q < n → H1[q]? = H[q]?) (hc : ev_atW X n c H1) : ev_R X (ev_up h n c) (n + 1) H1 := by
  refine ⟨hz, Nat.le_succ_of_le hR.2.1, fun b d hd => ?_⟩
  unfold ev_up at hd
  split at hd
  · rename_i e
    subst e
    cases hd
    exact ⟨hR.2.1, hc⟩
  · have h1 := hR.2.2 b d hd
    have h2 := ev_atR_lt (ev_atW_R h1.2)
    rw [hR.1] at h2
    exact ⟨h1.1, ev_atW_kept h1.2 (ho b h2)⟩
theorem ev_S_new {A : Nat → Prop} {H0 H H1 : Heap} {locs : List Loc} {n : Nat} (hS : va_S A H0 H locs) (hn : H.size = n) (hz : H1.size = n + 1) (ho : ∀ q : Nat, q < n → H1[q]? = H[q]?) : va_S A H0 H1 locs :=
  ⟨by have := hS.1; omega, fun q h1 h2 => by rw [ho q (by have := hS.1; omega)]; exact hS.2.1 q h1 h2, hS.2.2⟩
section EVI
variable {X : ev_E} {l : Launch} {ms : Nat → ev_I} {x : ev_I} {tx : ev_X} {pc : Nat}

def i_psh (v : Value) (p : Nat) : ev_S → ev_N := fun S => some (.inl (p, S.1, v :: S.2.1, S.2.2))
theorem s_iconst {n : Int} {v : Int32} (d : decode x.2.1 pc = .ok (.iconst n, 1)) (hv : Int32.ofInt n = v) : ev_Snd X l ms x tx pc (i_psh (.int v) (pc + 1)) := by
  intro S y h
  cases h
  exact ev_SG_same fun p e R s m args below meth c Q H locs cells slots ls hx hb hL k => lv_iconst hx hb d hv (k ls hL)
theorem s_bipush {n : Int} {v : Int32} (d : decode x.2.1 pc = .ok (.bipush n, 2)) (hv : (Int8.ofInt n).toInt32 = v) : ev_Snd X l ms x tx pc (i_psh (.int v) (pc + 2)) := by
  intro S y h
  cases h
  exact ev_SG_same fun p e R s m args below meth c Q H locs cells slots ls hx hb hL k => lv_bipush hx hb d hv (k ls hL)
theorem s_sipush {n : Int} {v : Int32} (d : decode x.2.1 pc = .ok (.sipush n, 3)) (hv : (Int16.ofInt n).toInt32 = v) : ev_Snd X l ms x tx pc (i_psh (.int v) (pc + 3)) := by
  intro S y h
  cases h
  exact ev_SG_same fun p e R s m args below meth c Q H locs cells slots ls hx hb hL k => lv_sipush hx hb d hv (k ls hL)
theorem s_lconst {n : Fin 2} {v : Int64} (d : decode x.2.1 pc = .ok (.lconst n, 1)) (hv : Int64.ofNat (n : Nat) = v) : ev_Snd X l ms x tx pc (i_psh (.long v) (pc + 1)) := by
  intro S y h
  cases h
  exact ev_SG_same fun p e R s m args below meth c Q H locs cells slots ls hx hb hL k => lv_lconst hx hb d hv (k ls hL)
theorem s_null (d : decode x.2.1 pc = .ok (.aconst_null, 1)) : ev_Snd X l ms x tx pc (i_psh .null (pc + 1)) := by
  intro S y h
  cases h
  exact ev_SG_same fun p e R s m args below meth c Q H locs cells slots ls hx hb hL k => lv_null hx hb d (k ls hL)
def i_il (k p : Nat) : ev_S → ev_N := fun S => match S.1[k]? with
  | some (.int v) => some (.inl (p, S.1, .int v :: S.2.1, S.2.2))
  | _ => none
theorem s_iload_n {f : Fin 4} {k : Nat} (d : decode x.2.1 pc = .ok (.iload_n f, 1)) (hi : (f : Nat) = k) : ev_Snd X l ms x tx pc (i_il k (pc + 1)) := by
  intro S y h
  unfold i_il at h
  split at h
  · rename_i v hv
    cases h
    exact ev_SG_same fun p e R s m args below meth c Q H locs cells slots ls hx hb hL k => lv_iload_n hx hb d hi (hL.get hv rfl) (k ls hL)
  · cases h
theorem s_iload {k : Nat} (d : decode x.2.1 pc = .ok (.iload k, 2)) : ev_Snd X l ms x tx pc (i_il k (pc + 2)) := by
  intro S y h
  unfold i_il at h
  split at h
  · rename_i v hv
    cases h
    exact ev_SG_same fun p e R s m args below meth c Q H locs cells slots ls hx hb hL k => lv_iload hx hb d (hL.get hv rfl) (k ls hL)
  · cases h
def i_ll (k p : Nat) : ev_S → ev_N := fun S => match S.1[k]? with
  | some (.long v) => some (.inl (p, S.1, .long v :: S.2.1, S.2.2))
  | _ => none
theorem s_lload_n {f : Fin 4} {k : Nat} (d : decode x.2.1 pc = .ok (.lload_n f, 1)) (hi : (f : Nat) = k) : ev_Snd X l ms x tx pc (i_ll k (pc + 1)) := by
  intro S y h
  unfold i_ll at h
  split at h
  · rename_i v hv
    cases h
    exact ev_SG_same fun p e R s m args below meth c Q H locs cells slots ls hx hb hL k => lv_lload_n hx hb d hi (hL.get hv rfl) (k ls hL)
  · cases h
theorem s_lload {k : Nat} (d : decode x.2.1 pc = .ok (.lload k, 2)) : ev_Snd X l ms x tx pc (i_ll k (pc + 2)) := by
  intro S y h
  unfold i_ll at h
  split at h
  · rename_i v hv
    cases h
    exact ev_SG_same fun p e R s m args below meth c Q H locs cells slots ls hx hb hL k => lv_lload hx hb d (hL.get hv rfl) (k ls hL)
  · cases h
def i_al (k p : Nat) : ev_S → ev_N := fun S => match S.1[k]? with
  | some (.ref v) => some (.inl (p, S.1, .ref v :: S.2.1, S.2.2))
  | _ => none
theorem s_aload_n {f : Fin 4} {k : Nat} (d : decode x.2.1 pc = .ok (.aload_n f, 1)) (hi : (f : Nat) = k) : ev_Snd X l ms x tx pc (i_al k (pc + 1)) := by
  intro S y h
  unfold i_al at h
  split at h
  · rename_i v hv
    cases h
    exact ev_SG_same fun p e R s m args below meth c Q H locs cells slots ls hx hb hL k => lv_aload_n hx hb d hi (hL.get hv rfl) (k ls hL)
  · cases h
theorem s_aload {k : Nat} (d : decode x.2.1 pc = .ok (.aload k, 2)) : ev_Snd X l ms x tx pc (i_al k (pc + 2)) := by
  intro S y h
  unfold i_al at h
  split at h
  · rename_i v hv
    cases h
    exact ev_SG_same fun p e R s m args below meth c Q H locs cells slots ls hx hb hL k => lv_aload hx hb d (hL.get hv rfl) (k ls hL)
  · cases h
def i_is (k p : Nat) : ev_S → ev_N := fun S => match S.2.1 with
  | .int v :: st => some (.inl (p, ev_st S.1 k (.int v), st, S.2.2))
  | _ => none
theorem s_istore_n {f : Fin 4} {k : Nat} (d : decode x.2.1 pc = .ok (.istore_n f, 1)) (hi : (f : Nat) = k) (hn : k < x.2.2.1) : ev_Snd X l ms x tx pc (i_is k (pc + 1)) := by
  intro S y h
  obtain ⟨lo, st, K⟩ := S
  unfold i_is at h
  dsimp only at h
  split at h
  · rename_i v st
    cases h
    exact ev_SG_same fun p e R s m args below meth c Q H locs cells slots ls hx hb hL k => lv_istore_n hx hb d hi (ev_al_has hL) hn rfl (fun ls' h' => k ls' (ev_L_st hL hn (Or.inr rfl) h'))
  · cases h
theorem s_istore {k : Nat} (d : decode x.2.1 pc = .ok (.istore k, 2)) (hn : k < x.2.2.1) : ev_Snd X l ms x tx pc (i_is k (pc + 2)) := by
  intro S y h
  obtain ⟨lo, st, K⟩ := S
  unfold i_is at h
  dsimp only at h
  split at h
  · rename_i v st
    cases h
    exact ev_SG_same fun p e R s m args below meth c Q H locs cells slots ls hx hb hL k => lv_istore hx hb d (ev_al_has hL) hn rfl (fun ls' h' => k ls' (ev_L_st hL hn (Or.inr rfl) h'))
  · cases h
def i_as (k p : Nat) : ev_S → ev_N := fun S => match S.2.1 with
  | .ref v :: st => some (.inl (p, ev_st S.1 k (.ref v), st, S.2.2))
  | _ => none
theorem s_astore_n {f : Fin 4} {k : Nat} (d : decode x.2.1 pc = .ok (.astore_n f, 1)) (hi : (f : Nat) = k) (hn : k < x.2.2.1) : ev_Snd X l ms x tx pc (i_as k (pc + 1)) := by
  intro S y h
  obtain ⟨lo, st, K⟩ := S
  unfold i_as at h
  dsimp only at h
  split at h
  · rename_i v st
    cases h
    exact ev_SG_same fun p e R s m args below meth c Q H locs cells slots ls hx hb hL k => lv_astore_n hx hb d hi (ev_al_has hL) hn rfl (fun ls' h' => k ls' (ev_L_st hL hn (Or.inr rfl) h'))
  · cases h
theorem s_astore {k : Nat} (d : decode x.2.1 pc = .ok (.astore k, 2)) (hn : k < x.2.2.1) : ev_Snd X l ms x tx pc (i_as k (pc + 2)) := by
  intro S y h
  obtain ⟨lo, st, K⟩ := S
  unfold i_as at h
  dsimp only at h
  split at h
  · rename_i v st
    cases h
    exact ev_SG_same fun p e R s m args below meth c Q H locs cells slots ls hx hb hL k => lv_astore hx hb d (ev_al_has hL) hn rfl (fun ls' h' => k ls' (ev_L_st hL hn (Or.inr rfl) h'))
  · cases h
def i_ls (k p : Nat) : ev_S → ev_N := fun S => match S.2.1 with
  | .long v :: st => some (.inl (p, (ev_st S.1 k (.long v)).set (k + 1) ev_J, st, S.2.2))
  | _ => none
theorem s_lstore_n {f : Fin 4} {k : Nat} (d : decode x.2.1 pc = .ok (.lstore_n f, 1)) (hi : (f : Nat) = k) (hn : k + 1 < x.2.2.1) : ev_Snd X l ms x tx pc (i_ls k (pc + 1)) := by
  intro S y h
  obtain ⟨lo, st, K⟩ := S
  unfold i_ls at h
  dsimp only at h
  split at h
  · rename_i v st
    cases h
    exact ev_SG_same fun p e R s m args below meth c Q H locs cells slots ls hx hb hL k => lv_lstore_n hx hb d hi (ev_al_has hL) hn rfl (fun ls' h' => k ls' (ev_L_st2 hL hn h'))
  · cases h
theorem s_lstore {k : Nat} (d : decode x.2.1 pc = .ok (.lstore k, 2)) (hn : k + 1 < x.2.2.1) : ev_Snd X l ms x tx pc (i_ls k (pc + 2)) := by
  intro S y h
  obtain ⟨lo, st, K⟩ := S
  unfold i_ls at h
  dsimp only at h
  split at h
  · rename_i v st
    cases h
    exact ev_SG_same fun p e R s m args below meth c Q H locs cells slots ls hx hb hL k => lv_lstore hx hb d (ev_al_has hL) hn rfl (fun ls' h' => k ls' (ev_L_st2 hL hn h'))
  · cases h
def i_inc (k : Nat) (n : Int32) (p : Nat) : ev_S → ev_N := fun S => match S.1[k]? with
  | some (.int v) => some (.inl (p, ev_st S.1 k (.int (v + n)), S.2.1, S.2.2))
  | _ => none
theorem s_iinc {k : Nat} {n : Int} {n' : Int32} (d : decode x.2.1 pc = .ok (.iinc k n, 3)) (hn' : Int32.ofInt n = n') (hn : k < x.2.2.1) : ev_Snd X l ms x tx pc (i_inc k n' (pc + 3)) := by
  intro S y h
  obtain ⟨lo, st, K⟩ := S
  unfold i_inc at h
  dsimp only at h
  split at h
  · rename_i v hv
    cases h
    refine ev_SG_same fun p e R s m args below meth c Q H locs cells slots ls hx hb hL kk => ?_
    obtain ⟨j, hj⟩ := List.getElem?_of_mem (ev_al_mem hv rfl)
    exact lv_iinc (v := v + n') hx hb d (ev_al_has hL) hj (by rw [hn']) hn rfl (fun ls' h' => kk ls' (ev_L_st hL hn (Or.inr rfl) h'))
  · cases h
def i_goto (p : Nat) : ev_S → ev_N := fun S => some (.inl (p, S))
theorem s_goto {off : Int} {tgt : Nat} (d : decode x.2.1 pc = .ok (.goto off, 3)) (ht : (pc : Int) + off = (tgt : Int)) : ev_Snd X l ms x tx pc (i_goto tgt) := by
  intro S y h
  cases h
  exact ev_SG_same fun p e R s m args below meth c Q H locs cells slots ls hx hb hL k => lv_goto hx hb d ht (k ls hL)
def i_ii (f : Int32 → Int32 → Int32) (p : Nat) : ev_S → ev_N := fun S => match S.2.1 with
  | .int b :: .int a :: st => some (.inl (p, S.1, .int (f a b) :: st, S.2.2))
  | _ => none
noncomputable def i_iid (f : Int32 → Int32 → Int32) (p : Nat) : ev_S → ev_N := fun S => match S.2.1 with
  | .int b :: .int a :: st => ev_if (¬ b = 0) (some (.inl (p, S.1, .int (f a b) :: st, S.2.2)))
  | _ => none
def i_i1 (f : Int32 → Int32) (p : Nat) : ev_S → ev_N := fun S => match S.2.1 with
  | .int a :: st => some (.inl (p, S.1, .int (f a) :: st, S.2.2))
  | _ => none
def i_l2 (f : Int64 → Int64 → Int64) (p : Nat) : ev_S → ev_N := fun S => match S.2.1 with
  | .long b :: .long a :: st => some (.inl (p, S.1, .long (f a b) :: st, S.2.2))
  | _ => none
def i_i2l (p : Nat) : ev_S → ev_N := fun S => match S.2.1 with
  | .int a :: st => some (.inl (p, S.1, .long a.toInt64 :: st, S.2.2))
  | _ => none
theorem s_iadd (d : decode x.2.1 pc = .ok (.iadd, 1)) : ev_Snd X l ms x tx pc (i_ii (fun a b => a + b) (pc + 1)) := by
  intro S y h
  obtain ⟨lo, st, K⟩ := S
  unfold i_ii at h
  dsimp only at h
  split at h
  · cases h
    exact ev_SG_same fun p e R s m args below meth c Q H locs cells slots ls hx hb hL k => lv_iadd hx hb d (k ls hL)
  · cases h
theorem s_isub (d : decode x.2.1 pc = .ok (.isub, 1)) : ev_Snd X l ms x tx pc (i_ii (fun a b => a - b) (pc + 1)) := by
  intro S y h
  obtain ⟨lo, st, K⟩ := S
  unfold i_ii at h
  dsimp only at h
  split at h
  · cases h
    exact ev_SG_same fun p e R s m args below meth c Q H locs cells slots ls hx hb hL k => lv_isub hx hb d (k ls hL)
  · cases h
theorem s_imul (d : decode x.2.1 pc = .ok (.imul, 1)) : ev_Snd X l ms x tx pc (i_ii (fun a b => a * b) (pc + 1)) := by
  intro S y h
  obtain ⟨lo, st, K⟩ := S
  unfold i_ii at h
  dsimp only at h
  split at h
  · cases h
    exact ev_SG_same fun p e R s m args below meth c Q H locs cells slots ls hx hb hL k => lv_imul hx hb d (k ls hL)
  · cases h
theorem s_iand (d : decode x.2.1 pc = .ok (.iand, 1)) : ev_Snd X l ms x tx pc (i_ii (fun a b => a &&& b) (pc + 1)) := by
  intro S y h
  obtain ⟨lo, st, K⟩ := S
  unfold i_ii at h
  dsimp only at h
  split at h
  · cases h
    exact ev_SG_same fun p e R s m args below meth c Q H locs cells slots ls hx hb hL k => lv_iand hx hb d (k ls hL)
  · cases h
theorem s_ior (d : decode x.2.1 pc = .ok (.ior, 1)) : ev_Snd X l ms x tx pc (i_ii (fun a b => a ||| b) (pc + 1)) := by
  intro S y h
  obtain ⟨lo, st, K⟩ := S
  unfold i_ii at h
  dsimp only at h
  split at h
  · cases h
    exact ev_SG_same fun p e R s m args below meth c Q H locs cells slots ls hx hb hL k => lv_ior hx hb d (k ls hL)
  · cases h
theorem s_ishl (d : decode x.2.1 pc = .ok (.ishl, 1)) : ev_Snd X l ms x tx pc (i_ii (fun a b => a <<< (b &&& 31)) (pc + 1)) := by
  intro S y h
  obtain ⟨lo, st, K⟩ := S
  unfold i_ii at h
  dsimp only at h
  split at h
  · cases h
    exact ev_SG_same fun p e R s m args below meth c Q H locs cells slots ls hx hb hL k => lv_ishl hx hb d (k ls hL)
  · cases h
theorem s_ishr (d : decode x.2.1 pc = .ok (.ishr, 1)) : ev_Snd X l ms x tx pc (i_ii (fun a b => a >>> (b &&& 31)) (pc + 1)) := by
  intro S y h
  obtain ⟨lo, st, K⟩ := S
  unfold i_ii at h
  dsimp only at h
  split at h
  · cases h
    exact ev_SG_same fun p e R s m args below meth c Q H locs cells slots ls hx hb hL k => lv_ishr hx hb d (k ls hL)
  · cases h
theorem s_iushr (d : decode x.2.1 pc = .ok (.iushr, 1)) : ev_Snd X l ms x tx pc (i_ii (fun a b => (a.toUInt32 >>> (b.toUInt32 &&& Int32.toUInt32 31)).toInt32) (pc + 1)) := by
  intro S y h
  obtain ⟨lo, st, K⟩ := S
  unfold i_ii at h
  dsimp only at h
  split at h
  · cases h
    exact ev_SG_same fun p e R s m args below meth c Q H locs cells slots ls hx hb hL k => lv_iushr hx hb d rfl (k ls hL)
  · cases h
theorem s_idiv (d : decode x.2.1 pc = .ok (.idiv, 1)) : ev_Snd X l ms x tx pc (i_iid (fun a b => a / b) (pc + 1)) := by
  intro S y h
  obtain ⟨lo, st, K⟩ := S
  unfold i_iid at h
  dsimp only at h
  split at h
  · obtain ⟨hne, h⟩ := ev_if_s h
    cases h
    exact ev_SG_same fun p e R s m args below meth c Q H locs cells slots ls hx hb hL k => lv_idiv hx hb d hne (k ls hL)
  · cases h
theorem s_irem (d : decode x.2.1 pc = .ok (.irem, 1)) : ev_Snd X l ms x tx pc (i_iid (fun a b => a - a / b * b) (pc + 1)) := by
  intro S y h
  obtain ⟨lo, st, K⟩ := S
  unfold i_iid at h
  dsimp only at h
  split at h
  · obtain ⟨hne, h⟩ := ev_if_s h
    cases h
    exact ev_SG_same fun p e R s m args below meth c Q H locs cells slots ls hx hb hL k => lv_irem hx hb d hne (k ls hL)
  · cases h
theorem s_ineg (d : decode x.2.1 pc = .ok (.ineg, 1)) : ev_Snd X l ms x tx pc (i_i1 (fun a => -a) (pc + 1)) := by
  intro S y h
  obtain ⟨lo, st, K⟩ := S
  unfold i_i1 at h
  dsimp only at h
  split at h
  · cases h
    exact ev_SG_same fun p e R s m args below meth c Q H locs cells slots ls hx hb hL k => lv_ineg hx hb d (k ls hL)
  · cases h
theorem s_i2b (d : decode x.2.1 pc = .ok (.i2b, 1)) : ev_Snd X l ms x tx pc (i_i1 (fun a => a.toInt8.toInt32) (pc + 1)) := by
  intro S y h
  obtain ⟨lo, st, K⟩ := S
  unfold i_i1 at h
  dsimp only at h
  split at h
  · cases h
    exact ev_SG_same fun p e R s m args below meth c Q H locs cells slots ls hx hb hL k => lv_i2b hx hb d rfl (k ls hL)
  · cases h
theorem s_i2c (d : decode x.2.1 pc = .ok (.i2c, 1)) : ev_Snd X l ms x tx pc (i_i1 (fun a => (a.toUInt32 % 65536).toInt32) (pc + 1)) := by
  intro S y h
  obtain ⟨lo, st, K⟩ := S
  unfold i_i1 at h
  dsimp only at h
  split at h
  · cases h
    exact ev_SG_same fun p e R s m args below meth c Q H locs cells slots ls hx hb hL k => lv_i2c hx hb d rfl (k ls hL)
  · cases h
theorem s_ladd (d : decode x.2.1 pc = .ok (.ladd, 1)) : ev_Snd X l ms x tx pc (i_l2 (fun a b => a + b) (pc + 1)) := by
  intro S y h
  obtain ⟨lo, st, K⟩ := S
  unfold i_l2 at h
  dsimp only at h
  split at h
  · cases h
    exact ev_SG_same fun p e R s m args below meth c Q H locs cells slots ls hx hb hL k => lv_ladd hx hb d (k ls hL)
  · cases h
theorem s_lmul (d : decode x.2.1 pc = .ok (.lmul, 1)) : ev_Snd X l ms x tx pc (i_l2 (fun a b => a * b) (pc + 1)) := by
  intro S y h
  obtain ⟨lo, st, K⟩ := S
  unfold i_l2 at h
  dsimp only at h
  split at h
  · cases h
    exact ev_SG_same fun p e R s m args below meth c Q H locs cells slots ls hx hb hL k => lv_lmul hx hb d (k ls hL)
  · cases h
theorem s_i2l (d : decode x.2.1 pc = .ok (.i2l, 1)) : ev_Snd X l ms x tx pc (i_i2l (pc + 1)) := by
  intro S y h
  obtain ⟨lo, st, K⟩ := S
  unfold i_i2l at h
  dsimp only at h
  split at h
  · cases h
    exact ev_SG_same fun p e R s m args below meth c Q H locs cells slots ls hx hb hL k => lv_i2l hx hb d rfl (k ls hL)
  · cases h
def ev_c1 (v : Value) : Bool := match v with
  | .long _ => false
  | .double _ => false
  | _ => true
theorem ev_c1_cat {v : Value} (h : ev_c1 v = true) : v.category = 1 := by cases v <;> first | rfl | cases h
def i_dup (p : Nat) : ev_S → ev_N := fun S => match S.2.1 with
  | a :: st => bif ev_c1 a then some (.inl (p, S.1, a :: a :: st, S.2.2)) else none
  | _ => none
def i_pop (p : Nat) : ev_S → ev_N := fun S => match S.2.1 with
  | a :: st => bif ev_c1 a then some (.inl (p, S.1, st, S.2.2)) else none
  | _ => none
def i_dx1 (p : Nat) : ev_S → ev_N := fun S => match S.2.1 with
  | a :: b :: st => bif ev_c1 a && ev_c1 b then some (.inl (p, S.1, a :: b :: a :: st, S.2.2)) else none
  | _ => none
def i_dx2 (p : Nat) : ev_S → ev_N := fun S => match S.2.1 with
  | a :: b :: c :: st => bif ev_c1 a && ev_c1 b && ev_c1 c then some (.inl (p, S.1, a :: b :: c :: a :: st, S.2.2)) else none
  | _ => none
def i_d2 (p : Nat) : ev_S → ev_N := fun S => match S.2.1 with
  | a :: b :: st => bif ev_c1 a && ev_c1 b then some (.inl (p, S.1, a :: b :: a :: b :: st, S.2.2)) else none
  | _ => none
def i_pop2l (p : Nat) : ev_S → ev_N := fun S => match S.2.1 with
  | .long _ :: st => some (.inl (p, S.1, st, S.2.2))
  | _ => none
theorem s_dup (d : decode x.2.1 pc = .ok (.dup, 1)) : ev_Snd X l ms x tx pc (i_dup (pc + 1)) := by
  intro S y h
  obtain ⟨lo, st, K⟩ := S
  unfold i_dup at h
  dsimp only at h
  split at h
  · rename_i a st
    cases ha : ev_c1 a <;> rw [ha] at h <;> cases h
    exact ev_SG_same fun p e R s m args below meth c Q H locs cells slots ls hx hb hL k => lv_dup hx hb d (ev_c1_cat ha) (k ls hL)
  · cases h
theorem s_pop (d : decode x.2.1 pc = .ok (.pop, 1)) : ev_Snd X l ms x tx pc (i_pop (pc + 1)) := by
  intro S y h
  obtain ⟨lo, st, K⟩ := S
  unfold i_pop at h
  dsimp only at h
  split at h
  · rename_i a st
    cases ha : ev_c1 a <;> rw [ha] at h <;> cases h
    exact ev_SG_same fun p e R s m args below meth c Q H locs cells slots ls hx hb hL k => lv_pop hx hb d (ev_c1_cat ha) (k ls hL)
  · cases h
theorem s_dup_x1 (d : decode x.2.1 pc = .ok (.dup_x1, 1)) : ev_Snd X l ms x tx pc (i_dx1 (pc + 1)) := by
  intro S y h
  obtain ⟨lo, st, K⟩ := S
  unfold i_dx1 at h
  dsimp only at h
  split at h
  · rename_i a b st
    cases ha : ev_c1 a <;> cases hb : ev_c1 b <;> rw [ha, hb] at h <;> cases h
    exact ev_SG_same fun p e R s m args below meth c Q H locs cells slots ls hx hb' hL k => lv_dup_x1 hx hb' d (ev_c1_cat ha) (ev_c1_cat hb) (k ls hL)
  · cases h
theorem s_dup_x2 (d : decode x.2.1 pc = .ok (.dup_x2, 1)) : ev_Snd X l ms x tx pc (i_dx2 (pc + 1)) := by
  intro S y h
  obtain ⟨lo, st, K⟩ := S
  unfold i_dx2 at h
  dsimp only at h
  split at h
  · rename_i a b c st
    cases ha : ev_c1 a <;> cases hb : ev_c1 b <;> cases hc : ev_c1 c <;> rw [ha, hb, hc] at h <;> cases h
    exact ev_SG_same fun p e R s m args below meth c Q H locs cells slots ls hx hb' hL k => lv_dup_x2 hx hb' d (ev_c1_cat ha) (ev_c1_cat hb) (ev_c1_cat hc) (k ls hL)
  · cases h
theorem s_dup2 (d : decode x.2.1 pc = .ok (.dup2, 1)) : ev_Snd X l ms x tx pc (i_d2 (pc + 1)) := by
  intro S y h
  obtain ⟨lo, st, K⟩ := S
  unfold i_d2 at h
  dsimp only at h
  split at h
  · rename_i a b st
    cases ha : ev_c1 a <;> cases hb : ev_c1 b <;> rw [ha, hb] at h <;> cases h
    exact ev_SG_same fun p e R s m args below meth c Q H locs cells slots ls hx hb' hL k => lv_dup2_11 hx hb' d (ev_c1_cat ha) (ev_c1_cat hb) (k ls hL)
  · cases h
theorem s_pop2 (d : decode x.2.1 pc = .ok (.pop2, 1)) : ev_Snd X l ms x tx pc (i_pop2l (pc + 1)) := by
  intro S y h
  obtain ⟨lo, st, K⟩ := S
  unfold i_pop2l at h
  dsimp only at h
  split at h
  · cases h
    exact ev_SG_same fun p e R s m args below meth c Q H locs cells slots ls hx hb hL k => lv_pop2_2 hx hb d rfl (k ls hL)
  · cases h
def i_ifeq (t f : Nat) : ev_S → ev_N := fun S => match S.2.1 with
  | .int a :: st => some (.inl ((if a = 0 then t else f), S.1, st, S.2.2))
  | _ => none
theorem s_ifeq {off : Int} {tgt : Nat} (d : decode x.2.1 pc = .ok (.ifCond .eq off, 3)) (ht : (pc : Int) + off = (tgt : Int)) : ev_Snd X l ms x tx pc (i_ifeq tgt (pc + 3)) := by
  intro S y h
  obtain ⟨lo, st, K⟩ := S
  unfold i_ifeq at h
  dsimp only at h
  split at h
  · rename_i a st
    cases h
    exact ev_SG_same fun p e R s m args below meth c Q H locs cells slots ls hx hb hL k => lv_if_eq hx hb d ht (fun q => by have k2 := k ls hL; rw [if_pos q] at k2; exact k2) (fun q => by have k2 := k ls hL; rw [if_neg q] at k2; exact k2)
  · cases h
def i_iceq (t f : Nat) : ev_S → ev_N := fun S => match S.2.1 with
  | .int b :: .int a :: st => some (.inl ((if a = b then t else f), S.1, st, S.2.2))
  | _ => none
theorem s_iceq {off : Int} {tgt : Nat} (d : decode x.2.1 pc = .ok (.if_icmp .eq off, 3)) (ht : (pc : Int) + off = (tgt : Int)) : ev_Snd X l ms x tx pc (i_iceq tgt (pc + 3)) := by
  intro S y h
  obtain ⟨lo, st, K⟩ := S
  unfold i_iceq at h
  dsimp only at h
  split at h
  · rename_i b a st
    cases h
    exact ev_SG_same fun p e R s m args below meth c Q H locs cells slots ls hx hb hL k => lv_icmp_eq hx hb d ht (fun q => by have k2 := k ls hL; rw [if_pos q] at k2; exact k2) (fun q => by have k2 := k ls hL; rw [if_neg q] at k2; exact k2)
  · cases h
def i_ifne (t f : Nat) : ev_S → ev_N := fun S => match S.2.1 with
  | .int a :: st => some (.inl ((if ¬ a = 0 then t else f), S.1, st, S.2.2))
  | _ => none
theorem s_ifne {off : Int} {tgt : Nat} (d : decode x.2.1 pc = .ok (.ifCond .ne off, 3)) (ht : (pc : Int) + off = (tgt : Int)) : ev_Snd X l ms x tx pc (i_ifne tgt (pc + 3)) := by
  intro S y h
  obtain ⟨lo, st, K⟩ := S
  unfold i_ifne at h
  dsimp only at h
  split at h
  · rename_i a st
    cases h
    exact ev_SG_same fun p e R s m args below meth c Q H locs cells slots ls hx hb hL k => lv_if_ne hx hb d ht (fun q => by have k2 := k ls hL; rw [if_pos q] at k2; exact k2) (fun q => by have k2 := k ls hL; rw [if_neg (not_not_intro q)] at k2; exact k2)
  · cases h
def i_icne (t f : Nat) : ev_S → ev_N := fun S => match S.2.1 with
  | .int b :: .int a :: st => some (.inl ((if ¬ a = b then t else f), S.1, st, S.2.2))
  | _ => none
theorem s_icne {off : Int} {tgt : Nat} (d : decode x.2.1 pc = .ok (.if_icmp .ne off, 3)) (ht : (pc : Int) + off = (tgt : Int)) : ev_Snd X l ms x tx pc (i_icne tgt (pc + 3)) := by
  intro S y h
  obtain ⟨lo, st, K⟩ := S
  unfold i_icne at h
  dsimp only at h
  split at h
  · rename_i b a st
    cases h
    exact ev_SG_same fun p e R s m args below meth c Q H locs cells slots ls hx hb hL k => lv_icmp_ne hx hb d ht (fun q => by have k2 := k ls hL; rw [if_pos q] at k2; exact k2) (fun q => by have k2 := k ls hL; rw [if_neg (not_not_intro q)] at k2; exact k2)
  · cases h
def i_iflt (t f : Nat) : ev_S → ev_N := fun S => match S.2.1 with
  | .int a :: st => some (.inl ((if a < 0 then t else f), S.1, st, S.2.2))
  | _ => none
theorem s_iflt {off : Int} {tgt : Nat} (d : decode x.2.1 pc = .ok (.ifCond .lt off, 3)) (ht : (pc : Int) + off = (tgt : Int)) : ev_Snd X l ms x tx pc (i_iflt tgt (pc + 3)) := by
  intro S y h
  obtain ⟨lo, st, K⟩ := S
  unfold i_iflt at h
  dsimp only at h
  split at h
  · rename_i a st
    cases h
    exact ev_SG_same fun p e R s m args below meth c Q H locs cells slots ls hx hb hL k => lv_if_lt hx hb d ht (fun q => by have k2 := k ls hL; rw [if_pos q] at k2; exact k2) (fun q => by have k2 := k ls hL; rw [if_neg q] at k2; exact k2)
  · cases h
def i_iclt (t f : Nat) : ev_S → ev_N := fun S => match S.2.1 with
  | .int b :: .int a :: st => some (.inl ((if a < b then t else f), S.1, st, S.2.2))
  | _ => none
theorem s_iclt {off : Int} {tgt : Nat} (d : decode x.2.1 pc = .ok (.if_icmp .lt off, 3)) (ht : (pc : Int) + off = (tgt : Int)) : ev_Snd X l ms x tx pc (i_iclt tgt (pc + 3)) := by
  intro S y h
  obtain ⟨lo, st, K⟩ := S
  unfold i_iclt at h
  dsimp only at h
  split at h
  · rename_i b a st
    cases h
    exact ev_SG_same fun p e R s m args below meth c Q H locs cells slots ls hx hb hL k => lv_icmp_lt hx hb d ht (fun q => by have k2 := k ls hL; rw [if_pos q] at k2; exact k2) (fun q => by have k2 := k ls hL; rw [if_neg q] at k2; exact k2)
  · cases h
def i_ifge (t f : Nat) : ev_S → ev_N := fun S => match S.2.1 with
  | .int a :: st => some (.inl ((if 0 ≤ a then t else f), S.1, st, S.2.2))
  | _ => none
theorem s_ifge {off : Int} {tgt : Nat} (d : decode x.2.1 pc = .ok (.ifCond .ge off, 3)) (ht : (pc : Int) + off = (tgt : Int)) : ev_Snd X l ms x tx pc (i_ifge tgt (pc + 3)) := by
  intro S y h
  obtain ⟨lo, st, K⟩ := S
  unfold i_ifge at h
  dsimp only at h
  split at h
  · rename_i a st
    cases h
    exact ev_SG_same fun p e R s m args below meth c Q H locs cells slots ls hx hb hL k => lv_if_ge hx hb d ht (fun q => by have k2 := k ls hL; rw [if_pos q] at k2; exact k2) (fun q => by have k2 := k ls hL; rw [if_neg q] at k2; exact k2)
  · cases h
def i_icge (t f : Nat) : ev_S → ev_N := fun S => match S.2.1 with
  | .int b :: .int a :: st => some (.inl ((if b ≤ a then t else f), S.1, st, S.2.2))
  | _ => none
theorem s_icge {off : Int} {tgt : Nat} (d : decode x.2.1 pc = .ok (.if_icmp .ge off, 3)) (ht : (pc : Int) + off = (tgt : Int)) : ev_Snd X l ms x tx pc (i_icge tgt (pc + 3)) := by
  intro S y h
  obtain ⟨lo, st, K⟩ := S
  unfold i_icge at h
  dsimp only at h
  split at h
  · rename_i b a st
    cases h
    exact ev_SG_same fun p e R s m args below meth c Q H locs cells slots ls hx hb hL k => lv_icmp_ge hx hb d ht (fun q => by have k2 := k ls hL; rw [if_pos q] at k2; exact k2) (fun q => by have k2 := k ls hL; rw [if_neg q] at k2; exact k2)
  · cases h
def i_ifgt (t f : Nat) : ev_S → ev_N := fun S => match S.2.1 with
  | .int a :: st => some (.inl ((if 0 < a then t else f), S.1, st, S.2.2))
  | _ => none
theorem s_ifgt {off : Int} {tgt : Nat} (d : decode x.2.1 pc = .ok (.ifCond .gt off, 3)) (ht : (pc : Int) + off = (tgt : Int)) : ev_Snd X l ms x tx pc (i_ifgt tgt (pc + 3)) := by
  intro S y h
  obtain ⟨lo, st, K⟩ := S
  unfold i_ifgt at h
  dsimp only at h
  split at h
  · rename_i a st
    cases h
    exact ev_SG_same fun p e R s m args below meth c Q H locs cells slots ls hx hb hL k => lv_if_gt hx hb d ht (fun q => by have k2 := k ls hL; rw [if_pos q] at k2; exact k2) (fun q => by have k2 := k ls hL; rw [if_neg q] at k2; exact k2)
  · cases h
def i_icgt (t f : Nat) : ev_S → ev_N := fun S => match S.2.1 with
  | .int b :: .int a :: st => some (.inl ((if b < a then t else f), S.1, st, S.2.2))
  | _ => none
theorem s_icgt {off : Int} {tgt : Nat} (d : decode x.2.1 pc = .ok (.if_icmp .gt off, 3)) (ht : (pc : Int) + off = (tgt : Int)) : ev_Snd X l ms x tx pc (i_icgt tgt (pc + 3)) := by
  intro S y h
  obtain ⟨lo, st, K⟩ := S
  unfold i_icgt at h
  dsimp only at h
  split at h
  · rename_i b a st
    cases h
    exact ev_SG_same fun p e R s m args below meth c Q H locs cells slots ls hx hb hL k => lv_icmp_gt hx hb d ht (fun q => by have k2 := k ls hL; rw [if_pos q] at k2; exact k2) (fun q => by have k2 := k ls hL; rw [if_neg q] at k2; exact k2)
  · cases h
def i_ifle (t f : Nat) : ev_S → ev_N := fun S => match S.2.1 with
  | .int a :: st => some (.inl ((if a ≤ 0 then t else f), S.1, st, S.2.2))
  | _ => none
theorem s_ifle {off : Int} {tgt : Nat} (d : decode x.2.1 pc = .ok (.ifCond .le off, 3)) (ht : (pc : Int) + off = (tgt : Int)) : ev_Snd X l ms x tx pc (i_ifle tgt (pc + 3)) := by
  intro S y h
  obtain ⟨lo, st, K⟩ := S
  unfold i_ifle at h
  dsimp only at h
  split at h
  · rename_i a st
    cases h
    exact ev_SG_same fun p e R s m args below meth c Q H locs cells slots ls hx hb hL k => lv_if_le hx hb d ht (fun q => by have k2 := k ls hL; rw [if_pos q] at k2; exact k2) (fun q => by have k2 := k ls hL; rw [if_neg q] at k2; exact k2)
  · cases h
def i_icle (t f : Nat) : ev_S → ev_N := fun S => match S.2.1 with
  | .int b :: .int a :: st => some (.inl ((if a ≤ b then t else f), S.1, st, S.2.2))
  | _ => none
theorem s_icle {off : Int} {tgt : Nat} (d : decode x.2.1 pc = .ok (.if_icmp .le off, 3)) (ht : (pc : Int) + off = (tgt : Int)) : ev_Snd X l ms x tx pc (i_icle tgt (pc + 3)) := by
  intro S y h
  obtain ⟨lo, st, K⟩ := S
  unfold i_icle at h
  dsimp only at h
  split at h
  · rename_i b a st
    cases h
    exact ev_SG_same fun p e R s m args below meth c Q H locs cells slots ls hx hb hL k => lv_icmp_le hx hb d ht (fun q => by have k2 := k ls hL; rw [if_pos q] at k2; exact k2) (fun q => by have k2 := k ls hL; rw [if_neg q] at k2; exact k2)
  · cases h
end EVI
end
section
section EVH
variable {X : ev_E} {l : Launch} {ms : Nat → ev_I} {x : ev_I} {tx : ev_X} {pc : Nat}
/-! fields -/
def ev_isO (c : Option ev_C) (ci k : Nat) : Prop := ∃ fs : List Value, c = some (.inr (ci, fs)) ∧ k < fs.length
def ev_fG (c : Option ev_C) (k : Nat) : Value := match c with
  | some (.inr z) => vp_V z.2 k
  | _ => .null
def ev_fS (c : Option ev_C) (k : Nat) (v : Value) : ev_C := match c with
  | some (.inr z) => .inr (z.1, z.2.set k v)
  | _ => .inr (0, [])
noncomputable def i_gf (X : ev_E) (ci k p : Nat) : ev_S → ev_N := fun S => match S.2.1 with
  | .ref a :: st => ev_if (ev_isO (ev_lk X S.2.2.1 a) ci k) (some (.inl (p, S.1, ev_fG (ev_lk X S.2.2.1 a) k :: st, S.2.2)))
  | _ => none
theorem ev_getf (hG : ev_Good X) {ci k : Nat} {r : vw_C} (hc : vwCl[ci]? = some r) (hr : ev_cw r) (hk : k < r.2.2) {lo st : List Value} {K : ev_H} {a : Nat} {fs : List Value} (he : ev_lk X K.1 a = some (.inr (ci, fs)))
    (row : ∀ (p : Program) (e : Env) (R : Room) (s : State) (m : MethodId) (args : Array Value) (below : List Frame) (meth : Method) (c : Code) (Q : State → Prop) (H : Heap) (locs : List Loc) (cells slots : Nat) (ls : Array Slot), ev_At X x p R s m meth c → ∀ (cf i : Nat) (kc : Class) (f : Field) (cell : Cell) (v : Value), s.fieldFound? (r.2.1 k).1 (r.2.1 k).2.1 (r.2.1 k).2.2.1 = some (cf, kc, i, f) → f.isStatic = false → H[a]? = some cell → cell.vm ≠ .unknown → cell.slots[f.slot]? = some v →
      W p l e R s m args below meth c H locs cells slots Q (F0 m (pc + 3) ls (v :: st)) → W p l e R s m args below meth c H locs cells slots Q (F0 m pc ls (.ref a :: st))) :
    ev_SG X l x pc (lo, .ref a :: st, K) (pc + 3) (lo, vp_V fs k :: st, K) := by
  refine ⟨Nat.le_refl _, Nat.le_refl _, fun p e R s m args below meth c n0 q0 Q hA h1 h2 h3 h4 kk => ?_⟩
  intro H locs ls hR hL hS
  have hA' := hA
  obtain ⟨hx, hb, hml, hown, hret, hlk, hnm, htab, hW, hbel, hz, hfr, hlo⟩ := hA
  obtain ⟨r', cell, e1, e2, e3, e4, e5, e6⟩ := ev_rd hG hbel hz hR hS he
  cases e1.symm.trans hc
  obtain ⟨hS1, hfc, kC, hkC, hkind⟩ := ev_cls hG hW hc
  obtain ⟨cf, kf, fi, f, hi, hsl⟩ := hS1 k hk
  have hst := (u_facts hfc hkC (u_lays (N := r.2.2) (ev_lays hG hW hr args) (fun w h => h) hk) hi).1
  exact row p e R s m args below meth c Q H locs _ _ ls hA' cf fi kf f cell _ hi hst e2 e5 (by rw [hsl]; exact e6 k hk) (kk H locs ls hR hL hS)
theorem s_getfield (hG : ev_Good X) {ci k idx : Nat} {r : vw_C} {ref : String} (hc : vwCl[ci]? = some r) (hr : ev_cw r) (hk : k < r.2.2) (hw : Cond.fieldLink x.1.cls idx ref (r.2.1 k).2.1 (r.2.1 k).2.2.1 ∈ lw_tbl) (hg : ev_gd (Cond.fieldLink x.1.cls idx ref (r.2.1 k).2.1 (r.2.1 k).2.2.1) = true)
    (hs : ref = (r.2.1 k).1 ∨ (Cond.sameField ref (r.2.1 k).1 (r.2.1 k).2.1 (r.2.1 k).2.2.1 ∈ lw_tbl ∧ ev_gd (Cond.sameField ref (r.2.1 k).1 (r.2.1 k).2.1 (r.2.1 k).2.2.1) = true)) (d : decode x.2.1 pc = .ok (.getfield idx, 3)) : ev_Snd X l ms x tx pc (i_gf X ci k (pc + 3)) := by
  intro S y h
  obtain ⟨lo, st, K⟩ := S
  unfold i_gf at h
  dsimp only at h
  split at h
  · rename_i a st
    obtain ⟨⟨fs, he, hkl⟩, h⟩ := ev_if_s h
    cases h
    show ev_SG X l x pc _ _ _
    dsimp only
    rw [he]
    refine ev_getf hG hc hr hk he fun p e R s m args below meth c Q H locs cells slots ls hA cf i kc f cell v hi hst hcell hkn hsl kk => ?_
    refine W.getf (cf := cf) (i := i) (k := kc) (f := f) hA.1 hA.2.1 hA.2.2.2.1 (ev_word hG hA.2.2.2.2.2.2.2.2.1 hw hg args) ?_ hst hcell hkn hsl rfl rfl d kk
    rcases hs with rfl | ⟨h1, h2⟩
    · exact hi
    · exact u_same (ev_word hG hA.2.2.2.2.2.2.2.2.1 h1 h2 args) _ hi
  · cases h
theorem s_getfieldN (hG : ev_Good X) {ci k idx : Nat} {r : vw_C} {host : String} (hc : vwCl[ci]? = some r) (hr : ev_cw r) (hk : k < r.2.2) (hw : Cond.fieldLinkNest x.1.cls idx (r.2.1 k).1 (r.2.1 k).2.1 (r.2.1 k).2.2.1 host ∈ lw_tbl) (hg : ev_gd (Cond.fieldLinkNest x.1.cls idx (r.2.1 k).1 (r.2.1 k).2.1 (r.2.1 k).2.2.1 host) = true)
    (d : decode x.2.1 pc = .ok (.getfield idx, 3)) : ev_Snd X l ms x tx pc (i_gf X ci k (pc + 3)) := by
  intro S y h
  obtain ⟨lo, st, K⟩ := S
  unfold i_gf at h
  dsimp only at h
  split at h
  · rename_i a st
    obtain ⟨⟨fs, he, hkl⟩, h⟩ := ev_if_s h
    cases h
    show ev_SG X l x pc _ _ _
    dsimp only
    rw [he]
    refine ev_getf hG hc hr hk he fun p e R s m args below meth c Q H locs cells slots ls hA cf i kc f cell v hi hst hcell hkn hsl kk => ?_
    exact va_Wgetf hA.1 hA.2.1 hA.2.2.2.1 (ev_word hG hA.2.2.2.2.2.2.2.2.1 hw hg args) hi hst hcell hkn hsl rfl rfl d kk
  · cases h
def ev_fit (ty : FieldType) (v : Value) : Prop := narrow ty v = v ∧ fits ty v = true
noncomputable def i_pf (ci k : Nat) (ty : FieldType) (p : Nat) : ev_S → ev_N := fun S => match S.2.1 with
  | v :: .ref a :: st => ev_if (ev_isO (S.2.2.1 a) ci k ∧ ev_fit ty v) (some (.inl (p, S.1, st, ev_up S.2.2.1 a (ev_fS (S.2.2.1 a) k v), S.2.2.2)))
  | _ => none
def ev_ap (r : vw_C) : Prop := ∃ ty : Nat → FieldType, (∀ k, k < r.2.2 → parseFieldDescriptor (r.2.1 k).2.2.1 = some (ty k)) ∧ ∀ a, a < r.2.2 → ∀ b, b < r.2.2 → a ≠ b → (r.2.1 a).2.1 ≠ (r.2.1 b).2.1
theorem ev_apart (hG : ev_Good X) {s : State} (hW : X.1.WarmedH s.vm) {ci : Nat} {r : vw_C} (hc : vwCl[ci]? = some r) (hr : ev_cw r) (ha : ev_ap r) (args : Array Value) : ∀ i j, i < r.2.2 → j < r.2.2 → i ≠ j → X.2.2.1.2 ci i ≠ X.2.2.1.2 ci j := by
  obtain ⟨ty, h1, h2⟩ := ha
  intro i j hi hj hne
  obtain ⟨hS, -⟩ := ev_cls hG hW hc
  obtain ⟨_, _, _, fa, hia, ea⟩ := hS i hi
  obtain ⟨_, _, _, fb, hib, eb⟩ := hS j hj
  rw [← ea, ← eb]
  refine u_apart (u_lays (N := r.2.2) (ev_lays hG hW hr args) (fun w h => h) hi) (u_lays (N := r.2.2) (ev_lays hG hW hr args) (fun w h => h) hj) hia hib ?_
  rw [(State.fieldFound?_type hia (h1 i hi)).1, (State.fieldFound?_type hib (h1 j hj)).1]
  exact h2 i hi j hj hne
theorem ev_putf (hG : ev_Good X) {ci k : Nat} {ty : FieldType} {r : vw_C} (hc : vwCl[ci]? = some r) (hr : ev_cw r) (ha : ev_ap r) (hk : k < r.2.2) {lo st : List Value} {h : ev_M} {n q : Nat} {a : Nat} {v : Value} {fs : List Value} (he : h a = some (.inr (ci, fs))) (hl : k < fs.length)
    (row : ∀ (p : Program) (e : Env) (R : Room) (s : State) (m : MethodId) (args : Array Value) (below : List Frame) (meth : Method) (c : Code) (Q : State → Prop) (H : Heap) (locs : List Loc) (cells slots : Nat) (ls : Array Slot), ev_At X x p R s m meth c → ∀ (cf i : Nat) (kc kC : Class) (f : Field) (cell : Cell), s.fieldFound? (r.2.1 k).1 (r.2.1 k).2.1 (r.2.1 k).2.2.1 = some (cf, kc, i, f) → f.isStatic = false → H[a]? = some cell → cell.vm = .none → f.slot < cell.slots.size → s.vm.findClass r.1 = some cell.cls → s.vm.classes[cell.cls]? = some kC → kC.kind = .ordinary →
      (∀ H' : Heap, H'[a]? = some (cell.setSlot f.slot v) → H'.size = H.size → (∀ q, q ≠ a → H'[q]? = H[q]?) → W p l e R s m args below meth c H' (locs ++ [⟨a, f.slot⟩]) cells slots Q (F0 m (pc + 3) ls st)) → W p l e R s m args below meth c H locs cells slots Q (F0 m pc ls (v :: .ref a :: st))) :
    ev_SG X l x pc (lo, v :: .ref a :: st, h, n, q) (pc + 3) (lo, st, ev_up h a (.inr (ci, fs.set k v)), n, q) := by
  refine ⟨Nat.le_refl _, Nat.le_refl _, fun p e R s m args below meth c n0 q0 Q hA h1 h2 h3 h4 kk => ?_⟩
  intro H locs ls hR hL hS
  have hA' := hA
  obtain ⟨hx, hb, hml, hown, hret, hlk, hnm, htab, hW, hbel, hz, hfr, hlo⟩ := hA
  obtain ⟨hbs, r', e1, cell, q1, q2, q3, q4⟩ := hR.2.2 a _ he
  cases e1.symm.trans hc
  obtain ⟨hS1, hfc, kC, hkC, hkind⟩ := ev_cls hG hW hc
  obtain ⟨cf, kf, fi, f, hi, hsl⟩ := hS1 k hk
  have hst := (u_facts hfc hkC (u_lays (N := r.2.2) (ev_lays hG hW hr args) (fun w h => h) hk) hi).1
  have hap := ev_apart hG hW hc hr ha args
  refine row p e R s m args below meth c Q H locs _ _ ls hA' cf fi kf kC f cell hi hst q1 q3 (by rw [hsl]; exact k2_hasslot (q4 k hk)) (by rw [q2]; exact hfc) (by rw [q2]; exact hkC) hkind fun H' e1 e2 e3 => ?_
  rw [hsl] at e1 ⊢
  exact kk H' _ ls (ev_R_up hR he e2 e3 ⟨r, hc, t_OB.to (V := updV (vp_V fs) k v) ⟨_, e1, q2, q3, t_set q4 hap hk v⟩ (fun j _ => vp_updV_set hl v j)⟩) hL (hS.put e2 e3 hbs)
theorem s_putfield (hG : ev_Good X) {ci k idx : Nat} {ty : FieldType} {r : vw_C} {ref : String} (hc : vwCl[ci]? = some r) (hr : ev_cw r) (ha : ev_ap r) (hk : k < r.2.2) (hfin : (r.2.1 k).2.2.2 = false) (hty : parseFieldDescriptor (r.2.1 k).2.2.1 = some ty) (hw : Cond.fieldLink x.1.cls idx ref (r.2.1 k).2.1 (r.2.1 k).2.2.1 ∈ lw_tbl) (hg : ev_gd (Cond.fieldLink x.1.cls idx ref (r.2.1 k).2.1 (r.2.1 k).2.2.1) = true)
    (hs : ref = (r.2.1 k).1 ∨ (Cond.sameField ref (r.2.1 k).1 (r.2.1 k).2.1 (r.2.1 k).2.2.1 ∈ lw_tbl ∧ ev_gd (Cond.sameField ref (r.2.1 k).1 (r.2.1 k).2.1 (r.2.1 k).2.2.1) = true)) (d : decode x.2.1 pc = .ok (.putfield idx, 3)) : ev_Snd X l ms x tx pc (i_pf ci k ty (pc + 3)) := by
  intro S y h
  obtain ⟨lo, st, K, n, q⟩ := S
  unfold i_pf at h
  dsimp only at h
  split at h
  · rename_i v a st
    obtain ⟨⟨⟨fs, he, hkl⟩, hfit⟩, h⟩ := ev_if_s h
    cases h
    show ev_SG X l x pc _ _ _
    dsimp only
    rw [he]
    refine ev_putf hG (ty := ty) hc hr ha hk he hkl fun p e R s m args below meth c Q H locs cells slots ls hA cf i kc kC f cell hi hst hcell hvm hlt hfc hkC hkind kk => ?_
    have hlay := ev_lays hG hA.2.2.2.2.2.2.2.2.1 hr args _ (u_in_lay hk)
    unfold u_lay at hlay
    rw [if_neg (by rw [hfin]; decide)] at hlay
    refine W.putK hA.1 hA.2.1 (f := f) ⟨hA.2.2.2.1, ev_word hG hA.2.2.2.2.2.2.2.2.1 hw hg args, ⟨cf, kc, i, ?_⟩, hst⟩ (u_store hfc hkC hkind hlay hi hty hfit.1 hfit.2) hcell hvm hlt rfl rfl d kk
    rcases hs with rfl | ⟨h1, h2⟩
    · exact hi
    · exact u_same (ev_word hG hA.2.2.2.2.2.2.2.2.1 h1 h2 args) _ hi
  · cases h
theorem s_putfieldN (hG : ev_Good X) {ci k idx : Nat} {ty : FieldType} {r : vw_C} {host : String} (hc : vwCl[ci]? = some r) (hr : ev_cw r) (ha : ev_ap r) (hk : k < r.2.2) (hfin : (r.2.1 k).2.2.2 = false) (hty : parseFieldDescriptor (r.2.1 k).2.2.1 = some ty) (hw : Cond.fieldLinkNest x.1.cls idx (r.2.1 k).1 (r.2.1 k).2.1 (r.2.1 k).2.2.1 host ∈ lw_tbl) (hg : ev_gd (Cond.fieldLinkNest x.1.cls idx (r.2.1 k).1 (r.2.1 k).2.1 (r.2.1 k).2.2.1 host) = true)
    (d : decode x.2.1 pc = .ok (.putfield idx, 3)) : ev_Snd X l ms x tx pc (i_pf ci k ty (pc + 3)) := by
  intro S y h
  obtain ⟨lo, st, K, n, q⟩ := S
  unfold i_pf at h
  dsimp only at h
  split at h
  · rename_i v a st
    obtain ⟨⟨⟨fs, he, hkl⟩, hfit⟩, h⟩ := ev_if_s h
    cases h
    show ev_SG X l x pc _ _ _
    dsimp only
    rw [he]
    refine ev_putf hG (ty := ty) hc hr ha hk he hkl fun p e R s m args below meth c Q H locs cells slots ls hA cf i kc kC f cell hi hst hcell hvm hlt hfc hkC hkind kk => ?_
    have hlay := ev_lays hG hA.2.2.2.2.2.2.2.2.1 hr args _ (u_in_lay hk)
    unfold u_lay at hlay
    rw [if_neg (by rw [hfin]; decide)] at hlay
    exact va_WputK hA.1 hA.2.1 (f := f) hA.2.2.2.1 (ev_word hG hA.2.2.2.2.2.2.2.2.1 hw hg args) hi hst (u_store hfc hkC hkind hlay hi hty hfit.1 hfit.2) hcell hvm hlt rfl rfl d kk
  · cases h
theorem s_putfieldF (hG : ev_Good X) {ci k idx : Nat} {ty : FieldType} {r : vw_C} (hc : vwCl[ci]? = some r) (hr : ev_cw r) (ha : ev_ap r) (hk : k < r.2.2) (hfin : (r.2.1 k).2.2.2 = true) (hin : x.1.name = "<init>") (hdecl : (r.2.1 k).1 = x.1.cls) (hty : parseFieldDescriptor (r.2.1 k).2.2.1 = some ty) (hw : Cond.fieldLink x.1.cls idx (r.2.1 k).1 (r.2.1 k).2.1 (r.2.1 k).2.2.1 ∈ lw_tbl) (hg : ev_gd (Cond.fieldLink x.1.cls idx (r.2.1 k).1 (r.2.1 k).2.1 (r.2.1 k).2.2.1) = true)
    (d : decode x.2.1 pc = .ok (.putfield idx, 3)) : ev_Snd X l ms x tx pc (i_pf ci k ty (pc + 3)) := by
  intro S y h
  obtain ⟨lo, st, K, n, q⟩ := S
  unfold i_pf at h
  dsimp only at h
  split at h
  · rename_i v a st
    obtain ⟨⟨⟨fs, he, hkl⟩, hfit⟩, h⟩ := ev_if_s h
    cases h
    show ev_SG X l x pc _ _ _
    dsimp only
    rw [he]
    refine ev_putf hG (ty := ty) hc hr ha hk he hkl fun p e R s m args below meth c Q H locs cells slots ls hA cf i kc kC f cell hi hst hcell hvm hlt hfc hkC hkind kk => ?_
    have hlay := ev_lays hG hA.2.2.2.2.2.2.2.2.1 hr args _ (u_in_lay hk)
    unfold u_lay at hlay
    rw [if_pos hfin] at hlay
    have hcf : m.cls = cf := by
      obtain ⟨_, _, c', _, _, _, -, -, hf', -, -, -, hown2, -⟩ := Cond.laysFinal_spec hlay
      have e1 : c' = cf := by have := hi.symm.trans hf'; simp at this; exact this.1.symm
      rw [hdecl] at hown2
      rw [← e1]; exact Option.some.inj (hA.2.2.2.1.symm.trans hown2)
    exact W.putFinK hA.1 hA.2.1 hA.2.2.2.1 (ev_word hG hA.2.2.2.2.2.2.2.2.1 hw hg args) hi hst hcf (hA.2.2.2.2.2.2.1.trans hin) (u_fits hfc hkC hkind (Or.inr hlay) hi hty hfit.1 hfit.2) hcell hvm hlt rfl rfl d kk
  · cases h
/-! new objects -/
def i_nw (ci N : Nat) (fs : List Value) (p : Nat) : ev_S → ev_N := fun S => some (.inl (p, S.1, .ref S.2.2.2.1 :: S.2.1, ev_up S.2.2.1 S.2.2.2.1 (.inr (ci, fs)), S.2.2.2.1 + 1, S.2.2.2.2 + N))
theorem s_new (hG : ev_Good X) {ci idx : Nat} {r : vw_C} {fs : List Value} (hc : vwCl[ci]? = some r) (hr : ev_cw r) (ty : Nat → FieldType) (hty : ∀ k, k < r.2.2 → parseFieldDescriptor (r.2.1 k).2.2.1 = some (ty k)) (hfs : ∀ j, j < r.2.2 → defaultValue (ty j) = vp_V fs j)
    (hw1 : Cond.classLink x.1.cls idx r.1 ∈ lw_tbl) (hg1 : ev_gd (Cond.classLink x.1.cls idx r.1) = true) (hw2 : Cond.instantiable r.1 r.2.2 ∈ lw_tbl) (hg2 : ev_gd (Cond.instantiable r.1 r.2.2) = true) (hw3 : Cond.initialized r.1 ∈ lw_tbl) (hg3 : ev_gd (Cond.initialized r.1) = true)
    (d : decode x.2.1 pc = .ok (.new idx, 3)) : ev_Snd X l ms x tx pc (i_nw ci r.2.2 fs (pc + 3)) := by
  intro S y h
  obtain ⟨lo, st, K, n, q⟩ := S
  cases h
  refine ⟨Nat.le_succ _, Nat.le_add_right _ _, fun p e R s m args below meth c n0 q0 Q hA h1 h2 h3 h4 kk => ?_⟩
  intro H locs ls hR hL hS
  dsimp only at h1 h2 h3 h4 kk hR hL ⊢
  obtain ⟨hx, hb, hml, hown, hret, hlk, hnm, htab, hW, hbel, hz, hfr, hlo⟩ := hA
  have hKn := ev_cls hG hW hc
  refine W.newcK hx hb hown (ev_word hG hW hw1 hg1 args) (ev_word hG hW hw2 hg2 args) (ev_word hG hW hw3 hg3 args) rfl d (by omega) (by omega) hKn.2.1 hR.1 fun H1 kC hkC e1 z1 o1 => ?_
  have k2 := kk H1 locs ls (ev_R_new hR z1 o1 ⟨r, hc, (u_born ty (ev_lays hG hW hr args) (fun w h => h) hKn hkC e1 hty).to hfs⟩) hL (ev_S_new hS hR.1 z1 o1)
  dsimp only at k2
  exact W.cs (by omega) (by omega) k2
noncomputable def i_na (kd : Nat) (v : Value) (p : Nat) : ev_S → ev_N := fun S => match S.2.1 with
  | .int i :: st => ev_if (0 ≤ i ∧ i.toNatClampNeg ≤ 100000) (some (.inl (p, S.1, .ref S.2.2.2.1 :: st, ev_up S.2.2.1 S.2.2.2.1 (.inl (kd, i.toNatClampNeg, fun _ => v)), S.2.2.2.1 + 1, S.2.2.2.2 + i.toNatClampNeg)))
  | _ => none
theorem s_newarray (hG : ev_Good X) {kd : Nat} {at' : ArrayType} (hk : kd < 6) (hty : newarray.typeOf at' = ev_aT kd) (hcb : componentBytes (newarray.typeOf at') ≤ 8) (hp : (newarray.typeOf at').isReference = false) (d : decode x.2.1 pc = .ok (.newarray at', 2)) (hw : Cond.arrayClass (newarray.typeOf at') ∈ lw_tbl) : ev_Snd X l ms x tx pc (i_na kd (defaultValue (newarray.typeOf at')) (pc + 2)) := by
  intro S y h
  obtain ⟨lo, st, K, n, q⟩ := S
  unfold i_na at h
  dsimp only at h
  split at h
  · rename_i i st
    obtain ⟨⟨hi0, hi1⟩, h⟩ := ev_if_s h
    cases h
    refine ⟨Nat.le_succ _, Nat.le_add_right _ _, fun p e R s m args below meth c n0 q0 Q hA h1 h2 h3 h4 kk => ?_⟩
    intro H locs ls hR hL hS
    dsimp only at h1 h2 h3 h4 kk hR hL ⊢
    obtain ⟨hx, hb, hml, hown, hret, hlk, hnm, htab, hW, hbel, hz, hfr, hlo⟩ := hA
    have hbytes : i.toNatClampNeg * componentBytes (newarray.typeOf at') ≤ 536870912 := Nat.le_trans (Nat.mul_le_mul hi1 hcb) (Nat.le_of_ble_eq_true rfl)
    refine va_newaK hx hb (ev_word hG hW hw rfl args) rfl d rfl (Int32.not_lt.mpr hi0) rfl hbytes (by omega) (by omega) hR.1 fun H1 cA e1 z1 o1 hAr hNm => ?_
    have hra := (hG.2.2.2.1 kd hk).moved hW.alike
    have hcA : cA = X.2.2.2.1 kd := by
      rw [← hty] at hra
      unfold va_RA at hra
      split at hra
      · rename_i C e9
        rw [e9] at hp
        cases hp
      · exact Option.some.inj (hNm.symm.trans hra)
    subst hcA
    have k2 := kk H1 locs ls (ev_R_new hR z1 o1 ⟨hk, e1⟩) hL (ev_S_new hS hR.1 z1 o1)
    dsimp only at k2
    exact W.cs (by omega) (by omega) k2
  · cases h
theorem s_anewarray (hG : ev_Good X) {kd idx : Nat} {C : String} (hk : kd < 6) (hty : ev_aT kd = .object C) (d : decode x.2.1 pc = .ok (.anewarray idx, 3)) (hw1 : Cond.classLink x.1.cls idx C ∈ lw_tbl) (hg1 : ev_gd (Cond.classLink x.1.cls idx C) = true) (hw2 : Cond.arrayOver (.object C) ∈ lw_tbl) : ev_Snd X l ms x tx pc (i_na kd .null (pc + 3)) := by
  intro S y h
  obtain ⟨lo, st, K, n, q⟩ := S
  unfold i_na at h
  dsimp only at h
  split at h
  · rename_i i st
    obtain ⟨⟨hi0, hi1⟩, h⟩ := ev_if_s h
    cases h
    refine ⟨Nat.le_succ _, Nat.le_add_right _ _, fun p e R s m args below meth c n0 q0 Q hA h1 h2 h3 h4 kk => ?_⟩
    intro H locs ls hR hL hS
    dsimp only at h1 h2 h3 h4 kk hR hL ⊢
    obtain ⟨hx, hb, hml, hown, hret, hlk, hnm, htab, hW, hbel, hz, hfr, hlo⟩ := hA
    have hover : (Cond.arrayOver (.object C)).before args s = true := va_AO.use (va_AO.moved hW.alike (va_AO.of (hG.1 _ hw2)))
    have hbytes : i.toNatClampNeg * 4 ≤ 536870912 := by omega
    refine W.anew hx hb hown (ev_word hG hW hw1 hg1 args) hover rfl d rfl (Int32.not_lt.mpr hi0) hbytes (by omega) (by omega) fun cA kA comp f1 f2 f3 f4 => ?_
    have hra := (hG.2.2.2.1 kd hk).moved hW.alike
    have hcA : cA = X.2.2.2.1 kd := by
      rw [hty] at hra
      obtain ⟨kA', comp', g1, g2, g3, g4⟩ := hra
      exact Option.some.inj (f1.symm.trans g4)
    subst hcA
    have hsz := hR.1
    subst hsz
    rw [arrV_new]
    have o1 : ∀ (z : Cell) (q : Nat), q < H.size → (H.push z)[q]? = H[q]? := fun z q hq => by rw [Array.getElem?_push, if_neg (Nat.ne_of_lt hq)]
    have z1 : ∀ z : Cell, (H.push z).size = H.size + 1 := fun z => by simp
    have k2 := kk (H.push (arrV (X.2.2.2.1 kd) i.toNatClampNeg (fun _ => .null))) locs ls (ev_R_new hR (z1 _) (o1 _) ⟨hk, by simp⟩) hL (ev_S_new hS rfl (z1 _) (o1 _))
    dsimp only at k2
    exact W.cs (by omega) (by omega) k2
  · cases h
/-! arrays -/
def ev_isA (c : Option ev_C) : Prop := ∃ (kd n : Nat) (f : Nat → Value), c = some (.inl (kd, n, f)) ∧ kd < 20
def ev_aN (c : Option ev_C) : Nat := match c with
  | some (.inl z) => z.2.1
  | _ => 0
noncomputable def i_len (X : ev_E) (p : Nat) : ev_S → ev_N := fun S => match S.2.1 with
  | .ref a :: st => ev_if (ev_isA (ev_lk X S.2.2.1 a)) (some (.inl (p, S.1, .int (Int32.ofNat (ev_aN (ev_lk X S.2.2.1 a))) :: st, S.2.2)))
  | _ => none
theorem ev_isArr (hG : ev_Good X) {s : State} (hW : X.1.WarmedH s.vm) {kd : Nat} (hk : kd < 20) {cell : Cell} (hc : cell.cls = X.2.2.2.1 kd) (hv : ∀ j, cell.vm ≠ .statics j) : s.isArrayOf cell (ev_aT kd) := by
  have h1 := arrOfT_moved hW.alike (hG.2.2.1 kd hk) 0 (fun _ => .null)
  obtain ⟨h2, k, h3, h4⟩ := h1
  exact ⟨hv, k, by rw [hc]; exact h3, h4⟩
theorem s_arraylength (hG : ev_Good X) (d : decode x.2.1 pc = .ok (.arraylength, 1)) : ev_Snd X l ms x tx pc (i_len X (pc + 1)) := by
  intro S y h
  obtain ⟨lo, st, K⟩ := S
  unfold i_len at h
  dsimp only at h
  split at h
  · rename_i a st
    obtain ⟨⟨kd, n, f, he, hk⟩, h⟩ := ev_if_s h
    cases h
    show ev_SG X l x pc _ _ _
    dsimp only
    rw [he]
    refine ⟨Nat.le_refl _, Nat.le_refl _, fun p e R s m args below meth c n0 q0 Q hA h1 h2 h3 h4 kk => ?_⟩
    intro H locs ls hR hL hS
    obtain ⟨hx, hb, hml, hown, hret, hlk, hnm, htab, hW, hbel, hz, hfr, hlo⟩ := hA
    obtain ⟨cell, e1, e2, e3, e4, e5, e6⟩ := ev_rd hG hbel hz hR hS he
    exact W.alen (ty := ev_aT kd) hx hb e1 (ev_isArr hG hW hk e2 e3) (by rw [e5]; rfl) rfl rfl d (kk H locs ls hR hL hS)
  · cases h
def ev_inA (c : Option ev_C) (i : Int32) (t : FieldType → Bool) : Prop := ∃ (kd n : Nat) (f : Nat → Value), c = some (.inl (kd, n, f)) ∧ kd < 20 ∧ t (ev_aT kd) = true ∧ ¬ (i < 0 ∨ n ≤ i.toNatClampNeg)
def ev_aG (c : Option ev_C) (i : Int32) : Value := match c with
  | some (.inl z) => z.2.2 i.toNatClampNeg
  | _ => .null
def ev_aS (c : Option ev_C) (i : Int32) (v : Value) : ev_C := match c with
  | some (.inl z) => .inl (z.1, z.2.1, updV z.2.2 i.toNatClampNeg v)
  | _ => .inr (0, [])
def ev_tI (t : FieldType) : Bool := decide (t = .int)
def ev_tB (t : FieldType) : Bool := decide (t = .byte)
noncomputable def i_ald (X : ev_E) (t : FieldType → Bool) (p : Nat) : ev_S → ev_N := fun S => match S.2.1 with
  | .int i :: .ref a :: st => ev_if (ev_inA (ev_lk X S.2.2.1 a) i t) (some (.inl (p, S.1, ev_aG (ev_lk X S.2.2.1 a) i :: st, S.2.2)))
  | _ => none

theorem s_iaload (hG : ev_Good X) (d : decode x.2.1 pc = .ok (.iaload, 1)) : ev_Snd X l ms x tx pc (i_ald X ev_tI (pc + 1)) := by
  intro S y h
  obtain ⟨lo, st, K⟩ := S
  unfold i_ald at h
  dsimp only at h
  split at h
  · rename_i i a st
    obtain ⟨⟨kd, n, f, he, hk, ht, hin⟩, h⟩ := ev_if_s h
    cases h
    show ev_SG X l x pc _ _ _
    dsimp only
    rw [he]
    refine ⟨Nat.le_refl _, Nat.le_refl _, fun p e R s m args below meth c n0 q0 Q hA h1 h2 h3 h4 kk => ?_⟩
    intro H locs ls hR hL hS
    obtain ⟨hx, hb, hml, hown, hret, hlk, hnm, htab, hW, hbel, hz, hfr, hlo⟩ := hA
    obtain ⟨cell, e1, e2, e3, e4, e5, e6⟩ := ev_rd hG hbel hz hR hS he
    have hlt : i.toNatClampNeg < n := Nat.not_le.mp fun q => hin (Or.inr q)
    exact W.iald hx hb e1 (by have z := ev_isArr hG hW hk e2 e3; rw [(of_decide_eq_true ht)] at z; exact z) e4 (by rw [e5]; exact hin) (e6 _ hlt) rfl rfl d (kk H locs ls hR hL hS)
  · cases h
theorem s_baload (hG : ev_Good X) (d : decode x.2.1 pc = .ok (.baload, 1)) : ev_Snd X l ms x tx pc (i_ald X ev_tB (pc + 1)) := by
  intro S y h
  obtain ⟨lo, st, K⟩ := S
  unfold i_ald at h
  dsimp only at h
  split at h
  · rename_i i a st
    obtain ⟨⟨kd, n, f, he, hk, ht, hin⟩, h⟩ := ev_if_s h
    cases h
    show ev_SG X l x pc _ _ _
    dsimp only
    rw [he]
    refine ⟨Nat.le_refl _, Nat.le_refl _, fun p e R s m args below meth c n0 q0 Q hA h1 h2 h3 h4 kk => ?_⟩
    intro H locs ls hR hL hS
    obtain ⟨hx, hb, hml, hown, hret, hlk, hnm, htab, hW, hbel, hz, hfr, hlo⟩ := hA
    obtain ⟨cell, e1, e2, e3, e4, e5, e6⟩ := ev_rd hG hbel hz hR hS he
    have hlt : i.toNatClampNeg < n := Nat.not_le.mp fun q => hin (Or.inr q)
    exact W.bald hx hb e1 (by have z := ev_isArr hG hW hk e2 e3; rw [(of_decide_eq_true ht)] at z; exact z) e4 (by rw [e5]; exact hin) (e6 _ hlt) rfl rfl d (kk H locs ls hR hL hS)
  · cases h
theorem s_aaload (hG : ev_Good X) (d : decode x.2.1 pc = .ok (.aaload, 1)) : ev_Snd X l ms x tx pc (i_ald X FieldType.isReference (pc + 1)) := by
  intro S y h
  obtain ⟨lo, st, K⟩ := S
  unfold i_ald at h
  dsimp only at h
  split at h
  · rename_i i a st
    obtain ⟨⟨kd, n, f, he, hk, ht, hin⟩, h⟩ := ev_if_s h
    cases h
    show ev_SG X l x pc _ _ _
    dsimp only
    rw [he]
    refine ⟨Nat.le_refl _, Nat.le_refl _, fun p e R s m args below meth c n0 q0 Q hA h1 h2 h3 h4 kk => ?_⟩
    intro H locs ls hR hL hS
    obtain ⟨hx, hb, hml, hown, hret, hlk, hnm, htab, hW, hbel, hz, hfr, hlo⟩ := hA
    obtain ⟨cell, e1, e2, e3, e4, e5, e6⟩ := ev_rd hG hbel hz hR hS he
    have hlt : i.toNatClampNeg < n := Nat.not_le.mp fun q => hin (Or.inr q)
    exact W.aald (ty := ev_aT kd) hx hb e1 (ev_isArr hG hW hk e2 e3) ht e4 (by rw [e5]; exact hin) (e6 _ hlt) rfl rfl d (kk H locs ls hR hL hS)
  · cases h
noncomputable def i_ast (t : FieldType → Bool) (g : Int32 → Int32) (p : Nat) : ev_S → ev_N := fun S => match S.2.1 with
  | .int v :: .int i :: .ref a :: st => ev_if (ev_inA (S.2.2.1 a) i t) (some (.inl (p, S.1, st, ev_up S.2.2.1 a (ev_aS (S.2.2.1 a) i (.int (g v))), S.2.2.2)))
  | _ => none
theorem s_iastore (hG : ev_Good X) (d : decode x.2.1 pc = .ok (.iastore, 1)) : ev_Snd X l ms x tx pc (i_ast ev_tI (fun v => v) (pc + 1)) := by
  intro S y h
  obtain ⟨lo, st, K, n, q⟩ := S
  unfold i_ast at h
  dsimp only at h
  split at h
  · rename_i v i a st
    obtain ⟨⟨kd, N, f, he, hk, ht, hin⟩, h⟩ := ev_if_s h
    cases h
    show ev_SG X l x pc _ _ _
    dsimp only
    rw [he]
    refine ⟨Nat.le_refl _, Nat.le_refl _, fun p e R s m args below meth c n0 q0 Q hA h1 h2 h3 h4 kk => ?_⟩
    intro H locs ls hR hL hS
    obtain ⟨hx, hb, hml, hown, hret, hlk, hnm, htab, hW, hbel, hz, hfr, hlo⟩ := hA
    obtain ⟨hbs, hk6, hcell⟩ := hR.2.2 a _ he
    have hlt : i.toNatClampNeg < N := Nat.not_le.mp fun q => hin (Or.inr q)
    refine W.iast hx hb hcell (by have z := ev_isArr hG hW hk (cell := arrV (X.2.2.2.1 kd) N f) rfl (fun j e => by cases e); rw [of_decide_eq_true ht] at z; exact z) (fun e => by cases e) (by show ¬ (i < 0 ∨ (arrV _ _ _).slots.size ≤ _); rw [arrV_size]; exact hin) rfl rfl d fun H1 e1 z oq => ?_
    refine kk H1 _ ls (ev_R_up hR he z oq ⟨hk6, ?_⟩) hL (hS.put z oq hbs)
    rw [e1, arrV_store]
    try rfl
  · cases h
theorem s_bastore (hG : ev_Good X) (d : decode x.2.1 pc = .ok (.bastore, 1)) : ev_Snd X l ms x tx pc (i_ast ev_tB (vp_nar .byte) (pc + 1)) := by
  intro S y h
  obtain ⟨lo, st, K, n, q⟩ := S
  unfold i_ast at h
  dsimp only at h
  split at h
  · rename_i v i a st
    obtain ⟨⟨kd, N, f, he, hk, ht, hin⟩, h⟩ := ev_if_s h
    cases h
    show ev_SG X l x pc _ _ _
    dsimp only
    rw [he]
    refine ⟨Nat.le_refl _, Nat.le_refl _, fun p e R s m args below meth c n0 q0 Q hA h1 h2 h3 h4 kk => ?_⟩
    intro H locs ls hR hL hS
    obtain ⟨hx, hb, hml, hown, hret, hlk, hnm, htab, hW, hbel, hz, hfr, hlo⟩ := hA
    obtain ⟨hbs, hk6, hcell⟩ := hR.2.2 a _ he
    have hlt : i.toNatClampNeg < N := Nat.not_le.mp fun q => hin (Or.inr q)
    refine W.bast hx hb hcell (by have z := ev_isArr hG hW hk (cell := arrV (X.2.2.2.1 kd) N f) rfl (fun j e => by cases e); rw [of_decide_eq_true ht] at z; exact z) (fun e => by cases e) (by show ¬ (i < 0 ∨ (arrV _ _ _).slots.size ≤ _); rw [arrV_size]; exact hin) rfl rfl d fun H1 e1 z oq => ?_
    refine kk H1 _ ls (ev_R_up hR he z oq ⟨hk6, ?_⟩) hL (hS.put z oq hbs)
    rw [e1, arrV_store]
    try rfl
  · cases h
noncomputable def i_aast (kd ci : Nat) (p : Nat) : ev_S → ev_N := fun S => match S.2.1 with
  | .ref v :: .int i :: .ref a :: st => ev_if (ev_inA (S.2.2.1 a) i FieldType.isReference ∧ (∃ n f, S.2.2.1 a = some (.inl (kd, n, f))) ∧ ∃ fs, S.2.2.1 v = some (.inr (ci, fs))) (some (.inl (p, S.1, st, ev_up S.2.2.1 a (ev_aS (S.2.2.1 a) i (.ref v)), S.2.2.2)))
  | _ => none
theorem s_aastore (hG : ev_Good X) {kd ci : Nat} {r : vw_C} (hk6 : kd < 6) (hc : vwCl[ci]? = some r) (hty : ev_aT kd = .object r.1) (d : decode x.2.1 pc = .ok (.aastore, 1)) : ev_Snd X l ms x tx pc (i_aast kd ci (pc + 1)) := by
  intro S y h
  obtain ⟨lo, st, K, n, q⟩ := S
  unfold i_aast at h
  dsimp only at h
  split at h
  · rename_i v i a st
    obtain ⟨⟨⟨kd', N, f, he, hk, ht, hin⟩, ⟨N', f', he'⟩, fs, hv⟩, h⟩ := ev_if_s h
    cases he.symm.trans he'
    cases h
    show ev_SG X l x pc _ _ _
    dsimp only
    rw [he]
    refine ⟨Nat.le_refl _, Nat.le_refl _, fun p e R s m args below meth c n0 q0 Q hA h1 h2 h3 h4 kk => ?_⟩
    intro H locs ls hR hL hS
    obtain ⟨hx, hb, hml, hown, hret, hlk, hnm, htab, hW, hbel, hz, hfr, hlo⟩ := hA
    obtain ⟨hbs, -, hcell⟩ := hR.2.2 a _ he
    obtain ⟨hbv, r', e9, cellV, g1, g2, g3, -⟩ := hR.2.2 v _ hv
    cases e9.symm.trans hc
    have hlt : i.toNatClampNeg < N := Nat.not_le.mp fun q => hin (Or.inr q)
    have h0 : ¬ i < 0 := fun q => hin (Or.inl q)
    have hcls := (ev_cls hG hW hc).2
    have hra := (hG.2.2.2.1 kd hk6).moved hW.alike
    rw [hty] at hra
    obtain ⟨kA, comp, k1, k2, k3, -⟩ := hra
    have hcomp : comp = X.2.2.1.1 ci := Option.some.inj (k3.symm.trans hcls.1)
    subst hcomp
    have hasg := va_assign hcls
    obtain ⟨-, kC, hkC, -⟩ := hcls
    refine W.aast hx hb hcell (fun q h => by cases h) (fun h => by cases h) k1 k2 rfl hkC ⟨h0, by show _ < (arrV _ _ _).slots.size; rw [arrV_size]; exact hlt⟩ g1 (fun q h => by rw [g3] at h; cases h) (by rw [g2]; exact hkC) (by rw [g2]; exact hasg) rfl rfl d fun H1 e1 z oq => ?_
    refine kk H1 _ ls (ev_R_up hR he z oq ⟨hk6, ?_⟩) hL (hS.put z oq hbs)
    rw [e1, arrV_store]
  · cases h
def i_lcmp (p : Nat) : ev_S → ev_N := fun S => match S.2.1 with
  | .long b :: .long a :: st => some (.inl (p, S.1, .int (lg_cmp a b) :: st, S.2.2))
  | _ => none
theorem s_lcmp (d : decode x.2.1 pc = .ok (.lcmp, 1)) : ev_Snd X l ms x tx pc (i_lcmp (pc + 1)) := by
  intro S y h
  obtain ⟨lo, st, K⟩ := S
  unfold i_lcmp at h
  dsimp only at h
  split at h
  · cases h
    exact ev_SG_same fun p e R s m args below meth c Q H locs cells slots ls hx hb hL k => W.lcmp hx hb d (k ls hL)
  · cases h
theorem s_ldc2 (hG : ev_Good X) {idx : Nat} {v : Int64} (hw : Cond.constantLong x.1.cls idx v ∈ lw_tbl) (hg : ev_gd (Cond.constantLong x.1.cls idx v) = true) (d : decode x.2.1 pc = .ok (.ldc2_w idx, 3)) : ev_Snd X l ms x tx pc (i_psh (.long v) (pc + 3)) := by
  intro S y h
  obtain ⟨lo, st, K⟩ := S
  cases h
  refine ⟨Nat.le_refl _, Nat.le_refl _, fun p e R s m args below meth c n0 q0 Q hA h1 h2 h3 h4 kk => ?_⟩
  intro H locs ls hR hL hS
  exact lv_ldc2 hA.1 hA.2.1 hA.2.2.2.1 (ev_word hG hA.2.2.2.2.2.2.2.2.1 hw hg args) d (kk H locs ls hR hL hS)
theorem s_ldc (hG : ev_Good X) {idx : Nat} {v : Int32} (hw : Cond.constant x.1.cls idx v ∈ lw_tbl) (hg : ev_gd (Cond.constant x.1.cls idx v) = true) (d : decode x.2.1 pc = .ok (.ldc idx, 2)) : ev_Snd X l ms x tx pc (i_psh (.int v) (pc + 2)) := by
  intro S y h
  obtain ⟨lo, st, K⟩ := S
  cases h
  refine ⟨Nat.le_refl _, Nat.le_refl _, fun p e R s m args below meth c n0 q0 Q hA h1 h2 h3 h4 kk => ?_⟩
  intro H locs ls hR hL hS
  exact lv_ldc hA.1 hA.2.1 hA.2.2.2.1 (ev_word hG hA.2.2.2.2.2.2.2.2.1 hw hg args) d (kk H locs ls hR hL hS)
/-! a switch by numbers lo, lo + 1 .. -/
def i_sw (lo : Int) (ts : List Nat) (df : Nat) : ev_S → ev_N := fun S => match S.2.1 with
  | .int a :: st => some (.inl ((if a.toInt < lo ∨ lo + ts.length ≤ a.toInt then df else ts.getD (a.toInt - lo).toNat df), S.1, st, S.2.2))
  | _ => none
theorem s_tableswitch {dflt lo hi : Int} {offs : Array Int} {len df : Nat} {ts : List Nat} (d : decode x.2.1 pc = .ok (.tableswitch dflt lo hi offs, len)) (hd : (pc : Int) + dflt = (df : Int)) (hl : hi + 1 = lo + ts.length) (ho : offs.toList.map (fun o => (pc : Int) + o) = ts.map (fun (t : Nat) => (t : Int))) : ev_Snd X l ms x tx pc (i_sw lo ts df) := by
  intro S y h
  obtain ⟨loc, st, K⟩ := S
  unfold i_sw at h
  dsimp only at h
  split at h
  · rename_i a st
    cases h
    refine ev_SG_same fun p e R s m args below meth c Q H locs cells slots ls hx hb hL k => ?_
    have k2 := k ls hL
    by_cases hc : a.toInt < lo ∨ lo + ts.length ≤ a.toInt
    · rw [if_pos hc] at k2
      exact lv_tableOut hx hb d (by omega) hd k2
    · rw [if_neg hc] at k2
      have hlt : (a.toInt - lo).toNat < ts.length := by omega
      have hsz : offs.toList.length = ts.length := by have := congrArg List.length ho; simpa using this
      have hlt2 : (a.toInt - lo).toNat < offs.toList.length := by omega
      have e1 : (offs.toList.map (fun o => (pc : Int) + o))[(a.toInt - lo).toNat]? = (ts.map (fun (t : Nat) => (t : Int)))[(a.toInt - lo).toNat]? := by rw [ho]
      rw [List.getElem?_map, List.getElem?_map, List.getElem?_eq_getElem hlt, List.getElem?_eq_getElem hlt2] at e1
      have e2 : (pc : Int) + offs.toList[(a.toInt - lo).toNat] = (ts[(a.toInt - lo).toNat] : Int) := by simpa using e1
      rw [List.getD_eq_getElem?_getD, List.getElem?_eq_getElem hlt] at k2
      exact lv_tableIn hx hb d (by omega) (by omega) (by rw [← Array.getElem?_toList, List.getElem?_eq_getElem hlt2]) e2 k2
  · cases h
end EVH
end
section
section EVT
variable {p : Program} {l : Launch} {e : Env} {R : Room} {s : State} {m : MethodId} {args : Array Value} {below : List Frame} {meth : Method} {c : Code} {H : Heap} {locs : List Loc} {cells slots : Nat} {Q : State → Prop}
variable {mc ms : Nat} {free : Addr → Prop} {A0 A1 : Nat → Prop} {H0 : Heap} {a : Array Value} {ls : Array Slot} {st0 rest : List Value}
variable {Qc : Array Value → State → Outcome → State → Prop} {XC : String → State → State → Prop}
theorem ev_throwS {cc : ByteArray} {pc : Nat} (hexec : p.tables.exec = Jvm.exec) (hb : c.code = cc) (hl : l.stackTraces = false) {own cls text : String} {names : List String} {ik is ic mc ms sa : Nat} {A : Nat → Prop}
    (hown : s.vm.findClass own = some m.cls) (hcls : Bundle.fit cls = true) (hnames : ∀ n ∈ names, Bundle.fit n = true)
    (hk : (Cond.classLink own ik cls).before args s = true) (hini : (Cond.initialized cls).before args s = true) (hstr : vk_R own is text sa s) (hat : ∀ w ∈ vx_atS own ic cls names, w.before args s = true)
    (hgood : ∀ w ∈ Cond.classLink own ik cls :: Cond.initialized cls :: vx_atS own ic cls names, vx_ot w = true)
    (hU : vx_Zq Bundle.tN "UNASSIGNED_STACK" Bundle.steD A s s.heap) (hN : vx_Zq Bundle.tN "SUPPRESSED_SENTINEL" Bundle.listD A s s.heap) (hS : va_S A s.heap H locs) (hsize : ls.size = c.maxLocals)
    (d0 : decode cc pc = .ok (.new ik, 3)) (d3 : decode cc (pc + 3) = .ok (.dup, 1)) (d4 : decode cc (pc + 4) = .ok (.ldc is, 2)) (d6 : decode cc (pc + 6) = .ok (.invokespecial ic, 3)) (d9 : decode cc (pc + 9) = .ok (.athrow, 1))
    (hout : ∀ x ∈ c.exceptionTable.toList, covers x (pc + 9) = false)
    (hRframes : names.length + 3 < R.frames) (hRlocals : (rest.map fun v => v.category).sum + (13 * (names.length + 1) + 43) ≤ R.locals) (hRcells : cells + 1 ≤ R.cells) (hRslots : slots + 6 ≤ R.slots) (hlocks : meth.locks = false)
    (hx : ∀ t : State, s.vm.Alike t.vm → t.heap.size = H.size + 1 → (∀ q : Nat, q < H.size → t.heap[q]? = H[q]?) → XC cls s t)
    (hf : ∀ z ∈ locs, free z.base) (hc : cells + 1 ≤ mc) (hs : slots + 6 ≤ ms) :
    W p l e R s m args below meth c H locs cells slots (vx_MQ below Qc XC args s mc ms free) (F0 m pc ls rest) := by
  intro T hT X
  have htr : e.platform.stackTraces = false := (show e.platform.stackTraces = l.stackTraces by rw [X.admits.platform]).trans hl
  have Y := vx_rebase X (R' := { frames := R.frames, locals := R.locals, cells := 1, slots := 6 }) (Nat.le_refl _) (Nat.le_refl _) hRcells hRslots
  obtain ⟨s', hA⟩ : ∃ z, z = (T.setVm s.vm).setFrames (.invoking m args :: below) := ⟨_, rfl⟩
  rw [← hA] at Y
  have hvm : s'.vm = s.vm := by rw [hA]; rfl
  have hhp : s'.heap = H := by rw [hA]; exact hT
  have hW0 : s.WarmedH s'.vm := by rw [hvm]; exact State.WarmedH.refl s
  have hat' : ∀ w ∈ vx_atS own ic cls names, w.before args s' = true := fun w hw => vx_ot_at hW0 hvm.symm (hgood w (List.mem_cons_of_mem _ (List.mem_cons_of_mem _ hw))) (hat w hw)
  have hk' : (Cond.classLink own ik cls).before args s' = true := vx_ot_at hW0 hvm.symm (hgood _ List.mem_cons_self) hk
  have hini' : (Cond.initialized cls).before args s' = true := vx_ot_at hW0 hvm.symm (hgood _ (List.mem_cons_of_mem _ List.mem_cons_self)) hini
  have hU' : vx_Zq Bundle.tN "UNASSIGNED_STACK" Bundle.steD A s' s'.heap := by rw [hhp]; exact vx_Zq.moved hW0.alike (hU.kept hS.2.1)
  have hN' : vx_Zq Bundle.tN "SUPPRESSED_SENTINEL" Bundle.listD A s' s'.heap := by rw [hhp]; exact vx_Zq.moved hW0.alike (hN.kept hS.2.1)
  have h : ∀ w ∈ Bundle.ownAtoms own ic cls names, w.before args s' = true := vx_own hat' (vx_isRefq hU'.1) (vx_isRefq hN'.1) hU'.2.word hN'.2.word
  have hown' : s'.vm.findClass own = some m.cls := by rw [hvm]; exact hown
  have hins : (Cond.instantiable cls 6).before args s' = true := h _ (by simp [Bundle.ownAtoms])
  obtain ⟨vm₁, cX, kX, hfX, hkX, -, -, X₁, st1⟩ := Y.newCold hexec (own := own) (C := cls) (index := ik) (n := 6) hown' hk' hins hini'
    (g := F0 m pc ls rest) rfl (by rw [hb]; exact d0) (Nat.le_refl _) (Nat.le_refl _)
  generalize hT1 : (T.setVm vm₁).pushCell { cls := cX, slots := kX.instanceTypes.map defaultValue, vm := .none } = T1 at X₁ st1
  have hcat : (Value.ref T.heap.size).category = 1 := rfl
  have hcellA : T1.heap[T.heap.size]? = some (freshCell cX kX) := by rw [← hT1]; exact State.heap_pushCell_size _ _
  have d3' : decode c.code (pc + 3) = .ok (.dup, 1) := by rw [hb]; exact d3
  have d4' : decode c.code (pc + 4) = .ok (.ldc is, 2) := by rw [hb]; exact d4
  have hstr' : vk_R own is text sa s' := vk_R.warm hW0 hstr
  obtain ⟨U, hsteps, hrun, hend, hW, hsame, ce, hce, hO⟩ := X₁.ctorThrowS hexec htr (own := own) (cls := cls) (names := names) (ic := ic) hown' hcls hnames h (fun x hx => nomatch hx) hfX hkX hcellA (by rw [hhp, hT]; exact Nat.le_refl _) (msg := .ref sa) rfl
    (g := { method := m, pc := pc + 6, locals := ls, stack := .ref sa :: .ref T.heap.size :: .ref T.heap.size :: rest, locked := none }) rfl hsize rfl rfl (rest := rest) rfl
    (by rw [hb]; exact d6) (by rw [hb]; exact d9) hout hRframes (by simp only [List.map_cons, List.sum_cons, hcat]; omega) hlocks
  obtain ⟨f1, f2⟩ := vx_frame hsame
  rw [hhp] at f1 f2
  have hWs : s.WarmedH U.vm := State.WarmedH.trans hW0 hW
  have hcl : s.vm.findClass cls = some ce.cls := by
    have h9 := hO.cls
    rw [hvm] at h9
    exact h9
  have hall : s.sameButNew ({ U with vm := s.vm } : State) locs mc ms := by
    subst hA
    obtain ⟨e1, e2⟩ := hsame
    rw [State.setFrames_setFrames] at e1
    have h2 : (T.setVm s.vm).sameButNew ({ U with vm := s.vm } : State) [] (0 + 1) (0 + 6) := ⟨e1, e2⟩
    have h3 := X.same.trans h2
    rw [List.append_nil] at h3
    exact h3.mono hc hs
  have hz9 : U.heap.size = H.size + 1 := by
    have g1 : T.heap.size < U.heap.size := (Array.getElem?_eq_some_iff.mp hce).1
    have g2 : U.heap.size ≤ s'.heap.size + (0 + 1) := hsame.2.2.1
    rw [hhp] at g2
    rw [hT] at g1
    omega
  refine ⟨U, ?_, .threw T.heap.size, hrun, hend, Or.inr ⟨T.heap.size, rfl, cls, ce, locs, hx U hWs.alike hz9 (fun q hq => f2 q hq (fun z hz => nomatch hz)), hce, hO.vm, hcl, hWs, hall, hf⟩⟩
  refine st1 _ ?_
  show Steps p.tables e below (T1.setTop { method := m, pc := pc + 3, locals := ls, stack := .ref T.heap.size :: rest, locked := none }) _
  jvm_step X₁.here [X₁.here.top, hexec, d3', Value.category]
  exact X₁.ldcString hexec (own := own) (text := text) (index := is) (a := sa) hown' hstr'.1 hstr'.2
    (g := { method := m, pc := pc + 4, locals := ls, stack := .ref T.heap.size :: .ref T.heap.size :: rest, locked := none }) rfl d4' _ hsteps
end EVT

section EVC
variable {X : ev_E} {l : Launch} {ms : Nat → ev_I} {x : ev_I} {tx : ev_X} {pc : Nat}
theorem ev_below {h : ev_M} {n : Nat} {s : State} {H : Heap} {locs : List Loc} (hz : X.1.heap.size ≤ s.heap.size) (hS : va_S (fun a => X.1.heap.size ≤ a) s.heap H locs) : ∀ a : Nat, a < X.1.heap.size → H[a]? = s.heap[a]? := fun a ha => hS.2.1 a (Nat.lt_of_lt_of_le ha hz) (Nat.not_le.mpr ha)
/-! ends -/
noncomputable def i_ir (ty : FieldType) : ev_S → ev_N := fun S => match S.2.1 with
  | [.int v] => ev_if (narrow ty (.int v) = .int v) (some (.inr (.inr (.inl (some (.int v), S.2.2)))))
  | _ => none
theorem ev_post {o : ev_O} {v : Option Value} {K : ev_H} {s t : State} {args : Array Value} {H : Heap} {locs : List Loc} (ho : o = .inl v) (hR : ev_R X K.1 K.2.1 H) (hz : X.1.heap.size ≤ s.heap.size) (hS : va_S (fun a => X.1.heap.size ≤ a) s.heap H locs) (ht : t.heap = H) : ev_QC X o K args s (.returned v) t :=
  ⟨⟨v, ho, rfl⟩, by rw [ht]; exact hR, fun a ha => by rw [ht]; exact ev_below (h := K.1) (n := 0) hz hS a ha⟩
theorem s_ireturn {ty : FieldType} (hr : x.2.2.2.1 = some ty) (d : decode x.2.1 pc = .ok (.ireturn, 1)) : ev_Snd X l ms x tx pc (i_ir ty) := by
  intro S y h
  obtain ⟨lo, st, K⟩ := S
  unfold i_ir at h
  dsimp only at h
  split at h
  · rename_i v
    obtain ⟨hn, h⟩ := ev_if_s h
    cases h
    refine ⟨rfl, fun p e R s m args below meth c n0 q0 hA => ?_⟩
    intro H locs ls hR hL hS
    obtain ⟨hx, hb, hml, hown, hret, hlk, hnm, htab, hW, hbel, hz, hfr, hlo⟩ := hA
    exact vx_ret (W.zret hx hb (hret.trans hr) hn (fun t ht hW => ev_post rfl hR hz hS ht) hS.2.2 d hlk)
  · cases h
def i_lr : ev_S → ev_N := fun S => match S.2.1 with
  | [.long v] => some (.inr (.inr (.inl (some (.long v), S.2.2))))
  | _ => none
theorem s_lreturn (hr : x.2.2.2.1 = some .long) (d : decode x.2.1 pc = .ok (.lreturn, 1)) : ev_Snd X l ms x tx pc i_lr := by
  intro S y h
  obtain ⟨lo, st, K⟩ := S
  unfold i_lr at h
  dsimp only at h
  split at h
  · rename_i v
    cases h
    refine ⟨rfl, fun p e R s m args below meth c n0 q0 hA => ?_⟩
    intro H locs ls hR hL hS
    obtain ⟨hx, hb, hml, hown, hret, hlk, hnm, htab, hW, hbel, hz, hfr, hlo⟩ := hA
    exact vx_ret (W.lret hx hb (hret.trans hr) (fun t ht hW => ev_post rfl hR hz hS ht) hS.2.2 d hlk)
  · cases h
def i_ar : ev_S → ev_N := fun S => match S.2.1 with
  | [.ref v] => some (.inr (.inr (.inl (some (.ref v), S.2.2))))
  | _ => none
theorem s_areturn {rt : FieldType} (hr : x.2.2.2.1 = some rt) (hrt : (∃ n, rt = .object n) ∨ ∃ t, rt = .array t) (d : decode x.2.1 pc = .ok (.areturn, 1)) : ev_Snd X l ms x tx pc i_ar := by
  intro S y h
  obtain ⟨lo, st, K⟩ := S
  unfold i_ar at h
  dsimp only at h
  split at h
  · rename_i v
    cases h
    refine ⟨rfl, fun p e R s m args below meth c n0 q0 hA => ?_⟩
    intro H locs ls hR hL hS
    obtain ⟨hx, hb, hml, hown, hret, hlk, hnm, htab, hW, hbel, hz, hfr, hlo⟩ := hA
    exact vx_ret (W.aret hx hb (hret.trans hr) hrt (Or.inr ⟨v, rfl⟩) (fun t ht hW => ev_post rfl hR hz hS ht) hS.2.2 d hlk)
  · cases h
def i_vr : ev_S → ev_N := fun S => match S.2.1 with
  | [] => some (.inr (.inr (.inl (none, S.2.2))))
  | _ => none
theorem s_return (hr : x.2.2.2.1 = none) (d : decode x.2.1 pc = .ok (.return_, 1)) : ev_Snd X l ms x tx pc i_vr := by
  intro S y h
  obtain ⟨lo, st, K⟩ := S
  unfold i_vr at h
  dsimp only at h
  split at h
  · cases h
    refine ⟨rfl, fun p e R s m args below meth c n0 q0 hA => ?_⟩
    intro H locs ls hR hL hS
    obtain ⟨hx, hb, hml, hown, hret, hlk, hnm, htab, hW, hbel, hz, hfr, hlo⟩ := hA
    exact vx_ret (W.vret hx hb (hret.trans hr) (fun t ht hW => ev_post rfl hR hz hS ht) hS.2.2 d hlk)
  · cases h
/-! new E("text") thrown -/
def i_thr (E : Nat) : ev_S → ev_N := fun S => bif Nat.ble S.2.1.length 4 then some (.inr (.inr (.inr (E, S.2.2)))) else none
theorem ev_sum2 : ∀ st : List Value, (st.map fun v => v.category).sum ≤ 2 * st.length := by
  intro st
  induction st with
  | nil => exact Nat.le_refl _
  | cons v st ih =>
    rw [List.map_cons, List.sum_cons, List.length_cons]
    have := lv_cat v
    omega
theorem s_throw (hG : ev_Good X) (hl : l.stackTraces = false) {E : Nat} {text : String} {names : List String} {ik is ic : Nat} (hcls : Bundle.fit (ev_nm E) = true) (hnames : ∀ n ∈ names, Bundle.fit n = true) (hlen : names.length ≤ 4) (hhh : x.2.2.2.2.1 = [])
    (hw1 : Cond.classLink x.1.cls ik (ev_nm E) ∈ lw_tbl) (hw2 : Cond.initialized (ev_nm E) ∈ lw_tbl) (hw3 : ∀ w ∈ vx_atS x.1.cls ic (ev_nm E) names, w ∈ lw_tbl ∧ ev_gd w = true) (hgood : ∀ w ∈ Cond.classLink x.1.cls ik (ev_nm E) :: Cond.initialized (ev_nm E) :: vx_atS x.1.cls ic (ev_nm E) names, vx_ot w = true)
    (hstr : ∃ sa, vk_R x.1.cls is text sa X.1)
    (d0 : decode x.2.1 pc = .ok (.new ik, 3)) (d3 : decode x.2.1 (pc + 3) = .ok (.dup, 1)) (d4 : decode x.2.1 (pc + 4) = .ok (.ldc is, 2)) (d6 : decode x.2.1 (pc + 6) = .ok (.invokespecial ic, 3)) (d9 : decode x.2.1 (pc + 9) = .ok (.athrow, 1)) : ev_Snd X l ms x tx pc (i_thr E) := by
  intro S y h
  obtain ⟨lo, st, K⟩ := S
  unfold i_thr at h
  dsimp only at h
  cases hst : Nat.ble st.length 4 with
  | false => rw [hst] at h; cases h
  | true =>
    rw [hst] at h
    cases h
    have hst := Nat.le_of_ble_eq_true hst
    refine ⟨rfl, fun p e R s m args below meth c n0 q0 hA h1 h2 h3 h4 => ?_⟩
    intro H locs ls hR hL hS
    dsimp only at h1 h2 h3 h4 hR hL ⊢
    obtain ⟨hx, hb, hml, hown, hret, hlk, hnm, htab, hW, hbel, hz, hfr, hlo⟩ := hA
    obtain ⟨sa, hstr⟩ := hstr
    have hsum := ev_sum2 st
    have hzs := hG.2.2.2.2.2
    refine ev_throwS hx hb hl (A := fun q => X.1.heap.size ≤ q) (ik := ik) (is := is) (ic := ic) (sa := sa) (text := text) (names := names) hown hcls hnames (ev_word hG hW hw1 rfl args) (ev_word hG hW hw2 rfl args) (vk_R.warm hW hstr) (fun w hw => ev_word hG hW (hw3 w hw).1 (hw3 w hw).2 args) hgood
      ((vx_Zq.moved hW.alike (vx_Zq.kept hzs.1 (fun a ha _ => hbel a ha)))) ((vx_Zq.moved hW.alike (vx_Zq.kept hzs.2.1 (fun a ha _ => hbel a ha)))) hS (hL.1.trans hml.symm) d0 d3 d4 d6 d9 (by rw [htab, hhh]; exact fun z hz => by cases hz)
      (by omega) (by omega) (by omega) (by omega) hlk ?_ hS.2.2 (by omega) (by omega)
    intro t hal hsz hold
    refine ⟨⟨E, rfl, rfl⟩, ⟨by rw [hsz, hR.1], Nat.le_succ_of_le hR.2.1, fun a c hc => ?_⟩, fun a ha => ?_⟩
    · have k1 := hR.2.2 a c hc
      exact ⟨k1.1, ev_atW_kept k1.2 (hold a (ev_atR_lt (ev_atW_R k1.2)))⟩
    · have k1 := hS.1
      rw [hold a (by omega)]
      exact ev_below (h := K.1) (n := 0) hz hS a ha
/-! calls -/
theorem ev_ofRun {o : ev_O} {K' : ev_H} {p : Program} {e : Env} {R : Room} {s : State} {m : MethodId} {args a : Array Value} {below : List Frame} {meth : Method} {c : Code} {H : Heap} {locs : List Loc} {cells slots mc mc' : Nat} {Q : State → Prop} {ls : Array Slot} {st0 rest : List Value}
    (hr : vx_Run p l e R s m args below meth c H locs cells slots mc mc' (F0 m pc ls st0) rest (ev_QC X o K' a) (ev_XC X o K') (fun a => X.1.heap.size ≤ a)) (hS : va_S (fun a => X.1.heap.size ≤ a) s.heap H locs)
    (kv : ∀ v, o = .inl v → ∀ (H1 : Heap) (locs1 : List Loc), ev_R X K'.1 K'.2.1 H1 → va_S (fun a => X.1.heap.size ≤ a) s.heap H1 locs1 → W p l e R s m args below meth c H1 locs1 (cells + mc) (slots + mc') Q (F0 m (pc + 3) ls (v.toList ++ rest)))
    (kx : ∀ E, o = .inr E → ∀ (H1 : Heap) (locs1 : List Loc) (q : Addr) (ce : Cell), ev_R X K'.1 K'.2.1 H1 → va_S (fun a => X.1.heap.size ≤ a) s.heap H1 locs1 → H1[q]? = some ce → ce.vm = .none → s.vm.findClass (ev_nm E) = some ce.cls → vx_W p l e R s m args below meth c H1 locs1 (cells + mc) (slots + mc') Q (F0 m pc ls rest) q)
    (hz : X.1.heap.size ≤ s.heap.size) (hH : H.size ≤ K'.2.1) : W p l e R s m args below meth c H locs cells slots Q (F0 m pc ls st0) := by
  intro T hT XX
  have keep : ∀ (st₀ t T' : State) (L : List Loc), st₀.heap = H → T'.heap = t.heap → ev_R X K'.1 K'.2.1 t.heap → (∀ a : Nat, a < X.1.heap.size → t.heap[a]? = st₀.heap[a]?) → (∀ q ∈ L, X.1.heap.size ≤ q.base) → va_S (fun a => X.1.heap.size ≤ a) s.heap T'.heap (locs ++ L) := by
    intro st₀ t T' L h0 e1 hR hk hL
    refine ⟨?_, fun q h1 h2 => ?_, fun q hq => ?_⟩
    · rw [e1, hR.1]
      exact Nat.le_trans hS.1 hH
    · rw [e1, hk q (Nat.not_le.mp h2), h0]
      exact hS.2.1 q h1 h2
    · rcases List.mem_append.mp hq with h | h
      · exact hS.2.2 q h
      · exact hL q h
  rcases hr T hT XX with ⟨v, st₀, t, T', L, h0, X', hL, e1, e2, ⟨⟨v', hv, hv2⟩, hR, hk⟩, st⟩ | ⟨q, st₀, t, T', L, E, ce, h0, X', hL, e1, e2, ⟨⟨k, hv, hv2⟩, hR, hk⟩, hce, hcv, hcl, st⟩
  · cases hv2
    obtain ⟨t2, a1, b1⟩ := kv v hv T'.heap (locs ++ L) (by rw [e1]; exact hR) (keep st₀ t T' L h0 e1 hR hk hL) T' rfl X'
    exact ⟨t2, st t2 a1, b1⟩
  · subst hv2
    obtain ⟨t2, a1, b1⟩ := kx k hv T'.heap (locs ++ L) q ce (by rw [e1]; exact hR) (keep st₀ t T' L h0 e1 hR hk hL) (by rw [e1]; exact hce) hcv hcl T' rfl X'
    exact ⟨t2, st.trans a1, b1⟩
theorem ev_ofRunM {v0 : Option Value} {K' : ev_H} {p : Program} {e : Env} {R : Room} {s : State} {m : MethodId} {args a : Array Value} {below : List Frame} {meth : Method} {c : Code} {H : Heap} {locs : List Loc} {cells slots mc mc' : Nat} {Q : State → Prop} {ls : Array Slot} {st0 rest : List Value}
    (hr : va_Run p l e R s m args below meth c H locs cells slots mc mc' (F0 m pc ls st0) rest (ev_QC X (.inl v0) K' a) (fun a => X.1.heap.size ≤ a)) (hS : va_S (fun a => X.1.heap.size ≤ a) s.heap H locs)
    (kv : ∀ (H1 : Heap) (locs1 : List Loc), ev_R X K'.1 K'.2.1 H1 → va_S (fun a => X.1.heap.size ≤ a) s.heap H1 locs1 → W p l e R s m args below meth c H1 locs1 (cells + mc) (slots + mc') Q (F0 m (pc + 3) ls (v0.toList ++ rest)))
    (hz : X.1.heap.size ≤ s.heap.size) (hH : H.size ≤ K'.2.1) : W p l e R s m args below meth c H locs cells slots Q (F0 m pc ls st0) := by
  refine ev_ofRun (o := .inl v0) (K' := K') (a := a) (mc := mc) (mc' := mc') (rest := rest) (fun T hT XX => Or.inl (hr T hT XX)) hS (fun v hv => ?_) (fun E hE => by cases hE) hz hH
  cases hv
  exact kv
theorem ev_blind {as : List Value} {K : ev_H} : FrameBlind (ev_Pc X as K) := fun _ _ _ _ q => q
theorem ev_pre {as : List Value} {h : ev_M} {n q : Nat} {s : State} {H : Heap} {locs : List Loc} (hW : X.1.WarmedH s.vm) (hbel : ∀ a : Nat, a < X.1.heap.size → s.heap[a]? = X.1.heap[a]?) (hz : X.1.heap.size ≤ s.heap.size) (hR : ev_R X h n H) (hS : va_S (fun a => X.1.heap.size ≤ a) s.heap H locs) :
    ∀ U : State, U.heap = H → s.WarmedH U.vm → ev_Pc X as (h, n, q) as.toArray U := fun U hU hWU => ⟨rfl, by rw [hU]; exact hR, State.WarmedH.trans hW hWU, fun a ha => by rw [hU]; exact (ev_below (h := h) (n := 0) hz hS a ha).trans (hbel a ha)⟩
theorem ev_wd0 {y : ev_I} (h : y.2.2.2.2.1 = []) : ev_wd y = [Cond.code y.1 y.2.1 y.2.2.1 y.2.2.2.1] := by unfold ev_wd; rw [h]
theorem ev_wd1 {y : ev_I} {r : Nat × Nat × Nat × Nat} {hh : List (Nat × Nat × Nat × Nat)} (h : y.2.2.2.2.1 = r :: hh) : ev_wd y = [Cond.codeWith y.1 y.2.1 y.2.2.1 y.2.2.2.1 (r :: hh)] := by unfold ev_wd; rw [h]
theorem ev_MetR {y : ev_I} {as : List Value} {K : ev_H} {v : Option Value} {K' : ev_H} (h : ev_Met X l y as K (.inl v) K') : Met l y.1 (ev_wd y) (ev_rm y (K'.2.1 - K.2.1) (K'.2.2 - K.2.2)) (ev_Pc X as K) (ev_QC X (.inl v) K') (K'.2.1 - K.2.1) (K'.2.2 - K.2.2) (fun a => X.1.heap.size ≤ a) := by
  refine MetFree.mono h (fun _ _ k => k) (fun _ _ _ _ _ k => k) (fun a st o t _ k => ?_)
  rcases k with k | ⟨q, -, E, ce, L, ⟨⟨k, hk, -⟩, -⟩, -⟩
  · exact k
  · cases hk
/-- what a callee must be, for its words -/
def ev_cal (ms : Nat → ev_I) (x : ev_I) (mi n : Nat) : Prop := (ms mi).2.2.2.2.1 = [] ∧ Cond.code (ms mi).1 (ms mi).2.1 (ms mi).2.2.1 (ms mi).2.2.2.1 ∈ lw_tbl ∧ Cond.initialized (ms mi).1.cls ∈ lw_tbl ∧ ((ms mi).1.cls ≠ "java/lang/invoke/MethodHandle" ∧ (ms mi).1.cls ≠ "java/lang/invoke/VarHandle") ∧
  (parseMethodDescriptor (ms mi).1.desc).map (fun d => d.parameters.length) = some n ∧ (ms mi).2.2.2.2.2 + 1 ≤ x.2.2.2.2.2 ∧ (ms mi).2.2.1 ≤ 100
theorem ev_callB (hG : ev_Good X) {mi n idx : Nat} (hc : ev_cal ms x mi n) {p : Program} {R : Room} {s : State} {m : MethodId} {meth : Method} {c : Code} (hA : ev_At X x p R s m meth c) (hl : Cond.methodLink x.1.cls idx (ms mi).1 ∈ lw_tbl) {mc mc' : Nat} {args : Array Value} :
    CallB R s args x.1.cls idx (ms mi).1 (ms mi).2.1 (ms mi).2.2.1 (ms mi).2.2.2.1 (ev_wd (ms mi)) (ev_rm (ms mi) mc mc') mc mc' n := by
  obtain ⟨hhh, hcode, hini, hno, hlen, hht, hmx⟩ := hc
  obtain ⟨hx, hb, hml, hown, hret, hlk, hnm, htab, hW, hbel, hz, hfr, hlo⟩ := hA
  refine ⟨rfl, rfl, ?_, ?_, ?_, by rw [ev_wd0 hhh]; exact List.mem_cons_self, ev_word hG hW hcode rfl args, ev_word hG hW hini rfl args, hno, fun sig h => ?_, ev_word hG hW hl rfl args⟩
  · show 12 + (ms mi).2.2.2.2.2 + 1 ≤ R.frames
    omega
  · show 8 + ((ms mi).2.2.1 + 11) + (200 + 130 * (ms mi).2.2.2.2.2) ≤ R.locals
    omega
  · intro w hw a' U hWU
    rw [ev_wd0 hhh] at hw
    rw [List.mem_singleton.mp hw]
    exact ev_word hG (State.WarmedH.trans hW hWU) hcode rfl a'
  · rw [h] at hlen
    exact (Option.some.inj hlen).symm
def ev_isK (c : Option ev_C) (ci : Nat) : Prop := ∃ fs : List Value, c = some (.inr (ci, fs))
noncomputable def i_cV (X : ev_E) (mi n ci nL p : Nat) : ev_S → ev_N := fun S => match S.2.1.drop n with
  | .ref b :: rest => ev_if (ev_isK (ev_lk X S.2.2.1 b) ci ∧ (S.2.1.take n).length = n ∧ (rest.length ≤ 4 ∨ (rest.map fun v => v.category).sum ≤ 8) ∧ (ev_sl (.ref b :: (S.2.1.take n).reverse)).length ≤ nL) (some (.inr (.inl (mi, .ref b :: (S.2.1.take n).reverse, p, S.1, rest, S.2.2))))
  | _ => none
theorem ev_stk {n : Nat} {st rest : List Value} (h : st.drop n = rest) : st = (st.take n).reverse.reverse ++ rest := by
  rw [List.reverse_reverse, ← h, List.take_append_drop]
theorem ev_recv (hG : ev_Good X) {ci : Nat} {r : vw_C} (hc : vwCl[ci]? = some r) {h : ev_M} {n b : Nat} {s : State} {H : Heap} {locs : List Loc} (hW : X.1.WarmedH s.vm) (hs : ∀ a : Nat, a < X.1.heap.size → s.heap[a]? = X.1.heap[a]?) (hz : X.1.heap.size ≤ s.heap.size) (hR : ev_R X h n H) (hS : va_S (fun a => X.1.heap.size ≤ a) s.heap H locs) (hk : ev_isK (ev_lk X h b) ci) :
    ∃ cellB : Cell, H[b]? = some cellB ∧ cellB.vm.isStatics = false ∧ s.vm.findClass r.1 = some cellB.cls := by
  obtain ⟨fs, he⟩ := hk
  obtain ⟨r', cell, e1, e2, e3, e4, e5, e6⟩ := ev_rd hG hs hz hR hS he
  cases e1.symm.trans hc
  exact ⟨cell, e2, e4, by rw [e3]; exact (ev_cls hG hW hc).2.1⟩
theorem s_invokevirtual (hG : ev_Good X) {mi n ci idx : Nat} {r : vw_C} (hc : vwCl[ci]? = some r) (hcal : ev_cal ms x mi n) (hl : Cond.methodLink x.1.cls idx (ms mi).1 ∈ lw_tbl) (hin : Cond.instanceMethod (ms mi).1 ∈ lw_tbl) (hse : Cond.selects r.1 (ms mi).1 (ms mi).1 ∈ lw_tbl) (d : decode x.2.1 pc = .ok (.invokevirtual idx, 3)) : ev_Snd X l ms x tx pc (i_cV X mi n ci (ms mi).2.2.1 (pc + 3)) := by
  intro S y h
  obtain ⟨lo, st, K, n9, q9⟩ := S
  unfold i_cV at h
  dsimp only at h
  split at h
  · rename_i b rest hd
    obtain ⟨⟨hk, hlen, hrl, hsl⟩, h⟩ := ev_if_s h
    cases h
    refine ⟨rfl, hsl, fun o K' hx hn hq hM p e R s m args below meth c n0 q0 Q hA h1 h2 h3 h4 kv kx => ?_⟩
    intro H locs ls hR hL hS
    dsimp only at hn hq hM h1 h2 kv kx hR hL ⊢
    have hA' := hA
    obtain ⟨hx, hb, hml, hown, hret, hlk, hnm, htab, hW, hbel, hz, hfr, hlo⟩ := hA
    have hsum := ev_sum2 rest
    have hr := vx_runV (e := e) (below := below) (meth := meth) (mc := K'.2.1 - n9) (ms := K'.2.2 - q9) (H := H) (locs := locs) (cells := n9 - n0) (slots := q9 - q0) (Ts := []) (g := F0 m pc ls st) (rest := rest) (b := b) (As := (st.take n).reverse) ⟨hx, hb, hml, hown, fun _ h => by cases h⟩ hM ⟨ev_callB hG hcal hA' hl, ev_word hG hW hin rfl args, ev_word hG hW hse rfl args⟩
      ⟨ev_blind, ev_recv hG hc hW hbel hz hR hS hk, ev_pre hW hbel hz hR hS⟩ rfl (by rw [List.length_reverse]; exact hlen) hL.1 (ev_stk hd) (by show 2 * 0 + _ ≤ 8; omega) d ⟨by omega, by omega⟩
    refine ev_ofRun hr hS (fun v hv H1 locs1 hR1 hS1 => ?_) (fun E hE H1 locs1 q ce hR1 hS1 hq1 hq2 hq3 => ?_) hz (by rw [hR.1]; exact hn)
    · have k3 := kv v hv H1 locs1 ls hR1 hL hS1
      dsimp only at k3
      exact W.cs (by omega) (by omega) k3
    · have k2 := kx E hE H1 locs1 ls rest q ce hR1 hL hS1 hq1 hq2 hq3
      rw [show n9 - n0 + (K'.2.1 - n9) = K'.2.1 - n0 by omega, show q9 - q0 + (K'.2.2 - q9) = K'.2.2 - q0 by omega]
      exact k2
  · cases h
noncomputable def i_cS (mi n nL p : Nat) : ev_S → ev_N := fun S => ev_if ((S.2.1.take n).length = n ∧ (S.2.1.drop n).length ≤ 4 ∧ (ev_sl (S.2.1.take n).reverse).length ≤ nL) (some (.inr (.inl (mi, (S.2.1.take n).reverse, p, S.1, S.2.1.drop n, S.2.2))))
theorem s_invokestatic (hG : ev_Good X) {mi n idx : Nat} (hcal : ev_cal ms x mi n) (hl : Cond.methodLink x.1.cls idx (ms mi).1 ∈ lw_tbl) (hin : Cond.static (ms mi).1 ∈ lw_tbl) (d : decode x.2.1 pc = .ok (.invokestatic idx, 3)) : ev_Snd X l ms x tx pc (i_cS mi n (ms mi).2.2.1 (pc + 3)) := by
  intro S y h
  obtain ⟨lo, st, K, n9, q9⟩ := S
  unfold i_cS at h
  dsimp only at h
  obtain ⟨⟨hlen, hrl, hsl⟩, h⟩ := ev_if_s h
  cases h
  refine ⟨rfl, hsl, fun o K' hx hn hq hM p e R s m args below meth c n0 q0 Q hA h1 h2 h3 h4 kv kx => ?_⟩
  intro H locs ls hR hL hS
  dsimp only at hn hq hM h1 h2 kv kx hR hL ⊢
  have hA' := hA
  obtain ⟨hx, hb, hml, hown, hret, hlk, hnm, htab, hW, hbel, hz, hfr, hlo⟩ := hA
  have hsum := ev_sum2 (st.drop n)
  have hr := vx_runS (e := e) (below := below) (meth := meth) (mc := K'.2.1 - n9) (ms := K'.2.2 - q9) (H := H) (locs := locs) (cells := n9 - n0) (slots := q9 - q0) (Ts := []) (g := F0 m pc ls st) (rest := st.drop n) (As := (st.take n).reverse) ⟨hx, hb, hml, hown, fun _ h => by cases h⟩ hM ⟨ev_callB hG hcal hA' hl, ev_word hG hW hin rfl args⟩
    ⟨ev_blind, ev_pre hW hbel hz hR hS⟩ rfl (by rw [List.length_reverse]; exact hlen) hL.1 (ev_stk rfl) (by show 2 * 0 + _ ≤ 8; omega) d ⟨by omega, by omega⟩
  refine ev_ofRun hr hS (fun v hv H1 locs1 hR1 hS1 => ?_) (fun E hE H1 locs1 q ce hR1 hS1 hq1 hq2 hq3 => ?_) hz (by rw [hR.1]; exact hn)
  · have k3 := kv v hv H1 locs1 ls hR1 hL hS1
    dsimp only at k3
    exact W.cs (by omega) (by omega) k3
  · have k2 := kx E hE H1 locs1 ls (st.drop n) q ce hR1 hL hS1 hq1 hq2 hq3
    rw [show n9 - n0 + (K'.2.1 - n9) = K'.2.1 - n0 by omega, show q9 - q0 + (K'.2.2 - q9) = K'.2.2 - q0 by omega]
    exact k2
/-- .. an <init>, of an object that has just been made -/
noncomputable def i_cI (mi n nL p : Nat) : ev_S → ev_N := fun S => match S.2.1.drop n with
  | .ref b :: rest => ev_if ((S.2.1.take n).length = n ∧ (rest.length ≤ 4 ∨ (rest.map fun v => v.category).sum ≤ 8) ∧ (ev_sl (.ref b :: (S.2.1.take n).reverse)).length ≤ nL) (some (.inr (.inl (mi, .ref b :: (S.2.1.take n).reverse, p, S.1, rest, S.2.2))))
  | _ => none
theorem s_invokeinit (hG : ev_Good X) {mi n idx : Nat} (hcal : ev_cal ms x mi n) (hret : (ms mi).2.2.2.1 = none) (hl : Cond.methodLink x.1.cls idx (ms mi).1 ∈ lw_tbl) (hin : Cond.instanceMethod (ms mi).1 ∈ lw_tbl) (hnm : (ms mi).1.name = "<init>") (htx : ∀ E, tx pc E = none) (d : decode x.2.1 pc = .ok (.invokespecial idx, 3)) : ev_Snd X l ms x tx pc (i_cI mi n (ms mi).2.2.1 (pc + 3)) := by
  intro S y h
  obtain ⟨lo, st, K, n9, q9⟩ := S
  unfold i_cI at h
  dsimp only at h
  split at h
  · rename_i b rest hd
    obtain ⟨⟨hlen, hrl, hsl⟩, h⟩ := ev_if_s h
    cases h
    refine ⟨rfl, hsl, fun o K' hx hn hq hM p e R s m args below meth c n0 q0 Q hA h1 h2 h3 h4 kv kx => ?_⟩
    rcases o with v | E
    · intro H locs ls hR hL hS
      dsimp only at hn hq hM h1 h2 kv kx hR hL ⊢
      have hA' := hA
      obtain ⟨hx, hb, hml, hown, hret', hlk, hnm', htab, hW, hbel, hz, hfr, hlo⟩ := hA
      have hsum := ev_sum2 rest
      have hB := ev_callB hG hcal hA' hl (mc := K'.2.1 - n9) (mc' := K'.2.2 - q9) (args := args)
      rw [hret] at hB
      have hr := va_runI (e := e) (below := below) (meth := meth) (mc := K'.2.1 - n9) (ms := K'.2.2 - q9) (H := H) (locs := locs) (cells := n9 - n0) (slots := q9 - q0) (Ts := []) (g := F0 m pc ls st) (rest := rest) (b := b) (As := (st.take n).reverse) ⟨hx, hb, hml, hown, fun _ h => by cases h⟩ (ev_MetR hM) ⟨hB, hnm, ev_word hG hW hin rfl args⟩
        ⟨ev_blind, ev_pre hW hbel hz hR hS⟩ rfl (by rw [List.length_reverse]; exact hlen) hL.1 (ev_stk hd) (by show 2 * 0 + _ ≤ 8; omega) d ⟨by omega, by omega⟩
      refine ev_ofRunM hr hS (fun H1 locs1 hR1 hS1 => ?_) hz (by rw [hR.1]; exact hn)
      have k3 := kv v rfl H1 locs1 ls hR1 hL hS1
      dsimp only at k3
      exact W.cs (by omega) (by omega) k3
    · exact absurd (htx E) (hx E rfl)
  · cases h
end EVC
end
section
/-! ===== the small machine's runs are the machine's ===== -/
section EVM
variable {X : ev_E} {l : Launch} {ms : Nat → ev_I} {T : ev_T}
/-- where a thrown object goes in a method: caught or on to the caller -/
def ev_Hs (X : ev_E) (l : Launch) (x : ev_I) (tx : ev_X) : Prop := ∀ (pc E : Nat) (p : Program) (e : Env) (R : Room) (s : State) (m : MethodId) (args : Array Value) (below : List Frame) (meth : Method) (c : Code) (n0 q0 : Nat) (lo : List Value) (K : ev_H), ev_At X x p R s m meth c →
  (tx pc E = some none → ev_VX X x p l e R s m args below meth c n0 q0 (vx_MQ below (ev_QC X (.inr E) K) (ev_XC X (.inr E) K) args s (K.2.1 - n0) (K.2.2 - q0) (fun a => X.1.heap.size ≤ a)) pc E lo K) ∧
  ∀ (k : Nat × Nat) (Q : State → Prop), tx pc E = some (some k) → ev_V X x p l e R s m args below meth c n0 q0 Q k.1 (ev_st lo k.2 ev_J, [], K) → ev_VX X x p l e R s m args below meth c n0 q0 Q pc E lo K
theorem ev_Hs_plain {x : ev_I} {tx : ev_X} (hh : x.2.2.2.2.1 = []) (h : ∀ pc E k, tx pc E ≠ some (some k)) : ev_Hs X l x tx := by
  intro pc E p e R s m args below meth c n0 q0 lo K hA
  refine ⟨fun _ => ?_, fun k Q hk => absurd hk (h pc E k)⟩
  intro H locs ls rest q ce hR hL hS hq hv hcl
  obtain ⟨hx, hb, hml, hown, hret, hlk, hnm, htab, hW, hbel, hz, hfr, hlo⟩ := hA
  refine vx_out (fun z hz => by rw [htab, hh] at hz; cases hz) hlk hq hv hcl (fun t ht _ => ⟨⟨E, rfl, rfl⟩, by rw [ht]; exact hR, fun a ha => by rw [ht]; exact ev_below (h := K.1) (n := 0) hz hS a ha⟩) hS.2.2 (Nat.le_refl _) (Nat.le_refl _)
theorem ev_sl_lg : ∀ (vs : List Value), (ev_sl vs).length = (lg_sl vs).length ∧ ∀ (i : Nat) (v : Value), (ev_sl vs)[i]? = some v → ev_isJ v = true ∨ (lg_sl vs)[i]? = some (.val v) := by
  intro vs
  induction vs with
  | nil => exact ⟨rfl, fun i v h => by simp [ev_sl] at h⟩
  | cons w vs ih =>
    obtain ⟨h1, h2⟩ := ih
    have e1 : ev_sl (w :: vs) = (if w.category = 2 then [w, ev_J] else [w]) ++ ev_sl vs := rfl
    have e2 : lg_sl (w :: vs) = (if w.category = 2 then [.val w, .second] else [.val w]) ++ lg_sl vs := rfl
    rw [e1, e2]
    split
    · refine ⟨by simp [h1], fun i v h => ?_⟩
      match i, h with
      | 0, h => cases h; exact Or.inr rfl
      | 1, h => cases h; exact Or.inl rfl
      | i + 2, h => exact h2 i v h
    · refine ⟨by simp [h1], fun i v h => ?_⟩
      match i, h with
      | 0, h => cases h; exact Or.inr rfl
      | i + 1, h => exact h2 i v h
theorem ev_L_entry {as : List Value} {nL : Nat} (h : (ev_sl as).length ≤ nL) : ev_L ((lg_sl as ++ List.replicate (nL - (lg_sl as).length) Slot.unset).toArray) nL (ev_lo nL as) := by
  obtain ⟨h1, h2⟩ := ev_sl_lg as
  obtain ⟨w1, w2, -⟩ := lv_entry as (n := nL) (by omega)
  refine ⟨w1, w2, by unfold ev_lo; rw [List.length_append, List.length_replicate]; omega, fun i v hv => ?_⟩
  unfold ev_lo at hv
  by_cases hi : i < (ev_sl as).length
  · rw [List.getElem?_append_left hi] at hv
    rcases h2 i v hv with h3 | h3
    · exact Or.inl h3
    · right
      rw [List.getElem?_toArray, List.getElem?_append_left (by omega)]
      exact h3
  · rw [List.getElem?_append_right (by omega)] at hv
    have := (List.getElem?_eq_some_iff.mp hv)
    obtain ⟨k1, k2⟩ := this
    rw [List.getElem_replicate] at k2
    rw [← k2]
    exact Or.inl rfl
/-- a run of a method from its entry, as a contract -/
theorem ev_ofV {y : ev_I} {as : List Value} {K : ev_H} {o : ev_O} {K' : ev_H} (hp : plainName y.1.cls = true) (hsl : (ev_sl as).length ≤ y.2.2.1)
    (h : ∀ (p : Program) (e : Env) (R : Room) (s : State) (m : MethodId) (args : Array Value) (below : List Frame) (meth : Method) (c : Code), ev_At X y p R s m meth c → K'.2.1 - K.2.1 ≤ R.cells → K'.2.2 - K.2.2 ≤ R.slots →
      ev_V X y p l e R s m args below meth c K.2.1 K.2.2 (vx_MQ below (ev_QC X o K') (ev_XC X o K') args s (K'.2.1 - K.2.1) (K'.2.2 - K.2.2) (fun a => X.1.heap.size ≤ a)) 0 (ev_lo y.2.2.1 as, [], K)) : ev_Met X l y as K o K' := by
  have key : ∀ (ws : List Cond) (p : Program) (e : Env) (s : State) (m : MethodId) (args : Array Value) (below : List Frame) (meth : Method) (c : Code) (s₁ : State), BodyLoose p l y.1 (headSpec ws (ev_rm y (K'.2.1 - K.2.1) (K'.2.2 - K.2.2))) y.2.1 y.2.2.1 y.2.2.2.1 e s m args below meth c s₁ → c.maxLocals = y.2.2.1 → c.exceptionTable.toList = tableOf y.2.2.2.2.1 → ev_Pc X as K args s →
      W p l e (ev_rm y (K'.2.1 - K.2.1) (K'.2.2 - K.2.2)) s m args below meth c s.heap [] 0 0 (vx_MQ below (ev_QC X o K') (ev_XC X o K') args s (K'.2.1 - K.2.1) (K'.2.2 - K.2.2) (fun a => X.1.heap.size ≤ a)) (entryFrame m args y.2.2.1) := by
    intro ws p e s m args below meth c s₁ B hml htab hv
    obtain ⟨rfl, hR, hW, hbel⟩ := hv
    rw [lg_entry_eq]
    have h1 := h p e (ev_rm y (K'.2.1 - K.2.1) (K'.2.2 - K.2.2)) s m as.toArray below meth c ⟨B.exec, B.bytes, hml, findClass_of_methodNamed B.named, B.returns, B.notSynchronized, (name_of_methodNamed B.named B.method).1, htab, hW, hbel, by have := hR.1; have := hR.2.1; omega, Nat.le_refl _, Nat.le_refl _⟩ (Nat.le_refl _) (Nat.le_refl _) s.heap [] _ hR (ev_L_entry hsl) va_S.rf
    dsimp only at h1
    exact W.cs (by omega) (by omega) h1
  unfold ev_Met
  rcases hh : y.2.2.2.2.1 with _ | ⟨r, hh'⟩
  · refine vx_ofW (cc := y.2.1) (maxL := y.2.2.1) (ret := y.2.2.2.1) (ws' := []) hp (ev_wd0 hh) fun p e s m args below meth c s₁ B hml ht hv => ?_
    refine key _ p e s m args below meth c s₁ B hml ?_ hv
    rw [hh]
    cases hl : c.exceptionTable.toList with
    | nil => rfl
    | cons z zs => exact (ht z (by rw [hl]; exact List.mem_cons_self)).elim
  · refine vx_ofWH (cc := y.2.1) (maxL := y.2.2.1) (ret := y.2.2.2.1) (hh := r :: hh') (ws' := []) hp (ev_wd1 hh) fun p e s m args below meth c s₁ B hml hv => ?_
    refine key _ p e s m args below meth c s₁ B hml ?_ hv
    rw [hh]
    exact vx_table (x := y.1) B (atoms_spec (ws := ev_wd y) B.pre _ (by rw [ev_wd1 hh]; exact List.mem_cons_self))
theorem ev_main (hT : ∀ mi pc, ev_Snd X l ms (ms mi) (T.2.2 mi) pc (T.1 mi pc)) (hH : ∀ mi, ev_Hs X l (ms mi) (T.2.2 mi)) (hn : ∀ mi, T.2.1 mi = (ms mi).2.2.1) (hp : ∀ mi, plainName (ms mi).1.cls = true) :
    ∀ (f mi pc : Nat) (S : ev_S) (o : ev_O) (K' : ev_H), ev_run T f mi pc S = some (o, K') → S.2.2.2.1 ≤ K'.2.1 ∧ S.2.2.2.2 ≤ K'.2.2 ∧
      ∀ (p : Program) (e : Env) (R : Room) (s : State) (m : MethodId) (args : Array Value) (below : List Frame) (meth : Method) (c : Code) (n0 q0 : Nat), ev_At X (ms mi) p R s m meth c → n0 ≤ S.2.2.2.1 → q0 ≤ S.2.2.2.2 → K'.2.1 - n0 ≤ R.cells → K'.2.2 - q0 ≤ R.slots →
        ev_V X (ms mi) p l e R s m args below meth c n0 q0 (vx_MQ below (ev_QC X o K') (ev_XC X o K') args s (K'.2.1 - n0) (K'.2.2 - q0) (fun a => X.1.heap.size ≤ a)) pc S := by
  intro f
  induction f with
  | zero => intro mi pc S o K' h; simp [ev_run] at h
  | succ f ih =>
    intro mi pc S o K' h
    have hs := hT mi pc S
    rw [ev_run] at h
    rcases hx : T.1 mi pc S with _ | (z | z | z | z)
    · rw [hx] at h; cases h
    · rw [hx] at h
      obtain ⟨g1, g2, g3⟩ := hs _ hx
      obtain ⟨i1, i2, i3⟩ := ih mi z.1 z.2 o K' h
      refine ⟨Nat.le_trans g1 i1, Nat.le_trans g2 i2, fun p e R s m args below meth c n0 q0 hA h1 h2 h3 h4 => ?_⟩
      exact g3 p e R s m args below meth c n0 q0 _ hA h1 h2 (by omega) (by omega) (i3 p e R s m args below meth c n0 q0 hA (Nat.le_trans h1 g1) (Nat.le_trans h2 g2) h3 h4)
    · rw [hx] at h
      dsimp only at h
      obtain ⟨g1, g2, g3⟩ := hs _ hx
      rcases hy : ev_run T f z.1 0 (ev_lo (T.2.1 z.1) z.2.1, [], z.2.2.2.2.2) with _ | ⟨v | E, H⟩
      · rw [hy] at h; cases h
      · rw [hy] at h
        dsimp only at h
        obtain ⟨j1, j2, j3⟩ := ih z.1 0 _ _ _ hy
        obtain ⟨i1, i2, i3⟩ := ih mi z.2.2.1 _ o K' h
        dsimp only at j1 j2 j3 i1 i2 i3
        rw [g1] at j1 j2 j3
        refine ⟨Nat.le_trans j1 i1, Nat.le_trans j2 i2, fun p e R s m args below meth c n0 q0 hA h1 h2 h3 h4 => ?_⟩
        have hM : ev_Met X l (ms z.1) z.2.1 S.2.2 (.inl v) H := ev_ofV (hp z.1) g2 fun p e R s m args below meth c hA' k1 k2 => by
          have k3 := j3 p e R s m args below meth c S.2.2.2.1 S.2.2.2.2 hA' (Nat.le_refl _) (Nat.le_refl _) k1 k2
          rw [hn z.1] at k3
          exact k3
        refine g3 (.inl v) H (fun E hE => by cases hE) j1 j2 hM p e R s m args below meth c n0 q0 _ hA h1 h2 (by omega) (by omega) (fun w hw => ?_) (fun E hE => by cases hE)
        cases hw
        exact i3 p e R s m args below meth c n0 q0 hA (Nat.le_trans h1 j1) (Nat.le_trans h2 j2) h3 h4
      · rw [hy] at h
        dsimp only at h
        obtain ⟨j1, j2, j3⟩ := ih z.1 0 _ _ _ hy
        dsimp only at j1 j2 j3
        rw [g1] at j1 j2 j3
        have hM : ev_Met X l (ms z.1) z.2.1 S.2.2 (.inr E) H := ev_ofV (hp z.1) g2 fun p e R s m args below meth c hA' k1 k2 => by
          have k3 := j3 p e R s m args below meth c S.2.2.2.1 S.2.2.2.2 hA' (Nat.le_refl _) (Nat.le_refl _) k1 k2
          rw [hn z.1] at k3
          exact k3
        rcases hz : T.2.2 mi pc E with _ | _ | k
        · rw [hz] at h; cases h
        · rw [hz] at h
          cases h
          refine ⟨j1, j2, fun p e R s m args below meth c n0 q0 hA h1 h2 h3 h4 => ?_⟩
          refine g3 (.inr E) K' (fun E' hE => by cases hE; rw [hz]; exact fun z => by cases z) j1 j2 hM p e R s m args below meth c n0 q0 _ hA h1 h2 h3 h4 (fun w hw => by cases hw) (fun E' hE => ?_)
          cases hE
          exact (hH mi pc E p e R s m args below meth c n0 q0 z.2.2.2.1 K' hA).1 hz
        · rw [hz] at h
          dsimp only at h
          obtain ⟨i1, i2, i3⟩ := ih mi k.1 _ o K' h
          dsimp only at i1 i2 i3
          refine ⟨Nat.le_trans j1 i1, Nat.le_trans j2 i2, fun p e R s m args below meth c n0 q0 hA h1 h2 h3 h4 => ?_⟩
          refine g3 (.inr E) H (fun E' hE => by cases hE; rw [hz]; exact fun z => by cases z) j1 j2 hM p e R s m args below meth c n0 q0 _ hA h1 h2 (by omega) (by omega) (fun w hw => by cases hw) (fun E' hE => ?_)
          cases hE
          exact (hH mi pc E p e R s m args below meth c n0 q0 z.2.2.2.1 H hA).2 k _ hz (i3 p e R s m args below meth c n0 q0 hA (Nat.le_trans h1 j1) (Nat.le_trans h2 j2) h3 h4)
    · rw [hx] at h
      dsimp only at h
      cases h
      obtain ⟨g1, g2⟩ := hs _ hx
      rw [g1] at g2 ⊢
      exact ⟨Nat.le_refl _, Nat.le_refl _, fun p e R s m args below meth c n0 q0 hA h1 h2 h3 h4 => g2 p e R s m args below meth c n0 q0 hA⟩
    · rw [hx] at h
      dsimp only at h
      cases h
      obtain ⟨g1, g2⟩ := hs _ hx
      rw [g1] at g2 ⊢
      exact ⟨Nat.le_succ _, Nat.le_add_right _ _, fun p e R s m args below meth c n0 q0 hA h1 h2 h3 h4 => g2 p e R s m args below meth c n0 q0 hA h1 h2 h3 h4⟩
end EVM
end
section
section EVT2
variable {p : Program} {l : Launch} {e : Env} {R : Room} {s : State} {m : MethodId} {args : Array Value} {below : List Frame} {meth : Method} {c : Code} {H : Heap} {locs : List Loc} {cells slots : Nat} {Q : State → Prop}
variable {mc ms : Nat} {free : Addr → Prop} {A0 A1 : Nat → Prop} {H0 : Heap} {a : Array Value} {ls : Array Slot} {st0 rest : List Value}
variable {Qc : Array Value → State → Outcome → State → Prop} {XC : String → State → State → Prop}
theorem ev_throwSW {cc : ByteArray} {pc : Nat} (hexec : p.tables.exec = Jvm.exec) (hb : c.code = cc) (hl : l.stackTraces = false) {own cls text : String} {names : List String} {ik is ic mc ms sa : Nat} {A : Nat → Prop}
    (hown : s.vm.findClass own = some m.cls) (hcls : Bundle.fit cls = true) (hnames : ∀ n ∈ names, Bundle.fit n = true)
    (hk : (Cond.classLink own ik cls).before args s = true) (hini : (Cond.initialized cls).before args s = true) (hstr : vk_R own is text sa s) (hat : ∀ w ∈ vx_atS own ic cls names, w.before args s = true)
    (hgood : ∀ w ∈ Cond.classLink own ik cls :: Cond.initialized cls :: vx_atS own ic cls names, vx_ot w = true)
    (hU : vx_Zq Bundle.tN "UNASSIGNED_STACK" Bundle.steD A s s.heap) (hN : vx_Zq Bundle.tN "SUPPRESSED_SENTINEL" Bundle.listD A s s.heap) (hS : va_S A s.heap H locs) (hsize : ls.size = c.maxLocals)
    (d0 : decode cc pc = .ok (.new ik, 3)) (d3 : decode cc (pc + 3) = .ok (.dup, 1)) (d4 : decode cc (pc + 4) = .ok (.ldc_w is, 3)) (d7 : decode cc (pc + 7) = .ok (.invokespecial ic, 3)) (d10 : decode cc (pc + 10) = .ok (.athrow, 1))
    (hout : ∀ x ∈ c.exceptionTable.toList, covers x (pc + 10) = false)
    (hRframes : names.length + 3 < R.frames) (hRlocals : (rest.map fun v => v.category).sum + (13 * (names.length + 1) + 43) ≤ R.locals) (hRcells : cells + 1 ≤ R.cells) (hRslots : slots + 6 ≤ R.slots) (hlocks : meth.locks = false)
    (hx : ∀ t : State, s.vm.Alike t.vm → t.heap.size = H.size + 1 → (∀ q : Nat, q < H.size → t.heap[q]? = H[q]?) → XC cls s t)
    (hf : ∀ z ∈ locs, free z.base) (hc : cells + 1 ≤ mc) (hs : slots + 6 ≤ ms) :
    W p l e R s m args below meth c H locs cells slots (vx_MQ below Qc XC args s mc ms free) (F0 m pc ls rest) := by
  intro T hT X
  have htr : e.platform.stackTraces = false := (show e.platform.stackTraces = l.stackTraces by rw [X.admits.platform]).trans hl
  have Y := vx_rebase X (R' := { frames := R.frames, locals := R.locals, cells := 1, slots := 6 }) (Nat.le_refl _) (Nat.le_refl _) hRcells hRslots
  obtain ⟨s', hA⟩ : ∃ z, z = (T.setVm s.vm).setFrames (.invoking m args :: below) := ⟨_, rfl⟩
  rw [← hA] at Y
  have hvm : s'.vm = s.vm := by rw [hA]; rfl
  have hhp : s'.heap = H := by rw [hA]; exact hT
  have hW0 : s.WarmedH s'.vm := by rw [hvm]; exact State.WarmedH.refl s
  have hat' : ∀ w ∈ vx_atS own ic cls names, w.before args s' = true := fun w hw => vx_ot_at hW0 hvm.symm (hgood w (List.mem_cons_of_mem _ (List.mem_cons_of_mem _ hw))) (hat w hw)
  have hk' : (Cond.classLink own ik cls).before args s' = true := vx_ot_at hW0 hvm.symm (hgood _ List.mem_cons_self) hk
  have hini' : (Cond.initialized cls).before args s' = true := vx_ot_at hW0 hvm.symm (hgood _ (List.mem_cons_of_mem _ List.mem_cons_self)) hini
  have hU' : vx_Zq Bundle.tN "UNASSIGNED_STACK" Bundle.steD A s' s'.heap := by rw [hhp]; exact vx_Zq.moved hW0.alike (hU.kept hS.2.1)
  have hN' : vx_Zq Bundle.tN "SUPPRESSED_SENTINEL" Bundle.listD A s' s'.heap := by rw [hhp]; exact vx_Zq.moved hW0.alike (hN.kept hS.2.1)
  have h : ∀ w ∈ Bundle.ownAtoms own ic cls names, w.before args s' = true := vx_own hat' (vx_isRefq hU'.1) (vx_isRefq hN'.1) hU'.2.word hN'.2.word
  have hown' : s'.vm.findClass own = some m.cls := by rw [hvm]; exact hown
  have hins : (Cond.instantiable cls 6).before args s' = true := h _ (by simp [Bundle.ownAtoms])
  obtain ⟨vm₁, cX, kX, hfX, hkX, -, -, X₁, st1⟩ := Y.newCold hexec (own := own) (C := cls) (index := ik) (n := 6) hown' hk' hins hini'
    (g := F0 m pc ls rest) rfl (by rw [hb]; exact d0) (Nat.le_refl _) (Nat.le_refl _)
  generalize hT1 : (T.setVm vm₁).pushCell { cls := cX, slots := kX.instanceTypes.map defaultValue, vm := .none } = T1 at X₁ st1
  have hcat : (Value.ref T.heap.size).category = 1 := rfl
  have hcellA : T1.heap[T.heap.size]? = some (freshCell cX kX) := by rw [← hT1]; exact State.heap_pushCell_size _ _
  have d3' : decode c.code (pc + 3) = .ok (.dup, 1) := by rw [hb]; exact d3
  have d4' : decode c.code (pc + 4) = .ok (.ldc_w is, 3) := by rw [hb]; exact d4
  have hstr' : vk_R own is text sa s' := vk_R.warm hW0 hstr
  obtain ⟨U, hsteps, hrun, hend, hW, hsame, ce, hce, hO⟩ := X₁.ctorThrowS hexec htr (own := own) (cls := cls) (names := names) (ic := ic) hown' hcls hnames h (fun x hx => nomatch hx) hfX hkX hcellA (by rw [hhp, hT]; exact Nat.le_refl _) (msg := .ref sa) rfl
    (g := { method := m, pc := pc + 7, locals := ls, stack := .ref sa :: .ref T.heap.size :: .ref T.heap.size :: rest, locked := none }) rfl hsize rfl rfl (rest := rest) rfl
    (by rw [hb]; exact d7) (by rw [hb]; exact d10) hout hRframes (by simp only [List.map_cons, List.sum_cons, hcat]; omega) hlocks
  obtain ⟨f1, f2⟩ := vx_frame hsame
  rw [hhp] at f1 f2
  have hWs : s.WarmedH U.vm := State.WarmedH.trans hW0 hW
  have hcl : s.vm.findClass cls = some ce.cls := by
    have h9 := hO.cls
    rw [hvm] at h9
    exact h9
  have hall : s.sameButNew ({ U with vm := s.vm } : State) locs mc ms := by
    subst hA
    obtain ⟨e1, e2⟩ := hsame
    rw [State.setFrames_setFrames] at e1
    have h2 : (T.setVm s.vm).sameButNew ({ U with vm := s.vm } : State) [] (0 + 1) (0 + 6) := ⟨e1, e2⟩
    have h3 := X.same.trans h2
    rw [List.append_nil] at h3
    exact h3.mono hc hs
  have hz9 : U.heap.size = H.size + 1 := by
    have g1 : T.heap.size < U.heap.size := (Array.getElem?_eq_some_iff.mp hce).1
    have g2 : U.heap.size ≤ s'.heap.size + (0 + 1) := hsame.2.2.1
    rw [hhp] at g2
    rw [hT] at g1
    omega
  refine ⟨U, ?_, .threw T.heap.size, hrun, hend, Or.inr ⟨T.heap.size, rfl, cls, ce, locs, hx U hWs.alike hz9 (fun q hq => f2 q hq (fun z hz => nomatch hz)), hce, hO.vm, hcl, hWs, hall, hf⟩⟩
  refine st1 _ ?_
  show Steps p.tables e below (T1.setTop { method := m, pc := pc + 3, locals := ls, stack := .ref T.heap.size :: rest, locked := none }) _
  jvm_step X₁.here [X₁.here.top, hexec, d3', Value.category]
  exact X₁.ldcStringW hexec (own := own) (text := text) (index := is) (a := sa) hown' hstr'.1 hstr'.2
    (g := { method := m, pc := pc + 4, locals := ls, stack := .ref T.heap.size :: .ref T.heap.size :: rest, locked := none }) rfl d4' _ hsteps
end EVT2

section EVD
variable {X : ev_E} {l : Launch} {ms : Nat → ev_I} {x : ev_I} {tx : ev_X} {pc : Nat}
theorem s_throwW (hG : ev_Good X) (hl : l.stackTraces = false) {E : Nat} {text : String} {names : List String} {ik is ic : Nat} (hcls : Bundle.fit (ev_nm E) = true) (hnames : ∀ n ∈ names, Bundle.fit n = true) (hlen : names.length ≤ 4) (hhh : x.2.2.2.2.1 = [])
    (hw1 : Cond.classLink x.1.cls ik (ev_nm E) ∈ lw_tbl) (hw2 : Cond.initialized (ev_nm E) ∈ lw_tbl) (hw3 : ∀ w ∈ vx_atS x.1.cls ic (ev_nm E) names, w ∈ lw_tbl ∧ ev_gd w = true) (hgood : ∀ w ∈ Cond.classLink x.1.cls ik (ev_nm E) :: Cond.initialized (ev_nm E) :: vx_atS x.1.cls ic (ev_nm E) names, vx_ot w = true)
    (hstr : ∃ sa, vk_R x.1.cls is text sa X.1)
    (d0 : decode x.2.1 pc = .ok (.new ik, 3)) (d3 : decode x.2.1 (pc + 3) = .ok (.dup, 1)) (d4 : decode x.2.1 (pc + 4) = .ok (.ldc_w is, 3)) (d6 : decode x.2.1 (pc + 7) = .ok (.invokespecial ic, 3)) (d9 : decode x.2.1 (pc + 10) = .ok (.athrow, 1)) : ev_Snd X l ms x tx pc (i_thr E) := by
  intro S y h
  obtain ⟨lo, st, K⟩ := S
  unfold i_thr at h
  dsimp only at h
  cases hst : Nat.ble st.length 4 with
  | false => rw [hst] at h; cases h
  | true =>
    rw [hst] at h
    cases h
    have hst := Nat.le_of_ble_eq_true hst
    refine ⟨rfl, fun p e R s m args below meth c n0 q0 hA h1 h2 h3 h4 => ?_⟩
    intro H locs ls hR hL hS
    dsimp only at h1 h2 h3 h4 hR hL ⊢
    obtain ⟨hx, hb, hml, hown, hret, hlk, hnm, htab, hW, hbel, hz, hfr, hlo⟩ := hA
    obtain ⟨sa, hstr⟩ := hstr
    have hsum := ev_sum2 st
    have hzs := hG.2.2.2.2.2
    refine ev_throwSW hx hb hl (A := fun q => X.1.heap.size ≤ q) (ik := ik) (is := is) (ic := ic) (sa := sa) (text := text) (names := names) hown hcls hnames (ev_word hG hW hw1 rfl args) (ev_word hG hW hw2 rfl args) (vk_R.warm hW hstr) (fun w hw => ev_word hG hW (hw3 w hw).1 (hw3 w hw).2 args) hgood
      ((vx_Zq.moved hW.alike (vx_Zq.kept hzs.1 (fun a ha _ => hbel a ha)))) ((vx_Zq.moved hW.alike (vx_Zq.kept hzs.2.1 (fun a ha _ => hbel a ha)))) hS (hL.1.trans hml.symm) d0 d3 d4 d6 d9 (by rw [htab, hhh]; exact fun z hz => by cases hz)
      (by omega) (by omega) (by omega) (by omega) hlk ?_ hS.2.2 (by omega) (by omega)
    intro t hal hsz hold
    refine ⟨⟨E, rfl, rfl⟩, ⟨by rw [hsz, hR.1], Nat.le_succ_of_le hR.2.1, fun a c hc => ?_⟩, fun a ha => ?_⟩
    · have k1 := hR.2.2 a c hc
      exact ⟨k1.1, ev_atW_kept k1.2 (hold a (ev_atR_lt (ev_atW_R k1.2)))⟩
    · have k1 := hS.1
      rw [hold a (by omega)]
      exact ev_below (h := K.1) (n := 0) hz hS a ha

/-! a constructor of Object -/
def i_oi (p : Nat) : ev_S → ev_N := fun S => match S.2.1 with
  | .ref a :: st => bif Nat.ble st.length 4 then some (.inl (p, S.1, st, S.2.2)) else none
  | _ => none
theorem s_objinit (hG : ev_Good X) {idx : Nat} (hw : Cond.methodLink x.1.cls idx Lib.objectInit ∈ lw_tbl) (hw2 : Cond.instanceMethod Lib.objectInit ∈ lw_tbl) (hw3 : Cond.code Lib.objectInit ⟨#[0xb1]⟩ 1 none ∈ lw_tbl) (d : decode x.2.1 pc = .ok (.invokespecial idx, 3)) : ev_Snd X l ms x tx pc (i_oi (pc + 3)) := by
  intro S y h
  obtain ⟨lo, st, K⟩ := S
  unfold i_oi at h
  dsimp only at h
  split at h
  · rename_i a st
    cases hb : Nat.ble st.length 4 <;> rw [hb] at h <;> cases h
    have hst := Nat.le_of_ble_eq_true hb
    have hsum := ev_sum2 st
    refine ⟨Nat.le_refl _, Nat.le_refl _, fun p e R s m args below meth c n0 q0 Q hA h1 h2 h3 h4 kk => ?_⟩
    intro H locs ls hR hL hS
    obtain ⟨hx, hb, hml, hown, hret, hlk, hnm, htab, hW, hbel, hz, hfr, hlo⟩ := hA
    exact W.objInit hx hb hown (ev_word hG hW hw rfl args) (ev_word hG hW hw2 rfl args) (ev_word hG hW hw3 rfl args) rfl (hL.1.trans hml.symm) rfl d (by omega) (by show 2 * 0 + _ + 12 ≤ _; omega) (kk H locs ls hR hL hS)
  · cases h
/-! a private constructor of a nest mate -/
theorem s_invokeinitN (hG : ev_Good X) {mi n idx : Nat} {host : String} (hcal : ev_cal ms x mi n) (hret : (ms mi).2.2.2.1 = none) (hl : Cond.methodLinkNest x.1.cls idx (ms mi).1 host ∈ lw_tbl) (hin : Cond.instanceMethod (ms mi).1 ∈ lw_tbl) (hnm : (ms mi).1.name = "<init>") (htx : ∀ E, tx pc E = none) (d : decode x.2.1 pc = .ok (.invokespecial idx, 3)) : ev_Snd X l ms x tx pc (i_cI mi n (ms mi).2.2.1 (pc + 3)) := by
  intro S y h
  obtain ⟨lo, st, K, n9, q9⟩ := S
  unfold i_cI at h
  dsimp only at h
  split at h
  · rename_i b rest hd
    obtain ⟨⟨hlen, hrl, hsl⟩, h⟩ := ev_if_s h
    cases h
    refine ⟨rfl, hsl, fun o K' hx hn hq hM p e R s m args below meth c n0 q0 Q hA h1 h2 h3 h4 kv kx => ?_⟩
    rcases o with v | E
    · intro H locs ls hR hL hS
      dsimp only at hn hq hM h1 h2 kv kx hR hL ⊢
      obtain ⟨hx, hb, hml, hown, hret', hlk, hnm', htab, hW, hbel, hz, hfr, hlo⟩ := hA
      have hsum := ev_sum2 rest
      obtain ⟨hhh, hcode, hini, hno, hpar, hht, hmx⟩ := hcal
      have hB : va_CN R s args x.1.cls idx (ms mi).1 host (ms mi).2.1 (ms mi).2.2.1 none (ev_wd (ms mi)) (ev_rm (ms mi) (K'.2.1 - n9) (K'.2.2 - q9)) (K'.2.1 - n9) (K'.2.2 - q9) n := by
        refine ⟨⟨rfl, rfl, ?_, ?_, ?_, by rw [ev_wd0 hhh, hret]; exact List.mem_cons_self⟩, by rw [← hret]; exact ev_word hG hW hcode rfl args, ev_word hG hW hini rfl args, hno, fun sig h => ?_, ev_word hG hW hl rfl args⟩
        · show 12 + (ms mi).2.2.2.2.2 + 1 ≤ R.frames
          omega
        · show 8 + ((ms mi).2.2.1 + 11) + (200 + 130 * (ms mi).2.2.2.2.2) ≤ R.locals
          omega
        · intro w hw a' U hWU
          rw [ev_wd0 hhh] at hw
          rw [List.mem_singleton.mp hw]
          exact ev_word hG (State.WarmedH.trans hW hWU) hcode rfl a'
        · rw [h] at hpar
          exact (Option.some.inj hpar).symm
      have hr := va_runIN (e := e) (below := below) (meth := meth) (mc := K'.2.1 - n9) (ms := K'.2.2 - q9) (H := H) (locs := locs) (cells := n9 - n0) (slots := q9 - q0) (Ts := []) (g := F0 m pc ls st) (rest := rest) (b := b) (As := (st.take n).reverse) ⟨hx, hb, hml, hown, fun _ h => by cases h⟩ (ev_MetR hM) ⟨hB, hnm, ev_word hG hW hin rfl args⟩
        ⟨ev_blind, ev_pre hW hbel hz hR hS⟩ rfl (by rw [List.length_reverse]; exact hlen) hL.1 (ev_stk hd) (by show 2 * 0 + _ ≤ 8; omega) d ⟨by omega, by omega⟩
      refine ev_ofRunM hr hS (fun H1 locs1 hR1 hS1 => ?_) hz (by rw [hR.1]; exact hn)
      have k3 := kv v rfl H1 locs1 ls hR1 hL hS1
      dsimp only at k3
      exact W.cs (by omega) (by omega) k3
    · exact absurd (htx E) (hx E rfl)
  · cases h
/-! a static method with handlers of its own; it lets nothing out -/
def ev_calW (ms : Nat → ev_I) (x : ev_I) (mi n : Nat) : Prop := (ms mi).2.2.2.2.1 ≠ [] ∧ Cond.codeWith (ms mi).1 (ms mi).2.1 (ms mi).2.2.1 (ms mi).2.2.2.1 (ms mi).2.2.2.2.1 ∈ lw_tbl ∧ Cond.initialized (ms mi).1.cls ∈ lw_tbl ∧ ((ms mi).1.cls ≠ "java/lang/invoke/MethodHandle" ∧ (ms mi).1.cls ≠ "java/lang/invoke/VarHandle") ∧
  (parseMethodDescriptor (ms mi).1.desc).map (fun d => d.parameters.length) = some n ∧ (ms mi).2.2.2.2.2 + 1 ≤ x.2.2.2.2.2 ∧ (ms mi).2.2.1 ≤ 100
theorem s_invokestaticW (hG : ev_Good X) {mi n idx : Nat} (hcal : ev_calW ms x mi n) (hl : Cond.methodLink x.1.cls idx (ms mi).1 ∈ lw_tbl) (hin : Cond.static (ms mi).1 ∈ lw_tbl) (d : decode x.2.1 pc = .ok (.invokestatic idx, 3)) : ev_Snd X l ms x tx pc (i_cS mi n (ms mi).2.2.1 (pc + 3)) := by
  intro S y h
  obtain ⟨lo, st, K, n9, q9⟩ := S
  unfold i_cS at h
  dsimp only at h
  obtain ⟨⟨hlen, hrl, hsl⟩, h⟩ := ev_if_s h
  cases h
  refine ⟨rfl, hsl, fun o K' hx hn hq hM p e R s m args below meth c n0 q0 Q hA h1 h2 h3 h4 kv kx => ?_⟩
  intro H locs ls hR hL hS
  dsimp only at hn hq hM h1 h2 kv kx hR hL ⊢
  obtain ⟨hx, hb, hml, hown, hret, hlk, hnm, htab, hW, hbel, hz, hfr, hlo⟩ := hA
  have hsum := ev_sum2 (st.drop n)
  obtain ⟨hhh, hcode, hini, hno, hpar, hht, hmx⟩ := hcal
  have hwd : ev_wd (ms mi) = [Cond.codeWith (ms mi).1 (ms mi).2.1 (ms mi).2.2.1 (ms mi).2.2.2.1 (ms mi).2.2.2.2.1] := by
    rcases hq9 : (ms mi).2.2.2.2.1 with _ | ⟨r, hh⟩
    · exact absurd hq9 hhh
    · exact ev_wd1 hq9
  have hB : vx_CSW R s args x.1.cls idx (ms mi).1 (ms mi).2.1 (ms mi).2.2.1 (ms mi).2.2.2.1 (ms mi).2.2.2.2.1 (ev_wd (ms mi)) (ev_rm (ms mi) (K'.2.1 - n9) (K'.2.2 - q9)) (K'.2.1 - n9) (K'.2.2 - q9) n := by
    refine ⟨⟨rfl, rfl, ?_, ?_, ?_, by rw [hwd]; exact List.mem_cons_self⟩, ev_word hG hW hcode rfl args, ev_word hG hW hini rfl args, hno, fun sig h => ?_, ev_word hG hW hl rfl args, ev_word hG hW hin rfl args⟩
    · show 12 + (ms mi).2.2.2.2.2 + 1 ≤ R.frames
      omega
    · show 8 + ((ms mi).2.2.1 + 11) + (200 + 130 * (ms mi).2.2.2.2.2) ≤ R.locals
      omega
    · intro w hw a' U hWU
      rw [hwd] at hw
      rw [List.mem_singleton.mp hw]
      exact ev_word hG (State.WarmedH.trans hW hWU) hcode rfl a'
    · rw [h] at hpar
      exact (Option.some.inj hpar).symm
  have hr := vx_runSX (e := e) (below := below) (meth := meth) (mc := K'.2.1 - n9) (ms := K'.2.2 - q9) (H := H) (locs := locs) (cells := n9 - n0) (slots := q9 - q0) (Ts := []) (g := F0 m pc ls st) (rest := st.drop n) (As := (st.take n).reverse) ⟨hx, hb, hml, hown, fun _ h => by cases h⟩ hM hB
    ⟨ev_blind, ev_pre hW hbel hz hR hS⟩ rfl (by rw [List.length_reverse]; exact hlen) hL.1 (ev_stk rfl) (by show 2 * 0 + _ ≤ 8; omega) d ⟨by omega, by omega⟩
  refine ev_ofRun hr hS (fun v hv H1 locs1 hR1 hS1 => ?_) (fun E hE H1 locs1 q ce hR1 hS1 hq1 hq2 hq3 => ?_) hz (by rw [hR.1]; exact hn)
  · have k3 := kv v hv H1 locs1 ls hR1 hL hS1
    dsimp only at k3
    exact W.cs (by omega) (by omega) k3
  · have k2 := kx E hE H1 locs1 ls (st.drop n) q ce hR1 hL hS1 hq1 hq2 hq3
    rw [show n9 - n0 + (K'.2.1 - n9) = K'.2.1 - n0 by omega, show q9 - q0 + (K'.2.2 - q9) = K'.2.2 - q0 by omega]
    exact k2
/-! what never runs, in the small machine -/
def i_no : ev_S → ev_N := fun _ => none
theorem s_no : ev_Snd X l ms x tx pc i_no := fun _ _ h => by cases h
end EVD
end
section
section EVS
variable {X : ev_E} {l : Launch} {ms : Nat → ev_I} {x : ev_I} {tx : ev_X} {pc : Nat}
theorem s_getstatic (hG : ev_Good X) {C n d ref : String} {idx : Nat} {v : Value} (hZ : va_Z C n d v (fun q => X.1.heap.size ≤ q) X.1 X.1.heap) (hs : ref = C) (hw : Cond.fieldLink x.1.cls idx ref n d ∈ lw_tbl) (hd : decode x.2.1 pc = .ok (.getstatic idx, 3)) : ev_Snd X l ms x tx pc (i_psh v (pc + 3)) := by
  subst hs
  intro S y h
  obtain ⟨lo, st, K⟩ := S
  cases h
  refine ⟨Nat.le_refl _, Nat.le_refl _, fun p e R s m args below meth c n0 q0 Q hA h1 h2 h3 h4 kk => ?_⟩
  intro H locs ls hR hL hS
  obtain ⟨hx, hb, hml, hown, hret, hlk, hnm, htab, hW, hbel, hz, hfr, hlo⟩ := hA
  exact va_gets hx hb (va_Z.moved hW.alike (va_Z.kept hZ (fun a ha _ => hbel a ha))) hS hown (ev_word hG hW hw rfl args) (fun _ h => h) hd (kk H locs ls hR hL hS)
theorem s_ldcS (hG : ev_Good X) {k : Nat} {tx' : String} (hcls : x.1.cls = "LastaskedModel") (hw : Cond.stringRef "LastaskedModel" k tx' ∈ lw_tbl) (hd : decode x.2.1 pc = .ok (.ldc k, 2)) : ev_Snd X l ms x tx pc (i_psh (.ref (X.2.2.2.2.2 (1000 + k))) (pc + 2)) := by
  intro S y h
  obtain ⟨lo, st, K⟩ := S
  cases h
  refine ⟨Nat.le_refl _, Nat.le_refl _, fun p e R s m args below meth c n0 q0 Q hA h1 h2 h3 h4 kk => ?_⟩
  intro H locs ls hR hL hS
  obtain ⟨hx, hb, hml, hown, hret, hlk, hnm, htab, hW, hbel, hz, hfr, hlo⟩ := hA
  rw [hcls] at hown
  exact va_ldcS hx hb hown (vk_R.warm hW (hG.2.2.2.2.2.2.2.2.1 k tx' hw)) hd (kk H locs ls hR hL hS)
theorem ev_Mi_moved {C : String} {mi : Nat} {u U : State} (hvm : u.vm.Alike U.vm) (h : va_Mi C mi u) : va_Mi C mi U := by
  obtain ⟨c, k, h1, h2, h3⟩ := h
  obtain ⟨k', hk', he⟩ := hvm.2.2 _ _ h2
  exact ⟨c, k', by rw [hvm.findClass]; exact h1, hk', by rw [he]; exact h3⟩
theorem s_ldcM (hG : ev_Good X) {k : Nat} (hw : Cond.classLink x.1.cls k "[Ljava/lang/Object;" ∈ lw_tbl) (hd : decode x.2.1 pc = .ok (.ldc k, 2)) : ev_Snd X l ms x tx pc (i_psh (.ref (X.2.2.2.2.2 4)) (pc + 2)) := by
  intro S y h
  obtain ⟨lo, st, K⟩ := S
  cases h
  refine ⟨Nat.le_refl _, Nat.le_refl _, fun p e R s m args below meth c n0 q0 Q hA h1 h2 h3 h4 kk => ?_⟩
  intro H locs ls hR hL hS
  obtain ⟨hx, hb, hml, hown, hret, hlk, hnm, htab, hW, hbel, hz, hfr, hlo⟩ := hA
  exact va_ldcM hx hb hown (ev_word hG hW hw rfl args) (ev_Mi_moved hW.alike hG.2.2.2.2.2.2.2.2.2.2.2.2.2.2.2.1) hd (kk H locs ls hR hL hS)
/-! casts that hold -/
def ev_isAk (c : Option ev_C) (kd : Nat) : Prop := ∃ (n : Nat) (f : Nat → Value), c = some (.inl (kd, n, f))
noncomputable def i_cca (kd p : Nat) : ev_S → ev_N := fun S => match S.2.1 with
  | .ref a :: st => ev_if (ev_isAk (S.2.2.1 a) kd) (some (.inl (p, S.1, .ref a :: st, S.2.2)))
  | _ => none
theorem ev_nmA (hG : ev_Good X) {s : State} (hW : X.1.WarmedH s.vm) {kd : Nat} (hk : kd < 6) {nm : String} (hn : "[" ++ (ev_aT kd).toString = nm) : s.vm.findClass nm = some (X.2.2.2.1 kd) := by
  have hra := (hG.2.2.2.1 kd hk).moved hW.alike
  rw [← hn]
  generalize ev_aT kd = ty at hra ⊢
  cases ty with
  | object C =>
    obtain ⟨kA, comp, g1, g2, g3, g4⟩ := hra
    exact g4
  | _ => exact hra
theorem s_castA (hG : ev_Good X) {kd idx : Nat} {nm : String} (hk : kd < 6) (hn : "[" ++ (ev_aT kd).toString = nm) (hw : Cond.classLink x.1.cls idx nm ∈ lw_tbl) (hd : decode x.2.1 pc = .ok (.checkcast idx, 3)) : ev_Snd X l ms x tx pc (i_cca kd (pc + 3)) := by
  intro S y h
  obtain ⟨lo, st, K, n9, q9⟩ := S
  unfold i_cca at h
  dsimp only at h
  split at h
  · rename_i a st
    obtain ⟨⟨n, f, he⟩, h⟩ := ev_if_s h
    cases h
    refine ⟨Nat.le_refl _, Nat.le_refl _, fun p e R s m args below meth c n0 q0 Q hA h1 h2 h3 h4 kk => ?_⟩
    intro H locs ls hR hL hS
    obtain ⟨hx, hb, hml, hown, hret, hlk, hnm, htab, hW, hbel, hz, hfr, hlo⟩ := hA
    obtain ⟨hbs, hk6, hcell⟩ := hR.2.2 a _ he
    intro T hT XX
    obtain ⟨vm', X', st'⟩ := XX.checkcastYes hx hown (ev_word hG hW hw rfl args) (by rw [hT]; exact hcell) rfl (ev_nmA hG hW hk hn) (va_asg _ _) (g := F0 m pc ls (.ref a :: st)) rfl rfl (by rw [hb]; exact hd)
    obtain ⟨t, a1, b1⟩ := kk H locs ls hR hL hS (T.setVm vm') hT X'
    exact ⟨t, st' t a1, b1⟩
  · cases h
noncomputable def i_cco (X : ev_E) (ci p : Nat) : ev_S → ev_N := fun S => match S.2.1 with
  | .ref a :: st => ev_if (ev_isK (ev_lk X S.2.2.1 a) ci) (some (.inl (p, S.1, .ref a :: st, S.2.2)))
  | _ => none
theorem s_castO (hG : ev_Good X) {ci idx : Nat} {r : vw_C} (hc : vwCl[ci]? = some r) (hw : Cond.classLink x.1.cls idx r.1 ∈ lw_tbl) (hd : decode x.2.1 pc = .ok (.checkcast idx, 3)) : ev_Snd X l ms x tx pc (i_cco X ci (pc + 3)) := by
  intro S y h
  obtain ⟨lo, st, K, n9, q9⟩ := S
  unfold i_cco at h
  dsimp only at h
  split at h
  · rename_i a st
    obtain ⟨hk, h⟩ := ev_if_s h
    cases h
    refine ⟨Nat.le_refl _, Nat.le_refl _, fun p e R s m args below meth c n0 q0 Q hA h1 h2 h3 h4 kk => ?_⟩
    intro H locs ls hR hL hS
    obtain ⟨hx, hb, hml, hown, hret, hlk, hnm, htab, hW, hbel, hz, hfr, hlo⟩ := hA
    exact va_castS hx hb hown (ev_word hG hW hw rfl args) (ev_cls hG hW hc).2 (ev_recv hG hc hW hbel hz hR hS hk) hd (kk H locs ls hR hL hS)
  · cases h
/-! other calls: through an interface, of a superclass's method, of an inherited one; none of them lets a throw out -/
noncomputable def i_cF (X : ev_E) (mi n ci nL p : Nat) : ev_S → ev_N := i_cV X mi n ci nL p
theorem ev_ofRun5 {v0 : Option Value} {K' : ev_H} {p : Program} {e : Env} {R : Room} {s : State} {m : MethodId} {args a : Array Value} {below : List Frame} {meth : Method} {c : Code} {H : Heap} {locs : List Loc} {cells slots mc mc' : Nat} {Q : State → Prop} {ls : Array Slot} {st0 rest : List Value}
    (hr : va_Run5 p l e R s m args below meth c H locs cells slots mc mc' (F0 m pc ls st0) rest (ev_QC X (.inl v0) K' a) (fun a => X.1.heap.size ≤ a)) (hS : va_S (fun a => X.1.heap.size ≤ a) s.heap H locs)
    (kv : ∀ (H1 : Heap) (locs1 : List Loc), ev_R X K'.1 K'.2.1 H1 → va_S (fun a => X.1.heap.size ≤ a) s.heap H1 locs1 → W p l e R s m args below meth c H1 locs1 (cells + mc) (slots + mc') Q (F0 m (pc + 5) ls (v0.toList ++ rest)))
    (hz : X.1.heap.size ≤ s.heap.size) (hH : H.size ≤ K'.2.1) : W p l e R s m args below meth c H locs cells slots Q (F0 m pc ls st0) := by
  intro T hT XX
  obtain ⟨v, st₀, t, T', L, h0, X', hL, e1, e2, ⟨⟨v', hv, hv2⟩, hR, hk⟩, st⟩ := hr T hT XX
  cases hv2
  cases hv
  have hS2 : va_S (fun a => X.1.heap.size ≤ a) s.heap T'.heap (locs ++ L) := by
    refine ⟨?_, fun q h1 h2 => ?_, fun q hq => ?_⟩
    · rw [e1, hR.1]
      exact Nat.le_trans hS.1 hH
    · rw [e1, hk q (Nat.not_le.mp h2), h0]
      exact hS.2.1 q h1 h2
    · rcases List.mem_append.mp hq with h | h
      · exact hS.2.2 q h
      · exact hL q h
  obtain ⟨t2, a1, b1⟩ := kv T'.heap (locs ++ L) (by rw [e1]; exact hR) hS2 T' rfl X'
  exact ⟨t2, st t2 a1, b1⟩

theorem s_super (hG : ev_Good X) {mi n ci idx : Nat} {r : vw_C} (hc : vwCl[ci]? = some r) (hcal : ev_cal ms x mi n) (hl : Cond.methodLink x.1.cls idx (ms mi).1 ∈ lw_tbl) (hsm : Cond.sameMethod (ms mi).1.cls (ms mi).1.cls (ms mi).1.name (ms mi).1.desc ∈ lw_tbl) (hgs : ev_gd (Cond.sameMethod (ms mi).1.cls (ms mi).1.cls (ms mi).1.name (ms mi).1.desc) = true) (hsu : Cond.superclass x.1.cls (ms mi).1.cls ∈ lw_tbl) (hin : Cond.instanceMethod (ms mi).1 ∈ lw_tbl) (hnm : (ms mi).1.name ≠ "<init>") (htx : ∀ E, tx pc E = none) (d : decode x.2.1 pc = .ok (.invokespecial idx, 3)) : ev_Snd X l ms x tx pc (i_cV X mi n ci (ms mi).2.2.1 (pc + 3)) := by
  intro S y h
  obtain ⟨lo, st, K, n9, q9⟩ := S
  unfold i_cV at h
  dsimp only at h
  split at h
  · rename_i b rest hd
    obtain ⟨⟨hk, hlen, hrl, hsl⟩, h⟩ := ev_if_s h
    cases h
    refine ⟨rfl, hsl, fun o K' hx hn hq hM p e R s m args below meth c n0 q0 Q hA h1 h2 h3 h4 kv kx => ?_⟩
    rcases o with v | E
    · intro H locs ls hR hL hS
      dsimp only at hn hq hM h1 h2 kv kx hR hL ⊢
      obtain ⟨hx, hb, hml, hown, hret', hlk, hnm', htab, hW, hbel, hz, hfr, hlo⟩ := hA
      have hsum := ev_sum2 rest
      obtain ⟨hhh, hcode, hini, hno, hpar, hht, hmx⟩ := hcal
      have hroom : (ev_rm (ms mi) (K'.2.1 - n9) (K'.2.2 - q9)).frames + 1 ≤ R.frames := by
        show 12 + (ms mi).2.2.2.2.2 + 1 ≤ R.frames
        omega
      have hloc : 8 + ((ms mi).2.2.1 + 11) + (ev_rm (ms mi) (K'.2.1 - n9) (K'.2.2 - q9)).locals ≤ R.locals := by
        show 8 + ((ms mi).2.2.1 + 11) + (200 + 130 * (ms mi).2.2.2.2.2) ≤ R.locals
        omega
      have hws : ∀ w ∈ ev_wd (ms mi), ∀ (a' : Array Value) (U : State), s.WarmedH U.vm → w.before a' U = true := by
        intro w hw a' U hWU
        rw [ev_wd0 hhh] at hw
        rw [List.mem_singleton.mp hw]
        exact ev_word hG (State.WarmedH.trans hW hWU) hcode rfl a'
      have hmem : Cond.code (ms mi).1 (ms mi).2.1 (ms mi).2.2.1 (ms mi).2.2.2.1 ∈ ev_wd (ms mi) := by rw [ev_wd0 hhh]; exact List.mem_cons_self
      have hps : ∀ sig, parseMethodDescriptor (ms mi).1.desc = some sig → n = sig.parameters.length := fun sig h => by
        rw [h] at hpar
        exact (Option.some.inj hpar).symm
      have hcd : (Cond.code (ms mi).1 (ms mi).2.1 (ms mi).2.2.1 (ms mi).2.2.2.1).before args s = true := ev_word hG hW hcode rfl args
      have hin9 : (Cond.initialized (ms mi).1.cls).before args s = true := ev_word hG hW hini rfl args
      have hB : va_CS R s args x.1.cls idx (ms mi).1 (ms mi).2.1 (ms mi).2.2.1 (ms mi).2.2.2.1 (ev_wd (ms mi)) (ev_rm (ms mi) (K'.2.1 - n9) (K'.2.2 - q9)) (K'.2.1 - n9) (K'.2.2 - q9) n :=
        ⟨⟨rfl, rfl, hroom, hloc, hws, hmem⟩, ev_word hG hW hl rfl args, ev_word hG hW hsm hgs args, ev_word hG hW hsu rfl args, ev_word hG hW hin rfl args, hin9, hcd, hnm, hps⟩
      have hr := va_runSU (e := e) (below := below) (meth := meth) (mc := K'.2.1 - n9) (ms := K'.2.2 - q9) (H := H) (locs := locs) (cells := n9 - n0) (slots := q9 - q0) (Ts := []) (g := F0 m pc ls st) (rest := rest) (b := b) (As := (st.take n).reverse) (ev_cls hG hW hc).2 ⟨hx, hb, hml, hown, fun _ h => by cases h⟩ (ev_MetR hM) hB
        ⟨ev_blind, ev_recv hG hc hW hbel hz hR hS hk, ev_pre hW hbel hz hR hS⟩ rfl (by rw [List.length_reverse]; exact hlen) hL.1 (ev_stk hd) (by show 2 * 0 + _ ≤ 8; omega) d ⟨by omega, by omega⟩
      refine ev_ofRunM hr hS (fun H1 locs1 hR1 hS1 => ?_) hz (by rw [hR.1]; exact hn)
      have k3 := kv v rfl H1 locs1 ls hR1 hL hS1
      dsimp only at k3
      exact W.cs (by omega) (by omega) k3
    · exact absurd (htx E) (hx E rfl)
  · cases h
theorem s_invokeif (hG : ev_Good X) {mi n ci idx count : Nat} {r : vw_C} (hc : vwCl[ci]? = some r) (hcal : ev_cal ms x mi n) {y : MethodName} (hl : Cond.methodLink x.1.cls idx y ∈ lw_tbl) (hdc : Cond.declares y ∈ lw_tbl) (hif : Cond.interfaceMethod y.cls y.cls y.name y.desc ∈ lw_tbl) (hse : Cond.selects r.1 y (ms mi).1 ∈ lw_tbl) (hin : Cond.instanceMethod (ms mi).1 ∈ lw_tbl) (hpu : Cond.publicMethod (ms mi).1 ∈ lw_tbl) (hun : Cond.unhidden r.1 y.name y.desc ∈ lw_tbl) (hca : Cond.castable r.1 y.cls ∈ lw_tbl) (hy : y.cls ≠ "java/lang/invoke/MethodHandle" ∧ y.cls ≠ "java/lang/invoke/VarHandle") (hds : y.desc = (ms mi).1.desc) (htx : ∀ E, tx pc E = none) (d : decode x.2.1 pc = .ok (.invokeinterface idx count, 5)) : ev_Snd X l ms x tx pc (i_cV X mi n ci (ms mi).2.2.1 (pc + 5)) := by
  intro S y h
  obtain ⟨lo, st, K, n9, q9⟩ := S
  unfold i_cV at h
  dsimp only at h
  split at h
  · rename_i b rest hd
    obtain ⟨⟨hk, hlen, hrl, hsl⟩, h⟩ := ev_if_s h
    cases h
    refine ⟨rfl, hsl, fun o K' hx hn hq hM p e R s m args below meth c n0 q0 Q hA h1 h2 h3 h4 kv kx => ?_⟩
    rcases o with v | E
    · intro H locs ls hR hL hS
      dsimp only at hn hq hM h1 h2 kv kx hR hL ⊢
      obtain ⟨hx, hb, hml, hown, hret', hlk, hnm', htab, hW, hbel, hz, hfr, hlo⟩ := hA
      have hsum := ev_sum2 rest
      obtain ⟨hhh, hcode, hini, hno, hpar, hht, hmx⟩ := hcal
      have hroom : (ev_rm (ms mi) (K'.2.1 - n9) (K'.2.2 - q9)).frames + 1 ≤ R.frames := by
        show 12 + (ms mi).2.2.2.2.2 + 1 ≤ R.frames
        omega
      have hloc : 8 + ((ms mi).2.2.1 + 11) + (ev_rm (ms mi) (K'.2.1 - n9) (K'.2.2 - q9)).locals ≤ R.locals := by
        show 8 + ((ms mi).2.2.1 + 11) + (200 + 130 * (ms mi).2.2.2.2.2) ≤ R.locals
        omega
      have hws : ∀ w ∈ ev_wd (ms mi), ∀ (a' : Array Value) (U : State), s.WarmedH U.vm → w.before a' U = true := by
        intro w hw a' U hWU
        rw [ev_wd0 hhh] at hw
        rw [List.mem_singleton.mp hw]
        exact ev_word hG (State.WarmedH.trans hW hWU) hcode rfl a'
      have hmem : Cond.code (ms mi).1 (ms mi).2.1 (ms mi).2.2.1 (ms mi).2.2.2.1 ∈ ev_wd (ms mi) := by rw [ev_wd0 hhh]; exact List.mem_cons_self
      have hps : ∀ sig, parseMethodDescriptor (ms mi).1.desc = some sig → n = sig.parameters.length := fun sig h => by
        rw [h] at hpar
        exact (Option.some.inj hpar).symm
      have hcd : (Cond.code (ms mi).1 (ms mi).2.1 (ms mi).2.2.1 (ms mi).2.2.2.1).before args s = true := ev_word hG hW hcode rfl args
      have hin9 : (Cond.initialized (ms mi).1.cls).before args s = true := ev_word hG hW hini rfl args
      have hF := va_Fw.moved hy hW.alike (va_Fw.of (hG.1 _ hdc) (hG.1 _ hif) (hG.1 _ hpu) (hG.1 _ hun) (hG.1 _ hca))
      have hB : va_CI R s args x.1.cls r.1 idx y (ms mi).1 (ms mi).2.1 (ms mi).2.2.1 (ms mi).2.2.2.1 (ev_wd (ms mi)) (ev_rm (ms mi) (K'.2.1 - n9) (K'.2.2 - q9)) (K'.2.1 - n9) (K'.2.2 - q9) n :=
        ⟨⟨rfl, rfl, hroom, hloc, hws, hmem⟩, ev_word hG hW hl rfl args, va_any rfl hF.1, va_any rfl hF.2.1, ev_word hG hW hse rfl args, ev_word hG hW hin rfl args, va_any rfl hF.2.2.1, va_any rfl hF.2.2.2.1, va_any rfl hF.2.2.2.2, hin9, hcd, hy, by rw [hds]; exact hps⟩
      have hr := va_runF (e := e) (below := below) (meth := meth) (mc := K'.2.1 - n9) (ms := K'.2.2 - q9) (H := H) (locs := locs) (cells := n9 - n0) (slots := q9 - q0) (Ts := []) (g := F0 m pc ls st) (rest := rest) (b := b) (As := (st.take n).reverse) (ev_cls hG hW hc).2 ⟨hx, hb, hml, hown, fun _ h => by cases h⟩ (ev_MetR hM) hB
        ⟨ev_blind, ev_recv hG hc hW hbel hz hR hS hk, ev_pre hW hbel hz hR hS⟩ rfl (by rw [List.length_reverse]; exact hlen) hL.1 (ev_stk hd) (by show 2 * 0 + _ ≤ 8; omega) d ⟨by omega, by omega⟩
      refine ev_ofRun5 hr hS (fun H1 locs1 hR1 hS1 => ?_) hz (by rw [hR.1]; exact hn)
      have k3 := kv v rfl H1 locs1 ls hR1 hL hS1
      dsimp only at k3
      exact W.cs (by omega) (by omega) k3
    · exact absurd (htx E) (hx E rfl)
  · cases h
theorem s_invokeU (hG : ev_Good X) {mi n ci idx : Nat} {r : vw_C} (hc : vwCl[ci]? = some r) (hcal : ev_cal ms x mi n) {y : MethodName} {bts : ByteArray} {mxl : Nat} {rt9 : Option FieldType} (hl : Cond.methodLink x.1.cls idx y ∈ lw_tbl) (hsm : Cond.sameMethod y.cls y.cls y.name y.desc ∈ lw_tbl) (hgs : ev_gd (Cond.sameMethod y.cls y.cls y.name y.desc) = true) (hiy : Cond.instanceMethod y ∈ lw_tbl) (hcy : Cond.code y bts mxl rt9 ∈ lw_tbl) (hse : Cond.selects r.1 y (ms mi).1 ∈ lw_tbl) (hg2 : ev_gd (Cond.selects r.1 y (ms mi).1) = true) (hin : Cond.instanceMethod (ms mi).1 ∈ lw_tbl) (hy : y.cls ≠ "java/lang/invoke/MethodHandle" ∧ y.cls ≠ "java/lang/invoke/VarHandle") (hds : y.desc = (ms mi).1.desc) (htx : ∀ E, tx pc E = none) (d : decode x.2.1 pc = .ok (.invokevirtual idx, 3)) : ev_Snd X l ms x tx pc (i_cV X mi n ci (ms mi).2.2.1 (pc + 3)) := by
  intro S y h
  obtain ⟨lo, st, K, n9, q9⟩ := S
  unfold i_cV at h
  dsimp only at h
  split at h
  · rename_i b rest hd
    obtain ⟨⟨hk, hlen, hrl, hsl⟩, h⟩ := ev_if_s h
    cases h
    refine ⟨rfl, hsl, fun o K' hx hn hq hM p e R s m args below meth c n0 q0 Q hA h1 h2 h3 h4 kv kx => ?_⟩
    rcases o with v | E
    · intro H locs ls hR hL hS
      dsimp only at hn hq hM h1 h2 kv kx hR hL ⊢
      obtain ⟨hx, hb, hml, hown, hret', hlk, hnm', htab, hW, hbel, hz, hfr, hlo⟩ := hA
      have hsum := ev_sum2 rest
      obtain ⟨hhh, hcode, hini, hno, hpar, hht, hmx⟩ := hcal
      have hroom : (ev_rm (ms mi) (K'.2.1 - n9) (K'.2.2 - q9)).frames + 1 ≤ R.frames := by
        show 12 + (ms mi).2.2.2.2.2 + 1 ≤ R.frames
        omega
      have hloc : 8 + ((ms mi).2.2.1 + 11) + (ev_rm (ms mi) (K'.2.1 - n9) (K'.2.2 - q9)).locals ≤ R.locals := by
        show 8 + ((ms mi).2.2.1 + 11) + (200 + 130 * (ms mi).2.2.2.2.2) ≤ R.locals
        omega
      have hws : ∀ w ∈ ev_wd (ms mi), ∀ (a' : Array Value) (U : State), s.WarmedH U.vm → w.before a' U = true := by
        intro w hw a' U hWU
        rw [ev_wd0 hhh] at hw
        rw [List.mem_singleton.mp hw]
        exact ev_word hG (State.WarmedH.trans hW hWU) hcode rfl a'
      have hmem : Cond.code (ms mi).1 (ms mi).2.1 (ms mi).2.2.1 (ms mi).2.2.2.1 ∈ ev_wd (ms mi) := by rw [ev_wd0 hhh]; exact List.mem_cons_self
      have hps : ∀ sig, parseMethodDescriptor (ms mi).1.desc = some sig → n = sig.parameters.length := fun sig h => by
        rw [h] at hpar
        exact (Option.some.inj hpar).symm
      have hcd : (Cond.code (ms mi).1 (ms mi).2.1 (ms mi).2.2.1 (ms mi).2.2.2.1).before args s = true := ev_word hG hW hcode rfl args
      have hin9 : (Cond.initialized (ms mi).1.cls).before args s = true := ev_word hG hW hini rfl args
      have hB : va_CU R s args x.1.cls r.1 y.cls idx y (ms mi).1 (ms mi).2.1 (ms mi).2.2.1 (ms mi).2.2.2.1 (ev_wd (ms mi)) (ev_rm (ms mi) (K'.2.1 - n9) (K'.2.2 - q9)) (K'.2.1 - n9) (K'.2.2 - q9) n :=
        ⟨⟨rfl, rfl, hroom, hloc, hws, hmem⟩, hcd, hin9, hy, by rw [hds]; exact hps, ev_word hG hW hl rfl args, ev_word hG hW hsm hgs args, va_Decl.of (ev_word hG hW hiy rfl args) (ev_word hG hW hcy rfl args), ev_word hG hW hse hg2 args, ev_word hG hW hin rfl args⟩
      have hr := va_runU (e := e) (below := below) (meth := meth) (mc := K'.2.1 - n9) (ms := K'.2.2 - q9) (H := H) (locs := locs) (cells := n9 - n0) (slots := q9 - q0) (Ts := []) (g := F0 m pc ls st) (rest := rest) (b := b) (As := (st.take n).reverse)  ⟨hx, hb, hml, hown, fun _ h => by cases h⟩ (ev_MetR hM) hB
        ⟨ev_blind, ev_recv hG hc hW hbel hz hR hS hk, ev_pre hW hbel hz hR hS⟩ rfl (by rw [List.length_reverse]; exact hlen) hL.1 (ev_stk hd) (by show 2 * 0 + _ ≤ 8; omega) d ⟨by omega, by omega⟩
      refine ev_ofRunM hr hS (fun H1 locs1 hR1 hS1 => ?_) hz (by rw [hR.1]; exact hn)
      have k3 := kv v rfl H1 locs1 ls hR1 hL hS1
      dsimp only at k3
      exact W.cs (by omega) (by omega) k3
    · exact absurd (htx E) (hx E rfl)
  · cases h
end EVS
end
section
section EVU
variable {X : ev_E} {l : Launch} {ms : Nat → ev_I} {x : ev_I} {tx : ev_X} {pc : Nat}
/-! references compared -/
def i_aceq (t f : Nat) : ev_S → ev_N := fun S => match S.2.1 with
  | .ref b :: .ref a :: st => some (.inl ((if a = b then t else f), S.1, st, S.2.2))
  | _ => none
def i_acne (t f : Nat) : ev_S → ev_N := fun S => match S.2.1 with
  | .ref b :: .ref a :: st => some (.inl ((if ¬ a = b then t else f), S.1, st, S.2.2))
  | _ => none
theorem s_aceq {off : Int} {tgt : Nat} (d : decode x.2.1 pc = .ok (.if_acmp .eq off, 3)) (ht : (pc : Int) + off = (tgt : Int)) : ev_Snd X l ms x tx pc (i_aceq tgt (pc + 3)) := by
  intro S y h
  obtain ⟨lo, st, K⟩ := S
  unfold i_aceq at h
  dsimp only at h
  split at h
  · rename_i b a st
    cases h
    exact ev_SG_same fun p e R s m args below meth c Q H locs cells slots ls hx hb hL k => lv_acmp_eq (rx := some a) (ry := some b) hx hb d ht (fun q => by have k2 := k ls hL; rw [if_pos (Option.some.inj q)] at k2; exact k2) (fun q => by have k2 := k ls hL; rw [if_neg (fun e => q (congrArg some e))] at k2; exact k2)
  · cases h
theorem s_acne {off : Int} {tgt : Nat} (d : decode x.2.1 pc = .ok (.if_acmp .ne off, 3)) (ht : (pc : Int) + off = (tgt : Int)) : ev_Snd X l ms x tx pc (i_acne tgt (pc + 3)) := by
  intro S y h
  obtain ⟨lo, st, K⟩ := S
  unfold i_acne at h
  dsimp only at h
  split at h
  · rename_i b a st
    cases h
    exact ev_SG_same fun p e R s m args below meth c Q H locs cells slots ls hx hb hL k => lv_acmp_ne (rx := some a) (ry := some b) hx hb d ht (fun q => by have k2 := k ls hL; rw [if_pos (fun e => q (congrArg some e))] at k2; exact k2) (fun q => by have k2 := k ls hL; rw [if_neg (not_not_intro (Option.some.inj q))] at k2; exact k2)
  · cases h
def i_nonnull (t : Nat) : ev_S → ev_N := fun S => match S.2.1 with
  | .ref _ :: st => some (.inl (t, S.1, st, S.2.2))
  | _ => none
theorem s_ifnonnull {off : Int} {tgt : Nat} (d : decode x.2.1 pc = .ok (.ifnonnull off, 3)) (ht : (pc : Int) + off = (tgt : Int)) : ev_Snd X l ms x tx pc (i_nonnull tgt) := by
  intro S y h
  obtain ⟨lo, st, K⟩ := S
  unfold i_nonnull at h
  dsimp only at h
  split at h
  · cases h
    exact ev_SG_same fun p e R s m args below meth c Q H locs cells slots ls hx hb hL k => lv_ifnonnull hx hb d ht (k ls hL)
  · cases h
/-! getClass of an array of Object -/
noncomputable def i_gc (X : ev_E) (p : Nat) : ev_S → ev_N := fun S => match S.2.1 with
  | .ref a :: st => ev_if (ev_isAk (S.2.2.1 a) 2 ∧ st.length ≤ 4) (some (.inl (p, S.1, .ref (X.2.2.2.2.2 4) :: st, S.2.2)))
  | _ => none
theorem s_getClass (hG : ev_Good X) {idx : Nat} (hl : Cond.methodLink x.1.cls idx ⟨"java/lang/Object", "getClass", "()Ljava/lang/Class;"⟩ ∈ lw_tbl) (hdc : Cond.declares ⟨"java/lang/Object", "getClass", "()Ljava/lang/Class;"⟩ ∈ lw_tbl) (hse : Cond.selects "[Ljava/lang/Object;" ⟨"java/lang/Object", "getClass", "()Ljava/lang/Class;"⟩ ⟨"java/lang/Object", "getClass", "()Ljava/lang/Class;"⟩ ∈ lw_tbl) (hgs : ev_gd (Cond.selects "[Ljava/lang/Object;" ⟨"java/lang/Object", "getClass", "()Ljava/lang/Class;"⟩ ⟨"java/lang/Object", "getClass", "()Ljava/lang/Class;"⟩) = true) (hin : Cond.instanceMethod ⟨"java/lang/Object", "getClass", "()Ljava/lang/Class;"⟩ ∈ lw_tbl) (hna : Cond.native ⟨"java/lang/Object", "getClass", "()Ljava/lang/Class;"⟩ ∈ lw_tbl) (hgn : ev_gd (Cond.native ⟨"java/lang/Object", "getClass", "()Ljava/lang/Class;"⟩) = true)
    (hd : decode x.2.1 pc = .ok (.invokevirtual idx, 3)) : ev_Snd X l ms x tx pc (i_gc X (pc + 3)) := by
  intro S y h
  obtain ⟨lo, st, K, n9, q9⟩ := S
  unfold i_gc at h
  dsimp only at h
  split at h
  · rename_i a st
    obtain ⟨⟨⟨n, f, he⟩, hst⟩, h⟩ := ev_if_s h
    cases h
    have hsum := ev_sum2 st
    refine ⟨Nat.le_refl _, Nat.le_refl _, fun p e R s m args below meth c n0 q0 Q hA h1 h2 h3 h4 kk => ?_⟩
    intro H locs ls hR hL hS
    obtain ⟨hx, hb, hml, hown, hret, hlk, hnm, htab, hW, hbel, hz, hfr, hlo⟩ := hA
    obtain ⟨hbs, hk6, hcell⟩ := hR.2.2 a _ he
    exact va_getC hx hb (hml.trans hL.1.symm) hown (ev_word hG hW hl rfl args) (ev_word hG hW hdc rfl args) (ev_word hG hW hse hgs args) (ev_word hG hW hin rfl args) (ev_word hG hW hna hgn args) (ev_Mi_moved hW.alike hG.2.2.2.2.2.2.2.2.2.2.2.2.2.2.2.1) ⟨_, hcell, rfl, ev_nmA hG hW (kd := 2) (by decide) rfl⟩ (by omega) (by omega) hd (kk H locs ls hR hL hS)
  · cases h
/-! what an array of Object may take -/
def ev_el (X : ev_E) (h : ev_M) (v : Value) : Prop := v = .null ∨ ∃ y, v = .ref y ∧ ((ev_isAk (h y) 0) ∨ ∃ ci r, vwCl[ci]? = some r ∧ r.1 = "java/lang/Integer" ∧ ev_isK (ev_lk X h y) ci)
theorem ev_elem (hG : ev_Good X) (hc1 : Cond.castable "[I" "java/lang/Object" ∈ lw_tbl) (hc2 : Cond.castable "java/lang/Integer" "java/lang/Object" ∈ lw_tbl) {h : ev_M} {n y : Nat} {s : State} {H : Heap} {locs : List Loc} (hW : X.1.WarmedH s.vm) (hs : ∀ a : Nat, a < X.1.heap.size → s.heap[a]? = X.1.heap[a]?) (hz : X.1.heap.size ≤ s.heap.size) (hR : ev_R X h n H) (hS : va_S (fun a => X.1.heap.size ≤ a) s.heap H locs) (hel : ev_el X h (.ref y)) :
    ∃ (cv : Cell) (kv : Class) (comp : ClassId), H[y]? = some cv ∧ cv.vm.isStatics = false ∧ s.vm.classes[cv.cls]? = some kv ∧ s.vm.findClass "java/lang/Object" = some comp ∧ s.vm.assignable cv.cls comp = true := by
  rcases hel with e | ⟨y', e, hy⟩
  · cases e
  · cases e
    rcases hy with ⟨N, f, he⟩ | ⟨ci, r, hc, hr, hk⟩
    · obtain ⟨hbs, hk6, hcell⟩ := hR.2.2 y _ he
      have hf := ev_nmA hG hW (kd := 0) (by decide) (nm := "[I") rfl
      obtain ⟨c0, t0, f1, f2, f3⟩ := Cond.castable_spec (ev_word hG hW hc1 rfl #[])
      cases hf.symm.trans f1
      obtain ⟨kC, hkC, -⟩ := Vm.findClass_spec hf
      exact ⟨_, kC, t0, hcell, rfl, hkC, f2, f3⟩
    · obtain ⟨cell, g1, g2, g3⟩ := ev_recv hG hc hW hs hz hR hS hk
      rw [hr] at g3
      obtain ⟨c0, t0, f1, f2, f3⟩ := Cond.castable_spec (ev_word hG hW hc2 rfl #[])
      cases g3.symm.trans f1
      obtain ⟨kC, hkC, -⟩ := Vm.findClass_spec g3
      exact ⟨cell, kC, t0, g1, g2, hkC, f2, f3⟩
noncomputable def i_aasto (X : ev_E) (p : Nat) : ev_S → ev_N := fun S => match S.2.1 with
  | v :: .int i :: .ref a :: st => ev_if ((∃ n f, S.2.2.1 a = some (.inl (2, n, f)) ∧ ¬ (i < 0 ∨ n ≤ i.toNatClampNeg)) ∧ ev_el X S.2.2.1 v) (some (.inl (p, S.1, st, ev_up S.2.2.1 a (ev_aS (S.2.2.1 a) i v), S.2.2.2)))
  | _ => none
theorem s_aastoreO (hG : ev_Good X) (hc1 : Cond.castable "[I" "java/lang/Object" ∈ lw_tbl) (hc2 : Cond.castable "java/lang/Integer" "java/lang/Object" ∈ lw_tbl) (d : decode x.2.1 pc = .ok (.aastore, 1)) : ev_Snd X l ms x tx pc (i_aasto X (pc + 1)) := by
  intro S y h
  obtain ⟨lo, st, K, n9, q9⟩ := S
  unfold i_aasto at h
  dsimp only at h
  split at h
  · rename_i v i a st
    obtain ⟨⟨⟨N, f, he, hin⟩, hel⟩, h⟩ := ev_if_s h
    cases h
    show ev_SG X l x pc _ _ _
    dsimp only
    rw [he]
    refine ⟨Nat.le_refl _, Nat.le_refl _, fun p e R s m args below meth c n0 q0 Q hA h1 h2 h3 h4 kk => ?_⟩
    intro H locs ls hR hL hS
    obtain ⟨hx, hb, hml, hown, hret, hlk, hnm, htab, hW, hbel, hz, hfr, hlo⟩ := hA
    obtain ⟨hbs, hk6, hcell⟩ := hR.2.2 a _ he
    have hlt : i.toNatClampNeg < N := Nat.not_le.mp fun q => hin (Or.inr q)
    have h0 : ¬ i < 0 := fun q => hin (Or.inl q)
    have hin' : ¬ (i < 0 ∨ (arrV (X.2.2.2.1 2) N f).slots.size ≤ i.toNatClampNeg) := by rw [arrV_size]; exact hin
    have arr : s.isArrayOf (arrV (X.2.2.2.1 2) N f) (.object "java/lang/Object") := ev_isArr hG hW (kd := 2) (by decide) rfl (fun j e => by cases e)
    have fin : ∀ H1 : Heap, H1[a]? = some ((arrV (X.2.2.2.1 2) N f).setSlot i.toNatClampNeg v) → H1.size = H.size → (∀ q, q ≠ a → H1[q]? = H[q]?) → W p l e R s m args below meth c H1 (locs ++ [⟨a, i.toNatClampNeg⟩]) (n9 - n0) (q9 - q0) Q (F0 m (pc + 1) ls st) := by
      intro H1 e1 z oq
      refine kk H1 _ ls (ev_R_up hR he z oq ⟨hk6, ?_⟩) hL (hS.put z oq hbs)
      rw [e1, arrV_store]
    by_cases hv : v = .null
    · subst hv
      exact va_WaastN (C := "java/lang/Object") hx hb hcell arr (fun e => by cases e) hin' rfl rfl d fin
    · have hel2 := hel
      rcases hel with e | ⟨y, rfl, -⟩
      · exact absurd e hv
      · obtain ⟨cv, kv, comp, g1, g2, g3, g4, g5⟩ := ev_elem hG hc1 hc2 hW hbel hz hR hS hel2
        obtain ⟨kA, comp', k1, k2, k3, -⟩ := (hG.2.2.2.1 2 (by decide)).moved hW.alike
        cases k3.symm.trans g4
        obtain ⟨kE, hkE, -⟩ := Vm.findClass_spec g4
        exact W.aast hx hb hcell (fun q h => by cases h) (fun h => by cases h) k1 k2 rfl hkE ⟨h0, by rw [arrV_size]; exact hlt⟩ g1 (fun q h => by rw [h] at g2; cases g2) g3 g5 rfl rfl d fin
  · cases h
/-! System.arraycopy -/
theorem ev_nn (z : Int32) (hz : ¬ z < 0) : z.toInt = (z.toNatClampNeg : Int) := by
  have hz0 : (0 : Int) ≤ z.toInt := by
    have := Int32.not_lt.mp hz
    simpa using Int32.le_iff_toInt_le.mp this
  show z.toInt = ((z.toInt.toNat : Nat) : Int)
  omega
def ev_aF (c : Option ev_C) : Nat → Value := match c with
  | some (.inl z) => z.2.2
  | _ => fun _ => .null
def ev_aC (c : Option ev_C) (f : Nat → Value) : ev_C := match c with
  | some (.inl z) => .inl (z.1, z.2.1, f)
  | _ => .inr (0, [])
def ev_ot (o : Bool) : FieldType := match o with
  | true => .object "java/lang/Object"
  | false => .byte
def ev_cf (X : ev_E) (h : ev_M) (o : Bool) (v : Value) : Prop := match o with
  | true => ev_el X h v
  | false => fits .byte v = true
noncomputable def i_cpy (X : ev_E) (o : Bool) (p : Nat) : ev_S → ev_N := fun S => match S.2.1 with
  | .int n :: .int dp :: .ref a :: .int sp :: .ref b :: st => ev_if (0 ≤ n ∧ 0 ≤ dp ∧ 0 ≤ sp ∧ st.length ≤ 4 ∧
      (∃ kd N f, ev_lk X S.2.2.1 b = some (.inl (kd, N, f)) ∧ kd < 20 ∧ ev_aT kd = ev_ot o ∧ sp.toNatClampNeg + n.toNatClampNeg ≤ N ∧ ∀ i, i < n.toNatClampNeg → ev_cf X S.2.2.1 o (f (sp.toNatClampNeg + i))) ∧
      ∃ kd N g, S.2.2.1 a = some (.inl (kd, N, g)) ∧ kd < 6 ∧ ev_aT kd = ev_ot o ∧ dp.toNatClampNeg + n.toNatClampNeg ≤ N)
      (some (.inl (p, S.1, st, ev_up S.2.2.1 a (ev_aC (S.2.2.1 a) (va_cpy (ev_aF (ev_lk X S.2.2.1 b)) (ev_aF (S.2.2.1 a)) sp.toNatClampNeg dp.toNatClampNeg n.toNatClampNeg)), S.2.2.2)))
  | _ => none
theorem s_arraycopy (hG : ev_Good X) (o : Bool) {idx : Nat} (hc1 : Cond.castable "[I" "java/lang/Object" ∈ lw_tbl) (hc2 : Cond.castable "java/lang/Integer" "java/lang/Object" ∈ lw_tbl) (hw : Cond.methodLink x.1.cls idx arraycopyName ∈ lw_tbl) (hna : Cond.native arraycopyName ∈ lw_tbl) (hgn : ev_gd (Cond.native arraycopyName) = true) (hst : Cond.static arraycopyName ∈ lw_tbl) (hin : Cond.initialized "java/lang/System" ∈ lw_tbl)
    (hd : decode x.2.1 pc = .ok (.invokestatic idx, 3)) : ev_Snd X l ms x tx pc (i_cpy X o (pc + 3)) := by
  intro S y h
  obtain ⟨lo, st, K, n9, q9⟩ := S
  unfold i_cpy at h
  dsimp only at h
  split at h
  · rename_i n dp a sp b st
    obtain ⟨⟨hn0, hd0, hs0, hstl, ⟨kd0, N0, f, he0, hk0, ht0, hle0, hel⟩, kd1, N1, g, he1, hk1, ht1, hle1⟩, h⟩ := ev_if_s h
    cases h
    show ev_SG X l x pc _ _ _
    dsimp only
    rw [he0, he1]
    dsimp only [ev_aF, ev_aC]
    have hsum := ev_sum2 st
    refine ⟨Nat.le_refl _, Nat.le_refl _, fun p e R s m args below meth c n0 q0 Q hA h1 h2 h3 h4 kk => ?_⟩
    intro H locs ls hR hL hS
    obtain ⟨hx, hb, hml, hown, hret, hlk, hnm, htab, hW, hbel, hz, hfr, hlo⟩ := hA
    obtain ⟨cs, z1, z2, z3, z4, z5, z6⟩ := ev_rd hG hbel hz hR hS he0
    obtain ⟨hbs, -, hcell⟩ := hR.2.2 a _ he1
    dsimp only at z2 z5 z6 hcell
    obtain ⟨-, k0, hk0', cm0, hkk0⟩ := ev_isArr hG hW hk0 z2 z3
    obtain ⟨-, k1, hk1', cm1, hkk1⟩ := ev_isArr hG hW (kd := kd1) (by omega) (cell := arrV (X.2.2.2.1 kd1) N1 g) rfl (fun j e => by cases e)
    intro T hT XX
    obtain ⟨vm', X', step⟩ := XX.arraycopy hx hown (ev_word hG hW hw rfl args) (ev_word hG hW hna hgn args) (ev_word hG hW hst rfl args) (ev_word hG hW hin rfl args) (src := b) (dst := a) (cs := cs) (cd := arrV (X.2.2.2.1 kd1) N1 g) (srcPos := sp) (destPos := dp) (n := n) (by rw [hT]; exact z1) (by rw [hT]; exact hcell)
      z3 (fun _ h => by cases h) z4 (fun h => by cases h) hk0' hk1' hkk0 hkk1 (by rw [ht0, ht1]; cases o <;> rfl) (Int32.not_lt.mpr hs0) (Int32.not_lt.mpr hd0) (Int32.not_lt.mpr hn0)
      (by rw [ev_nn sp (Int32.not_lt.mpr hs0), ev_nn n (Int32.not_lt.mpr hn0), z5]; omega)
      (by rw [ev_nn dp (Int32.not_lt.mpr hd0), ev_nn n (Int32.not_lt.mpr hn0)]; have z9 := arrV_size (X.2.2.2.1 kd1) N1 g; omega)
      (fun vm₁ hal i hi => by
        have e : cs.slots.getD (sp.toNatClampNeg + i) .null = f (sp.toNatClampNeg + i) := by
          rw [Array.getD_eq_getD_getElem?, z6 _ (by omega)]
          rfl
        rw [e, ht1]
        have hel' := hel i hi
        cases o with
        | false =>
          have hel'' : fits .byte (f (sp.toNatClampNeg + i)) = true := hel'
          refine ⟨hel'', ?_⟩
          cases hv : f (sp.toNatClampNeg + i) with
          | ref y => rw [hv] at hel''; cases hel''
          | _ => exact trivial
        | true =>
          have hel'' : ev_el X K (f (sp.toNatClampNeg + i)) := hel'
          have hel3 := hel''
          rcases hel'' with hv | ⟨y, hv, -⟩
          · rw [hv]; exact ⟨rfl, trivial⟩
          · rw [hv] at hel3 ⊢
            obtain ⟨cv, kv, comp, g1, g2, g3, g4, g5⟩ := ev_elem hG hc1 hc2 hW hbel hz hR hS hel3
            have hra := (hG.2.2.2.1 kd1 hk1).moved hW.alike
            rw [ht1] at hra
            obtain ⟨kA, comp', r1, r2, r3, -⟩ := hra
            cases hk1'.symm.trans r1
            have e9 := hkk1.symm.trans r2
            rw [ht1] at e9
            injection e9 with e10 e11
            subst e10
            cases r3.symm.trans g4
            obtain ⟨kE, hkE, -⟩ := Vm.findClass_spec g4
            obtain ⟨kC', hkC', -⟩ := hal.2.2 _ _ g3
            obtain ⟨kE', hkE', -⟩ := hal.2.2 _ _ hkE
            refine ⟨rfl, cv, (show T.heap[y]? = some cv by rw [hT]; exact g1), (fun q h => by rw [h] at g2; cases g2), ⟨kC', hkC'⟩, ?_, ?_⟩
            · exact ⟨kE', hkE'⟩
            · show vm₁.assignable _ _ = true
              rw [hal.assignable]
              exact g5)
      (g := F0 m pc ls (.int n :: .int dp :: .ref a :: .int sp :: .ref b :: st)) rfl (by rw [hml]; exact hL.1) (rest := st) rfl (by rw [hb]; exact hd) (by omega) (by show 2 * 0 + _ + _ ≤ _; have hw9 : nativeFrameWords "java/lang/System" "arraycopy" 5 ≤ 50 := (by decide); omega)
    have e1 : copied cs (arrV (X.2.2.2.1 kd1) N1 g) sp dp n = arrV (X.2.2.2.1 kd1) N1 (va_cpy f g sp.toNatClampNeg dp.toNatClampNeg n.toNatClampNeg) := va_copiedX (fun z => z) cs (X.2.2.2.1 kd1) f g z6 hle0
    rw [e1] at X' step
    have hl : a < H.size := (Array.getElem?_eq_some_iff.mp hcell).1
    have hheap : ((T.setVm vm').setCell a (arrV (X.2.2.2.1 kd1) N1 (va_cpy f g sp.toNatClampNeg dp.toNatClampNeg n.toNatClampNeg))).heap = H.setIfInBounds a (arrV (X.2.2.2.1 kd1) N1 (va_cpy f g sp.toNatClampNeg dp.toNatClampNeg n.toNatClampNeg)) := by rw [← hT]; rfl
    have oq : ∀ q : Nat, q ≠ a → (H.setIfInBounds a (arrV (X.2.2.2.1 kd1) N1 (va_cpy f g sp.toNatClampNeg dp.toNatClampNeg n.toNatClampNeg)))[q]? = H[q]? := fun q hq => by simp [Array.getElem?_setIfInBounds, Ne.symm hq]
    obtain ⟨t, a1, b1⟩ := kk _ _ ls (ev_R_up hR he1 (by simp) oq ⟨hk1, (show (H.setIfInBounds a _)[a]? = some _ by simp [Array.getElem?_setIfInBounds, hl])⟩) hL ⟨by simp; exact hS.1, fun q g1 g2 => by
        rw [oq q (fun e => g2 (by rw [e]; exact hbs))]
        exact hS.2.1 q g1 g2, fun q hq => by
        rcases List.mem_append.mp hq with h | h
        · exact hS.2.2 q h
        · obtain ⟨z, -, hz⟩ := List.mem_map.mp h
          rw [← hz]
          exact hbs⟩ _ hheap X'
    exact ⟨t, step t a1, b1⟩
  · cases h
/-! the clone of a byte array -/
noncomputable def i_cln (p : Nat) : ev_S → ev_N := fun S => match S.2.1 with
  | .ref a :: st => ev_if (st.length ≤ 4 ∧ ∃ N f, S.2.2.1 a = some (.inl (1, N, f)) ∧ ∀ i, i < N → fits .byte (f i) = true) (some (.inl (p, S.1, .ref S.2.2.2.1 :: st, ev_up S.2.2.1 S.2.2.2.1 (ev_aC (S.2.2.1 a) (ev_aF (S.2.2.1 a))), S.2.2.2.1 + 1, S.2.2.2.2 + ev_aN (S.2.2.1 a))))
  | _ => none
theorem s_cloneB (hG : ev_Good X) {idx : Nat} (hw : Cond.methodLink x.1.cls idx ⟨"[B", "clone", "()Ljava/lang/Object;"⟩ ∈ lw_tbl) (hsm : Cond.sameMethod "[B" "java/lang/Object" "clone" "()Ljava/lang/Object;" ∈ lw_tbl) (hgs : ev_gd (Cond.sameMethod "[B" "java/lang/Object" "clone" "()Ljava/lang/Object;") = true) (hna : Cond.native ⟨"java/lang/Object", "clone", "()Ljava/lang/Object;"⟩ ∈ lw_tbl) (hgn : ev_gd (Cond.native ⟨"java/lang/Object", "clone", "()Ljava/lang/Object;"⟩) = true)
    (hin : Cond.instanceMethod ⟨"java/lang/Object", "clone", "()Ljava/lang/Object;"⟩ ∈ lw_tbl) (hse : Cond.selects "[B" ⟨"[B", "clone", "()Ljava/lang/Object;"⟩ ⟨"java/lang/Object", "clone", "()Ljava/lang/Object;"⟩ ∈ lw_tbl) (hg2 : ev_gd (Cond.selects "[B" ⟨"[B", "clone", "()Ljava/lang/Object;"⟩ ⟨"java/lang/Object", "clone", "()Ljava/lang/Object;"⟩) = true) (hca : Cond.castable "[B" "java/lang/Cloneable" ∈ lw_tbl)
    (hd : decode x.2.1 pc = .ok (.invokevirtual idx, 3)) : ev_Snd X l ms x tx pc (i_cln (pc + 3)) := by
  intro S y h
  obtain ⟨lo, st, K, n9, q9⟩ := S
  unfold i_cln at h
  dsimp only at h
  split at h
  · rename_i a st
    obtain ⟨⟨hstl, N, f, he, hfit⟩, h⟩ := ev_if_s h
    cases h
    show ev_SG X l x pc _ _ _
    dsimp only
    rw [he]
    dsimp only [ev_aF, ev_aC, ev_aN]
    have hsum := ev_sum2 st
    refine ⟨Nat.le_succ _, Nat.le_add_right _ _, fun p e R s m args below meth c n0 q0 Q hA h1 h2 h3 h4 kk => ?_⟩
    intro H locs ls hR hL hS
    dsimp only at h1 h2 h3 h4 kk hR hL ⊢
    obtain ⟨hx, hb, hml, hown, hret, hlk, hnm, htab, hW, hbel, hz, hfr, hlo⟩ := hA
    obtain ⟨hbs, hk6, hcell⟩ := hR.2.2 a _ he
    dsimp only at hcell
    have hf := ev_nmA hG hW (kd := 1) (by decide) (nm := "[B") rfl
    obtain ⟨c0, t0', f1, f2, f3⟩ := Cond.castable_spec (ev_word hG hW hca rfl args)
    cases hf.symm.trans f1
    intro T hT XX
    obtain ⟨-, kA, hkA, comp, hkind⟩ := State.isArrayOf_alike XX.warmed.alike (ev_isArr hG hW (kd := 1) (by decide) (cell := arrV (X.2.2.2.1 1) N f) rfl (fun j e => by cases e))
    obtain ⟨-, kS, hkS, compS, hkindS⟩ := ev_isArr hG hW (kd := 1) (by decide) (cell := arrV (X.2.2.2.1 1) N f) rfl (fun j e => by cases e)
    obtain ⟨vm', X', step⟩ := XX.cloneArray hx hown (ev_word hG hW hw rfl args) (ev_word hG hW hsm hgs args) (ev_word hG hW hna hgn args) (ev_word hG hW hin rfl args) (ev_word hG hW hse hg2 args) (a := a) (cell := arrV (X.2.2.2.1 1) N f) (by rw [hT]; exact hcell) (fun k h => by cases h) (fun h => by cases h) hf f2 f3
      (fun i v hv => by
        have hi : i < N := by
          have := (Array.getElem?_eq_some_iff.mp hv).1
          rwa [arrV_size] at this
        rw [arrV_read _ _ hi] at hv
        cases hv
        have hk' : T.vm.classes[(arrV (X.2.2.2.1 1) N f).cls]? = some kA := hkA
        have hfi : fits (ev_aT 1) (f i) = true := hfit i hi
        simpa [State.fitsSlot, State.slotType?, hk', hkind] using hfi)
      (g := F0 m pc ls (.ref a :: st)) rfl (by rw [hml]; exact hL.1) rfl (by rw [hb]; exact hd) (by omega) (by show 2 * 0 + _ + 14 ≤ _; omega) (by omega) (by rw [arrV_size]; omega) (hloader := Vm.clonesLoader_of_array hkS hkindS)
    have hcE : ({ cls := (arrV (X.2.2.2.1 1) N f).cls, slots := (arrV (X.2.2.2.1 1) N f).slots } : Cell) = arrV (X.2.2.2.1 1) N f := rfl
    rw [hcE, arrV_size] at X'
    have o1 : ∀ q : Nat, q < n9 → (H.push (arrV (X.2.2.2.1 1) N f))[q]? = H[q]? := fun q hq => by rw [Array.getElem?_push, if_neg (by rw [hR.1]; omega)]
    have z1 : (H.push (arrV (X.2.2.2.1 1) N f)).size = n9 + 1 := by rw [Array.size_push, hR.1]
    have e1 : (H.push (arrV (X.2.2.2.1 1) N f))[n9]? = some (arrV (X.2.2.2.1 1) N f) := by rw [← hR.1, Array.getElem?_push_size]
    have k2 := kk (H.push (arrV (X.2.2.2.1 1) N f)) locs ls (ev_R_new hR z1 o1 ⟨Nat.le_of_ble_eq_true rfl, e1⟩) hL (ev_S_new hS hR.1 z1 o1)
    dsimp only at k2
    have k3 := W.cs (cells := n9 - n0 + 1) (slots := q9 - q0 + N) (by omega) (by omega) k2
    obtain ⟨t, b1, b2⟩ := k3 ((T.setVm vm').pushCell (arrV (X.2.2.2.1 1) N f)) (by rw [← hT]; rfl) X'
    refine ⟨t, step t ?_, b2⟩
    rw [hcE, hT, hR.1]
    exact b1
  · cases h
theorem ev_selP {C : String} {y z : MethodName} {s : State} {args : Array Value} (hz : (Cond.selects C z z).before args s = true) (hzc : z.cls = y.cls) (hy : y.cls ≠ "java/lang/invoke/MethodHandle" ∧ y.cls ≠ "java/lang/invoke/VarHandle") (hpriv : (Cond.privateMethod y).before args s = true) (hinst : (Cond.instanceMethod y).before args s = true) : (Cond.selects C y y).before args s = true := by
  obtain ⟨c, r, m, h1, h2, h3, h4, mk, h5, h6⟩ := Cond.selects_spec hz
  obtain ⟨mk', methM, hnamed, hmethM, -, -⟩ := Cond.instanceMethod_spec hinst
  have hfound : s.methodFound? y.cls y.name y.desc = some mk' := State.methodFound?_of_named hnamed hy
  have hsel : selectMethod {} s.vm c mk' = .method mk' := selectMethod_private hmethM (Cond.privateMethod_at hpriv mk' methM hnamed hmethM)
  have e1 : m.cls = mk'.cls := by
    have e2 := findClass_of_methodNamed h3
    rw [hzc] at e2
    exact Option.some.inj (e2.symm.trans (findClass_of_methodNamed hnamed))
  rw [e1] at h5
  simp only [Cond.before, Cond.holds, Cond.value, h1, hfound, hnamed, hsel, h5]
  simp [h6]
theorem s_invokevirtualP (hG : ev_Good X) {mi n ci idx : Nat} {r : vw_C} (hc : vwCl[ci]? = some r) (hcal : ev_cal ms x mi n) (hl : Cond.methodLink x.1.cls idx (ms mi).1 ∈ lw_tbl) (hin : Cond.instanceMethod (ms mi).1 ∈ lw_tbl) {z : MethodName} (hse : Cond.selects r.1 z z ∈ lw_tbl) (hzc : z.cls = (ms mi).1.cls) (hpr : Cond.privateMethod (ms mi).1 ∈ lw_tbl) (d : decode x.2.1 pc = .ok (.invokevirtual idx, 3)) : ev_Snd X l ms x tx pc (i_cV X mi n ci (ms mi).2.2.1 (pc + 3)) := by
  intro S y h
  obtain ⟨lo, st, K, n9, q9⟩ := S
  unfold i_cV at h
  dsimp only at h
  split at h
  · rename_i b rest hd
    obtain ⟨⟨hk, hlen, hrl, hsl⟩, h⟩ := ev_if_s h
    cases h
    refine ⟨rfl, hsl, fun o K' hx hn hq hM p e R s m args below meth c n0 q0 Q hA h1 h2 h3 h4 kv kx => ?_⟩
    intro H locs ls hR hL hS
    dsimp only at hn hq hM h1 h2 kv kx hR hL ⊢
    have hA' := hA
    obtain ⟨hx, hb, hml, hown, hret, hlk, hnm, htab, hW, hbel, hz, hfr, hlo⟩ := hA
    have hsum := ev_sum2 rest
    have hr := vx_runV (e := e) (below := below) (meth := meth) (mc := K'.2.1 - n9) (ms := K'.2.2 - q9) (H := H) (locs := locs) (cells := n9 - n0) (slots := q9 - q0) (Ts := []) (g := F0 m pc ls st) (rest := rest) (b := b) (As := (st.take n).reverse) ⟨hx, hb, hml, hown, fun _ h => by cases h⟩ hM ⟨ev_callB hG hcal hA' hl, ev_word hG hW hin rfl args, word_at hW (Or.inl rfl) (ev_selP (hG.1 _ hse) hzc hcal.2.2.2.1 (hG.1 _ hpr) (hG.1 _ hin))⟩
      ⟨ev_blind, ev_recv hG hc hW hbel hz hR hS hk, ev_pre hW hbel hz hR hS⟩ rfl (by rw [List.length_reverse]; exact hlen) hL.1 (ev_stk hd) (by show 2 * 0 + _ ≤ 8; omega) d ⟨by omega, by omega⟩
    refine ev_ofRun hr hS (fun v hv H1 locs1 hR1 hS1 => ?_) (fun E hE H1 locs1 q ce hR1 hS1 hq1 hq2 hq3 => ?_) hz (by rw [hR.1]; exact hn)
    · have k3 := kv v hv H1 locs1 ls hR1 hL hS1
      dsimp only at k3
      exact W.cs (by omega) (by omega) k3
    · have k2 := kx E hE H1 locs1 ls rest q ce hR1 hL hS1 hq1 hq2 hq3
      rw [show n9 - n0 + (K'.2.1 - n9) = K'.2.1 - n0 by omega, show q9 - q0 + (K'.2.2 - q9) = K'.2.2 - q0 by omega]
      exact k2
  · cases h
end EVU
end
section
section EVHN
/-! handlers: a row is (from, to, class thrown, handler, its class entry, the local that takes the thrown object, where it goes on) -/
abbrev ev_hr : Type := Nat × Nat × Nat × Nat × Nat × Nat × Nat
def ev_hf : List ev_hr → ev_X
  | [], _, _ => none
  | r :: rs, pc, E => bif (Nat.ble r.1 pc && Nat.ble (pc + 1) r.2.1 && Nat.beq E r.2.2.1) then some (some (r.2.2.2.2.2.2, r.2.2.2.2.2.1)) else ev_hf rs pc E
theorem ev_hf_s : ∀ {rs : List ev_hr} {pc E : Nat} {z}, ev_hf rs pc E = some z → ∃ (pre : List ev_hr) (r : ev_hr) (suf : List ev_hr), rs = pre ++ r :: suf ∧ z = some (r.2.2.2.2.2.2, r.2.2.2.2.2.1) ∧ r.1 ≤ pc ∧ pc < r.2.1 ∧ r.2.2.1 = E ∧ ∀ y ∈ pre, ¬ (y.1 ≤ pc ∧ pc < y.2.1) ∨ y.2.2.1 ≠ E := by
  intro rs
  induction rs with
  | nil => intro pc E z h; cases h
  | cons r rs ih =>
    intro pc E z h
    rw [ev_hf] at h
    by_cases hc : (Nat.ble r.1 pc && Nat.ble (pc + 1) r.2.1 && Nat.beq E r.2.2.1) = true
    · rw [hc] at h
      have h2 := hc
      simp only [Bool.and_eq_true] at h2
      obtain ⟨⟨h3, h4⟩, h5⟩ := h2
      refine ⟨[], r, rs, rfl, ?_, Nat.le_of_ble_eq_true h3, Nat.le_of_ble_eq_true h4, (Nat.eq_of_beq_eq_true h5).symm, fun y hy => nomatch hy⟩
      exact (Option.some.inj h).symm
    · have hc2 : (Nat.ble r.1 pc && Nat.ble (pc + 1) r.2.1 && Nat.beq E r.2.2.1) = false := by
        cases hz : (Nat.ble r.1 pc && Nat.ble (pc + 1) r.2.1 && Nat.beq E r.2.2.1) with
        | false => rfl
        | true => exact absurd hz hc
      rw [hc2] at h
      obtain ⟨pre, r', suf, h1, h2, h3, h4, h5, h6⟩ := ih h
      refine ⟨r :: pre, r', suf, by rw [h1]; rfl, h2, h3, h4, h5, fun y hy => ?_⟩
      rcases List.mem_cons.mp hy with rfl | hy
      · by_cases q : y.1 ≤ pc ∧ pc < y.2.1
        · right
          intro e
          apply hc
          simp [Nat.ble_eq.mpr q.1, Nat.ble_eq.mpr (show pc + 1 ≤ y.2.1 from q.2), e, Nat.beq_refl]
        · exact Or.inl q
      · exact h6 y hy
theorem ev_Nc_moved {a b : String} {u U : State} (hvm : u.vm.Alike U.vm) (h : va_Nc a b u) : va_Nc a b U := by
  obtain ⟨c, t, h1, h2, h3⟩ := h
  exact ⟨c, t, by rw [hvm.findClass]; exact h1, by rw [hvm.findClass]; exact h2, by rw [hvm.assignable]; exact h3⟩
theorem ev_Hs_rows {X : ev_E} {l : Launch} {x : ev_I} (hG : ev_Good X) (rs : List ev_hr) (hh : x.2.2.2.2.1 = rs.map (fun r => (r.1, r.2.1, r.2.2.2.1, r.2.2.2.2.1)))
    (hr : ∀ r ∈ rs, Cond.classLink x.1.cls r.2.2.2.2.1 (ev_nm r.2.2.1) ∈ lw_tbl ∧ r.2.2.2.2.1 ≠ 0 ∧ r.2.2.1 < 3 ∧ Cond.castable (ev_nm r.2.2.1) (ev_nm r.2.2.1) ∈ lw_tbl ∧ r.2.2.2.2.2.1 < x.2.2.1 ∧
      ((∃ f : Fin 4, decode x.2.1 r.2.2.2.1 = .ok (.astore_n f, 1) ∧ (f : Nat) = r.2.2.2.2.2.1 ∧ r.2.2.2.2.2.2 = r.2.2.2.1 + 1) ∨ (decode x.2.1 r.2.2.2.1 = .ok (.astore r.2.2.2.2.2.1, 2) ∧ r.2.2.2.2.2.2 = r.2.2.2.1 + 2))) : ev_Hs X l x (ev_hf rs) := by
  intro pc E p e R s m args below meth c n0 q0 lo K hA
  refine ⟨fun h => ?_, fun k Q h => ?_⟩
  · obtain ⟨pre, r, suf, h1, h2, -⟩ := ev_hf_s h
    cases h2
  · obtain ⟨pre, r, suf, h1, h2, h3, h4, h5, h6⟩ := ev_hf_s h
    cases h2
    intro kv
    intro H locs ls rest q ce hR hL hS hq hv hcl
    obtain ⟨hx, hb, hml, hown, hret, hlk, hnm, htab, hW, hbel, hz, hfr, hlo⟩ := hA
    obtain ⟨g1, g2, g3, g4, g5, g6⟩ := hr r (by rw [h1]; simp)
    have ht : c.exceptionTable.toList = (pre.map (fun r => (⟨r.1, r.2.1, r.2.2.2.1, r.2.2.2.2.1⟩ : ExceptionTableEntry))) ++ (⟨r.1, r.2.1, r.2.2.2.1, r.2.2.2.2.1⟩ : ExceptionTableEntry) :: (suf.map (fun r => (⟨r.1, r.2.1, r.2.2.2.1, r.2.2.2.2.1⟩ : ExceptionTableEntry))) := by
      rw [htab, hh, h1]
      simp [tableOf]
      constructor <;> rfl
    have hE3 : E < 3 := by rw [← h5]; exact g3
    refine vx_catch (own := x.1.cls) (name := ev_nm E) (E := ev_nm E) hown _ _ _ ht ?_ (by simp [covers, h3, h4]) g2 (by rw [← h5]; exact ev_word hG hW g1 rfl args) (by rw [← h5]; exact ev_word hG hW g4 rfl args) hq hv hcl ?_
    · intro z hz
      obtain ⟨y, hy, rfl⟩ := List.mem_map.mp hz
      rcases h6 y hy with h7 | h7
      · left
        by_cases q1 : y.1 ≤ pc
        · have q2 : ¬ pc < y.2.1 := fun q => h7 ⟨q1, q⟩
          simp [covers, q2]
        · simp [covers, q1]
      · right
        obtain ⟨k1, k2, k3, -⟩ := hr y (by rw [h1]; exact List.mem_append_left _ hy)
        exact ⟨k2, ev_nm y.2.2.1, ev_word hG hW k1 rfl args, ev_Nc_moved hW.alike (hG.2.2.2.2.2.2.2.2.2.2.2.2.2.2.2.2.2.1 E y.2.2.1 hE3 k3 (Ne.symm h7))⟩
    · rcases g6 with ⟨f, d, d2, d3⟩ | ⟨d, d3⟩
      · refine lv_astore_n hx hb d d2 (ev_al_has hL) g5 rfl (fun ls' h' => ?_)
        have k2 := kv H locs ls' hR (ev_L_st hL g5 (Or.inl rfl) h') hS
        rw [d3] at k2
        exact k2
      · refine lv_astore hx hb d (ev_al_has hL) g5 rfl (fun ls' h' => ?_)
        have k2 := kv H locs ls' hR (ev_L_st hL g5 (Or.inl rfl) h') hS
        rw [d3] at k2
        exact k2
end EVHN
end
section
/-! ===== decoding: one walk over the bytes of each method ===== -/
def lx_bt (b : ByteArray) (p v : Nat) : Prop := ∃ h : p < b.size, (b[p]'h).toNat = v
theorem lx_u1 {b : ByteArray} {p v : Nat} (h : lx_bt b p v) : (Jvm.ClassFile.Reader.u1 : Jvm.ClassFile.Decoder Nat) b p = .ok (v, p + 1) := by
  obtain ⟨h, e⟩ := h
  show ((if h : p < b.size then (do set (p + 1); pure (b[p]'h).toNat : Jvm.ClassFile.Decoder Nat) else throw (Jvm.ClassFile.HasTruncated.truncated p)) : Jvm.ClassFile.Decoder Nat) b p = _
  rw [dif_pos h]
  show Except.ok ((b[p]'h).toNat, p + 1) = _
  rw [e]
theorem lx_b {α β : Type} {b : ByteArray} {p q : Nat} {m : Jvm.ClassFile.Decoder β} {a : β} (h : m b p = .ok (a, q)) (k : β → Jvm.ClassFile.Decoder α) : Jvm.ClassFile.Reader.runAt (m >>= k) b p = Jvm.ClassFile.Reader.runAt (k a) b q := by
  have key : Jvm.ClassFile.Reader.runAt (m >>= k) b p = (m b p).bind (fun x => k x.1 b x.2) := rfl
  rw [key, h]
  rfl
theorem lx_u2 {b : ByteArray} {p x y : Nat} (h : lx_bt b p x) (h1 : lx_bt b (p + 1) y) : (Jvm.ClassFile.Reader.u2 : Jvm.ClassFile.Decoder Nat) b p = .ok (x * 256 + y, p + 2) :=
  (lx_b (lx_u1 h) _).trans ((lx_b (lx_u1 h1) _).trans rfl)
theorem lx_s1 {b : ByteArray} {p x : Nat} {o : Int} (h : lx_bt b p x) (e : Jvm.ClassFile.Reader.signed 8 x = o) : (Jvm.ClassFile.Reader.s1 : Jvm.ClassFile.Decoder Int) b p = .ok (o, p + 1) := by
  subst e
  have key : (Jvm.ClassFile.Reader.s1 : Jvm.ClassFile.Decoder Int) b p = ((Jvm.ClassFile.Reader.u1 : Jvm.ClassFile.Decoder Nat) b p).bind (fun z => .ok (Jvm.ClassFile.Reader.signed 8 z.1, z.2)) := rfl
  rw [key, lx_u1 h]
  rfl
theorem lx_s2 {b : ByteArray} {p x y : Nat} {o : Int} (h : lx_bt b p x) (h1 : lx_bt b (p + 1) y) (e : Jvm.ClassFile.Reader.signed 16 (x * 256 + y) = o) : (Jvm.ClassFile.Reader.s2 : Jvm.ClassFile.Decoder Int) b p = .ok (o, p + 2) := by
  subst e
  have key : (Jvm.ClassFile.Reader.s2 : Jvm.ClassFile.Decoder Int) b p = ((Jvm.ClassFile.Reader.u2 : Jvm.ClassFile.Decoder Nat) b p).bind (fun z => .ok (Jvm.ClassFile.Reader.signed 16 z.1, z.2)) := rfl
  rw [key, lx_u2 h h1]
  rfl
theorem lx_in {b : ByteArray} {p v n : Nat} {i : Jvm.ClassFile.Instr} {K : Nat → Jvm.ClassFile.Decoder Jvm.ClassFile.Instr} (h : lx_bt b p v) (hK : Jvm.ClassFile.Decoder.instr p = Jvm.ClassFile.Reader.u1 >>= K) (hr : Jvm.ClassFile.Reader.runAt (K v) b (p + 1) = .ok (i, p + n)) : decode b p = .ok (i, n) := by
  have key : decode b p = (Jvm.ClassFile.Reader.runAt (Jvm.ClassFile.Decoder.instr p) b p).bind (fun x => .ok (x.1, x.2 - p)) := rfl
  rw [key, hK, lx_b (lx_u1 h) K, hr]
  show Except.ok (i, p + n - p) = _
  rw [Nat.add_sub_cancel_left]
theorem lx_at {b : ByteArray} {L : List Nat} (e : b.data.toList.map UInt8.toNat = L) {p v : Nat} (h : L[p]? = some v) : lx_bt b p v := by
  subst e
  rw [List.getElem?_map] at h
  obtain ⟨w, hw, rfl⟩ := Option.map_eq_some_iff.mp h
  obtain ⟨h3, h4⟩ := List.getElem?_eq_some_iff.mp hw
  exact ⟨h3, congrArg UInt8.toNat h4⟩
theorem lx_hd {b : ByteArray} {p v : Nat} {L : List Nat} (e : (b.data.toList.map UInt8.toNat).drop p = v :: L) : lx_bt b p v ∧ (b.data.toList.map UInt8.toNat).drop (p + 1) = L := by
  refine ⟨lx_at rfl ?_, ?_⟩
  · rw [← List.head?_drop, e, List.head?_cons]
  · rw [← List.drop_drop, e]; rfl
/-- from p on the bytes are L: then every row of tb holds -/
def ev_Z (X : ev_E) (l : Launch) (ms : Nat → ev_I) (x : ev_I) (tx : ev_X) (p : Nat) (L : List Nat) (tb : List (Nat × (ev_S → ev_N))) : Prop := ∀ T : List Nat, (x.2.1.data.toList.map UInt8.toNat).drop p = L ++ T → ∀ q ∈ tb, ev_Snd X l ms x tx q.1 q.2
section EVZZ
variable {X : ev_E} {l : Launch} {ms : Nat → ev_I} {x : ev_I} {tx : ev_X} {p q v : Nat} {L : List Nat} {tb : List (Nat × (ev_S → ev_N))} {f : ev_S → ev_N} {i : Jvm.ClassFile.Instr}
theorem zz_0 : ev_Z X l ms x tx p L [] := fun _ _ _ h => absurd h List.not_mem_nil
theorem zz_tl (t : ev_Z X l ms x tx (p + 1) L tb) : ev_Z X l ms x tx p (v :: L) tb := fun T e => t T (lx_hd (L := L ++ T) e).2
theorem zz_t16 {b0 b1 b2 b3 b4 b5 b6 b7 b8 b9 b10 b11 b12 b13 b14 b15 : Nat} (t : ev_Z X l ms x tx (p + 16) L tb) : ev_Z X l ms x tx p (b0 :: b1 :: b2 :: b3 :: b4 :: b5 :: b6 :: b7 :: b8 :: b9 :: b10 :: b11 :: b12 :: b13 :: b14 :: b15 :: L) tb := zz_tl (zz_tl (zz_tl (zz_tl (zz_tl (zz_tl (zz_tl (zz_tl (zz_tl (zz_tl (zz_tl (zz_tl (zz_tl (zz_tl (zz_tl (zz_tl t)))))))))))))))
theorem zz_d (s : ev_Snd X l ms x tx p f) (t : ev_Z X l ms x tx p L tb) : ev_Z X l ms x tx p L ((p, f) :: tb) := fun T e r hr => (List.mem_cons.mp hr).elim (fun h => by rw [h]; exact s) (fun h => t T e r h)
theorem zz_i1 (o : lx_bt x.2.1 p v → decode x.2.1 p = .ok (i, 1)) (s : decode x.2.1 p = .ok (i, 1) → ev_Snd X l ms x tx p f) (t : ev_Z X l ms x tx q L tb) (hq : q = p + 1) : ev_Z X l ms x tx p (v :: L) ((p, f) :: tb) := by
  subst hq
  intro T e r hr
  have e1 := lx_hd (L := L ++ T) e
  rcases List.mem_cons.mp hr with rfl | hr
  · exact s (o e1.1)
  · exact t T e1.2 r hr
theorem zz_i2 {y : Nat} (o : lx_bt x.2.1 p v → lx_bt x.2.1 (p + 1) y → decode x.2.1 p = .ok (i, 2)) (s : decode x.2.1 p = .ok (i, 2) → ev_Snd X l ms x tx p f) (t : ev_Z X l ms x tx q L tb) (hq : q = p + 2) : ev_Z X l ms x tx p (v :: y :: L) ((p, f) :: tb) := by
  subst hq
  intro T e r hr
  have e1 := lx_hd (L := y :: (L ++ T)) e
  have e2 := lx_hd (L := L ++ T) e1.2
  rcases List.mem_cons.mp hr with rfl | hr
  · exact s (o e1.1 e2.1)
  · exact t T e2.2 r hr
theorem zz_i3 {y z : Nat} (o : lx_bt x.2.1 p v → lx_bt x.2.1 (p + 1) y → lx_bt x.2.1 (p + 1 + 1) z → decode x.2.1 p = .ok (i, 3)) (s : decode x.2.1 p = .ok (i, 3) → ev_Snd X l ms x tx p f) (t : ev_Z X l ms x tx q L tb) (hq : q = p + 3) : ev_Z X l ms x tx p (v :: y :: z :: L) ((p, f) :: tb) := by
  subst hq
  intro T e r hr
  have e1 := lx_hd (L := y :: z :: (L ++ T)) e
  have e2 := lx_hd (L := z :: (L ++ T)) e1.2
  have e3 := lx_hd (L := L ++ T) e2.2
  rcases List.mem_cons.mp hr with rfl | hr
  · exact s (o e1.1 e2.1 e3.1)
  · exact t T e3.2 r hr
theorem sy_invokevirtual {mi n ci idx : Nat} {r : vw_C} {y : ev_I} (e : ms mi = y) (hG : ev_Good X) (hc : vwCl[ci]? = some r) (hcal : ev_cal ms x mi n) (hl : Cond.methodLink x.1.cls idx y.1 ∈ lw_tbl) (hin : Cond.instanceMethod y.1 ∈ lw_tbl) (hse : Cond.selects r.1 y.1 y.1 ∈ lw_tbl) (d : decode x.2.1 p = .ok (.invokevirtual idx, 3)) : ev_Snd X l ms x tx p (i_cV X mi n ci y.2.2.1 (p + 3)) := by
  subst e
  exact s_invokevirtual hG hc hcal hl hin hse d
theorem sy_invokestatic {mi n idx : Nat} {y : ev_I} (e : ms mi = y) (hG : ev_Good X) (hcal : ev_cal ms x mi n) (hl : Cond.methodLink x.1.cls idx y.1 ∈ lw_tbl) (hin : Cond.static y.1 ∈ lw_tbl) (d : decode x.2.1 p = .ok (.invokestatic idx, 3)) : ev_Snd X l ms x tx p (i_cS mi n y.2.2.1 (p + 3)) := by
  subst e
  exact s_invokestatic hG hcal hl hin d
theorem zz_run {n : Nat} (h : ((x.2.1.data.toList.map UInt8.toNat).drop p).take n = L) (z : ev_Z X l ms x tx p L tb) : ∀ q ∈ tb, ev_Snd X l ms x tx q.1 q.2 := z _ (by rw [← h]; exact (List.take_append_drop n _).symm)

theorem zz_1 (s : decode x.2.1 p = .ok (.aconst_null, 1) → ev_Snd X l ms x tx p f) (t : ev_Z X l ms x tx q L tb) (hq : q = p + 1) : ev_Z X l ms x tx p (1 :: L) ((p, f) :: tb) := zz_i1 (fun h => lx_in h rfl rfl) s t hq
theorem zz_2 (s : decode x.2.1 p = .ok (.iconst (-1), 1) → ev_Snd X l ms x tx p f) (t : ev_Z X l ms x tx q L tb) (hq : q = p + 1) : ev_Z X l ms x tx p (2 :: L) ((p, f) :: tb) := zz_i1 (fun h => lx_in h rfl rfl) s t hq
theorem zz_3 (s : decode x.2.1 p = .ok (.iconst 0, 1) → ev_Snd X l ms x tx p f) (t : ev_Z X l ms x tx q L tb) (hq : q = p + 1) : ev_Z X l ms x tx p (3 :: L) ((p, f) :: tb) := zz_i1 (fun h => lx_in h rfl rfl) s t hq
theorem zz_4 (s : decode x.2.1 p = .ok (.iconst 1, 1) → ev_Snd X l ms x tx p f) (t : ev_Z X l ms x tx q L tb) (hq : q = p + 1) : ev_Z X l ms x tx p (4 :: L) ((p, f) :: tb) := zz_i1 (fun h => lx_in h rfl rfl) s t hq
theorem zz_5 (s : decode x.2.1 p = .ok (.iconst 2, 1) → ev_Snd X l ms x tx p f) (t : ev_Z X l ms x tx q L tb) (hq : q = p + 1) : ev_Z X l ms x tx p (5 :: L) ((p, f) :: tb) := zz_i1 (fun h => lx_in h rfl rfl) s t hq
theorem zz_6 (s : decode x.2.1 p = .ok (.iconst 3, 1) → ev_Snd X l ms x tx p f) (t : ev_Z X l ms x tx q L tb) (hq : q = p + 1) : ev_Z X l ms x tx p (6 :: L) ((p, f) :: tb) := zz_i1 (fun h => lx_in h rfl rfl) s t hq
theorem zz_7 (s : decode x.2.1 p = .ok (.iconst 4, 1) → ev_Snd X l ms x tx p f) (t : ev_Z X l ms x tx q L tb) (hq : q = p + 1) : ev_Z X l ms x tx p (7 :: L) ((p, f) :: tb) := zz_i1 (fun h => lx_in h rfl rfl) s t hq
theorem zz_8 (s : decode x.2.1 p = .ok (.iconst 5, 1) → ev_Snd X l ms x tx p f) (t : ev_Z X l ms x tx q L tb) (hq : q = p + 1) : ev_Z X l ms x tx p (8 :: L) ((p, f) :: tb) := zz_i1 (fun h => lx_in h rfl rfl) s t hq
theorem zz_9 (s : decode x.2.1 p = .ok (.lconst 0, 1) → ev_Snd X l ms x tx p f) (t : ev_Z X l ms x tx q L tb) (hq : q = p + 1) : ev_Z X l ms x tx p (9 :: L) ((p, f) :: tb) := zz_i1 (fun h => lx_in h rfl rfl) s t hq
theorem zz_10 (s : decode x.2.1 p = .ok (.lconst 1, 1) → ev_Snd X l ms x tx p f) (t : ev_Z X l ms x tx q L tb) (hq : q = p + 1) : ev_Z X l ms x tx p (10 :: L) ((p, f) :: tb) := zz_i1 (fun h => lx_in h rfl rfl) s t hq
theorem zz_16 {y : Nat} (o : Int) (e : Jvm.ClassFile.Reader.signed 8 y = o) (s : decode x.2.1 p = .ok (.bipush o, 2) → ev_Snd X l ms x tx p f) (t : ev_Z X l ms x tx q L tb) (hq : q = p + 2) : ev_Z X l ms x tx p (16 :: y :: L) ((p, f) :: tb) := zz_i2 (fun h h1 => lx_in h rfl (show Jvm.ClassFile.Reader.runAt ((Jvm.ClassFile.Reader.s1 : Jvm.ClassFile.Decoder Int) >>= fun a => (pure (Jvm.ClassFile.Instr.bipush a) : Jvm.ClassFile.Decoder Jvm.ClassFile.Instr)) x.2.1 (p + 1) = _ from (lx_b (lx_s1 h1 e) _).trans rfl)) s t hq
theorem zz_17 {y z : Nat} (o : Int) (e : Jvm.ClassFile.Reader.signed 16 (y * 256 + z) = o) (s : decode x.2.1 p = .ok (.sipush o, 3) → ev_Snd X l ms x tx p f) (t : ev_Z X l ms x tx q L tb) (hq : q = p + 3) : ev_Z X l ms x tx p (17 :: y :: z :: L) ((p, f) :: tb) := zz_i3 (fun h h1 h2 => lx_in h rfl (show Jvm.ClassFile.Reader.runAt ((Jvm.ClassFile.Reader.s2 : Jvm.ClassFile.Decoder Int) >>= fun a => (pure (.sipush a) : Jvm.ClassFile.Decoder Jvm.ClassFile.Instr)) x.2.1 (p + 1) = _ from (lx_b (lx_s2 h1 h2 e) _).trans rfl)) s t hq
theorem zz_18 {y : Nat} (s : decode x.2.1 p = .ok (.ldc y, 2) → ev_Snd X l ms x tx p f) (t : ev_Z X l ms x tx q L tb) (hq : q = p + 2) : ev_Z X l ms x tx p (18 :: y :: L) ((p, f) :: tb) := zz_i2 (fun h h1 => lx_in h rfl (show Jvm.ClassFile.Reader.runAt ((Jvm.ClassFile.Reader.u1 : Jvm.ClassFile.Decoder Nat) >>= fun a => (pure (Jvm.ClassFile.Instr.ldc a) : Jvm.ClassFile.Decoder Jvm.ClassFile.Instr)) x.2.1 (p + 1) = _ from (lx_b (lx_u1 h1) _).trans rfl)) s t hq
theorem zz_19 {y z : Nat} (n : Nat) (e : y * 256 + z = n) (s : decode x.2.1 p = .ok (.ldc_w n, 3) → ev_Snd X l ms x tx p f) (t : ev_Z X l ms x tx q L tb) (hq : q = p + 3) : ev_Z X l ms x tx p (19 :: y :: z :: L) ((p, f) :: tb) := zz_i3 (fun h h1 h2 => lx_in h rfl (show Jvm.ClassFile.Reader.runAt ((Jvm.ClassFile.Reader.u2 : Jvm.ClassFile.Decoder Nat) >>= fun a => (pure (Jvm.ClassFile.Instr.ldc_w a) : Jvm.ClassFile.Decoder Jvm.ClassFile.Instr)) x.2.1 (p + 1) = _ from (lx_b (e ▸ lx_u2 h1 h2) _).trans rfl)) s t hq
theorem zz_20 {y z : Nat} (n : Nat) (e : y * 256 + z = n) (s : decode x.2.1 p = .ok (.ldc2_w n, 3) → ev_Snd X l ms x tx p f) (t : ev_Z X l ms x tx q L tb) (hq : q = p + 3) : ev_Z X l ms x tx p (20 :: y :: z :: L) ((p, f) :: tb) := zz_i3 (fun h h1 h2 => lx_in h rfl (show Jvm.ClassFile.Reader.runAt ((Jvm.ClassFile.Reader.u2 : Jvm.ClassFile.Decoder Nat) >>= fun a => (pure (Jvm.ClassFile.Instr.ldc2_w a) : Jvm.ClassFile.Decoder Jvm.ClassFile.Instr)) x.2.1 (p + 1) = _ from (lx_b (e ▸ lx_u2 h1 h2) _).trans rfl)) s t hq
theorem zz_21 {y : Nat} (s : decode x.2.1 p = .ok (.iload y, 2) → ev_Snd X l ms x tx p f) (t : ev_Z X l ms x tx q L tb) (hq : q = p + 2) : ev_Z X l ms x tx p (21 :: y :: L) ((p, f) :: tb) := zz_i2 (fun h h1 => lx_in h rfl (show Jvm.ClassFile.Reader.runAt ((Jvm.ClassFile.Reader.u1 : Jvm.ClassFile.Decoder Nat) >>= fun a => (pure (Jvm.ClassFile.Instr.iload a) : Jvm.ClassFile.Decoder Jvm.ClassFile.Instr)) x.2.1 (p + 1) = _ from (lx_b (lx_u1 h1) _).trans rfl)) s t hq
theorem zz_22 {y : Nat} (s : decode x.2.1 p = .ok (.lload y, 2) → ev_Snd X l ms x tx p f) (t : ev_Z X l ms x tx q L tb) (hq : q = p + 2) : ev_Z X l ms x tx p (22 :: y :: L) ((p, f) :: tb) := zz_i2 (fun h h1 => lx_in h rfl (show Jvm.ClassFile.Reader.runAt ((Jvm.ClassFile.Reader.u1 : Jvm.ClassFile.Decoder Nat) >>= fun a => (pure (Jvm.ClassFile.Instr.lload a) : Jvm.ClassFile.Decoder Jvm.ClassFile.Instr)) x.2.1 (p + 1) = _ from (lx_b (lx_u1 h1) _).trans rfl)) s t hq
theorem zz_25 {y : Nat} (s : decode x.2.1 p = .ok (.aload y, 2) → ev_Snd X l ms x tx p f) (t : ev_Z X l ms x tx q L tb) (hq : q = p + 2) : ev_Z X l ms x tx p (25 :: y :: L) ((p, f) :: tb) := zz_i2 (fun h h1 => lx_in h rfl (show Jvm.ClassFile.Reader.runAt ((Jvm.ClassFile.Reader.u1 : Jvm.ClassFile.Decoder Nat) >>= fun a => (pure (Jvm.ClassFile.Instr.aload a) : Jvm.ClassFile.Decoder Jvm.ClassFile.Instr)) x.2.1 (p + 1) = _ from (lx_b (lx_u1 h1) _).trans rfl)) s t hq
theorem zz_26 (s : decode x.2.1 p = .ok (.iload_n 0, 1) → ev_Snd X l ms x tx p f) (t : ev_Z X l ms x tx q L tb) (hq : q = p + 1) : ev_Z X l ms x tx p (26 :: L) ((p, f) :: tb) := zz_i1 (fun h => lx_in h rfl rfl) s t hq
theorem zz_27 (s : decode x.2.1 p = .ok (.iload_n 1, 1) → ev_Snd X l ms x tx p f) (t : ev_Z X l ms x tx q L tb) (hq : q = p + 1) : ev_Z X l ms x tx p (27 :: L) ((p, f) :: tb) := zz_i1 (fun h => lx_in h rfl rfl) s t hq
theorem zz_28 (s : decode x.2.1 p = .ok (.iload_n 2, 1) → ev_Snd X l ms x tx p f) (t : ev_Z X l ms x tx q L tb) (hq : q = p + 1) : ev_Z X l ms x tx p (28 :: L) ((p, f) :: tb) := zz_i1 (fun h => lx_in h rfl rfl) s t hq
theorem zz_29 (s : decode x.2.1 p = .ok (.iload_n 3, 1) → ev_Snd X l ms x tx p f) (t : ev_Z X l ms x tx q L tb) (hq : q = p + 1) : ev_Z X l ms x tx p (29 :: L) ((p, f) :: tb) := zz_i1 (fun h => lx_in h rfl rfl) s t hq
theorem zz_30 (s : decode x.2.1 p = .ok (.lload_n 0, 1) → ev_Snd X l ms x tx p f) (t : ev_Z X l ms x tx q L tb) (hq : q = p + 1) : ev_Z X l ms x tx p (30 :: L) ((p, f) :: tb) := zz_i1 (fun h => lx_in h rfl rfl) s t hq
theorem zz_31 (s : decode x.2.1 p = .ok (.lload_n 1, 1) → ev_Snd X l ms x tx p f) (t : ev_Z X l ms x tx q L tb) (hq : q = p + 1) : ev_Z X l ms x tx p (31 :: L) ((p, f) :: tb) := zz_i1 (fun h => lx_in h rfl rfl) s t hq
theorem zz_33 (s : decode x.2.1 p = .ok (.lload_n 3, 1) → ev_Snd X l ms x tx p f) (t : ev_Z X l ms x tx q L tb) (hq : q = p + 1) : ev_Z X l ms x tx p (33 :: L) ((p, f) :: tb) := zz_i1 (fun h => lx_in h rfl rfl) s t hq
theorem zz_42 (s : decode x.2.1 p = .ok (.aload_n 0, 1) → ev_Snd X l ms x tx p f) (t : ev_Z X l ms x tx q L tb) (hq : q = p + 1) : ev_Z X l ms x tx p (42 :: L) ((p, f) :: tb) := zz_i1 (fun h => lx_in h rfl rfl) s t hq
theorem zz_43 (s : decode x.2.1 p = .ok (.aload_n 1, 1) → ev_Snd X l ms x tx p f) (t : ev_Z X l ms x tx q L tb) (hq : q = p + 1) : ev_Z X l ms x tx p (43 :: L) ((p, f) :: tb) := zz_i1 (fun h => lx_in h rfl rfl) s t hq
theorem zz_44 (s : decode x.2.1 p = .ok (.aload_n 2, 1) → ev_Snd X l ms x tx p f) (t : ev_Z X l ms x tx q L tb) (hq : q = p + 1) : ev_Z X l ms x tx p (44 :: L) ((p, f) :: tb) := zz_i1 (fun h => lx_in h rfl rfl) s t hq
theorem zz_45 (s : decode x.2.1 p = .ok (.aload_n 3, 1) → ev_Snd X l ms x tx p f) (t : ev_Z X l ms x tx q L tb) (hq : q = p + 1) : ev_Z X l ms x tx p (45 :: L) ((p, f) :: tb) := zz_i1 (fun h => lx_in h rfl rfl) s t hq
theorem zz_46 (s : decode x.2.1 p = .ok (.iaload, 1) → ev_Snd X l ms x tx p f) (t : ev_Z X l ms x tx q L tb) (hq : q = p + 1) : ev_Z X l ms x tx p (46 :: L) ((p, f) :: tb) := zz_i1 (fun h => lx_in h rfl rfl) s t hq
theorem zz_50 (s : decode x.2.1 p = .ok (.aaload, 1) → ev_Snd X l ms x tx p f) (t : ev_Z X l ms x tx q L tb) (hq : q = p + 1) : ev_Z X l ms x tx p (50 :: L) ((p, f) :: tb) := zz_i1 (fun h => lx_in h rfl rfl) s t hq
theorem zz_51 (s : decode x.2.1 p = .ok (.baload, 1) → ev_Snd X l ms x tx p f) (t : ev_Z X l ms x tx q L tb) (hq : q = p + 1) : ev_Z X l ms x tx p (51 :: L) ((p, f) :: tb) := zz_i1 (fun h => lx_in h rfl rfl) s t hq
theorem zz_54 {y : Nat} (s : decode x.2.1 p = .ok (.istore y, 2) → ev_Snd X l ms x tx p f) (t : ev_Z X l ms x tx q L tb) (hq : q = p + 2) : ev_Z X l ms x tx p (54 :: y :: L) ((p, f) :: tb) := zz_i2 (fun h h1 => lx_in h rfl (show Jvm.ClassFile.Reader.runAt ((Jvm.ClassFile.Reader.u1 : Jvm.ClassFile.Decoder Nat) >>= fun a => (pure (Jvm.ClassFile.Instr.istore a) : Jvm.ClassFile.Decoder Jvm.ClassFile.Instr)) x.2.1 (p + 1) = _ from (lx_b (lx_u1 h1) _).trans rfl)) s t hq
theorem zz_55 {y : Nat} (s : decode x.2.1 p = .ok (.lstore y, 2) → ev_Snd X l ms x tx p f) (t : ev_Z X l ms x tx q L tb) (hq : q = p + 2) : ev_Z X l ms x tx p (55 :: y :: L) ((p, f) :: tb) := zz_i2 (fun h h1 => lx_in h rfl (show Jvm.ClassFile.Reader.runAt ((Jvm.ClassFile.Reader.u1 : Jvm.ClassFile.Decoder Nat) >>= fun a => (pure (Jvm.ClassFile.Instr.lstore a) : Jvm.ClassFile.Decoder Jvm.ClassFile.Instr)) x.2.1 (p + 1) = _ from (lx_b (lx_u1 h1) _).trans rfl)) s t hq
theorem zz_58 {y : Nat} (s : decode x.2.1 p = .ok (.astore y, 2) → ev_Snd X l ms x tx p f) (t : ev_Z X l ms x tx q L tb) (hq : q = p + 2) : ev_Z X l ms x tx p (58 :: y :: L) ((p, f) :: tb) := zz_i2 (fun h h1 => lx_in h rfl (show Jvm.ClassFile.Reader.runAt ((Jvm.ClassFile.Reader.u1 : Jvm.ClassFile.Decoder Nat) >>= fun a => (pure (Jvm.ClassFile.Instr.astore a) : Jvm.ClassFile.Decoder Jvm.ClassFile.Instr)) x.2.1 (p + 1) = _ from (lx_b (lx_u1 h1) _).trans rfl)) s t hq
theorem zz_59 (s : decode x.2.1 p = .ok (.istore_n 0, 1) → ev_Snd X l ms x tx p f) (t : ev_Z X l ms x tx q L tb) (hq : q = p + 1) : ev_Z X l ms x tx p (59 :: L) ((p, f) :: tb) := zz_i1 (fun h => lx_in h rfl rfl) s t hq
theorem zz_60 (s : decode x.2.1 p = .ok (.istore_n 1, 1) → ev_Snd X l ms x tx p f) (t : ev_Z X l ms x tx q L tb) (hq : q = p + 1) : ev_Z X l ms x tx p (60 :: L) ((p, f) :: tb) := zz_i1 (fun h => lx_in h rfl rfl) s t hq
theorem zz_61 (s : decode x.2.1 p = .ok (.istore_n 2, 1) → ev_Snd X l ms x tx p f) (t : ev_Z X l ms x tx q L tb) (hq : q = p + 1) : ev_Z X l ms x tx p (61 :: L) ((p, f) :: tb) := zz_i1 (fun h => lx_in h rfl rfl) s t hq
theorem zz_62 (s : decode x.2.1 p = .ok (.istore_n 3, 1) → ev_Snd X l ms x tx p f) (t : ev_Z X l ms x tx q L tb) (hq : q = p + 1) : ev_Z X l ms x tx p (62 :: L) ((p, f) :: tb) := zz_i1 (fun h => lx_in h rfl rfl) s t hq
theorem zz_64 (s : decode x.2.1 p = .ok (.lstore_n 1, 1) → ev_Snd X l ms x tx p f) (t : ev_Z X l ms x tx q L tb) (hq : q = p + 1) : ev_Z X l ms x tx p (64 :: L) ((p, f) :: tb) := zz_i1 (fun h => lx_in h rfl rfl) s t hq
theorem zz_66 (s : decode x.2.1 p = .ok (.lstore_n 3, 1) → ev_Snd X l ms x tx p f) (t : ev_Z X l ms x tx q L tb) (hq : q = p + 1) : ev_Z X l ms x tx p (66 :: L) ((p, f) :: tb) := zz_i1 (fun h => lx_in h rfl rfl) s t hq
theorem zz_76 (s : decode x.2.1 p = .ok (.astore_n 1, 1) → ev_Snd X l ms x tx p f) (t : ev_Z X l ms x tx q L tb) (hq : q = p + 1) : ev_Z X l ms x tx p (76 :: L) ((p, f) :: tb) := zz_i1 (fun h => lx_in h rfl rfl) s t hq
theorem zz_77 (s : decode x.2.1 p = .ok (.astore_n 2, 1) → ev_Snd X l ms x tx p f) (t : ev_Z X l ms x tx q L tb) (hq : q = p + 1) : ev_Z X l ms x tx p (77 :: L) ((p, f) :: tb) := zz_i1 (fun h => lx_in h rfl rfl) s t hq
theorem zz_78 (s : decode x.2.1 p = .ok (.astore_n 3, 1) → ev_Snd X l ms x tx p f) (t : ev_Z X l ms x tx q L tb) (hq : q = p + 1) : ev_Z X l ms x tx p (78 :: L) ((p, f) :: tb) := zz_i1 (fun h => lx_in h rfl rfl) s t hq
theorem zz_79 (s : decode x.2.1 p = .ok (.iastore, 1) → ev_Snd X l ms x tx p f) (t : ev_Z X l ms x tx q L tb) (hq : q = p + 1) : ev_Z X l ms x tx p (79 :: L) ((p, f) :: tb) := zz_i1 (fun h => lx_in h rfl rfl) s t hq
theorem zz_83 (s : decode x.2.1 p = .ok (.aastore, 1) → ev_Snd X l ms x tx p f) (t : ev_Z X l ms x tx q L tb) (hq : q = p + 1) : ev_Z X l ms x tx p (83 :: L) ((p, f) :: tb) := zz_i1 (fun h => lx_in h rfl rfl) s t hq
theorem zz_84 (s : decode x.2.1 p = .ok (.bastore, 1) → ev_Snd X l ms x tx p f) (t : ev_Z X l ms x tx q L tb) (hq : q = p + 1) : ev_Z X l ms x tx p (84 :: L) ((p, f) :: tb) := zz_i1 (fun h => lx_in h rfl rfl) s t hq
theorem zz_87 (s : decode x.2.1 p = .ok (.pop, 1) → ev_Snd X l ms x tx p f) (t : ev_Z X l ms x tx q L tb) (hq : q = p + 1) : ev_Z X l ms x tx p (87 :: L) ((p, f) :: tb) := zz_i1 (fun h => lx_in h rfl rfl) s t hq
theorem zz_88 (s : decode x.2.1 p = .ok (.pop2, 1) → ev_Snd X l ms x tx p f) (t : ev_Z X l ms x tx q L tb) (hq : q = p + 1) : ev_Z X l ms x tx p (88 :: L) ((p, f) :: tb) := zz_i1 (fun h => lx_in h rfl rfl) s t hq
theorem zz_89 (s : decode x.2.1 p = .ok (.dup, 1) → ev_Snd X l ms x tx p f) (t : ev_Z X l ms x tx q L tb) (hq : q = p + 1) : ev_Z X l ms x tx p (89 :: L) ((p, f) :: tb) := zz_i1 (fun h => lx_in h rfl rfl) s t hq
theorem zz_90 (s : decode x.2.1 p = .ok (.dup_x1, 1) → ev_Snd X l ms x tx p f) (t : ev_Z X l ms x tx q L tb) (hq : q = p + 1) : ev_Z X l ms x tx p (90 :: L) ((p, f) :: tb) := zz_i1 (fun h => lx_in h rfl rfl) s t hq
theorem zz_92 (s : decode x.2.1 p = .ok (.dup2, 1) → ev_Snd X l ms x tx p f) (t : ev_Z X l ms x tx q L tb) (hq : q = p + 1) : ev_Z X l ms x tx p (92 :: L) ((p, f) :: tb) := zz_i1 (fun h => lx_in h rfl rfl) s t hq
theorem zz_96 (s : decode x.2.1 p = .ok (.iadd, 1) → ev_Snd X l ms x tx p f) (t : ev_Z X l ms x tx q L tb) (hq : q = p + 1) : ev_Z X l ms x tx p (96 :: L) ((p, f) :: tb) := zz_i1 (fun h => lx_in h rfl rfl) s t hq
theorem zz_97 (s : decode x.2.1 p = .ok (.ladd, 1) → ev_Snd X l ms x tx p f) (t : ev_Z X l ms x tx q L tb) (hq : q = p + 1) : ev_Z X l ms x tx p (97 :: L) ((p, f) :: tb) := zz_i1 (fun h => lx_in h rfl rfl) s t hq
theorem zz_100 (s : decode x.2.1 p = .ok (.isub, 1) → ev_Snd X l ms x tx p f) (t : ev_Z X l ms x tx q L tb) (hq : q = p + 1) : ev_Z X l ms x tx p (100 :: L) ((p, f) :: tb) := zz_i1 (fun h => lx_in h rfl rfl) s t hq
theorem zz_104 (s : decode x.2.1 p = .ok (.imul, 1) → ev_Snd X l ms x tx p f) (t : ev_Z X l ms x tx q L tb) (hq : q = p + 1) : ev_Z X l ms x tx p (104 :: L) ((p, f) :: tb) := zz_i1 (fun h => lx_in h rfl rfl) s t hq
theorem zz_105 (s : decode x.2.1 p = .ok (.lmul, 1) → ev_Snd X l ms x tx p f) (t : ev_Z X l ms x tx q L tb) (hq : q = p + 1) : ev_Z X l ms x tx p (105 :: L) ((p, f) :: tb) := zz_i1 (fun h => lx_in h rfl rfl) s t hq
theorem zz_108 (s : decode x.2.1 p = .ok (.idiv, 1) → ev_Snd X l ms x tx p f) (t : ev_Z X l ms x tx q L tb) (hq : q = p + 1) : ev_Z X l ms x tx p (108 :: L) ((p, f) :: tb) := zz_i1 (fun h => lx_in h rfl rfl) s t hq
theorem zz_112 (s : decode x.2.1 p = .ok (.irem, 1) → ev_Snd X l ms x tx p f) (t : ev_Z X l ms x tx q L tb) (hq : q = p + 1) : ev_Z X l ms x tx p (112 :: L) ((p, f) :: tb) := zz_i1 (fun h => lx_in h rfl rfl) s t hq
theorem zz_116 (s : decode x.2.1 p = .ok (.ineg, 1) → ev_Snd X l ms x tx p f) (t : ev_Z X l ms x tx q L tb) (hq : q = p + 1) : ev_Z X l ms x tx p (116 :: L) ((p, f) :: tb) := zz_i1 (fun h => lx_in h rfl rfl) s t hq
theorem zz_120 (s : decode x.2.1 p = .ok (.ishl, 1) → ev_Snd X l ms x tx p f) (t : ev_Z X l ms x tx q L tb) (hq : q = p + 1) : ev_Z X l ms x tx p (120 :: L) ((p, f) :: tb) := zz_i1 (fun h => lx_in h rfl rfl) s t hq
theorem zz_122 (s : decode x.2.1 p = .ok (.ishr, 1) → ev_Snd X l ms x tx p f) (t : ev_Z X l ms x tx q L tb) (hq : q = p + 1) : ev_Z X l ms x tx p (122 :: L) ((p, f) :: tb) := zz_i1 (fun h => lx_in h rfl rfl) s t hq
theorem zz_124 (s : decode x.2.1 p = .ok (.iushr, 1) → ev_Snd X l ms x tx p f) (t : ev_Z X l ms x tx q L tb) (hq : q = p + 1) : ev_Z X l ms x tx p (124 :: L) ((p, f) :: tb) := zz_i1 (fun h => lx_in h rfl rfl) s t hq
theorem zz_126 (s : decode x.2.1 p = .ok (.iand, 1) → ev_Snd X l ms x tx p f) (t : ev_Z X l ms x tx q L tb) (hq : q = p + 1) : ev_Z X l ms x tx p (126 :: L) ((p, f) :: tb) := zz_i1 (fun h => lx_in h rfl rfl) s t hq
theorem zz_128 (s : decode x.2.1 p = .ok (.ior, 1) → ev_Snd X l ms x tx p f) (t : ev_Z X l ms x tx q L tb) (hq : q = p + 1) : ev_Z X l ms x tx p (128 :: L) ((p, f) :: tb) := zz_i1 (fun h => lx_in h rfl rfl) s t hq
theorem zz_132 {y z : Nat} (o : Int) (e : Jvm.ClassFile.Reader.signed 8 z = o) (s : decode x.2.1 p = .ok (.iinc y o, 3) → ev_Snd X l ms x tx p f) (t : ev_Z X l ms x tx q L tb) (hq : q = p + 3) : ev_Z X l ms x tx p (132 :: y :: z :: L) ((p, f) :: tb) := zz_i3 (fun h h1 h2 => lx_in h rfl (show Jvm.ClassFile.Reader.runAt ((Jvm.ClassFile.Reader.u1 : Jvm.ClassFile.Decoder Nat) >>= fun a => (Jvm.ClassFile.Reader.s1 : Jvm.ClassFile.Decoder Int) >>= fun c => (pure (Jvm.ClassFile.Instr.iinc a c) : Jvm.ClassFile.Decoder Jvm.ClassFile.Instr)) x.2.1 (p + 1) = _ from (lx_b (lx_u1 h1) _).trans ((lx_b (lx_s1 h2 e) _).trans rfl))) s t hq
theorem zz_133 (s : decode x.2.1 p = .ok (.i2l, 1) → ev_Snd X l ms x tx p f) (t : ev_Z X l ms x tx q L tb) (hq : q = p + 1) : ev_Z X l ms x tx p (133 :: L) ((p, f) :: tb) := zz_i1 (fun h => lx_in h rfl rfl) s t hq
theorem zz_145 (s : decode x.2.1 p = .ok (.i2b, 1) → ev_Snd X l ms x tx p f) (t : ev_Z X l ms x tx q L tb) (hq : q = p + 1) : ev_Z X l ms x tx p (145 :: L) ((p, f) :: tb) := zz_i1 (fun h => lx_in h rfl rfl) s t hq
theorem zz_146 (s : decode x.2.1 p = .ok (.i2c, 1) → ev_Snd X l ms x tx p f) (t : ev_Z X l ms x tx q L tb) (hq : q = p + 1) : ev_Z X l ms x tx p (146 :: L) ((p, f) :: tb) := zz_i1 (fun h => lx_in h rfl rfl) s t hq
theorem zz_153 {y z : Nat} (o : Int) (e : Jvm.ClassFile.Reader.signed 16 (y * 256 + z) = o) (s : decode x.2.1 p = .ok (.ifCond .eq o, 3) → ev_Snd X l ms x tx p f) (t : ev_Z X l ms x tx q L tb) (hq : q = p + 3) : ev_Z X l ms x tx p (153 :: y :: z :: L) ((p, f) :: tb) := zz_i3 (fun h h1 h2 => lx_in h rfl (show Jvm.ClassFile.Reader.runAt ((Jvm.ClassFile.Reader.s2 : Jvm.ClassFile.Decoder Int) >>= fun a => (pure (.ifCond .eq a) : Jvm.ClassFile.Decoder Jvm.ClassFile.Instr)) x.2.1 (p + 1) = _ from (lx_b (lx_s2 h1 h2 e) _).trans rfl)) s t hq
theorem zz_154 {y z : Nat} (o : Int) (e : Jvm.ClassFile.Reader.signed 16 (y * 256 + z) = o) (s : decode x.2.1 p = .ok (.ifCond .ne o, 3) → ev_Snd X l ms x tx p f) (t : ev_Z X l ms x tx q L tb) (hq : q = p + 3) : ev_Z X l ms x tx p (154 :: y :: z :: L) ((p, f) :: tb) := zz_i3 (fun h h1 h2 => lx_in h rfl (show Jvm.ClassFile.Reader.runAt ((Jvm.ClassFile.Reader.s2 : Jvm.ClassFile.Decoder Int) >>= fun a => (pure (.ifCond .ne a) : Jvm.ClassFile.Decoder Jvm.ClassFile.Instr)) x.2.1 (p + 1) = _ from (lx_b (lx_s2 h1 h2 e) _).trans rfl)) s t hq
theorem zz_155 {y z : Nat} (o : Int) (e : Jvm.ClassFile.Reader.signed 16 (y * 256 + z) = o) (s : decode x.2.1 p = .ok (.ifCond .lt o, 3) → ev_Snd X l ms x tx p f) (t : ev_Z X l ms x tx q L tb) (hq : q = p + 3) : ev_Z X l ms x tx p (155 :: y :: z :: L) ((p, f) :: tb) := zz_i3 (fun h h1 h2 => lx_in h rfl (show Jvm.ClassFile.Reader.runAt ((Jvm.ClassFile.Reader.s2 : Jvm.ClassFile.Decoder Int) >>= fun a => (pure (.ifCond .lt a) : Jvm.ClassFile.Decoder Jvm.ClassFile.Instr)) x.2.1 (p + 1) = _ from (lx_b (lx_s2 h1 h2 e) _).trans rfl)) s t hq
theorem zz_156 {y z : Nat} (o : Int) (e : Jvm.ClassFile.Reader.signed 16 (y * 256 + z) = o) (s : decode x.2.1 p = .ok (.ifCond .ge o, 3) → ev_Snd X l ms x tx p f) (t : ev_Z X l ms x tx q L tb) (hq : q = p + 3) : ev_Z X l ms x tx p (156 :: y :: z :: L) ((p, f) :: tb) := zz_i3 (fun h h1 h2 => lx_in h rfl (show Jvm.ClassFile.Reader.runAt ((Jvm.ClassFile.Reader.s2 : Jvm.ClassFile.Decoder Int) >>= fun a => (pure (.ifCond .ge a) : Jvm.ClassFile.Decoder Jvm.ClassFile.Instr)) x.2.1 (p + 1) = _ from (lx_b (lx_s2 h1 h2 e) _).trans rfl)) s t hq
theorem zz_157 {y z : Nat} (o : Int) (e : Jvm.ClassFile.Reader.signed 16 (y * 256 + z) = o) (s : decode x.2.1 p = .ok (.ifCond .gt o, 3) → ev_Snd X l ms x tx p f) (t : ev_Z X l ms x tx q L tb) (hq : q = p + 3) : ev_Z X l ms x tx p (157 :: y :: z :: L) ((p, f) :: tb) := zz_i3 (fun h h1 h2 => lx_in h rfl (show Jvm.ClassFile.Reader.runAt ((Jvm.ClassFile.Reader.s2 : Jvm.ClassFile.Decoder Int) >>= fun a => (pure (.ifCond .gt a) : Jvm.ClassFile.Decoder Jvm.ClassFile.Instr)) x.2.1 (p + 1) = _ from (lx_b (lx_s2 h1 h2 e) _).trans rfl)) s t hq
theorem zz_158 {y z : Nat} (o : Int) (e : Jvm.ClassFile.Reader.signed 16 (y * 256 + z) = o) (s : decode x.2.1 p = .ok (.ifCond .le o, 3) → ev_Snd X l ms x tx p f) (t : ev_Z X l ms x tx q L tb) (hq : q = p + 3) : ev_Z X l ms x tx p (158 :: y :: z :: L) ((p, f) :: tb) := zz_i3 (fun h h1 h2 => lx_in h rfl (show Jvm.ClassFile.Reader.runAt ((Jvm.ClassFile.Reader.s2 : Jvm.ClassFile.Decoder Int) >>= fun a => (pure (.ifCond .le a) : Jvm.ClassFile.Decoder Jvm.ClassFile.Instr)) x.2.1 (p + 1) = _ from (lx_b (lx_s2 h1 h2 e) _).trans rfl)) s t hq
theorem zz_159 {y z : Nat} (o : Int) (e : Jvm.ClassFile.Reader.signed 16 (y * 256 + z) = o) (s : decode x.2.1 p = .ok (.if_icmp .eq o, 3) → ev_Snd X l ms x tx p f) (t : ev_Z X l ms x tx q L tb) (hq : q = p + 3) : ev_Z X l ms x tx p (159 :: y :: z :: L) ((p, f) :: tb) := zz_i3 (fun h h1 h2 => lx_in h rfl (show Jvm.ClassFile.Reader.runAt ((Jvm.ClassFile.Reader.s2 : Jvm.ClassFile.Decoder Int) >>= fun a => (pure (.if_icmp .eq a) : Jvm.ClassFile.Decoder Jvm.ClassFile.Instr)) x.2.1 (p + 1) = _ from (lx_b (lx_s2 h1 h2 e) _).trans rfl)) s t hq
theorem zz_160 {y z : Nat} (o : Int) (e : Jvm.ClassFile.Reader.signed 16 (y * 256 + z) = o) (s : decode x.2.1 p = .ok (.if_icmp .ne o, 3) → ev_Snd X l ms x tx p f) (t : ev_Z X l ms x tx q L tb) (hq : q = p + 3) : ev_Z X l ms x tx p (160 :: y :: z :: L) ((p, f) :: tb) := zz_i3 (fun h h1 h2 => lx_in h rfl (show Jvm.ClassFile.Reader.runAt ((Jvm.ClassFile.Reader.s2 : Jvm.ClassFile.Decoder Int) >>= fun a => (pure (.if_icmp .ne a) : Jvm.ClassFile.Decoder Jvm.ClassFile.Instr)) x.2.1 (p + 1) = _ from (lx_b (lx_s2 h1 h2 e) _).trans rfl)) s t hq
theorem zz_161 {y z : Nat} (o : Int) (e : Jvm.ClassFile.Reader.signed 16 (y * 256 + z) = o) (s : decode x.2.1 p = .ok (.if_icmp .lt o, 3) → ev_Snd X l ms x tx p f) (t : ev_Z X l ms x tx q L tb) (hq : q = p + 3) : ev_Z X l ms x tx p (161 :: y :: z :: L) ((p, f) :: tb) := zz_i3 (fun h h1 h2 => lx_in h rfl (show Jvm.ClassFile.Reader.runAt ((Jvm.ClassFile.Reader.s2 : Jvm.ClassFile.Decoder Int) >>= fun a => (pure (.if_icmp .lt a) : Jvm.ClassFile.Decoder Jvm.ClassFile.Instr)) x.2.1 (p + 1) = _ from (lx_b (lx_s2 h1 h2 e) _).trans rfl)) s t hq
theorem zz_162 {y z : Nat} (o : Int) (e : Jvm.ClassFile.Reader.signed 16 (y * 256 + z) = o) (s : decode x.2.1 p = .ok (.if_icmp .ge o, 3) → ev_Snd X l ms x tx p f) (t : ev_Z X l ms x tx q L tb) (hq : q = p + 3) : ev_Z X l ms x tx p (162 :: y :: z :: L) ((p, f) :: tb) := zz_i3 (fun h h1 h2 => lx_in h rfl (show Jvm.ClassFile.Reader.runAt ((Jvm.ClassFile.Reader.s2 : Jvm.ClassFile.Decoder Int) >>= fun a => (pure (.if_icmp .ge a) : Jvm.ClassFile.Decoder Jvm.ClassFile.Instr)) x.2.1 (p + 1) = _ from (lx_b (lx_s2 h1 h2 e) _).trans rfl)) s t hq
theorem zz_163 {y z : Nat} (o : Int) (e : Jvm.ClassFile.Reader.signed 16 (y * 256 + z) = o) (s : decode x.2.1 p = .ok (.if_icmp .gt o, 3) → ev_Snd X l ms x tx p f) (t : ev_Z X l ms x tx q L tb) (hq : q = p + 3) : ev_Z X l ms x tx p (163 :: y :: z :: L) ((p, f) :: tb) := zz_i3 (fun h h1 h2 => lx_in h rfl (show Jvm.ClassFile.Reader.runAt ((Jvm.ClassFile.Reader.s2 : Jvm.ClassFile.Decoder Int) >>= fun a => (pure (.if_icmp .gt a) : Jvm.ClassFile.Decoder Jvm.ClassFile.Instr)) x.2.1 (p + 1) = _ from (lx_b (lx_s2 h1 h2 e) _).trans rfl)) s t hq
theorem zz_164 {y z : Nat} (o : Int) (e : Jvm.ClassFile.Reader.signed 16 (y * 256 + z) = o) (s : decode x.2.1 p = .ok (.if_icmp .le o, 3) → ev_Snd X l ms x tx p f) (t : ev_Z X l ms x tx q L tb) (hq : q = p + 3) : ev_Z X l ms x tx p (164 :: y :: z :: L) ((p, f) :: tb) := zz_i3 (fun h h1 h2 => lx_in h rfl (show Jvm.ClassFile.Reader.runAt ((Jvm.ClassFile.Reader.s2 : Jvm.ClassFile.Decoder Int) >>= fun a => (pure (.if_icmp .le a) : Jvm.ClassFile.Decoder Jvm.ClassFile.Instr)) x.2.1 (p + 1) = _ from (lx_b (lx_s2 h1 h2 e) _).trans rfl)) s t hq
theorem zz_165 {y z : Nat} (o : Int) (e : Jvm.ClassFile.Reader.signed 16 (y * 256 + z) = o) (s : decode x.2.1 p = .ok (.if_acmp .eq o, 3) → ev_Snd X l ms x tx p f) (t : ev_Z X l ms x tx q L tb) (hq : q = p + 3) : ev_Z X l ms x tx p (165 :: y :: z :: L) ((p, f) :: tb) := zz_i3 (fun h h1 h2 => lx_in h rfl (show Jvm.ClassFile.Reader.runAt ((Jvm.ClassFile.Reader.s2 : Jvm.ClassFile.Decoder Int) >>= fun a => (pure (.if_acmp .eq a) : Jvm.ClassFile.Decoder Jvm.ClassFile.Instr)) x.2.1 (p + 1) = _ from (lx_b (lx_s2 h1 h2 e) _).trans rfl)) s t hq
theorem zz_166 {y z : Nat} (o : Int) (e : Jvm.ClassFile.Reader.signed 16 (y * 256 + z) = o) (s : decode x.2.1 p = .ok (.if_acmp .ne o, 3) → ev_Snd X l ms x tx p f) (t : ev_Z X l ms x tx q L tb) (hq : q = p + 3) : ev_Z X l ms x tx p (166 :: y :: z :: L) ((p, f) :: tb) := zz_i3 (fun h h1 h2 => lx_in h rfl (show Jvm.ClassFile.Reader.runAt ((Jvm.ClassFile.Reader.s2 : Jvm.ClassFile.Decoder Int) >>= fun a => (pure (.if_acmp .ne a) : Jvm.ClassFile.Decoder Jvm.ClassFile.Instr)) x.2.1 (p + 1) = _ from (lx_b (lx_s2 h1 h2 e) _).trans rfl)) s t hq
theorem zz_167 {y z : Nat} (o : Int) (e : Jvm.ClassFile.Reader.signed 16 (y * 256 + z) = o) (s : decode x.2.1 p = .ok (.goto o, 3) → ev_Snd X l ms x tx p f) (t : ev_Z X l ms x tx q L tb) (hq : q = p + 3) : ev_Z X l ms x tx p (167 :: y :: z :: L) ((p, f) :: tb) := zz_i3 (fun h h1 h2 => lx_in h rfl (show Jvm.ClassFile.Reader.runAt ((Jvm.ClassFile.Reader.s2 : Jvm.ClassFile.Decoder Int) >>= fun a => (pure (.goto a) : Jvm.ClassFile.Decoder Jvm.ClassFile.Instr)) x.2.1 (p + 1) = _ from (lx_b (lx_s2 h1 h2 e) _).trans rfl)) s t hq
theorem zz_172 (s : decode x.2.1 p = .ok (.ireturn, 1) → ev_Snd X l ms x tx p f) (t : ev_Z X l ms x tx q L tb) (hq : q = p + 1) : ev_Z X l ms x tx p (172 :: L) ((p, f) :: tb) := zz_i1 (fun h => lx_in h rfl rfl) s t hq
theorem zz_173 (s : decode x.2.1 p = .ok (.lreturn, 1) → ev_Snd X l ms x tx p f) (t : ev_Z X l ms x tx q L tb) (hq : q = p + 1) : ev_Z X l ms x tx p (173 :: L) ((p, f) :: tb) := zz_i1 (fun h => lx_in h rfl rfl) s t hq
theorem zz_176 (s : decode x.2.1 p = .ok (.areturn, 1) → ev_Snd X l ms x tx p f) (t : ev_Z X l ms x tx q L tb) (hq : q = p + 1) : ev_Z X l ms x tx p (176 :: L) ((p, f) :: tb) := zz_i1 (fun h => lx_in h rfl rfl) s t hq
theorem zz_177 (s : decode x.2.1 p = .ok (.return_, 1) → ev_Snd X l ms x tx p f) (t : ev_Z X l ms x tx q L tb) (hq : q = p + 1) : ev_Z X l ms x tx p (177 :: L) ((p, f) :: tb) := zz_i1 (fun h => lx_in h rfl rfl) s t hq
theorem zz_178 {y z : Nat} (n : Nat) (e : y * 256 + z = n) (s : decode x.2.1 p = .ok (.getstatic n, 3) → ev_Snd X l ms x tx p f) (t : ev_Z X l ms x tx q L tb) (hq : q = p + 3) : ev_Z X l ms x tx p (178 :: y :: z :: L) ((p, f) :: tb) := zz_i3 (fun h h1 h2 => lx_in h rfl (show Jvm.ClassFile.Reader.runAt ((Jvm.ClassFile.Reader.u2 : Jvm.ClassFile.Decoder Nat) >>= fun a => (pure (Jvm.ClassFile.Instr.getstatic a) : Jvm.ClassFile.Decoder Jvm.ClassFile.Instr)) x.2.1 (p + 1) = _ from (lx_b (e ▸ lx_u2 h1 h2) _).trans rfl)) s t hq
theorem zz_180 {y z : Nat} (n : Nat) (e : y * 256 + z = n) (s : decode x.2.1 p = .ok (.getfield n, 3) → ev_Snd X l ms x tx p f) (t : ev_Z X l ms x tx q L tb) (hq : q = p + 3) : ev_Z X l ms x tx p (180 :: y :: z :: L) ((p, f) :: tb) := zz_i3 (fun h h1 h2 => lx_in h rfl (show Jvm.ClassFile.Reader.runAt ((Jvm.ClassFile.Reader.u2 : Jvm.ClassFile.Decoder Nat) >>= fun a => (pure (Jvm.ClassFile.Instr.getfield a) : Jvm.ClassFile.Decoder Jvm.ClassFile.Instr)) x.2.1 (p + 1) = _ from (lx_b (e ▸ lx_u2 h1 h2) _).trans rfl)) s t hq
theorem zz_181 {y z : Nat} (n : Nat) (e : y * 256 + z = n) (s : decode x.2.1 p = .ok (.putfield n, 3) → ev_Snd X l ms x tx p f) (t : ev_Z X l ms x tx q L tb) (hq : q = p + 3) : ev_Z X l ms x tx p (181 :: y :: z :: L) ((p, f) :: tb) := zz_i3 (fun h h1 h2 => lx_in h rfl (show Jvm.ClassFile.Reader.runAt ((Jvm.ClassFile.Reader.u2 : Jvm.ClassFile.Decoder Nat) >>= fun a => (pure (Jvm.ClassFile.Instr.putfield a) : Jvm.ClassFile.Decoder Jvm.ClassFile.Instr)) x.2.1 (p + 1) = _ from (lx_b (e ▸ lx_u2 h1 h2) _).trans rfl)) s t hq
theorem zz_182 {y z : Nat} (n : Nat) (e : y * 256 + z = n) (s : decode x.2.1 p = .ok (.invokevirtual n, 3) → ev_Snd X l ms x tx p f) (t : ev_Z X l ms x tx q L tb) (hq : q = p + 3) : ev_Z X l ms x tx p (182 :: y :: z :: L) ((p, f) :: tb) := zz_i3 (fun h h1 h2 => lx_in h rfl (show Jvm.ClassFile.Reader.runAt ((Jvm.ClassFile.Reader.u2 : Jvm.ClassFile.Decoder Nat) >>= fun a => (pure (Jvm.ClassFile.Instr.invokevirtual a) : Jvm.ClassFile.Decoder Jvm.ClassFile.Instr)) x.2.1 (p + 1) = _ from (lx_b (e ▸ lx_u2 h1 h2) _).trans rfl)) s t hq
theorem zz_183 {y z : Nat} (n : Nat) (e : y * 256 + z = n) (s : decode x.2.1 p = .ok (.invokespecial n, 3) → ev_Snd X l ms x tx p f) (t : ev_Z X l ms x tx q L tb) (hq : q = p + 3) : ev_Z X l ms x tx p (183 :: y :: z :: L) ((p, f) :: tb) := zz_i3 (fun h h1 h2 => lx_in h rfl (show Jvm.ClassFile.Reader.runAt ((Jvm.ClassFile.Reader.u2 : Jvm.ClassFile.Decoder Nat) >>= fun a => (pure (Jvm.ClassFile.Instr.invokespecial a) : Jvm.ClassFile.Decoder Jvm.ClassFile.Instr)) x.2.1 (p + 1) = _ from (lx_b (e ▸ lx_u2 h1 h2) _).trans rfl)) s t hq
theorem zz_184 {y z : Nat} (n : Nat) (e : y * 256 + z = n) (s : decode x.2.1 p = .ok (.invokestatic n, 3) → ev_Snd X l ms x tx p f) (t : ev_Z X l ms x tx q L tb) (hq : q = p + 3) : ev_Z X l ms x tx p (184 :: y :: z :: L) ((p, f) :: tb) := zz_i3 (fun h h1 h2 => lx_in h rfl (show Jvm.ClassFile.Reader.runAt ((Jvm.ClassFile.Reader.u2 : Jvm.ClassFile.Decoder Nat) >>= fun a => (pure (Jvm.ClassFile.Instr.invokestatic a) : Jvm.ClassFile.Decoder Jvm.ClassFile.Instr)) x.2.1 (p + 1) = _ from (lx_b (e ▸ lx_u2 h1 h2) _).trans rfl)) s t hq
theorem zz_187 {y z : Nat} (n : Nat) (e : y * 256 + z = n) (s : decode x.2.1 p = .ok (.new n, 3) → ev_Snd X l ms x tx p f) (t : ev_Z X l ms x tx q L tb) (hq : q = p + 3) : ev_Z X l ms x tx p (187 :: y :: z :: L) ((p, f) :: tb) := zz_i3 (fun h h1 h2 => lx_in h rfl (show Jvm.ClassFile.Reader.runAt ((Jvm.ClassFile.Reader.u2 : Jvm.ClassFile.Decoder Nat) >>= fun a => (pure (Jvm.ClassFile.Instr.new a) : Jvm.ClassFile.Decoder Jvm.ClassFile.Instr)) x.2.1 (p + 1) = _ from (lx_b (e ▸ lx_u2 h1 h2) _).trans rfl)) s t hq
theorem zz_189 {y z : Nat} (n : Nat) (e : y * 256 + z = n) (s : decode x.2.1 p = .ok (.anewarray n, 3) → ev_Snd X l ms x tx p f) (t : ev_Z X l ms x tx q L tb) (hq : q = p + 3) : ev_Z X l ms x tx p (189 :: y :: z :: L) ((p, f) :: tb) := zz_i3 (fun h h1 h2 => lx_in h rfl (show Jvm.ClassFile.Reader.runAt ((Jvm.ClassFile.Reader.u2 : Jvm.ClassFile.Decoder Nat) >>= fun a => (pure (Jvm.ClassFile.Instr.anewarray a) : Jvm.ClassFile.Decoder Jvm.ClassFile.Instr)) x.2.1 (p + 1) = _ from (lx_b (e ▸ lx_u2 h1 h2) _).trans rfl)) s t hq
theorem zz_190 (s : decode x.2.1 p = .ok (.arraylength, 1) → ev_Snd X l ms x tx p f) (t : ev_Z X l ms x tx q L tb) (hq : q = p + 1) : ev_Z X l ms x tx p (190 :: L) ((p, f) :: tb) := zz_i1 (fun h => lx_in h rfl rfl) s t hq
theorem zz_191 (s : decode x.2.1 p = .ok (.athrow, 1) → ev_Snd X l ms x tx p f) (t : ev_Z X l ms x tx q L tb) (hq : q = p + 1) : ev_Z X l ms x tx p (191 :: L) ((p, f) :: tb) := zz_i1 (fun h => lx_in h rfl rfl) s t hq
theorem zz_192 {y z : Nat} (n : Nat) (e : y * 256 + z = n) (s : decode x.2.1 p = .ok (.checkcast n, 3) → ev_Snd X l ms x tx p f) (t : ev_Z X l ms x tx q L tb) (hq : q = p + 3) : ev_Z X l ms x tx p (192 :: y :: z :: L) ((p, f) :: tb) := zz_i3 (fun h h1 h2 => lx_in h rfl (show Jvm.ClassFile.Reader.runAt ((Jvm.ClassFile.Reader.u2 : Jvm.ClassFile.Decoder Nat) >>= fun a => (pure (Jvm.ClassFile.Instr.checkcast a) : Jvm.ClassFile.Decoder Jvm.ClassFile.Instr)) x.2.1 (p + 1) = _ from (lx_b (e ▸ lx_u2 h1 h2) _).trans rfl)) s t hq
theorem zz_199 {y z : Nat} (o : Int) (e : Jvm.ClassFile.Reader.signed 16 (y * 256 + z) = o) (s : decode x.2.1 p = .ok (.ifnonnull o, 3) → ev_Snd X l ms x tx p f) (t : ev_Z X l ms x tx q L tb) (hq : q = p + 3) : ev_Z X l ms x tx p (199 :: y :: z :: L) ((p, f) :: tb) := zz_i3 (fun h h1 h2 => lx_in h rfl (show Jvm.ClassFile.Reader.runAt ((Jvm.ClassFile.Reader.s2 : Jvm.ClassFile.Decoder Int) >>= fun a => (pure (.ifnonnull a) : Jvm.ClassFile.Decoder Jvm.ClassFile.Instr)) x.2.1 (p + 1) = _ from (lx_b (lx_s2 h1 h2 e) _).trans rfl)) s t hq
end EVZZ
end
