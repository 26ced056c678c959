/-! ===== the start is good ===== -/
def g_1 (j : Nat) : Int32 := Int32.ofNat (48 + j % 10)
def g_2 (j : Nat) : Int32 := Int32.ofNat (48 + j / 10)
theorem dg1_l : ((flatC (Jvm.Cond.and given_1 narrow_1)).drop 12).take 100 = (List.range 100).map (fun j => Cond.eq (.elem (.static "java/lang/Integer" "DigitOnes" "[B") (.int (Int32.ofNat j))) (.int (g_1 j))) := by decide +kernel
theorem dg2_l : ((flatC (Jvm.Cond.and given_1 narrow_1)).drop 115).take 100 = (List.range 100).map (fun j => Cond.eq (.elem (.static "java/lang/Integer" "DigitTens" "[B") (.int (Int32.ofNat j))) (.int (g_2 j))) := by decide +kernel
theorem dg1_in : ∀ j, j < 100 → Cond.eq (.elem (.static "java/lang/Integer" "DigitOnes" "[B") (.int (Int32.ofNat j))) (.int (g_1 j)) ∈ flatC (Jvm.Cond.and given_1 narrow_1) := fun j hj => List.mem_of_mem_drop (i := 12) (List.mem_of_mem_take (i := 100) (by rw [dg1_l]; exact List.mem_map.mpr ⟨j, List.mem_range.mpr hj, rfl⟩))
theorem dg2_in : ∀ j, j < 100 → Cond.eq (.elem (.static "java/lang/Integer" "DigitTens" "[B") (.int (Int32.ofNat j))) (.int (g_2 j)) ∈ flatC (Jvm.Cond.and given_1 narrow_1) := fun j hj => List.mem_of_mem_drop (i := 115) (List.mem_of_mem_take (i := 100) (by rw [dg2_l]; exact List.mem_map.mpr ⟨j, List.mem_range.mpr hj, rfl⟩))
def sm_ok (w : Cond) : Bool := match w with
  | .stringRef own k _ => !(own == "LastaskedModel") || (k == 117 || k == 195)
  | _ => true
theorem sm_all : lw_tbl.all sm_ok = true := by decide +kernel
theorem sm_k {k : Nat} {tx : String} (h : Cond.stringRef "LastaskedModel" k tx ∈ lw_tbl) : k = 117 ∨ k = 195 := by
  have h1 := List.all_eq_true.mp sm_all _ h
  simpa [sm_ok] using h1
theorem vb_c_n {j : Nat} : vb_c (j + 128) = nI j := by
  show nI (j + 128) - 128 = nI j
  rw [← show nI j + 128 = nI (j + 128) from nI_add j 128]
  exact Int32.add_sub_cancel _ _
theorem rd_sr {args : Array Value} {s : State} {own tx : String} {k : Nat} (h : (Cond.stringRef own k tx).before args s = true) : ∃ sa : Nat, vk_R own k tx sa s := by
  cases hc : s.vm.findClass own with
  | none => simp [Cond.before, Cond.holds, Cond.value, hc] at h
  | some cur =>
    obtain ⟨kk, cf, i, a, -, -, -, -, -, e⟩ := Cond.stringRef_spec (args := args) (first := s) (o := none) (s := s) (idx := []) hc h
    exact ⟨a, vk_R.of h e⟩
set_option maxHeartbeats 1000000 in
theorem good_start {s : State} {b L : Nat} {xs : Nat → Int32} (hts : ∀ w ∈ lw_tbl, w.before #[Value.ref b] s = true) (hX : va_X b L xs s s.heap) (hbl : b < s.heap.size) (hgv : (Jvm.Cond.and given_1 narrow_1).before #[Value.ref b] s = true) :
    ∃ (X : ev_E) (zf : Nat → Nat), X.1 = s ∧ ev_Good X ∧ ev_EM X ∧ ev_DG X ∧ ev_KK X ∧ ev_IC X zf ∧ (∀ a, X.1.heap.size ≤ a → X.2.2.2.2.1 a = none) ∧ X.2.2.2.2.2 1 < X.1.heap.size ∧ jA X b L := by
  have hs := flat_of_before _ hgv
  have hA : ∀ a : Nat, a < s.heap.size → ¬ (fun q : Nat => s.heap.size ≤ q) a := fun a h => Nat.not_le.mpr h
  obtain ⟨c0, i0, K0⟩ := u_known (C := RJ0) (T := TJ0) (N := 4) (n := 4) hts (fun w h => (cw_0 w h).1) (hts (.instantiable RJ0 4) (lw_m1 (ev_m64 (ev_m64 (ev_m16 (ev_m4 (ev_m4 (ev_m4 (ev_m1 (ev_m1 ev_mh))))))))))
  obtain ⟨c1, i1, K1⟩ := u_known (C := RJ4) (T := TJ4) (N := 4) (n := 4) hts (fun w h => (cw_1 w h).1) (hts (.instantiable RJ4 4) (lw_m0 (ev_m64 (ev_m64 (ev_m64 (ev_m16 (ev_m16 (ev_m4 (ev_m4 (ev_m1 ev_mh))))))))))
  obtain ⟨c2, i2, K2⟩ := u_known (C := RJ6) (T := TJ6) (N := 1) (n := 1) hts (fun w h => (cw_2 w h).1) (hts (.instantiable RJ6 1) (lw_m6 (ev_m64 (ev_m16 (ev_m16 (ev_m16 (ev_m4 (ev_m4 ev_mh))))))))
  obtain ⟨c3, i3, K3⟩ := u_known (C := RJx35411) (T := TJx35411) (N := 4) (n := 4) hts (fun w h => (cw_3 w h).1) (hts (.instantiable RJx35411 4) (lw_m5 (ev_m64 (ev_m64 (ev_m16 (ev_m16 (ev_m16 (ev_m4 (ev_m4 (ev_m1 (ev_m1 (ev_m1 ev_mh))))))))))))
  obtain ⟨c4, i4, K4⟩ := u_known (C := RJx4a65c) (T := TJx4a65c) (N := 3) (n := 3) hts (fun w h => (cw_4 w h).1) (hts (.instantiable RJx4a65c 3) (lw_m4 (ev_m64 (ev_m64 (ev_m16 (ev_m16 (ev_m16 (ev_m4 (ev_m4 (ev_m1 ev_mh))))))))))
  obtain ⟨c5, i5, K5⟩ := u_known (C := RX0) (T := TX0) (N := 6) (n := 6) hts (fun w h => (cw_5 w h).1) (hts (.instantiable RX0 6) (lw_m0 (ev_m16 (ev_m16 (ev_m4 (ev_m4 (ev_m4 (ev_m1 ev_mh))))))))
  obtain ⟨c6, i6, K6⟩ := u_known (C := RX1) (T := TX1) (N := 3) (n := 3) hts (fun w h => (cw_6 w h).1) (hts (.instantiable RX1 3) (lw_m0 (ev_m64 (ev_m64 (ev_m16 (ev_m4 (ev_m1 ev_mh)))))))
  obtain ⟨c7, i7, K7⟩ := u_known (C := RX2) (T := TX2) (N := 7) (n := 7) hts (fun w h => (cw_7 w h).1) (hts (.instantiable RX2 7) (lw_m0 (ev_m64 (ev_m4 (ev_m4 (ev_m1 (ev_m1 ev_mh)))))))
  obtain ⟨c8, i8, K8⟩ := u_known (C := RX3) (T := TX3) (N := 2) (n := 2) hts (fun w h => (cw_8 w h).1) (hts (.instantiable RX3 2) (lw_m0 (ev_m64 (ev_m16 (ev_m16 (ev_m4 (ev_m4 (ev_m4 (ev_m1 (ev_m1 ev_mh))))))))))
  obtain ⟨c9, i9, K9⟩ := u_known (C := RX4) (T := TX4) (N := 6) (n := 6) hts (fun w h => (cw_9 w h).1) (hts (.instantiable RX4 6) (lw_m0 (ev_m64 (ev_m16 (ev_m16 (ev_m16 (ev_m4 ev_mh)))))))
  obtain ⟨c10, i10, K10⟩ := u_known (C := RX5) (T := TX5) (N := 7) (n := 7) hts (fun w h => (cw_10 w h).1) (hts (.instantiable RX5 7) (lw_m0 (ev_m16 (ev_m16 (ev_m1 (ev_m1 (ev_m1 ev_mh)))))))
  obtain ⟨c11, i11, K11⟩ := u_known (C := RX6) (T := TX6) (N := 2) (n := 2) hts (fun w h => (cw_11 w h).1) (hts (.instantiable RX6 2) (lw_m3 (ev_m16 (ev_m16 (ev_m4 (ev_m1 (ev_m1 ev_mh)))))))
  obtain ⟨c12, i12, K12⟩ := u_known (C := RX7) (T := TX7) (N := 9) (n := 9) hts (fun w h => (cw_12 w h).1) (hts (.instantiable RX7 9) (lw_m4 (ev_m64 (ev_m64 (ev_m16 (ev_m16 (ev_m16 (ev_m1 (ev_m1 (ev_m1 ev_mh))))))))))
  obtain ⟨c13, i13, K13⟩ := u_known (C := RX8) (T := TX8) (N := 5) (n := 5) hts (fun w h => (cw_13 w h).1) (hts (.instantiable RX8 5) (lw_m4 (ev_m64 (ev_m64 (ev_m16 (ev_m16 (ev_m4 (ev_m4 (ev_m4 ev_mh)))))))))
  obtain ⟨dC, dI, hKc, hd0, hd2⟩ : ∃ (dC : Nat → ClassId) (dI : Nat → Nat → Nat), (∀ (k : Nat) (q : vw_C), vwCl[k]? = some q → u_Kn s q.1 q.2.1 q.2.2 (dC k) (dI k)) ∧ (dC 0 = c0 ∧ dI 0 = i0) ∧ (dC 2 = c2 ∧ dI 2 = i2) := by
    refine ⟨fun k => if k = 0 then c0 else if k = 1 then c1 else if k = 2 then c2 else if k = 3 then c3 else if k = 4 then c4 else if k = 5 then c5 else if k = 6 then c6 else if k = 7 then c7 else if k = 8 then c8 else if k = 9 then c9 else if k = 10 then c10 else if k = 11 then c11 else if k = 12 then c12 else c13, fun k => if k = 0 then i0 else if k = 1 then i1 else if k = 2 then i2 else if k = 3 then i3 else if k = 4 then i4 else if k = 5 then i5 else if k = 6 then i6 else if k = 7 then i7 else if k = 8 then i8 else if k = 9 then i9 else if k = 10 then i10 else if k = 11 then i11 else if k = 12 then i12 else i13, ?_, ⟨rfl, rfl⟩, ⟨rfl, rfl⟩⟩
    intro k q hq
    match k, hq with
    | 0, hq => cases hq; exact K0
    | 1, hq => cases hq; exact K1
    | 2, hq => cases hq; exact K2
    | 3, hq => cases hq; exact K3
    | 4, hq => cases hq; exact K4
    | 5, hq => cases hq; exact K5
    | 6, hq => cases hq; exact K6
    | 7, hq => cases hq; exact K7
    | 8, hq => cases hq; exact K8
    | 9, hq => cases hq; exact K9
    | 10, hq => cases hq; exact K10
    | 11, hq => cases hq; exact K11
    | 12, hq => cases hq; exact K12
    | 13, hq => cases hq; exact K13
    | k + 14, hq => simp [vwCl] at hq
  have hK : va_K (dC, dI) vwCl [] s := ⟨hKc, fun k q h => by simp at h⟩
  obtain ⟨A0, ra0, rn0⟩ := rd_ra (hts _ w_120)
  obtain ⟨A1, ra1, rn1⟩ := rd_ra (hts _ w_311)
  obtain ⟨A2, ra2, rn2⟩ := rd_ro (hts _ w_1384)
  obtain ⟨A3, ra3, rn3⟩ := rd_ro (hts _ w_91)
  obtain ⟨A4, ra4, rn4⟩ := rd_ro (hts _ w_157)
  obtain ⟨A5, ra5, rn5⟩ := rd_ro (hts _ w_1186)
  obtain ⟨scr, x1, x2, x3, x4, x5⟩ := hX
  obtain ⟨d1, cd1, d1_e, d1_at, d1_h, d1_of, d1_kn, d1_N⟩ := rd_arr (args := #[Value.ref b]) (s := s) (tm := (.static "java/lang/Integer" "DigitOnes" "[B")) (ty := .byte) (N := 100) (hs _ (by first | exact List.mem_of_getElem? (i := 10) (by decide +kernel) | decide +kernel)) (hs _ (by first | exact List.mem_of_getElem? (i := 11) (by decide +kernel) | decide +kernel)) (by omega)
  obtain ⟨d2, cd2, d2_e, d2_at, d2_h, d2_of, d2_kn, d2_N⟩ := rd_arr (args := #[Value.ref b]) (s := s) (tm := (.static "java/lang/Integer" "DigitTens" "[B")) (ty := .byte) (N := 100) (hs _ (by first | exact List.mem_of_getElem? (i := 113) (by decide +kernel) | decide +kernel)) (hs _ (by first | exact List.mem_of_getElem? (i := 114) (by decide +kernel) | decide +kernel)) (by omega)
  obtain ⟨em, cem, em_e, em_at, em_h, em_of, em_kn, em_N⟩ := rd_arr (args := #[Value.ref b]) (s := s) (tm := (.static "java/util/ArrayList" "DEFAULTCAPACITY_EMPTY_ELEMENTDATA" "[Ljava/lang/Object;")) (ty := .object "java/lang/Object") (N := 0) (hs _ (by first | exact List.mem_of_getElem? (i := 218) (by decide +kernel) | decide +kernel)) (hs _ (by first | exact List.mem_of_getElem? (i := 220) (by decide +kernel) | decide +kernel)) (by omega)
  obtain ⟨ca, cca, ca_e, ca_at, ca_h, ca_of, ca_kn, ca_N⟩ := rd_arr (args := #[Value.ref b]) (s := s) (tm := (.static "java/lang/Integer$IntegerCache" "cache" "[Ljava/lang/Integer;")) (ty := .object "java/lang/Integer") (N := 256) (hs _ (by first | exact List.mem_of_getElem? (i := 223) (by decide +kernel) | decide +kernel)) (hs _ (by first | exact List.mem_of_getElem? (i := 224) (by decide +kernel) | decide +kernel)) (by omega)
  have d1_s : ∀ j, j < 100 → cd1.slots[j]? = some (.int (g_1 j)) := fun j hj => rd_el d1_e d1_at (by omega) (hs _ (dg1_in j hj))
  have d2_s : ∀ j, j < 100 → cd2.slots[j]? = some (.int (g_2 j)) := fun j hj => rd_el d2_e d2_at (by omega) (hs _ (dg2_in j hj))
  obtain ⟨ad, hC, hAd⟩ := vb_Cof (args := #[Value.ref b]) (s := s) (A := fun q => s.heap.size ≤ q) (st := (.static "java/lang/Integer$IntegerCache" "cache" "[Ljava/lang/Integer;")) rfl (va_eqt (hs _ (by first | exact List.mem_of_getElem? (i := 224) (by decide +kernel) | decide +kernel))) (hs _ (by first | exact List.mem_of_getElem? (i := 225) (by decide +kernel) | decide +kernel)) hA
  have ca_s : ∀ j, j < 256 → cca.slots[j]? = some (.ref (ad j)) := fun j hj => rd_elv ca_e ca_at (by omega) (hAd j hj)
  obtain ⟨s1, v1, cs1, cv1, ps1, qs1, s1_e, s1_h, s1_c, s1_st, s1_kn, s1_s, v1_e, v1_at, v1_h, v1_of, v1_kn, v1_N⟩ := rd_str (args := #[Value.ref b]) (s := s) (tm := .string "LastaskedModel" 117) (N := 0) hts (fun w h => (cw_0 w h).1) K0 (hs _ (by first | exact List.mem_of_getElem? (i := 682) (by decide +kernel) | decide +kernel)) (hs _ (by first | exact List.mem_of_getElem? (i := 683) (by decide +kernel) | decide +kernel)) (hs _ (by first | exact List.mem_of_getElem? (i := 684) (by decide +kernel) | decide +kernel)) (hs _ (by first | exact List.mem_of_getElem? (i := 685) (by decide +kernel) | decide +kernel)) (by omega)
  obtain ⟨s2, v2, cs2, cv2, ps2, qs2, s2_e, s2_h, s2_c, s2_st, s2_kn, s2_s, v2_e, v2_at, v2_h, v2_of, v2_kn, v2_N⟩ := rd_str (args := #[Value.ref b]) (s := s) (tm := .string "LastaskedModel" 195) (N := 1) hts (fun w h => (cw_0 w h).1) K0 (hs _ (by first | exact List.mem_of_getElem? (i := 698) (by decide +kernel) | decide +kernel)) (hs _ (by first | exact List.mem_of_getElem? (i := 699) (by decide +kernel) | decide +kernel)) (hs _ (by first | exact List.mem_of_getElem? (i := 700) (by decide +kernel) | decide +kernel)) (hs _ (by first | exact List.mem_of_getElem? (i := 701) (by decide +kernel) | decide +kernel)) (by omega)
  have v2_s : cv2.slots[0]? = some (.int 32) := rd_el (j := 0) v2_e v2_at (by omega) (hs _ (by first | exact List.mem_of_getElem? (i := 702) (by decide +kernel) | decide +kernel))
  -- tags
  have Tb : rd_tag s b = 6 := rd_tag_i x1 x2
  have Td1 : rd_tag s d1 = 7 := by rw [rd_tag_b d1_h d1_of, if_pos d1_N, if_pos (show cd1.slots[10]? = some (.int 48) from d1_s 10 (by omega))]
  have Td2 : rd_tag s d2 = 8 := by rw [rd_tag_b d2_h d2_of, if_pos d2_N, if_neg (by rw [d2_s 10 (by omega)]; decide)]
  have Tem : rd_tag s em = 1000 := by rw [rd_tag_o em_h em_of, em_N]
  have Tca : rd_tag s ca = 1256 := by rw [rd_tag_o ca_h ca_of, ca_N]
  have Tv1 : rd_tag s v1 = 20 := by rw [rd_tag_b v1_h v1_of, v1_N, if_neg (by omega)]
  have Tv2 : rd_tag s v2 = 21 := by rw [rd_tag_b v2_h v2_of, v2_N, if_neg (by omega)]
  obtain ⟨kS, kS1, kS2, kS3, kSo, -, -, kS4⟩ := Cond.instantiable_spec (args := #[Value.ref b]) (first := s) (o := none) (s := s) (idx := []) (hts (.instantiable RJ0 4) (lw_m1 (ev_m64 (ev_m64 (ev_m16 (ev_m4 (ev_m4 (ev_m4 (ev_m1 (ev_m1 ev_mh))))))))))
  obtain ⟨kI, kI1, kI2, kI3, kIo, -, -, kI4⟩ := Cond.instantiable_spec (args := #[Value.ref b]) (first := s) (o := none) (s := s) (idx := []) (hts (.instantiable RJ6 1) (lw_m6 (ev_m64 (ev_m16 (ev_m16 (ev_m16 (ev_m4 (ev_m4 ev_mh))))))))
  cases kS2.symm.trans K0.2.1
  cases kI2.symm.trans K2.2.1
  have Ts1 : rd_tag s s1 = 4 := by rw [rd_tag_c s1_h (by rw [s1_c]; exact kS3) kSo, if_pos kS4]
  have Ts2 : rd_tag s s2 = 4 := by rw [rd_tag_c s2_h (by rw [s2_c]; exact kS3) kSo, if_pos kS4]
  have Tad : ∀ j, j < 256 → rd_tag s (ad j) = 3 := fun j hj => by
    obtain ⟨cell, h1, h2, h3, -⟩ := hC.1 j hj
    have e : cell.cls = c2 := Option.some.inj (h3.symm.trans K2.2.1)
    rw [rd_tag_c h1 (by rw [e]; exact kI3) kIo, if_neg (by rw [kI4]; omega)]
  have hs12 : ¬ s1 = s2 := fun e => by
    subst e
    cases s1_h.symm.trans s2_h
    have e1 := s1_s 0 (by omega)
    have e2 := s2_s 0 (by omega)
    rw [e1] at e2
    have e3 : v1 = v2 := Value.ref.inj (Option.some.inj e2)
    exact rd_tag_ne Tv1 Tv2 (by decide) e3
  have had : ∀ j j', j < 256 → j' < 256 → ad j = ad j' → vb_c j = vb_c j' := fun j j' hj hj' e => by
    obtain ⟨cf, k, i, f, cell, h1, h2, h3, h4, h5, h6⟩ := hC.2 j hj
    obtain ⟨cf', k', i', f', cell', g1, g2, g3, g4, g5, g6⟩ := hC.2 j' hj'
    cases h1.symm.trans g1
    rw [← e] at g3
    cases h3.symm.trans g3
    exact Value.int.inj (Option.some.inj (h5.symm.trans g5))
  obtain ⟨R, hR⟩ : ∃ R : Nat → ev_C → Prop, R = fun a c => (a = b ∧ c = .inl (6, L, fun j => .int (xs j))) ∨ (a = d1 ∧ c = .inl (7, 100, fun i => .int (g_1 i))) ∨ (a = d2 ∧ c = .inl (8, 100, fun i => .int (g_2 i))) ∨ (a = ca ∧ c = .inl (9, 256, fun i => .ref (ad i))) ∨ (a = em ∧ c = .inl (10, 0, fun _ => .null)) ∨ (a = v1 ∧ c = .inl (11, 0, fun _ => .int 32)) ∨ (a = v2 ∧ c = .inl (12, 1, fun _ => .int 32)) ∨ (a = s1 ∧ c = .inr (0, [.ref v1, .int 0, ps1, qs1])) ∨ (a = s2 ∧ c = .inr (0, [.ref v2, .int 0, ps2, qs2])) ∨ (∃ j, j < 256 ∧ a = ad j ∧ c = .inr (2, [.int (vb_c j)])) := ⟨_, rfl⟩
  have hfun : ∀ a c c', R a c → R a c' → c = c' := by
    intro a c c' h h'
    rw [hR] at h h'
    rcases h with ⟨ea, rfl⟩ | ⟨ea, rfl⟩ | ⟨ea, rfl⟩ | ⟨ea, rfl⟩ | ⟨ea, rfl⟩ | ⟨ea, rfl⟩ | ⟨ea, rfl⟩ | ⟨ea, rfl⟩ | ⟨ea, rfl⟩ | ⟨j, hj, ea, rfl⟩
    · rcases h' with ⟨e, rfl⟩ | ⟨e, rfl⟩ | ⟨e, rfl⟩ | ⟨e, rfl⟩ | ⟨e, rfl⟩ | ⟨e, rfl⟩ | ⟨e, rfl⟩ | ⟨e, rfl⟩ | ⟨e, rfl⟩ | ⟨j', hj', e, rfl⟩
      · rfl
      · exact absurd (ea.symm.trans e) (rd_tag_ne Tb Td1 (by decide))
      · exact absurd (ea.symm.trans e) (rd_tag_ne Tb Td2 (by decide))
      · exact absurd (ea.symm.trans e) (rd_tag_ne Tb Tca (by decide))
      · exact absurd (ea.symm.trans e) (rd_tag_ne Tb Tem (by decide))
      · exact absurd (ea.symm.trans e) (rd_tag_ne Tb Tv1 (by decide))
      · exact absurd (ea.symm.trans e) (rd_tag_ne Tb Tv2 (by decide))
      · exact absurd (ea.symm.trans e) (rd_tag_ne Tb Ts1 (by decide))
      · exact absurd (ea.symm.trans e) (rd_tag_ne Tb Ts2 (by decide))
      · exact absurd (ea.symm.trans e) (rd_tag_ne Tb (Tad j' hj') (by decide))
    · rcases h' with ⟨e, rfl⟩ | ⟨e, rfl⟩ | ⟨e, rfl⟩ | ⟨e, rfl⟩ | ⟨e, rfl⟩ | ⟨e, rfl⟩ | ⟨e, rfl⟩ | ⟨e, rfl⟩ | ⟨e, rfl⟩ | ⟨j', hj', e, rfl⟩
      · exact absurd (ea.symm.trans e) (rd_tag_ne Td1 Tb (by decide))
      · rfl
      · exact absurd (ea.symm.trans e) (rd_tag_ne Td1 Td2 (by decide))
      · exact absurd (ea.symm.trans e) (rd_tag_ne Td1 Tca (by decide))
      · exact absurd (ea.symm.trans e) (rd_tag_ne Td1 Tem (by decide))
      · exact absurd (ea.symm.trans e) (rd_tag_ne Td1 Tv1 (by decide))
      · exact absurd (ea.symm.trans e) (rd_tag_ne Td1 Tv2 (by decide))
      · exact absurd (ea.symm.trans e) (rd_tag_ne Td1 Ts1 (by decide))
      · exact absurd (ea.symm.trans e) (rd_tag_ne Td1 Ts2 (by decide))
      · exact absurd (ea.symm.trans e) (rd_tag_ne Td1 (Tad j' hj') (by decide))
    · rcases h' with ⟨e, rfl⟩ | ⟨e, rfl⟩ | ⟨e, rfl⟩ | ⟨e, rfl⟩ | ⟨e, rfl⟩ | ⟨e, rfl⟩ | ⟨e, rfl⟩ | ⟨e, rfl⟩ | ⟨e, rfl⟩ | ⟨j', hj', e, rfl⟩
      · exact absurd (ea.symm.trans e) (rd_tag_ne Td2 Tb (by decide))
      · exact absurd (ea.symm.trans e) (rd_tag_ne Td2 Td1 (by decide))
      · rfl
      · exact absurd (ea.symm.trans e) (rd_tag_ne Td2 Tca (by decide))
      · exact absurd (ea.symm.trans e) (rd_tag_ne Td2 Tem (by decide))
      · exact absurd (ea.symm.trans e) (rd_tag_ne Td2 Tv1 (by decide))
      · exact absurd (ea.symm.trans e) (rd_tag_ne Td2 Tv2 (by decide))
      · exact absurd (ea.symm.trans e) (rd_tag_ne Td2 Ts1 (by decide))
      · exact absurd (ea.symm.trans e) (rd_tag_ne Td2 Ts2 (by decide))
      · exact absurd (ea.symm.trans e) (rd_tag_ne Td2 (Tad j' hj') (by decide))
    · rcases h' with ⟨e, rfl⟩ | ⟨e, rfl⟩ | ⟨e, rfl⟩ | ⟨e, rfl⟩ | ⟨e, rfl⟩ | ⟨e, rfl⟩ | ⟨e, rfl⟩ | ⟨e, rfl⟩ | ⟨e, rfl⟩ | ⟨j', hj', e, rfl⟩
      · exact absurd (ea.symm.trans e) (rd_tag_ne Tca Tb (by decide))
      · exact absurd (ea.symm.trans e) (rd_tag_ne Tca Td1 (by decide))
      · exact absurd (ea.symm.trans e) (rd_tag_ne Tca Td2 (by decide))
      · rfl
      · exact absurd (ea.symm.trans e) (rd_tag_ne Tca Tem (by decide))
      · exact absurd (ea.symm.trans e) (rd_tag_ne Tca Tv1 (by decide))
      · exact absurd (ea.symm.trans e) (rd_tag_ne Tca Tv2 (by decide))
      · exact absurd (ea.symm.trans e) (rd_tag_ne Tca Ts1 (by decide))
      · exact absurd (ea.symm.trans e) (rd_tag_ne Tca Ts2 (by decide))
      · exact absurd (ea.symm.trans e) (rd_tag_ne Tca (Tad j' hj') (by decide))
    · rcases h' with ⟨e, rfl⟩ | ⟨e, rfl⟩ | ⟨e, rfl⟩ | ⟨e, rfl⟩ | ⟨e, rfl⟩ | ⟨e, rfl⟩ | ⟨e, rfl⟩ | ⟨e, rfl⟩ | ⟨e, rfl⟩ | ⟨j', hj', e, rfl⟩
      · exact absurd (ea.symm.trans e) (rd_tag_ne Tem Tb (by decide))
      · exact absurd (ea.symm.trans e) (rd_tag_ne Tem Td1 (by decide))
      · exact absurd (ea.symm.trans e) (rd_tag_ne Tem Td2 (by decide))
      · exact absurd (ea.symm.trans e) (rd_tag_ne Tem Tca (by decide))
      · rfl
      · exact absurd (ea.symm.trans e) (rd_tag_ne Tem Tv1 (by decide))
      · exact absurd (ea.symm.trans e) (rd_tag_ne Tem Tv2 (by decide))
      · exact absurd (ea.symm.trans e) (rd_tag_ne Tem Ts1 (by decide))
      · exact absurd (ea.symm.trans e) (rd_tag_ne Tem Ts2 (by decide))
      · exact absurd (ea.symm.trans e) (rd_tag_ne Tem (Tad j' hj') (by decide))
    · rcases h' with ⟨e, rfl⟩ | ⟨e, rfl⟩ | ⟨e, rfl⟩ | ⟨e, rfl⟩ | ⟨e, rfl⟩ | ⟨e, rfl⟩ | ⟨e, rfl⟩ | ⟨e, rfl⟩ | ⟨e, rfl⟩ | ⟨j', hj', e, rfl⟩
      · exact absurd (ea.symm.trans e) (rd_tag_ne Tv1 Tb (by decide))
      · exact absurd (ea.symm.trans e) (rd_tag_ne Tv1 Td1 (by decide))
      · exact absurd (ea.symm.trans e) (rd_tag_ne Tv1 Td2 (by decide))
      · exact absurd (ea.symm.trans e) (rd_tag_ne Tv1 Tca (by decide))
      · exact absurd (ea.symm.trans e) (rd_tag_ne Tv1 Tem (by decide))
      · rfl
      · exact absurd (ea.symm.trans e) (rd_tag_ne Tv1 Tv2 (by decide))
      · exact absurd (ea.symm.trans e) (rd_tag_ne Tv1 Ts1 (by decide))
      · exact absurd (ea.symm.trans e) (rd_tag_ne Tv1 Ts2 (by decide))
      · exact absurd (ea.symm.trans e) (rd_tag_ne Tv1 (Tad j' hj') (by decide))
    · rcases h' with ⟨e, rfl⟩ | ⟨e, rfl⟩ | ⟨e, rfl⟩ | ⟨e, rfl⟩ | ⟨e, rfl⟩ | ⟨e, rfl⟩ | ⟨e, rfl⟩ | ⟨e, rfl⟩ | ⟨e, rfl⟩ | ⟨j', hj', e, rfl⟩
      · exact absurd (ea.symm.trans e) (rd_tag_ne Tv2 Tb (by decide))
      · exact absurd (ea.symm.trans e) (rd_tag_ne Tv2 Td1 (by decide))
      · exact absurd (ea.symm.trans e) (rd_tag_ne Tv2 Td2 (by decide))
      · exact absurd (ea.symm.trans e) (rd_tag_ne Tv2 Tca (by decide))
      · exact absurd (ea.symm.trans e) (rd_tag_ne Tv2 Tem (by decide))
      · exact absurd (ea.symm.trans e) (rd_tag_ne Tv2 Tv1 (by decide))
      · rfl
      · exact absurd (ea.symm.trans e) (rd_tag_ne Tv2 Ts1 (by decide))
      · exact absurd (ea.symm.trans e) (rd_tag_ne Tv2 Ts2 (by decide))
      · exact absurd (ea.symm.trans e) (rd_tag_ne Tv2 (Tad j' hj') (by decide))
    · rcases h' with ⟨e, rfl⟩ | ⟨e, rfl⟩ | ⟨e, rfl⟩ | ⟨e, rfl⟩ | ⟨e, rfl⟩ | ⟨e, rfl⟩ | ⟨e, rfl⟩ | ⟨e, rfl⟩ | ⟨e, rfl⟩ | ⟨j', hj', e, rfl⟩
      · exact absurd (ea.symm.trans e) (rd_tag_ne Ts1 Tb (by decide))
      · exact absurd (ea.symm.trans e) (rd_tag_ne Ts1 Td1 (by decide))
      · exact absurd (ea.symm.trans e) (rd_tag_ne Ts1 Td2 (by decide))
      · exact absurd (ea.symm.trans e) (rd_tag_ne Ts1 Tca (by decide))
      · exact absurd (ea.symm.trans e) (rd_tag_ne Ts1 Tem (by decide))
      · exact absurd (ea.symm.trans e) (rd_tag_ne Ts1 Tv1 (by decide))
      · exact absurd (ea.symm.trans e) (rd_tag_ne Ts1 Tv2 (by decide))
      · rfl
      · exact absurd (ea.symm.trans e) hs12
      · exact absurd (ea.symm.trans e) (rd_tag_ne Ts1 (Tad j' hj') (by decide))
    · rcases h' with ⟨e, rfl⟩ | ⟨e, rfl⟩ | ⟨e, rfl⟩ | ⟨e, rfl⟩ | ⟨e, rfl⟩ | ⟨e, rfl⟩ | ⟨e, rfl⟩ | ⟨e, rfl⟩ | ⟨e, rfl⟩ | ⟨j', hj', e, rfl⟩
      · exact absurd (ea.symm.trans e) (rd_tag_ne Ts2 Tb (by decide))
      · exact absurd (ea.symm.trans e) (rd_tag_ne Ts2 Td1 (by decide))
      · exact absurd (ea.symm.trans e) (rd_tag_ne Ts2 Td2 (by decide))
      · exact absurd (ea.symm.trans e) (rd_tag_ne Ts2 Tca (by decide))
      · exact absurd (ea.symm.trans e) (rd_tag_ne Ts2 Tem (by decide))
      · exact absurd (ea.symm.trans e) (rd_tag_ne Ts2 Tv1 (by decide))
      · exact absurd (ea.symm.trans e) (rd_tag_ne Ts2 Tv2 (by decide))
      · exact absurd (e.symm.trans ea) hs12
      · rfl
      · exact absurd (ea.symm.trans e) (rd_tag_ne Ts2 (Tad j' hj') (by decide))
    · rcases h' with ⟨e, rfl⟩ | ⟨e, rfl⟩ | ⟨e, rfl⟩ | ⟨e, rfl⟩ | ⟨e, rfl⟩ | ⟨e, rfl⟩ | ⟨e, rfl⟩ | ⟨e, rfl⟩ | ⟨e, rfl⟩ | ⟨j', hj', e, rfl⟩
      · exact absurd (ea.symm.trans e) (rd_tag_ne (Tad j hj) Tb (by decide))
      · exact absurd (ea.symm.trans e) (rd_tag_ne (Tad j hj) Td1 (by decide))
      · exact absurd (ea.symm.trans e) (rd_tag_ne (Tad j hj) Td2 (by decide))
      · exact absurd (ea.symm.trans e) (rd_tag_ne (Tad j hj) Tca (by decide))
      · exact absurd (ea.symm.trans e) (rd_tag_ne (Tad j hj) Tem (by decide))
      · exact absurd (ea.symm.trans e) (rd_tag_ne (Tad j hj) Tv1 (by decide))
      · exact absurd (ea.symm.trans e) (rd_tag_ne (Tad j hj) Tv2 (by decide))
      · exact absurd (ea.symm.trans e) (rd_tag_ne (Tad j hj) Ts1 (by decide))
      · exact absurd (ea.symm.trans e) (rd_tag_ne (Tad j hj) Ts2 (by decide))
      · rw [had j j' hj hj' (ea.symm.trans e)]
  have r_b : rd_map R b = some (.inl (6, L, fun j => .int (xs j))) := rd_map_y hfun (by rw [hR]; exact Or.inl ⟨rfl, rfl⟩)
  have r_d1 : rd_map R d1 = some (.inl (7, 100, fun i => .int (g_1 i))) := rd_map_y hfun (by rw [hR]; exact Or.inr (Or.inl ⟨rfl, rfl⟩))
  have r_d2 : rd_map R d2 = some (.inl (8, 100, fun i => .int (g_2 i))) := rd_map_y hfun (by rw [hR]; exact Or.inr (Or.inr (Or.inl ⟨rfl, rfl⟩)))
  have r_ca : rd_map R ca = some (.inl (9, 256, fun i => .ref (ad i))) := rd_map_y hfun (by rw [hR]; exact Or.inr (Or.inr (Or.inr (Or.inl ⟨rfl, rfl⟩))))
  have r_em : rd_map R em = some (.inl (10, 0, fun _ => .null)) := rd_map_y hfun (by rw [hR]; exact Or.inr (Or.inr (Or.inr (Or.inr (Or.inl ⟨rfl, rfl⟩)))))
  have r_v1 : rd_map R v1 = some (.inl (11, 0, fun _ => .int 32)) := rd_map_y hfun (by rw [hR]; exact Or.inr (Or.inr (Or.inr (Or.inr (Or.inr (Or.inl ⟨rfl, rfl⟩))))))
  have r_v2 : rd_map R v2 = some (.inl (12, 1, fun _ => .int 32)) := rd_map_y hfun (by rw [hR]; exact Or.inr (Or.inr (Or.inr (Or.inr (Or.inr (Or.inr (Or.inl ⟨rfl, rfl⟩)))))))
  have r_s1 : rd_map R s1 = some (.inr (0, [.ref v1, .int 0, ps1, qs1])) := rd_map_y hfun (by rw [hR]; exact Or.inr (Or.inr (Or.inr (Or.inr (Or.inr (Or.inr (Or.inr (Or.inl ⟨rfl, rfl⟩))))))))
  have r_s2 : rd_map R s2 = some (.inr (0, [.ref v2, .int 0, ps2, qs2])) := rd_map_y hfun (by rw [hR]; exact Or.inr (Or.inr (Or.inr (Or.inr (Or.inr (Or.inr (Or.inr (Or.inr (Or.inl ⟨rfl, rfl⟩)))))))))
  have r_ad : ∀ j, j < 256 → rd_map R (ad j) = some (.inr (2, [.int (vb_c j)])) := fun j hj => rd_map_y hfun (by rw [hR]; exact Or.inr (Or.inr (Or.inr (Or.inr (Or.inr (Or.inr (Or.inr (Or.inr (Or.inr (⟨j, hj, rfl, rfl⟩))))))))))
  have l_of : ∀ {a : Nat} {c : Cell}, s.heap[a]? = some c → a < s.heap.size := fun h => (Array.getElem?_eq_some_iff.mp h).1
  have l_ad : ∀ j, j < 256 → ad j < s.heap.size := fun j hj => by
    obtain ⟨cell, h1, -⟩ := hC.1 j hj
    exact l_of h1
  have r_lt : ∀ a, s.heap.size ≤ a → rd_map R a = none := fun a ha => by
    rcases e : rd_map R a with _ | c
    · rfl
    · have h := rd_map_i e
      rw [hR] at h
      rcases h with ⟨ea, -⟩ | ⟨ea, -⟩ | ⟨ea, -⟩ | ⟨ea, -⟩ | ⟨ea, -⟩ | ⟨ea, -⟩ | ⟨ea, -⟩ | ⟨ea, -⟩ | ⟨ea, -⟩ | ⟨j, hj, ea, -⟩
      all_goals first | (rw [ea] at ha; first | exact absurd ha (by omega) | exact absurd (l_of d1_h) (by omega) | exact absurd (l_of d2_h) (by omega) | exact absurd (l_of ca_h) (by omega) | exact absurd (l_of em_h) (by omega) | exact absurd (l_of v1_h) (by omega) | exact absurd (l_of v2_h) (by omega) | exact absurd (l_of s1_h) (by omega) | exact absurd (l_of s2_h) (by omega) | exact absurd (l_ad j hj) (by omega))
  obtain ⟨mi, hMi⟩ := va_Mi.of (args := #[Value.ref b]) (s := s) (C := "[Ljava/lang/Object;") (hs _ (by first | exact List.mem_of_getElem? (i := 325) (by decide +kernel) | decide +kernel))
  obtain ⟨Kd, hKd⟩ : ∃ Kd : Nat → ClassId, Kd = fun k => match k with
    | 0 => A0 | 1 => A1 | 2 => A2 | 3 => A3 | 4 => A4 | 5 => A5 | 6 => scr.cls | 7 => cd1.cls | 8 => cd2.cls | 9 => cca.cls | 10 => cem.cls | 11 => cv1.cls | 12 => cv2.cls | _ => A1 := ⟨_, rfl⟩
  obtain ⟨rf, hrf⟩ : ∃ rf : Nat → Nat, rf = fun k => if k = 0 then ca else if k = 1 then em else if k = 2 then d1 else if k = 3 then d2 else if k = 4 then mi else if k = 1117 then s1 else s2 := ⟨_, rfl⟩
  have rf0 : rf 0 = ca := by rw [hrf]; rfl
  have rf1 : rf 1 = em := by rw [hrf]; rfl
  have rf2 : rf 2 = d1 := by rw [hrf]; rfl
  have rf3 : rf 3 = d2 := by rw [hrf]; rfl
  have rf4 : rf 4 = mi := by rw [hrf]; rfl
  have rf5 : rf (1000 + 117) = s1 := by rw [hrf]; rfl
  have rf6 : rf (1000 + 195) = s2 := by rw [hrf]; rfl
  have hKA : ∀ k, k < 20 → ArrOfT s (Kd k) (ev_aT k) := fun k hk => by
    rw [hKd]
    have : k = 0 ∨ k = 1 ∨ k = 2 ∨ k = 3 ∨ k = 4 ∨ k = 5 ∨ k = 6 ∨ k = 7 ∨ k = 8 ∨ k = 9 ∨ k = 10 ∨ k = 11 ∨ k = 12 ∨ k = 13 ∨ k = 14 ∨ k = 15 ∨ k = 16 ∨ k = 17 ∨ k = 18 ∨ k = 19 := by omega
    rcases this with rfl | rfl | rfl | rfl | rfl | rfl | rfl | rfl | rfl | rfl | rfl | rfl | rfl | rfl | rfl | rfl | rfl | rfl | rfl | rfl
    · exact ra0
    · exact ra1
    · exact ra2
    · exact ra3
    · exact ra4
    · exact ra5
    · exact rd_ty x2
    · exact rd_ty d1_of
    · exact rd_ty d2_of
    · exact rd_ty ca_of
    · exact rd_ty em_of
    · exact rd_ty v1_of
    · exact rd_ty v2_of
    · exact ra1
    · exact ra1
    · exact ra1
    · exact ra1
    · exact ra1
    · exact ra1
    · exact ra1
  have hKR : ∀ k, k < 6 → va_RA s (Kd k) (ev_aT k) := fun k hk => by
    rw [hKd]
    have : k = 0 ∨ k = 1 ∨ k = 2 ∨ k = 3 ∨ k = 4 ∨ k = 5 := by omega
    rcases this with rfl | rfl | rfl | rfl | rfl | rfl
    · exact rn0
    · exact rn1
    · exact rn2
    · exact rn3
    · exact rn4
    · exact rn5
  have hRO : ∀ (a : Nat) (c : ev_C), rd_map R a = some c → ev_atR (s, #[Value.ref b], (dC, dI), Kd, rd_map R, rf) a c s.heap := fun a c h => by
    have h := rd_map_i h
    rw [hR] at h
    rcases h with ⟨ea, rfl⟩ | ⟨rfl, rfl⟩ | ⟨rfl, rfl⟩ | ⟨rfl, rfl⟩ | ⟨rfl, rfl⟩ | ⟨rfl, rfl⟩ | ⟨rfl, rfl⟩ | ⟨rfl, rfl⟩ | ⟨rfl, rfl⟩ | ⟨j, hj, rfl, rfl⟩
    · rw [ea]
      exact rd_at (X := (s, #[Value.ref b], (dC, dI), Kd, rd_map R, rf)) x1 x2 x3 (by show Kd 6 = _; rw [hKd]; rfl) x4 x5
    · exact rd_at (X := (s, #[Value.ref b], (dC, dI), Kd, rd_map R, rf)) d1_h d1_of d1_kn (by show Kd 7 = _; rw [hKd]; rfl) d1_N d1_s
    · exact rd_at (X := (s, #[Value.ref b], (dC, dI), Kd, rd_map R, rf)) d2_h d2_of d2_kn (by show Kd 8 = _; rw [hKd]; rfl) d2_N d2_s
    · exact rd_at (X := (s, #[Value.ref b], (dC, dI), Kd, rd_map R, rf)) ca_h ca_of ca_kn (by show Kd 9 = _; rw [hKd]; rfl) ca_N ca_s
    · exact rd_at (X := (s, #[Value.ref b], (dC, dI), Kd, rd_map R, rf)) em_h em_of em_kn (by show Kd 10 = _; rw [hKd]; rfl) em_N (fun j hj => absurd hj (by omega))
    · exact rd_at (X := (s, #[Value.ref b], (dC, dI), Kd, rd_map R, rf)) v1_h v1_of v1_kn (by show Kd 11 = _; rw [hKd]; rfl) v1_N (fun j hj => absurd hj (by omega))
    · exact rd_at (X := (s, #[Value.ref b], (dC, dI), Kd, rd_map R, rf)) v2_h v2_of v2_kn (by show Kd 12 = _; rw [hKd]; rfl) v2_N (fun j hj => by rw [show j = 0 from by omega]; exact v2_s)
    · exact ⟨(RJ0, TJ0, 4), cs1, rfl, s1_h, s1_c.trans hd0.1.symm, s1_st, s1_kn, fun j hj => by show cs1.slots[dI 0 j]? = _; rw [hd0.2]; exact s1_s j hj⟩
    · exact ⟨(RJ0, TJ0, 4), cs2, rfl, s2_h, s2_c.trans hd0.1.symm, s2_st, s2_kn, fun j hj => by show cs2.slots[dI 0 j]? = _; rw [hd0.2]; exact s2_s j hj⟩
    · obtain ⟨cell, h1, h2, h3, -⟩ := hC.1 j hj
      obtain ⟨cf, k, i, f, cell', f1, f2, f3, f4, f5, f6⟩ := hC.2 j hj
      obtain ⟨cf', kf, fi', fd, g1, g2⟩ := K2.1 0 (by omega)
      cases f1.symm.trans g1
      cases h1.symm.trans f3
      have e : cell.cls = c2 := Option.some.inj (h3.symm.trans K2.2.1)
      refine ⟨(RJ6, TJ6, 1), cell, rfl, h1, e.trans hd2.1.symm, h2, f4, fun t ht => ?_⟩
      have ht0 : t = 0 := by have : t < 1 := ht; omega
      subst ht0
      show cell.slots[dI 2 0]? = _
      rw [hd2.2, ← g2]
      exact f5
  have hZs : ev_Zs (s, #[Value.ref b], (dC, dI), Kd, rd_map R, rf) := by
    refine ⟨vx_Zqof (args := #[Value.ref b]) (hts (.laysStatic "java/lang/Throwable" "UNASSIGNED_STACK" "[Ljava/lang/StackTraceElement;") (lw_m1 (ev_m64 (ev_m64 (ev_m64 (ev_m16 (ev_m4 (ev_m4 ev_mh)))))))) (hts (.initialized "java/lang/Throwable") (lw_m0 (ev_m4 (ev_m4 (ev_m4 (ev_m1 ev_mh)))))) (hs _ (by first | exact List.mem_of_getElem? (i := 215) (by decide +kernel) | decide +kernel)) hA, vx_Zqof (args := #[Value.ref b]) (hts (.laysStatic "java/lang/Throwable" "SUPPRESSED_SENTINEL" "Ljava/util/List;") (lw_m1 (ev_m64 (ev_m64 (ev_m64 (ev_m16 (ev_m4 (ev_m4 (ev_m1 (ev_m1 ev_mh)))))))))) (hts (.initialized "java/lang/Throwable") (lw_m0 (ev_m4 (ev_m4 (ev_m4 (ev_m1 ev_mh)))))) (hs _ (by first | exact List.mem_of_getElem? (i := 216) (by decide +kernel) | decide +kernel)) hA,
      fun own k tx h => rd_sr (hts _ h), fun k tx h => ?_, va_Zof (hts (.laysStatic "java/lang/String" "COMPACT_STRINGS" "Z") (lw_m1 (ev_m1 (ev_m1 ev_mh)))) (hts (.initialized "java/lang/String") (lw_m0 (ev_m16 (ev_m4 (ev_m4 (ev_m4 ev_mh)))))) (va_eqi (hs _ (by first | exact List.mem_of_getElem? (i := 4) (by decide +kernel) | decide +kernel))) hA,
      va_Zof (hts (.laysStatic "java/lang/Integer$IntegerCache" "high" "I") (lw_m6 (ev_m64 (ev_m16 (ev_m16 (ev_m16 (ev_m4 ev_mh))))))) (hts (.initialized "java/lang/Integer$IntegerCache") (lw_m0 (ev_m16 (ev_m16 (ev_m1 ev_mh))))) (va_eqi (hs _ (by first | exact List.mem_of_getElem? (i := 221) (by decide +kernel) | decide +kernel))) hA, ?_, ?_, ?_, ?_, ?_, ?_, ?_, r_lt⟩
    · show vk_R "LastaskedModel" k tx (rf (1000 + k)) s
      rcases sm_k h with rfl | rfl
      · rw [rf5]; exact vk_R.of (hts _ h) s1_e
      · rw [rf6]; exact vk_R.of (hts _ h) s2_e
    · show va_Z _ _ _ (.ref (rf 0)) _ s s.heap
      rw [rf0]
      exact va_Zof (hts (.laysStatic "java/lang/Integer$IntegerCache" "cache" "[Ljava/lang/Integer;") (lw_m6 (ev_m64 (ev_m16 (ev_m16 (ev_m16 (ev_m4 (ev_m1 (ev_m1 ev_mh))))))))) (hts (.initialized "java/lang/Integer$IntegerCache") (lw_m0 (ev_m16 (ev_m16 (ev_m1 ev_mh))))) ca_e hA
    · show va_Z _ _ _ (.ref (rf 1)) _ s s.heap
      rw [rf1]
      exact va_Zof (hts (.laysStatic "java/util/ArrayList" "DEFAULTCAPACITY_EMPTY_ELEMENTDATA" "[Ljava/lang/Object;") (lw_m4 (ev_m64 (ev_m64 (ev_m64 (ev_m4 (ev_m1 ev_mh))))))) (hts (.initialized "java/util/ArrayList") (lw_m0 (ev_m4 (ev_m4 (ev_m1 (ev_m1 (ev_m1 ev_mh))))))) em_e hA
    · show va_Z _ _ _ (.ref (rf 2)) _ s s.heap
      rw [rf2]
      exact va_Zof (hts (.laysStatic "java/lang/Integer" "DigitOnes" "[B") (lw_m1 (ev_m64 (ev_m64 (ev_m4 (ev_m1 ev_mh)))))) (hts (.initialized "java/lang/Integer") (lw_m0 (ev_m16 (ev_m16 ev_mh)))) d1_e hA
    · show va_Z _ _ _ (.ref (rf 3)) _ s s.heap
      rw [rf3]
      exact va_Zof (hts (.laysStatic "java/lang/Integer" "DigitTens" "[B") (lw_m1 (ev_m64 (ev_m64 (ev_m4 (ev_m1 (ev_m1 (ev_m1 ev_mh)))))))) (hts (.initialized "java/lang/Integer") (lw_m0 (ev_m16 (ev_m16 ev_mh)))) d2_e hA
    · show va_Mi _ (rf 4) s
      rw [rf4]; exact hMi
    · exact trivial
    · intro i j hi hj hij
      have e1 : i = 0 ∨ i = 1 ∨ i = 2 := by omega
      have e2 : j = 0 ∨ j = 1 ∨ j = 2 := by omega
      rcases e1 with rfl | rfl | rfl <;> rcases e2 with rfl | rfl | rfl <;> first | exact absurd rfl hij | exact va_Nc.of (args := #[Value.ref b]) (hs _ (by first | exact List.mem_of_getElem? (i := 252) (by decide +kernel) | exact List.mem_of_getElem? (i := 268) (by decide +kernel) | exact List.mem_of_getElem? (i := 236) (by decide +kernel) | exact List.mem_of_getElem? (i := 269) (by decide +kernel) | exact List.mem_of_getElem? (i := 237) (by decide +kernel) | exact List.mem_of_getElem? (i := 253) (by decide +kernel) | decide +kernel))
  have fb : fits .byte (.int 32) = true := by decide
  refine ⟨(s, #[Value.ref b], (dC, dI), Kd, rd_map R, rf), fun j => ad (j + 128), rfl, ⟨hts, hK, hKA, hKR, hRO, hZs⟩, ⟨_, by show rd_map R (rf 1) = _; rw [rf1]; exact r_em⟩, ⟨g_1, g_2, by show rd_map R (rf 2) = _; rw [rf2]; exact r_d1, by show rd_map R (rf 3) = _; rw [rf3]; exact r_d2, by show rf 2 < _; rw [rf2]; exact l_of d1_h, by show rf 3 < _; rw [rf3]; exact l_of d2_h⟩,
    ⟨⟨v1, [ps1, qs1], 11, fun _ => .int 32, by show rd_map R (rf (1000 + 117)) = _; rw [rf5]; exact r_s1, r_v1, by omega, rfl, fun i hi => fb, by show rf (1000 + 117) < _; rw [rf5]; exact l_of s1_h, l_of v1_h⟩,
     ⟨v2, [ps2, qs2], 12, fun _ => .int 32, by show rd_map R (rf (1000 + 195)) = _; rw [rf6]; exact r_s2, r_v2, by omega, rfl, fun i hi => fb, by show rf (1000 + 195) < _; rw [rf6]; exact l_of s2_h, l_of v2_h⟩⟩,
    ⟨256, fun i => .ref (ad i), by show rd_map R (rf 0) = _; rw [rf0]; exact r_ca, by omega, by omega, by show rf 0 < _; rw [rf0]; exact l_of ca_h, fun j hj => ⟨rfl, by rw [← vb_c_n]; exact r_ad (j + 128) (by omega), l_ad _ (by omega)⟩⟩, r_lt, by show rf 1 < _; rw [rf1]; exact l_of em_h, ⟨hbl, fun j => .int (xs j), r_b, fun j _ => ⟨_, rfl⟩⟩⟩
