/-! ===== joined: 40.oftable, 41.sb, 42.sb2, 43.sb3, 44.written, 45.copy, 46.house, 47.sound, 48.digest, 49.mpic, 50.mall, 51.mtab, 52.mfail, 53.mread, 54.mtold, 55.moft, 56.mget, 57.mput, 58.mmake, 59.mwalk, 60.mcopy, 61.mcopy2 ===== -/
section
/-! ===== the class: sums, ofTable ===== -/
def pr_sm (f : Nat → Int32) : Nat → Nat → Int32 → Int32
  | 0, _, s => s
  | d + 1, i, s => pr_sm f d (i + 1) (s + f i)
theorem pr_sm_cg {f g : Nat → Int32} : ∀ (d i : Nat) (s : Int32), (∀ j, i ≤ j → j < i + d → f j = g j) → pr_sm f d i s = pr_sm g d i s := by
  intro d
  induction d with
  | zero => intro i s h; rfl
  | succ d ih =>
    intro i s h
    unfold pr_sm
    rw [h i (Nat.le_refl i) (by omega)]
    exact ih (i + 1) _ fun j h1 h2 => h j (by omega) (by omega)
def pt_sum (L : ev_PL) : Int32 := pr_sm (fun i => (pf_at L i).2) L.length 0 0
section R40
variable {X : ev_E} {h H : ev_M} {r : Nat} {L : ev_PL} {b m lm ll : Int32} {kf vf : Nat → Int32} {c : Nat} {n q : Nat} {P : ev_O → ev_M → Nat → Nat → Prop}
theorem r_sum (hc : c ≤ 20) : ev_ok (ev_TT X) 40 0 [.ref r, ev_J, ev_J] [] (ev_row h r kf vf c b m lm ll) n q P ↔ P (.inl (some (.int (pr_sm vf c 0 0)))) (ev_row h r kf vf c b m lm ll) n q := by
  have key : ∀ d i s, i + d = c → (ev_ok (ev_TT X) 40 4 [.ref r, .int s, .int (nI i)] [] (ev_row h r kf vf c b m lm ll) n q P ↔ P (.inl (some (.int (pr_sm vf d i s)))) (ev_row h r kf vf c b m lm ll) n q) := by
    intro d
    induction d with
    | zero =>
      intro i s hi
      have hi2 : c ≤ i := by omega
      simp (disch := omega) only [t_X2_sumOfValues_4, t_X2_sumOfValues_5, t_X2_sumOfValues_6, t_X2_sumOfValues_9, t_X2_sumOfValues_27, t_X2_sumOfValues_28, ↓reduceIte, true_and, ev_fG_2, ev_isO_2, ev_row_l0, nI_leI, hi2]
      exact Iff.rfl
    | succ d ih =>
      intro i s hi
      have hi2 : ¬ c ≤ i := by omega
      have hp := nI_pos' (n := i) (by omega)
      have h20 : i < 20 := by omega
      have hI := ih (i + 1) (s + vf i) (by omega)
      rw [t_X2_sumOfValues_4]
      simp (disch := omega) only [t_X2_sumOfValues_5, t_X2_sumOfValues_6, t_X2_sumOfValues_9, t_X2_sumOfValues_12, t_X2_sumOfValues_13, t_X2_sumOfValues_14, t_X2_sumOfValues_17, t_X2_sumOfValues_18, t_X2_sumOfValues_19, t_X2_sumOfValues_20, t_X2_sumOfValues_21, t_X2_sumOfValues_24, ↓reduceIte, ev_k_i, ev_k_r, ev_aG_y, ev_inA_0, and_true, true_and, nI_1, ev_fG_1, ev_fG_2, ev_isO_1, ev_isO_2, ev_row_l0, ev_row_l2, nI_leI, hi2, nI_clamp, hp, h20]
      exact hI
  have h0 := key c 0 0 (by omega)
  rw [nI_0] at h0
  simp (disch := omega) only [t_X2_sumOfValues_0, t_X2_sumOfValues_1, t_X2_sumOfValues_2, t_X2_sumOfValues_3, ev_k_i, ev_k_r]
  exact h0
theorem R_sum (hH : ev_rL h r L b m lm ll H) (hc : L.length ≤ 20) (k : P (.inl (some (.int (pt_sum L)))) H n q) : ev_ok (ev_TT X) 40 0 [.ref r, ev_J, ev_J] [] H n q P := by
  obtain ⟨kf, vf, h1, rfl⟩ := hH
  rw [r_sum hc, pr_sm_cg (g := fun i => (pf_at L i).2) L.length 0 0 (fun j _ h3 => (ev_RL_at h1 (by omega)).2)]
  exact k
end R40
def pt_of (s : ev_TS) (w : Nat) : Int32 := if w = 0 then s.2.1.1 else if w = 1 then s.2.1.2.1 else if w = 2 then s.2.1.2.2.1 else if w = 3 then s.2.1.2.2.2 else pt_sum s.1
theorem ev_swn {w : Int32} {n : Nat} (hn : n < 2 ^ 31) (hw : w < 0 ∨ nI n ≤ w) : w.toInt < 0 ∨ (0 : Int) + (n : Int) ≤ w.toInt := by
  rcases hw with h | h
  · exact Or.inl (Int32.lt_iff_toInt_lt.mp h)
  · right
    have := Int32.le_iff_toInt_le.mp h
    rw [nI_toInt hn] at this
    omega
section C40
variable {X : ev_E} {x : Nat} {G : ev_CS} {H : ev_M} {n q : Nat} {P : ev_O → ev_M → Nat → Nat → Prop}
theorem C_ofTable (hc : c_all x G H) (hG : okG G) {t w : Int32} (k0 : t < 0 ∨ nI 4 ≤ t → P (.inr 0) H (n + 1) (q + 6))
    (k_w : ∀ i, i < 4 → t = nI i → (w < 0 ∨ nI 5 ≤ w) → P (.inr 1) H (n + 1) (q + 6))
    (k2 : ∀ i a, i < 4 → t = nI i → a < 5 → w = nI a → P (.inl (some (.int (pt_of (G.1 i) a)))) H n q) : ev_ok (ev_TT X) 109 0 [.ref x, .int t, .int w, ev_J] [] H n q P := by
  have hk := c_all_k (X := X) hc
  rcases pk_ix t (n := 4) (by omega) with h | h | ⟨i, hi, rfl⟩
  · simp (disch := omega) only [t_X5_ofTable_0, t_X5_ofTable_1, t_X5_ofTable_2, x_X5_ofTable_2, true_and, hk, C_tableOf_n (Or.inl h)]
    exact k0 (Or.inl h)
  · simp (disch := omega) only [t_X5_ofTable_0, t_X5_ofTable_1, t_X5_ofTable_2, x_X5_ofTable_2, true_and, hk, C_tableOf_n (Or.inr h)]
    exact k0 (Or.inr h)
  · obtain ⟨h1, h2, h3⟩ := hc.2.2.2.2.2.2.1 i hi
    have hT := hG.1 i hi
    unfold ev_tbc at h1
    have h2k := ev_rL_k (X := X) h2
    have h2b := ev_rL_b (X := X) h2
    have hw : w < 0 ∨ nI 5 ≤ w ∨ ∃ a, a < 5 ∧ w = nI a := pk_ix w (n := 5) (by omega)
    rcases or_assoc.mpr hw with h | ⟨a, ha, rfl⟩
    · have hs : w.toInt < (0) ∨ (0) + ((([44, 57, 62, 67, 72] : List Nat).length : Nat) : Int) ≤ w.toInt := ev_swn (n := 5) (by omega) h
      simp (disch := omega) only [t_X5_ofTable_0, t_X5_ofTable_1, t_X5_ofTable_2, t_X5_ofTable_5, t_X5_ofTable_8, t_X5_ofTable_9, t_X5_ofTable_10, t_X5_ofTable_77, ↓reduceIte, ev_k_i, ev_kr_1, true_and, ev_fG_0, ev_isO_0, hk, C_tableOf_y hc hi, ev_lk_s h1, hs]
      exact k_w i hi rfl h
    · have hK := k2 i a hi rfl ha rfl
      have ha' : a = 0 ∨ a = 1 ∨ a = 2 ∨ a = 3 ∨ a = 4 := by omega
      have hB := hT.2.1
      rcases ha' with rfl | rfl | rfl | rfl | rfl

      · have hs : (if (nI 0).toInt < (0) ∨ (0) + ((([44, 57, 62, 67, 72] : List Nat).length : Nat) : Int) ≤ (nI 0).toInt then 77 else ([44, 57, 62, 67, 72] : List Nat).getD ((nI 0).toInt - (0)).toNat 77) = 44 := by decide
        unfold pt_of at hK
        rw [if_pos rfl] at hK
        rcases hB with e | e
        · rw [e] at h2b hK
          simp (disch := omega) only [t_X5_ofTable_0, t_X5_ofTable_1, t_X5_ofTable_2, t_X5_ofTable_5, t_X5_ofTable_8, t_X5_ofTable_9, t_X5_ofTable_10, t_X5_ofTable_44, t_X5_ofTable_45, t_X5_ofTable_48, t_X5_ofTable_55, t_X5_ofTable_56, ↓reduceIte, ev_k_i, ev_kr_1, true_and, ev_fG_0, ev_isO_0, hk, C_tableOf_y hc hi, ev_lk_s h1, h2b.1.1, h2b.1.2, hs]
          exact hK
        · rw [e] at h2b hK
          simp (disch := omega) only [t_X5_ofTable_0, t_X5_ofTable_1, t_X5_ofTable_2, t_X5_ofTable_5, t_X5_ofTable_8, t_X5_ofTable_9, t_X5_ofTable_10, t_X5_ofTable_44, t_X5_ofTable_45, t_X5_ofTable_48, t_X5_ofTable_51, t_X5_ofTable_52, t_X5_ofTable_56, ↓reduceIte, ev_k_i, ev_kr_1, true_and, ev_fG_0, ev_isO_0, ev_z2, hk, C_tableOf_y hc hi, ev_lk_s h1, h2b.1.1, h2b.1.2, hs]
          exact hK
      · have hs : (if (nI 1).toInt < (0) ∨ (0) + ((([44, 57, 62, 67, 72] : List Nat).length : Nat) : Int) ≤ (nI 1).toInt then 77 else ([44, 57, 62, 67, 72] : List Nat).getD ((nI 1).toInt - (0)).toNat 77) = 57 := by decide
        simp (disch := omega) only [t_X5_ofTable_0, t_X5_ofTable_1, t_X5_ofTable_2, t_X5_ofTable_5, t_X5_ofTable_8, t_X5_ofTable_9, t_X5_ofTable_10, t_X5_ofTable_57, t_X5_ofTable_58, t_X5_ofTable_61, ev_k_i, ev_kr_1, true_and, ev_fG_0, ev_isO_0, hk, C_tableOf_y hc hi, ev_lk_s h1, h2b.2.2.1.1, h2b.2.2.1.2, hs]
        exact hK
      · have hs : (if (nI 2).toInt < (0) ∨ (0) + ((([44, 57, 62, 67, 72] : List Nat).length : Nat) : Int) ≤ (nI 2).toInt then 77 else ([44, 57, 62, 67, 72] : List Nat).getD ((nI 2).toInt - (0)).toNat 77) = 62 := by decide
        simp (disch := omega) only [t_X5_ofTable_0, t_X5_ofTable_1, t_X5_ofTable_2, t_X5_ofTable_5, t_X5_ofTable_8, t_X5_ofTable_9, t_X5_ofTable_10, t_X5_ofTable_62, t_X5_ofTable_63, t_X5_ofTable_66, ev_k_i, ev_kr_1, true_and, ev_fG_0, ev_isO_0, hk, C_tableOf_y hc hi, ev_lk_s h1, h2b.2.2.2.1.1, h2b.2.2.2.1.2, hs]
        exact hK
      · have hs : (if (nI 3).toInt < (0) ∨ (0) + ((([44, 57, 62, 67, 72] : List Nat).length : Nat) : Int) ≤ (nI 3).toInt then 77 else ([44, 57, 62, 67, 72] : List Nat).getD ((nI 3).toInt - (0)).toNat 77) = 67 := by decide
        simp (disch := omega) only [t_X5_ofTable_0, t_X5_ofTable_1, t_X5_ofTable_2, t_X5_ofTable_5, t_X5_ofTable_8, t_X5_ofTable_9, t_X5_ofTable_10, t_X5_ofTable_67, t_X5_ofTable_68, t_X5_ofTable_71, ev_k_i, ev_kr_1, true_and, ev_fG_0, ev_isO_0, hk, C_tableOf_y hc hi, ev_lk_s h1, h2b.2.2.2.2.1, h2b.2.2.2.2.2, hs]
        exact hK
      · have hs : (if (nI 4).toInt < (0) ∨ (0) + ((([44, 57, 62, 67, 72] : List Nat).length : Nat) : Int) ≤ (nI 4).toInt then 77 else ([44, 57, 62, 67, 72] : List Nat).getD ((nI 4).toInt - (0)).toNat 77) = 72 := by decide
        simp (disch := omega) only [t_X5_ofTable_0, t_X5_ofTable_1, t_X5_ofTable_2, t_X5_ofTable_5, t_X5_ofTable_8, t_X5_ofTable_9, t_X5_ofTable_10, t_X5_ofTable_72, t_X5_ofTable_73, ev_k_i, ev_kr_1, true_and, ev_fG_0, ev_isO_0, hk, C_tableOf_y hc hi, ev_lk_s h1, hs, h2k]
        refine R_sum h2 (okL_len hT.1) ?_
        simp (disch := omega) only [t_X5_ofTable_76, ev_kr_1]
        exact hK
end C40
end
section
/-! ===== text that is built: safety of StringBuilder, room ===== -/
theorem ev_lku_s {X : ev_E} {h : ev_M} {a : Nat} {c : ev_C} : ev_lk X (ev_up h a c) a = some c := ev_lk_s ev_up_s
theorem ev_lku_n {X : ev_E} {h : ev_M} {a b : Nat} {c : ev_C} (e : ¬ b = a) : ev_lk X (ev_up h a c) b = ev_lk X h b := by
  unfold ev_lk
  rw [ev_up_n e]
theorem ev_sl0 (x : Int32) : x <<< ((0 : Int32) &&& 31) = x := by
  apply Int32.toBitVec_inj.mp
  show x.toBitVec <<< _ = _
  simp
theorem ev_sr0 (x : Int32) : x >>> ((0 : Int32) &&& 31) = x := by
  have h := pk_shr x ((0 : Int32) &&& 31) 0 (by decide)
  exact Int32.toInt_inj.mp (by rw [h]; simp)
theorem ev_sub_le {m N : Nat} (h : m ≤ N) (hN : N < 2 ^ 30) : nI m - nI N ≤ 0 := by
  apply Int32.le_iff_toInt_le.mpr
  rw [pk_sub_toInt (by omega) hN]
  show (m : Int) - N ≤ 0
  omega
theorem ev_narB (v : Int32) : vp_nar .byte v = v.toInt8.toInt32 := rfl
theorem ev_fitU {N : Nat} {f : Nat → Value} (h : ∀ i, i < N → fits .byte (f i) = true) (j : Nat) (v : Int32) : ∀ i, i < N → fits .byte (updV f j (.int (vp_nar .byte v)) i) = true := by
  intro i hi
  unfold updV
  split
  · exact pk_fb v
  · exact h i hi
def ev_bu (b k : Nat) (ml : Value) : ev_C := .inr (1, [.ref b, .int 0, ml, .int (nI k)])
/-- a builder at n0, made in the heap H0, of k letters, with room for N; nothing lies at n or above -/
def ev_SB (H0 : ev_M) (n0 k N : Nat) (H : ev_M) (n : Nat) : Prop := ∃ (b : Nat) (ml : Value) (f : Nat → Value), n0 < b ∧ b < n ∧ H n0 = some (.inr (1, [.ref b, .int 0, ml, .int (nI k)])) ∧ H b = some (.inl (1, N, f)) ∧ (∀ i, i < N → fits .byte (f i) = true) ∧ k ≤ N ∧ N ≤ 1000 ∧ (∀ z, (z < n0 ∨ (¬ z = n0 ∧ ∃ c, H0 z = some (.inr c))) → H z = H0 z) ∧ ∀ z, n ≤ z → H z = none
def ev_gr (N n q N1 n1 q1 m : Nat) : Prop := n ≤ n1 ∧ n1 ≤ n + 1 ∧ (q ≤ q1 ∧ q1 + 2 * N ≤ q + 2 * N1) ∧ N ≤ N1 ∧ (N1 ≤ N ∨ N1 ≤ 2 * m)
theorem ev_SB_mk {H0 H : ev_M} {n0 k N n b N' : Nat} {ml : Value} {f f0 : Nat → Value} (h1 : n0 < b) (h2 : b < n) (h4 : H b = some (.inl (1, N', f0))) (hf : ∀ i, i < N → fits .byte (f i) = true) (hk : k ≤ N) (hN : N ≤ 1000) (hz : ∀ z, (z < n0 ∨ (¬ z = n0 ∧ ∃ c, H0 z = some (.inr c))) → H z = H0 z) (hn : ∀ z, n ≤ z → H z = none) :
    ev_SB H0 n0 k N (ev_up (ev_up H n0 (.inr (1, [.ref b, .int 0, ml, .int (nI k)]))) b (.inl (1, N, f))) n := by
  refine ⟨b, ml, f, h1, h2, ?_, ev_up_s, hf, hk, hN, fun z hz' => ?_, fun z hz' => ?_⟩
  · rw [ev_up_n (by omega), ev_up_s]
  · have e1 : ¬ z = n0 := by
      rcases hz' with h | ⟨h, -⟩
      · omega
      · exact h
    have e2 : ¬ z = b := by
      rcases hz' with h | ⟨h, c, hc⟩
      · omega
      · intro e
        have := hz z (Or.inr ⟨h, c, hc⟩)
        rw [hc, e, h4] at this
        cases this
    rw [ev_up_n e2, ev_up_n e1]; exact hz z hz'
  · rw [ev_up_n (by omega), ev_up_n (by omega)]; exact hn z hz'
section S41
variable {X : ev_E} {H0 H : ev_M} {n0 k N a b : Nat} {f : Nat → Value} {n q : Nat} {P : ev_O → ev_M → Nat → Nat → Prop}
theorem r_newLen2 {g : Nat} (hN : N ≤ 2000) (hg : g ≤ 2000) : ev_ok (ev_TT X) 84 0 [.int (nI N), .int (nI g), .int (nI (N + 2)), ev_J] [] H n q P ↔ P (.inl (some (.int (nI (N + max g (N + 2)))))) H n q := by
  have hC : ¬ (2147483639 : Int32) < nI (N + max g (N + 2)) := nI_nlt (b := N + max g (N + 2)) (a := 2147483639) (by omega) (by omega)
  have hB : ¬ nI (N + max g (N + 2)) ≤ 0 := nI_nle (by omega) (by omega)
  by_cases h : g < N + 2
  · have hA : nI g < nI (N + 2) := nI_lt h (by omega)
    have e : max g (N + 2) = N + 2 := by omega
    rw [e] at hB hC ⊢
    simp (disch := omega) only [t_J8_newLength_cabcc_0, t_J8_newLength_cabcc_1, t_J8_newLength_cabcc_2, t_J8_newLength_cabcc_3, t_J8_newLength_cabcc_6, t_J8_newLength_cabcc_7, t_J8_newLength_cabcc_8, t_J8_newLength_cabcc_9, t_J8_newLength_cabcc_10, t_J8_newLength_cabcc_13, t_J8_newLength_cabcc_14, t_J8_newLength_cabcc_16, t_J8_newLength_cabcc_19, t_J8_newLength_cabcc_20, t_J9_max_7cf53_0, t_J9_max_7cf53_1, t_J9_max_7cf53_2, t_J9_max_7cf53_9, t_J9_max_7cf53_10, ↓reduceIte, ev_k_i, ev_kr_1, hA, hB, hC, nI_add]
  · have hA : ¬ nI g < nI (N + 2) := nI_nlt (by omega) (by omega)
    have e : max g (N + 2) = g := by omega
    rw [e] at hB hC ⊢
    simp (disch := omega) only [t_J8_newLength_cabcc_0, t_J8_newLength_cabcc_1, t_J8_newLength_cabcc_2, t_J8_newLength_cabcc_3, t_J8_newLength_cabcc_6, t_J8_newLength_cabcc_7, t_J8_newLength_cabcc_8, t_J8_newLength_cabcc_9, t_J8_newLength_cabcc_10, t_J8_newLength_cabcc_13, t_J8_newLength_cabcc_14, t_J8_newLength_cabcc_16, t_J8_newLength_cabcc_19, t_J8_newLength_cabcc_20, t_J9_max_7cf53_0, t_J9_max_7cf53_1, t_J9_max_7cf53_2, t_J9_max_7cf53_5, t_J9_max_7cf53_6, t_J9_max_7cf53_10, ↓reduceIte, ev_k_i, ev_kr_1, hA, hB, hC, nI_add]
theorem S_newcap {ml c : Value} (h0 : H a = some (.inr (1, [.ref b, .int 0, ml, c]))) (hb : H b = some (.inl (1, N, f))) {m : Nat} (hN : N ≤ 1000) (hm : N < m) (hm4 : m ≤ 1000) : ev_ok (ev_TT X) 124 0 [.ref a, .int (nI m), ev_J, ev_J, ev_J, ev_J] [] H n q P ↔ P (.inl (some (.int (nI (N + max (m - N) (N + 2)))))) H n q := by
  have hE : ¬ nI (N + max (m - N) (N + 2)) = 2147483647 := fun e => by
    rw [show (2147483647 : Int32) = nI 2147483647 from rfl, nI_eq (by omega) (by omega)] at e
    omega
  have hs : nI m - nI N = nI (m - N) := pk_sub (by omega)
  have h2 : (2 : Int32) = nI 2 := rfl
  have hr := fun P n q => r_newLen2 (X := X) (H := H) (P := P) (n := n) (q := q) (N := N) (g := m - N) (by omega) (by omega)
  simp (disch := omega) only [t_J5_newCapacity_0f7a4_0, t_J5_newCapacity_0f7a4_1, t_J5_newCapacity_0f7a4_4, t_J5_newCapacity_0f7a4_5, t_J5_newCapacity_0f7a4_6, t_J5_newCapacity_0f7a4_7, t_J5_newCapacity_0f7a4_8, t_J5_newCapacity_0f7a4_11, t_J5_newCapacity_0f7a4_12, t_J5_newCapacity_0f7a4_13, t_J5_newCapacity_0f7a4_14, t_J5_newCapacity_0f7a4_15, t_J5_newCapacity_0f7a4_16, t_J5_newCapacity_0f7a4_18, t_J5_newCapacity_0f7a4_19, t_J5_newCapacity_0f7a4_21, t_J5_newCapacity_0f7a4_22, t_J5_newCapacity_0f7a4_23, t_J5_newCapacity_0f7a4_24, t_J5_newCapacity_0f7a4_27, t_J5_newCapacity_0f7a4_28, t_J5_newCapacity_0f7a4_29, t_J5_newCapacity_0f7a4_32, t_J5_newCapacity_0f7a4_34, t_J5_newCapacity_0f7a4_36, t_J5_newCapacity_0f7a4_38, t_J5_newCapacity_0f7a4_51, t_J5_newCapacity_0f7a4_53, t_J5_newCapacity_0f7a4_54, t_J5_newCapacity_0f7a4_57, t_J5_newCapacity_0f7a4_58, ↓reduceIte, ev_k_i, ev_kr_1, ev_aN_y, true_and, not_false_eq_true, ev_fG_0, ev_fG_1, ev_isO_0, ev_isO_1, ev_ofN, ev_sl0, ev_sr0, ev_lk_s h0, ev_lk_s hb, hs, h2, nI_add, hr, hE, ev_ofN, ev_isA_1]
theorem S_copy (hb : H b = some (.inl (1, N, f))) (hbn : ¬ b = n) {M : Nat} (hN : N < M) (hM : M ≤ 3000) (hf : ∀ i, i < N → fits .byte (f i) = true)
    (c : P (.inl (some (.ref n))) (ev_up H n (.inl (1, M, va_cpy f (fun _ => .int 0) 0 0 N))) (n + 1) (q + M)) : ev_ok (ev_TT X) 83 0 [.ref b, .int (nI M), ev_J] [] H n q P := by
  have hp := nI_pos' (n := M) (by omega)
  have hcl := nI_clamp (n := M) (by omega)
  have hck := nI_clamp (n := N) (by omega)
  have hN2 : M ≤ 100000 := by omega
  have hlt : ¬ nI M < nI N := nI_nlt (by omega) (by omega)
  have hne : ¬ nI M = nI N := fun e => by rw [nI_eq (by omega) (by omega)] at e; omega
  simp (disch := omega) only [t_J7_copyOf_9075b_0, t_J7_copyOf_9075b_1, t_J7_copyOf_9075b_2, t_J7_copyOf_9075b_3, t_J7_copyOf_9075b_14, t_J7_copyOf_9075b_15, t_J7_copyOf_9075b_17, t_J7_copyOf_9075b_18, t_J7_copyOf_9075b_19, t_J7_copyOf_9075b_20, t_J7_copyOf_9075b_21, t_J7_copyOf_9075b_22, t_J7_copyOf_9075b_23, t_J7_copyOf_9075b_24, t_J7_copyOf_9075b_25, t_J9_min_7cf53_0, t_J9_min_7cf53_1, t_J9_min_7cf53_2, t_J9_min_7cf53_5, t_J9_min_7cf53_6, t_J9_min_7cf53_10, ↓reduceIte, ev_k_i, ev_kr_1, ev_aN_y, and_true, true_and, not_false_eq_true, ev_ofN, ev_lku_n, ev_lk_s hb, hne, hp, hcl, hN2, hlt, ev_isA_1, ev_ofN]
  refine t_J7_copyOf_9075b_28.mpr ⟨⟨nI_pos' (by omega), Int32.le_refl 0, Int32.le_refl 0, Nat.le_of_ble_eq_true rfl, ⟨1, N, f, ev_lk_s ((ev_up_n hbn).trans hb), by decide, rfl, by rw [hck, ev_z0]; omega, fun i hi => ?_⟩, 1, M, _, ev_up_s, by decide, rfl, by rw [hck, ev_z0]; omega⟩, ?_⟩
  · rw [hck] at hi
    rw [ev_z0, Nat.zero_add]
    exact hf i hi
  rw [hck, ev_z0, ev_lk_s ((ev_up_n hbn).trans hb), ev_up_s]
  simp (disch := omega) only [t_J7_copyOf_9075b_31, t_J7_copyOf_9075b_32, ev_up_up, ev_aC_y, ev_aF_y]
  exact c
theorem S_cap (hS : ev_SB H0 n0 k N H n) {m : Nat} (hm : m ≤ 500)
    (c : ∀ N1 H1 n1 q1, ev_SB H0 n0 k N1 H1 n1 → m ≤ N1 → ev_gr N n q N1 n1 q1 m → P (.inl none) H1 n1 q1) : ev_ok (ev_TT X) 177 0 [.ref n0, .int (nI m), ev_J] [] H n q P := by
  have hS0 := hS
  obtain ⟨b, ml, f, h1, h2, h3, h4, h5, h6, h7, h8, h9⟩ := hS
  have hk1 : ev_isK (ev_lk X H n0) 1 = True := by rw [ev_lk_s h3]; exact ev_isK_y
  by_cases hmN : m ≤ N
  · have hs := ev_sub_le hmN (by omega)
    simp (disch := omega) only [t_J5_ensureCapacityInternal_d00df_0, t_J5_ensureCapacityInternal_d00df_1, t_J5_ensureCapacityInternal_d00df_4, t_J5_ensureCapacityInternal_d00df_5, t_J5_ensureCapacityInternal_d00df_6, t_J5_ensureCapacityInternal_d00df_9, t_J5_ensureCapacityInternal_d00df_10, t_J5_ensureCapacityInternal_d00df_11, t_J5_ensureCapacityInternal_d00df_12, t_J5_ensureCapacityInternal_d00df_13, t_J5_ensureCapacityInternal_d00df_14, t_J5_ensureCapacityInternal_d00df_38, ↓reduceIte, ev_k_i, ev_aN_y, true_and, ev_fG_0, ev_fG_1, ev_isO_0, ev_isO_1, ev_ofN, ev_sr0, ev_lk_s h3, ev_lk_s h4, hs, ev_isA_1]
    exact c N H n q hS0 hmN ⟨Nat.le_refl _, by omega, by omega, Nat.le_refl _, Or.inl (Nat.le_refl _)⟩
  · have hs : ¬ nI m - nI N ≤ 0 := by rw [pk_sub (by omega)]; exact nI_nle (by omega) (by omega)
    have hr := fun P n q => S_newcap (X := X) (P := P) (n := n) (q := q) (m := m) h3 h4 (by omega) (by omega) (by omega)
    simp (disch := omega) only [t_J5_ensureCapacityInternal_d00df_0, t_J5_ensureCapacityInternal_d00df_1, t_J5_ensureCapacityInternal_d00df_4, t_J5_ensureCapacityInternal_d00df_5, t_J5_ensureCapacityInternal_d00df_6, t_J5_ensureCapacityInternal_d00df_9, t_J5_ensureCapacityInternal_d00df_10, t_J5_ensureCapacityInternal_d00df_11, t_J5_ensureCapacityInternal_d00df_12, t_J5_ensureCapacityInternal_d00df_13, t_J5_ensureCapacityInternal_d00df_14, t_J5_ensureCapacityInternal_d00df_17, t_J5_ensureCapacityInternal_d00df_18, t_J5_ensureCapacityInternal_d00df_19, t_J5_ensureCapacityInternal_d00df_22, t_J5_ensureCapacityInternal_d00df_23, t_J5_ensureCapacityInternal_d00df_24, t_J5_ensureCapacityInternal_d00df_27, t_J5_ensureCapacityInternal_d00df_28, t_J5_ensureCapacityInternal_d00df_31, t_J5_ensureCapacityInternal_d00df_32, ↓reduceIte, ev_k_i, ev_kr_1, ev_isK_y, ev_aN_y, true_and, ev_fG_0, ev_fG_1, ev_isO_0, ev_isO_1, ev_ofN, ev_sl0, ev_sr0, ev_lk_s h3, ev_lk_s h4, hs, ev_isA_1, hr]
    refine S_copy h4 (by omega) (M := N + max (m - N) (N + 2)) (by omega) (by omega) h5 ?_
    simp (disch := omega) only [t_J5_ensureCapacityInternal_d00df_35, t_J5_ensureCapacityInternal_d00df_38, ev_kr_1, ev_ft_a, and_true, true_and, ev_fS_0, ev_isO_0, ev_up_n, h3]
    have hmx : max m (2 * N + 2) ≤ N + max (m - N) (N + 2) := by omega
    refine c (N + max (m - N) (N + 2)) _ (n + 1) (q + (N + max (m - N) (N + 2))) ⟨n, ml, va_cpy f (fun _ => .int 0) 0 0 N, by omega, by omega, ev_up_s, ?_, fun i hi => ?_, by omega, by omega, fun z hz => ?_, fun z hz => ?_⟩ (by omega) ⟨by omega, by omega, by omega, by omega, Or.inr (by omega)⟩
    · rw [ev_up_n (by omega), ev_up_s]
    · unfold va_cpy
      split
      · exact h5 _ (by omega)
      · rfl
    · have e1 : ¬ z = n0 := by
        rcases hz with h | ⟨h, -⟩
        · omega
        · exact h
      have e2 : ¬ z = n := by
        rcases hz with h | ⟨h, c, hc⟩
        · omega
        · intro e
          have := h8 z (Or.inr ⟨h, c, hc⟩)
          rw [hc, e, h9 n (Nat.le_refl n)] at this
          cases this
      rw [ev_up_n e1, ev_up_n e2]; exact h8 z hz
    · rw [ev_up_n (by omega), ev_up_n (by omega)]; exact h9 z (by omega)
end S41
end
section
/-! ===== text that is built: append, toString ===== -/
theorem ev_nby0 : (narrow .byte (.int 0) = .int 0) = True := eq_true rfl
def ev_DG (X : ev_E) : Prop := ∃ f g : Nat → Int32, X.2.2.2.2.1 (X.2.2.2.2.2 2) = some (.inl (7, 100, fun i => .int (f i))) ∧ X.2.2.2.2.1 (X.2.2.2.2.2 3) = some (.inl (8, 100, fun i => .int (g i))) ∧ X.2.2.2.2.2 2 < X.1.heap.size ∧ X.2.2.2.2.2 3 < X.1.heap.size
/-- a text of k letters -/
def ev_St (X : ev_E) (H : ev_M) (s k : Nat) : Prop := ∃ (b : Nat) (r : List Value) (kd : Nat) (f : Nat → Value), ev_lk X H s = some (.inr (0, .ref b :: .int 0 :: r)) ∧ ev_lk X H b = some (.inl (kd, k, f)) ∧ kd < 20 ∧ ev_aT kd = .byte ∧ ∀ i, i < k → fits .byte (f i) = true
theorem ev_ng {j c : Nat} (hj : j < 2 ^ 30) (hc : c < 2 ^ 30) : -nI j ≤ -nI c ↔ c ≤ j := by
  have e : ∀ k, k < 2 ^ 30 → (-nI k).toInt = -(k : Int) := fun k hk => by
    have := pk_sub_toInt (a := 0) (b := k) (by omega) hk
    rw [nI_0, Int32.zero_sub] at this
    omega
  rw [Int32.le_iff_toInt_le, e j hj, e c hc]
  omega
theorem ev_ngl {j c : Nat} (hj : j < 2 ^ 30) (hc : c < 2 ^ 30) : -nI c < -nI j ↔ j < c := by
  rw [← Int32.not_le, ev_ng hj hc]
  omega
section S42
variable {X : ev_E} {H0 H : ev_M} {n0 k N a b : Nat} {f : Nat → Value} {n q : Nat} {P : ev_O → ev_M → Nat → Nat → Prop}
theorem S_lat {w c : Value} (h0 : H a = some (.inr (1, [w, .int 0, c, .int (nI k)]))) : ev_ok (ev_TT X) 9 0 [.ref a] [] H n q P ↔ P (.inl (some (.int 1))) H n q := by
  simp (disch := omega) only [t_J5_isLatin1_aae02_0, t_J5_isLatin1_aae02_3, t_J5_isLatin1_aae02_6, t_J5_isLatin1_aae02_7, t_J5_isLatin1_aae02_10, t_J5_isLatin1_aae02_13, t_J5_isLatin1_aae02_14, t_J5_isLatin1_aae02_18, ↓reduceIte, ev_nb_1, true_and, not_true_eq_false, ev_fG_1, ev_isO_1, ev_lk_s h0, show ¬ (1 : Int32) = 0 from by decide]
theorem S_chr32 (hS : ev_SB H0 n0 k N H n) (hk : k ≤ 400) (c : ∀ N1 H1 n1 q1, ev_SB H0 n0 (k + 1) N1 H1 n1 → ev_gr N n q N1 n1 q1 (k + 1) → P (.inl (some (.ref n0))) H1 n1 q1) : ev_ok (ev_TT X) 272 0 [.ref n0, .int 32] [] H n q P := by
  have hk1 : ev_isK (ev_lk X H n0) 1 = True := by
    obtain ⟨b, ml, f, h1, h2, h3, h4, h5, h6, h7, h8, h9⟩ := hS
    rw [ev_lk_s h3]; exact ev_isK_y
  have hc3 : ev_isO (ev_lk X H n0) 1 3 = True ∧ ev_fG (ev_lk X H n0) 3 = .int (nI k) := by
    obtain ⟨b, ml, f, h1, h2, h3, h4, h5, h6, h7, h8, h9⟩ := hS
    rw [ev_lk_s h3]; exact ⟨ev_isO_3, rfl⟩
  simp (disch := omega) only [t_J4_append_cf468_0, t_J4_append_cf468_1, t_J4_append_cf468_2, t_J5_append_3fe6f_0, t_J5_append_3fe6f_1, t_J5_append_3fe6f_2, t_J5_append_3fe6f_5, t_J5_append_3fe6f_6, t_J5_append_3fe6f_7, true_and, nI_1, hk1, hc3.1, hc3.2]
  refine S_cap hS (m := k + 1) (by omega) fun N1 H1 n1 q1 hS1 hm hg => ?_
  obtain ⟨b, ml, f, h1, h2, h3, h4, h5, h6, h7, h8, h9⟩ := hS1
  have hk1 : ev_isK (ev_lk X H1 n0) 1 = True := by rw [ev_lk_s h3]; exact ev_isK_y
  have hl := fun P n q => S_lat (X := X) (P := P) (n := n) (q := q) h3
  have hp := nI_pos' (n := k) (by omega)
  have hcl := nI_clamp (n := k) (by omega)
  have hkN : k < N1 := by omega
  simp (disch := omega) only [t_J4_append_cf468_5, t_J4_append_cf468_6, t_J4_append_cf468_7, t_J5_append_3fe6f_10, t_J5_append_3fe6f_11, t_J5_append_3fe6f_14, t_J5_append_3fe6f_17, t_J5_append_3fe6f_18, t_J5_append_3fe6f_21, t_J5_append_3fe6f_24, t_J5_append_3fe6f_25, t_J5_append_3fe6f_28, t_J5_append_3fe6f_29, t_J5_append_3fe6f_30, t_J5_append_3fe6f_33, t_J5_append_3fe6f_34, t_J5_append_3fe6f_35, t_J5_append_3fe6f_36, t_J5_append_3fe6f_39, t_J5_append_3fe6f_40, t_J5_append_3fe6f_41, t_J5_append_3fe6f_42, t_J5_append_3fe6f_75, t_J5_append_3fe6f_76, t_J1_canEncode_fc78d_0, t_J1_canEncode_fc78d_1, t_J1_canEncode_fc78d_4, t_J1_canEncode_fc78d_7, t_J1_canEncode_fc78d_8, t_J1_canEncode_fc78d_12, ↓reduceIte, ev_kr_1, ev_kr_0, ev_isK_y, ev_aS_y, ev_ft_I, ev_nb_1, and_true, true_and, nI_1, ev_fG_0, ev_fG_3, ev_fS_3, ev_isO_0, ev_isO_3, ev_up_n, hl, ev_lk_s h3, h3, h4, show ¬ (1 : Int32) = 0 from by decide, show ¬ (255 : Int32) < 32 from by decide, hp, hcl, hkN, ev_inA_1]
  exact c N1 _ n1 q1 (ev_SB_mk h1 h2 h4 (ev_fitU h5 _ _) hm h7 h8 h9) hg
theorem S_chr61 (hS : ev_SB H0 n0 k N H n) (hk : k ≤ 400) (c : ∀ N1 H1 n1 q1, ev_SB H0 n0 (k + 1) N1 H1 n1 → ev_gr N n q N1 n1 q1 (k + 1) → P (.inl (some (.ref n0))) H1 n1 q1) : ev_ok (ev_TT X) 272 0 [.ref n0, .int 61] [] H n q P := by
  have hk1 : ev_isK (ev_lk X H n0) 1 = True := by
    obtain ⟨b, ml, f, h1, h2, h3, h4, h5, h6, h7, h8, h9⟩ := hS
    rw [ev_lk_s h3]; exact ev_isK_y
  have hc3 : ev_isO (ev_lk X H n0) 1 3 = True ∧ ev_fG (ev_lk X H n0) 3 = .int (nI k) := by
    obtain ⟨b, ml, f, h1, h2, h3, h4, h5, h6, h7, h8, h9⟩ := hS
    rw [ev_lk_s h3]; exact ⟨ev_isO_3, rfl⟩
  simp (disch := omega) only [t_J4_append_cf468_0, t_J4_append_cf468_1, t_J4_append_cf468_2, t_J5_append_3fe6f_0, t_J5_append_3fe6f_1, t_J5_append_3fe6f_2, t_J5_append_3fe6f_5, t_J5_append_3fe6f_6, t_J5_append_3fe6f_7, true_and, nI_1, hk1, hc3.1, hc3.2]
  refine S_cap hS (m := k + 1) (by omega) fun N1 H1 n1 q1 hS1 hm hg => ?_
  obtain ⟨b, ml, f, h1, h2, h3, h4, h5, h6, h7, h8, h9⟩ := hS1
  have hk1 : ev_isK (ev_lk X H1 n0) 1 = True := by rw [ev_lk_s h3]; exact ev_isK_y
  have hl := fun P n q => S_lat (X := X) (P := P) (n := n) (q := q) h3
  have hp := nI_pos' (n := k) (by omega)
  have hcl := nI_clamp (n := k) (by omega)
  have hkN : k < N1 := by omega
  simp (disch := omega) only [t_J4_append_cf468_5, t_J4_append_cf468_6, t_J4_append_cf468_7, t_J5_append_3fe6f_10, t_J5_append_3fe6f_11, t_J5_append_3fe6f_14, t_J5_append_3fe6f_17, t_J5_append_3fe6f_18, t_J5_append_3fe6f_21, t_J5_append_3fe6f_24, t_J5_append_3fe6f_25, t_J5_append_3fe6f_28, t_J5_append_3fe6f_29, t_J5_append_3fe6f_30, t_J5_append_3fe6f_33, t_J5_append_3fe6f_34, t_J5_append_3fe6f_35, t_J5_append_3fe6f_36, t_J5_append_3fe6f_39, t_J5_append_3fe6f_40, t_J5_append_3fe6f_41, t_J5_append_3fe6f_42, t_J5_append_3fe6f_75, t_J5_append_3fe6f_76, t_J1_canEncode_fc78d_0, t_J1_canEncode_fc78d_1, t_J1_canEncode_fc78d_4, t_J1_canEncode_fc78d_7, t_J1_canEncode_fc78d_8, t_J1_canEncode_fc78d_12, ↓reduceIte, ev_kr_1, ev_kr_0, ev_isK_y, ev_aS_y, ev_ft_I, ev_nb_1, and_true, true_and, nI_1, ev_fG_0, ev_fG_3, ev_fS_3, ev_isO_0, ev_isO_3, ev_up_n, hl, ev_lk_s h3, h3, h4, show ¬ (1 : Int32) = 0 from by decide, show ¬ (255 : Int32) < 61 from by decide, hp, hcl, hkN, ev_inA_1]
  exact c N1 _ n1 q1 (ev_SB_mk h1 h2 h4 (ev_fitU h5 _ _) hm h7 h8 h9) hg
def ev_dg (j : Nat) : Nat := if j < 10 then 1 else 2
theorem ev_dg_b (j : Nat) : 1 ≤ ev_dg j ∧ ev_dg j ≤ 2 ∧ (10 ≤ j → ev_dg j = 2) := by
  unfold ev_dg
  split <;> omega
theorem S_size {j : Nat} (hj : j < 100) : ev_ok (ev_TT X) 13 0 [.int (nI j), ev_J, ev_J, ev_J] [] H n q P ↔ P (.inl (some (.int (nI (ev_dg j))))) H n q := by
  have hp := nI_pos (n := j) (by omega)
  have hB : ¬ -nI j ≤ -100 := fun e => by
    have := (ev_ng (j := j) (c := 100) (by omega) (by omega)).mp e
    omega
  by_cases h : j < 10
  · have hA : ¬ -nI j ≤ -10 := fun e => by
      have := (ev_ng (j := j) (c := 10) (by omega) (by omega)).mp e
      omega
    have hd : ev_dg j = 1 := if_pos h
    rw [hd]
    rw [t_J6_stringSize_0f7a4_0]
    simp (disch := omega) only [t_J6_stringSize_0f7a4_1, t_J6_stringSize_0f7a4_2, t_J6_stringSize_0f7a4_3, t_J6_stringSize_0f7a4_6, t_J6_stringSize_0f7a4_7, t_J6_stringSize_0f7a4_8, t_J6_stringSize_0f7a4_9, t_J6_stringSize_0f7a4_10, t_J6_stringSize_0f7a4_11, t_J6_stringSize_0f7a4_13, t_J6_stringSize_0f7a4_14, t_J6_stringSize_0f7a4_15, t_J6_stringSize_0f7a4_16, t_J6_stringSize_0f7a4_17, t_J6_stringSize_0f7a4_19, t_J6_stringSize_0f7a4_22, t_J6_stringSize_0f7a4_23, t_J6_stringSize_0f7a4_24, t_J6_stringSize_0f7a4_27, t_J6_stringSize_0f7a4_28, t_J6_stringSize_0f7a4_29, t_J6_stringSize_0f7a4_30, ↓reduceIte, ev_k_i, show ¬ (10 : Int32) ≤ 1 from by decide, show (1 : Int32) + 0 = 1 from rfl, hp, hA]
    exact Iff.rfl
  · have hA : -nI j ≤ -10 := (ev_ng (j := j) (c := 10) (by omega) (by omega)).mpr (by omega)
    have hd : ev_dg j = 2 := if_neg h
    rw [hd]
    simp (disch := omega) only [t_J6_stringSize_0f7a4_0, t_J6_stringSize_0f7a4_1, t_J6_stringSize_0f7a4_2, t_J6_stringSize_0f7a4_3, t_J6_stringSize_0f7a4_6, t_J6_stringSize_0f7a4_7, t_J6_stringSize_0f7a4_8, t_J6_stringSize_0f7a4_9, t_J6_stringSize_0f7a4_10, t_J6_stringSize_0f7a4_11, t_J6_stringSize_0f7a4_13, t_J6_stringSize_0f7a4_14, t_J6_stringSize_0f7a4_15, t_J6_stringSize_0f7a4_16, t_J6_stringSize_0f7a4_17, t_J6_stringSize_0f7a4_19, t_J6_stringSize_0f7a4_22, t_J6_stringSize_0f7a4_23, t_J6_stringSize_0f7a4_24, t_J6_stringSize_0f7a4_27, t_J6_stringSize_0f7a4_28, t_J6_stringSize_0f7a4_29, t_J6_stringSize_0f7a4_30, t_J6_stringSize_0f7a4_31, t_J6_stringSize_0f7a4_33, t_J6_stringSize_0f7a4_34, t_J6_stringSize_0f7a4_35, t_J6_stringSize_0f7a4_36, t_J6_stringSize_0f7a4_39, ↓reduceIte, ev_k_i, show ¬ (10 : Int32) ≤ 1 from by decide, show ¬ (10 : Int32) ≤ 2 from by decide, show (1 : Int32) + 1 = 2 from rfl, show (10 : Int32) * -10 = -100 from rfl, show (2 : Int32) + 0 = 2 from rfl, hp, hA, hB]
    exact Iff.rfl
theorem S_chars (hD : ev_DG X) (hw : ev_low X H) (hb : H b = some (.inl (1, N, f))) (hf : ∀ i, i < N → fits .byte (f i) = true) {j e : Nat} (hj : j < 100) (he : e ≤ N) (hN : N ≤ 1000) (hd : ev_dg j ≤ e)
    (c : ∀ f' r, (∀ i, i < N → fits .byte (f' i) = true) → P (.inl (some (.int r))) (ev_up H b (.inl (1, N, f'))) n q) : ev_ok (ev_TT X) 11 0 [.int (nI j), .int (nI e), .ref b, ev_J, ev_J, ev_J, ev_J] [] H n q P := by
  obtain ⟨f1, g1, hD1, hD2, hD3, hD4⟩ := hD
  have hb0 : ¬ X.2.2.2.2.2 2 = b := fun z => by rw [← z, hw _ hD3] at hb; cases hb
  have hb1 : ¬ X.2.2.2.2.2 3 = b := fun z => by rw [← z, hw _ hD4] at hb; cases hb
  have hq0 := ev_lk_o (X := X) (hw _ hD3) hD1
  have hq1 := ev_lk_o (X := X) (hw _ hD4) hD2
  have hp := nI_pos' (n := j) (by omega)
  have hcl := nI_clamp (n := j) (by omega)
  have hdb := ev_dg_b j
  have hA : (-100 : Int32) < -nI j := (ev_ngl (j := j) (c := 100) (by omega) (by omega)).mpr (by omega)
  obtain ⟨d, rfl⟩ : ∃ d, e = d + 1 := ⟨e - 1, by omega⟩
  have hp1 := nI_pos' (n := d) (by omega)
  have hc1 := nI_clamp (n := d) (by omega)
  have hd1 : d < N := by omega
  by_cases h : j < 10
  · have hB : (-9 : Int32) ≤ -nI j := by
      have := (ev_ng (j := 9) (c := j) (by omega) (by omega)).mpr (by omega)
      exact this
    simp (disch := omega) only [t_J6_getChars_ba4f3_0, t_J6_getChars_ba4f3_1, t_J6_getChars_ba4f3_3, t_J6_getChars_ba4f3_4, t_J6_getChars_ba4f3_11, t_J6_getChars_ba4f3_12, t_J6_getChars_ba4f3_14, t_J6_getChars_ba4f3_16, t_J6_getChars_ba4f3_19, t_J6_getChars_ba4f3_20, t_J6_getChars_ba4f3_21, t_J6_getChars_ba4f3_22, t_J6_getChars_ba4f3_23, t_J6_getChars_ba4f3_25, t_J6_getChars_ba4f3_72, t_J6_getChars_ba4f3_73, t_J6_getChars_ba4f3_76, t_J6_getChars_ba4f3_78, t_J6_getChars_ba4f3_81, t_J6_getChars_ba4f3_82, t_J6_getChars_ba4f3_83, t_J6_getChars_ba4f3_84, t_J6_getChars_ba4f3_85, t_J6_getChars_ba4f3_86, t_J6_getChars_ba4f3_88, t_J6_getChars_ba4f3_104, t_J6_getChars_ba4f3_106, t_J6_getChars_ba4f3_118, t_J6_getChars_ba4f3_120, ↓reduceIte, ev_k_i, ev_k_J, ev_aG_y, ev_aS_y, and_true, true_and, not_true_eq_false, Int32.neg_neg, hp, hcl, hA, hB, hq0, hb, pk_m1, hp1, hc1, hd1, hj, ev_inA_7, ev_inA_1]
    exact c _ _ (ev_fitU hf _ _)
  · have hB : ¬ (-9 : Int32) ≤ -nI j := fun z => by
      have := (ev_ng (j := 9) (c := j) (by omega) (by omega)).mp z
      omega
    obtain ⟨d, rfl⟩ : ∃ d', d = d' + 1 := ⟨d - 1, by have := hdb.2.2 (by omega); omega⟩
    have hp2 := nI_pos' (n := d) (by omega)
    have hc2 := nI_clamp (n := d) (by omega)
    have hd2 : d < N := by omega
    simp (disch := omega) only [t_J6_getChars_ba4f3_0, t_J6_getChars_ba4f3_1, t_J6_getChars_ba4f3_3, t_J6_getChars_ba4f3_4, t_J6_getChars_ba4f3_11, t_J6_getChars_ba4f3_12, t_J6_getChars_ba4f3_14, t_J6_getChars_ba4f3_16, t_J6_getChars_ba4f3_19, t_J6_getChars_ba4f3_20, t_J6_getChars_ba4f3_21, t_J6_getChars_ba4f3_22, t_J6_getChars_ba4f3_23, t_J6_getChars_ba4f3_25, t_J6_getChars_ba4f3_72, t_J6_getChars_ba4f3_73, t_J6_getChars_ba4f3_76, t_J6_getChars_ba4f3_78, t_J6_getChars_ba4f3_81, t_J6_getChars_ba4f3_82, t_J6_getChars_ba4f3_83, t_J6_getChars_ba4f3_84, t_J6_getChars_ba4f3_85, t_J6_getChars_ba4f3_86, t_J6_getChars_ba4f3_88, t_J6_getChars_ba4f3_91, t_J6_getChars_ba4f3_92, t_J6_getChars_ba4f3_95, t_J6_getChars_ba4f3_97, t_J6_getChars_ba4f3_100, t_J6_getChars_ba4f3_101, t_J6_getChars_ba4f3_102, t_J6_getChars_ba4f3_103, t_J6_getChars_ba4f3_104, t_J6_getChars_ba4f3_106, t_J6_getChars_ba4f3_118, t_J6_getChars_ba4f3_120, ↓reduceIte, ev_k_i, ev_k_J, ev_aG_y, ev_aS_y, and_true, true_and, not_true_eq_false, ev_lku_n, ev_up_s, Int32.neg_neg, hp, hcl, hA, hB, hq0, hq1, hb, pk_m1, hp1, hc1, hd1, hj, ev_inA_7, ev_inA_8, ev_inA_1, ev_up_up, hp2, hc2, hd2]
    exact c _ _ (ev_fitU (ev_fitU hf _ _) _ _)
theorem S_int (hD : ev_DG X) (hn0 : X.1.heap.size ≤ n0) (hw : ev_low X H) (hS : ev_SB H0 n0 k N H n) (hk : k ≤ 400) {j : Nat} (hj : j < 100) (c : ∀ N1 H1 n1 q1, ev_SB H0 n0 (k + ev_dg j) N1 H1 n1 → ev_gr N n q N1 n1 q1 (k + ev_dg j) → P (.inl (some (.ref n0))) H1 n1 q1) : ev_ok (ev_TT X) 246 0 [.ref n0, .int (nI j)] [] H n q P := by
  have hdb := ev_dg_b j
  have hS0 := hS
  obtain ⟨b, ml, f, h1, h2, h3, h4, h5, h6, h7, h8, h9⟩ := hS
  have hk1 : ev_isK (ev_lk X H n0) 1 = True := by rw [ev_lk_s h3]; exact ev_isK_y
  have hz := fun P n q => S_size (X := X) (H := H) (P := P) (n := n) (q := q) hj
  simp (disch := omega) only [t_J4_append_bf812_0, t_J4_append_bf812_1, t_J4_append_bf812_2, t_J5_append_c97b9_0, t_J5_append_c97b9_1, t_J5_append_c97b9_4, t_J5_append_c97b9_5, t_J5_append_c97b9_6, t_J5_append_c97b9_7, t_J5_append_c97b9_10, t_J5_append_c97b9_11, t_J5_append_c97b9_12, t_J5_append_c97b9_13, t_J5_append_c97b9_14, ev_k_i, ev_kr_1, ev_isK_y, true_and, ev_fG_3, ev_isO_3, ev_lk_s h3, hz, nI_add]
  refine S_cap hS0 (m := k + ev_dg j) (by omega) fun N1 H1 n1 q1 hS1 hm hg => ?_
  have hw1 : ev_low X H1 := fun z hz => by
    obtain ⟨b', ml', f', g1, g2, g3, g4, g5, g6, g7, g8, g9⟩ := hS1
    rw [g8 z (Or.inl (by omega)), ← h8 z (Or.inl (by omega))]
    exact hw z hz
  obtain ⟨b, ml, f, h1, h2, h3, h4, h5, h6, h7, h8, h9⟩ := hS1
  have hk1 : ev_isK (ev_lk X H1 n0) 1 = True := by rw [ev_lk_s h3]; exact ev_isK_y
  have hl := fun P n q => S_lat (X := X) (P := P) (n := n) (q := q) h3
  simp (disch := omega) only [t_J5_append_c97b9_17, t_J5_append_c97b9_18, t_J5_append_c97b9_21, t_J5_append_c97b9_24, t_J5_append_c97b9_25, t_J5_append_c97b9_26, t_J5_append_c97b9_27, t_J5_append_c97b9_30, ↓reduceIte, ev_kr_1, ev_kr_0, ev_isK_y, true_and, ev_fG_0, ev_isO_0, hl, ev_lk_s h3, show ¬ (1 : Int32) = 0 from by decide]
  refine S_chars hD hw1 h4 h5 hj hm h7 (by omega) fun f' r hf' => ?_
  simp (disch := omega) only [t_J4_append_bf812_5, t_J4_append_bf812_6, t_J4_append_bf812_7, t_J5_append_c97b9_33_i, t_J5_append_c97b9_34, t_J5_append_c97b9_48, t_J5_append_c97b9_49, t_J5_append_c97b9_50, t_J5_append_c97b9_53, t_J5_append_c97b9_54, ev_kr_1, ev_ft_I, and_true, true_and, ev_fS_3, ev_isO_3, ev_up_n, h3]
  have hX : ev_up (ev_up H1 b (.inl (1, N1, f'))) n0 (.inr (1, [.ref b, .int 0, ml, .int (nI (k + ev_dg j))])) = ev_up (ev_up H1 n0 (.inr (1, [.ref b, .int 0, ml, .int (nI (k + ev_dg j))]))) b (.inl (1, N1, f')) := ev_up_c (by omega)
  rw [hX]
  exact c N1 _ n1 q1 (ev_SB_mk h1 h2 h4 hf' hm h7 h8 h9) hg
theorem S_slen {s : Nat} (hs : ev_St X H s a) : ev_ok (ev_TT X) 74 0 [.ref s] [] H n q P ↔ P (.inl (some (.int (nI a)))) H n q := by
  obtain ⟨b, r, kd, f, g1, g2, g3, g4, g5⟩ := hs
  have hA : ev_isA (some (.inl (kd, a, f))) = True := eq_true ⟨kd, a, f, rfl, g3⟩
  simp (disch := omega) only [t_J0_length_8abf5_0, t_J0_length_8abf5_1, t_J0_length_8abf5_4, t_J0_length_8abf5_5, t_J0_length_8abf5_6, t_J0_length_8abf5_9, t_J0_length_8abf5_10, t_J0_coder_7d493_0, t_J0_coder_7d493_3, t_J0_coder_7d493_6, t_J0_coder_7d493_7, t_J0_coder_7d493_10, t_J0_coder_7d493_14, ↓reduceIte, ev_kr_1, ev_isK_y, ev_aN_y, true_and, ev_fG_0, ev_fG_1, ev_isO_0, ev_isO_1, ev_ofN, ev_sr0, ev_nby0, g1, g2, hA, ev_sr0, show ¬ (1 : Int32) = 0 from by decide]
theorem ev_St_cg {X : ev_E} {H H1 : ev_M} {s k m : Nat} (h : ev_St X H s k) (hm : ∀ z, m ≤ z → H z = none) (hr : ∀ z, m ≤ z → X.2.2.2.2.1 z = none) (e : ∀ z, z < m → H1 z = H z) : ev_St X H1 s k := by
  obtain ⟨b, r, kd, f, g1, g2, g3⟩ := h
  have key : ∀ z c, ev_lk X H z = some c → ev_lk X H1 z = some c := fun z c hz => by
    by_cases hzm : z < m
    · unfold ev_lk at hz ⊢
      rw [e z hzm]; exact hz
    · unfold ev_lk at hz
      rw [hm z (by omega)] at hz
      rw [show X.2.2.2.2.1 z = none from hr z (by omega)] at hz
      cases hz
  exact ⟨b, r, kd, f, key _ _ g1, key _ _ g2, g3⟩
theorem S_str {s : Nat} (hS : ev_SB H0 n0 k N H n) (hk : k + a ≤ 400) (hs : ∀ H1, (∀ z, z < n0 → H1 z = H z) → ev_St X H1 s a) (hsn : ¬ s = n0) (c : ∀ N1 H1 n1 q1, ev_SB H0 n0 (k + a) N1 H1 n1 → ev_gr N n q N1 n1 q1 (k + a) → P (.inl (some (.ref n0))) H1 n1 q1) : ev_ok (ev_TT X) 297 0 [.ref n0, .ref s] [] H n q P := by
  have hS0 := hS
  obtain ⟨b, ml, f, h1, h2, h3, h4, h5, h6, h7, h8, h9⟩ := hS
  have hk1 : ev_isK (ev_lk X H n0) 1 = True := by rw [ev_lk_s h3]; exact ev_isK_y
  have hs0 := hs H (fun _ _ => rfl)
  have hsk : ev_isK (ev_lk X H s) 0 = True := by
    obtain ⟨b, r, kd, f, g1, g2⟩ := hs0
    rw [g1]; exact ev_isK_y
  have hz := fun P n q => S_slen (X := X) (H := H) (P := P) (n := n) (q := q) hs0
  simp (disch := omega) only [t_J4_append_15ec4_0, t_J4_append_15ec4_1, t_J4_append_15ec4_2, t_J5_append_cf1ce_0, t_J5_append_cf1ce_1, t_J5_append_cf1ce_9, t_J5_append_cf1ce_10, t_J5_append_cf1ce_13, t_J5_append_cf1ce_14, t_J5_append_cf1ce_15, t_J5_append_cf1ce_16, t_J5_append_cf1ce_19, t_J5_append_cf1ce_20, t_J5_append_cf1ce_21, ev_k_r, ev_kr_1, ev_isK_y, true_and, ev_fG_3, ev_isO_3, hsk, ev_lk_s h3, hz, nI_add]
  refine S_cap hS0 (m := k + a) (by omega) fun N1 H1 n1 q1 hS1 hm hg => ?_
  have hs1 : ev_St X H1 s a := by
    obtain ⟨b', ml', f', g1, g2, g3, g4, g5, g6, g7, g8, g9⟩ := hS1
    exact hs H1 fun z hz => by rw [g8 z (Or.inl hz), h8 z (Or.inl hz)]
  obtain ⟨b, ml, f, h1, h2, h3, h4, h5, h6, h7, h8, h9⟩ := hS1
  have hk1 : ev_isK (ev_lk X H1 n0) 1 = True := by rw [ev_lk_s h3]; exact ev_isK_y
  obtain ⟨b2, r, kd, f2, g1, g2, g3, g4, g5⟩ := hs1
  have hsk : ev_isK (ev_lk X H1 s) 0 = True := by rw [g1]; exact ev_isK_y
  have hA : ev_isA (some (.inl (kd, a, f2))) = True := eq_true ⟨kd, a, f2, rfl, g3⟩
  simp (disch := omega) only [t_J5_append_cf1ce_24, t_J5_append_cf1ce_25, t_J5_append_cf1ce_26, t_J5_append_cf1ce_29, t_J5_append_cf1ce_30, t_J5_putStringAt_47b60_0, t_J5_putStringAt_47b60_1, t_J5_putStringAt_47b60_2, t_J5_putStringAt_47b60_5, t_J5_putStringAt_47b60_6, t_J5_putStringAt_47b60_7, t_J5_putStringAt_47b60_10, t_J5_putStringAt_47b60_11, t_J5_putStringAt_47b60_12, t_J5_putStringAt_47b60_15, t_J0_getBytes_840e7_0, t_J0_getBytes_840e7_1, t_J0_getBytes_840e7_4, t_J0_getBytes_840e7_5, t_J0_getBytes_840e7_8, t_J0_getBytes_840e7_9, t_J0_getBytes_840e7_12, t_J0_getBytes_840e7_13, t_J0_getBytes_840e7_14, t_J0_getBytes_840e7_15, t_J0_getBytes_840e7_16, t_J0_getBytes_840e7_17, t_J0_getBytes_840e7_18, t_J0_getBytes_840e7_21, t_J5_inflateIfNeededFor_a7421_0, t_J5_inflateIfNeededFor_a7421_3, t_J5_inflateIfNeededFor_a7421_6, t_J5_inflateIfNeededFor_a7421_7, t_J5_inflateIfNeededFor_a7421_10, t_J5_inflateIfNeededFor_a7421_11, t_J5_inflateIfNeededFor_a7421_14, t_J5_inflateIfNeededFor_a7421_21, t_J0_coder_7d493_0, t_J0_coder_7d493_3, t_J0_coder_7d493_6, t_J0_coder_7d493_7, t_J0_coder_7d493_10, t_J0_coder_7d493_14, ↓reduceIte, ev_kr_1, ev_kr_0, ev_isK_y, ev_aN_y, true_and, not_true_eq_false, ev_fG_0, ev_fG_1, ev_fG_3, ev_isO_0, ev_isO_1, ev_isO_3, ev_ofN, ev_sl0, ev_nby0, ev_lk_s h3, g1, g2, hA, show ¬ (1 : Int32) = 0 from by decide, not_true_eq_false]
  have hca := nI_clamp (n := a) (by omega)
  have hck := nI_clamp (n := k) (by omega)
  refine t_J0_getBytes_840e7_22.mpr ⟨⟨nI_pos' (by omega), nI_pos' (by omega), Int32.le_refl 0, Nat.le_of_ble_eq_true rfl, ⟨kd, a, f2, g2, g3, g4, by rw [hca, ev_z0]; omega, fun i hi => ?_⟩, 1, N1, _, h4, by decide, rfl, by rw [hca, hck]; omega⟩, ?_⟩
  · rw [hca] at hi
    rw [ev_z0, Nat.zero_add]
    exact g5 i hi
  rw [hca, hck, ev_z0, g2, h4]
  simp (disch := omega) only [t_J4_append_15ec4_5, t_J4_append_15ec4_6, t_J4_append_15ec4_7, t_J5_append_cf1ce_33, t_J5_append_cf1ce_34, t_J5_append_cf1ce_35, t_J5_append_cf1ce_38, t_J5_append_cf1ce_39, t_J5_append_cf1ce_40, t_J5_append_cf1ce_43, t_J5_append_cf1ce_44, t_J5_putStringAt_47b60_18, t_J0_getBytes_840e7_25, t_J0_getBytes_840e7_43, ev_kr_1, ev_kr_0, ev_ft_I, and_true, true_and, ev_fG_3, ev_fS_3, ev_isO_3, ev_lku_n, ev_up_n, ev_aC_y, ev_aF_y, ev_lk_s h3, h3, nI_add]
  have hX : ev_up (ev_up H1 b (.inl (1, N1, va_cpy f2 f 0 k a))) n0 (.inr (1, [.ref b, .int 0, ml, .int (nI (k + a))])) = ev_up (ev_up H1 n0 (.inr (1, [.ref b, .int 0, ml, .int (nI (k + a))]))) b (.inl (1, N1, va_cpy f2 f 0 k a)) := ev_up_c (by omega)
  rw [hX]
  refine c N1 _ n1 q1 (ev_SB_mk h1 h2 h4 (fun i hi => ?_) hm h7 h8 h9) hg
  unfold va_cpy
  split
  · exact g5 _ (by omega)
  · exact h5 _ hi
end S42
end
section
/-! ===== text that is built: made, its length, toString ===== -/
section S43
variable {X : ev_E} {H0 H : ev_M} {n0 k N a b : Nat} {f : Nat → Value} {n q : Nat} {P : ev_O → ev_M → Nat → Nat → Prop}
/-- a builder is made at n (the object itself is there already) -/
theorem S_init (hz : ∀ z, n ≤ z → H z = none) (c : ∀ H1, ev_SB H n 0 16 H1 (n + 2) → P (.inl none) H1 (n + 2) (q + 16)) : ev_ok (ev_TT X) 176 0 [.ref n] [] (ev_up H n (.inr (1, [.null, .int 0, .int 0, .int 0]))) (n + 1) q P := by
  have hp : (0 : Int32) ≤ 16 := by decide
  have hcl : (16 : Int32).toNatClampNeg = 16 := rfl
  have h16 : 16 ≤ 100000 := by omega
  simp (disch := omega) only [t_J4_init_da8c8_0, t_J4_init_da8c8_1, t_J4_init_da8c8_3, t_J4_init_da8c8_6, t_J5_init_d00df_0, t_J5_init_d00df_1, t_J5_init_d00df_4, t_J5_init_d00df_7, t_J5_init_d00df_10, t_J5_init_d00df_11, t_J5_init_d00df_12, t_J5_init_d00df_14, t_J5_init_d00df_17, t_J5_init_d00df_18, t_J5_init_d00df_19, t_J5_init_d00df_22, t_J5_init_d00df_38, ↓reduceIte, ev_kr_0, ev_ft_a, and_true, true_and, ev_fS_0, ev_fS_1, ev_isO_0, ev_isO_1, ev_up_s, ev_up_n, show ¬ (1 : Int32) = 0 from by decide, hp, hcl, h16, ev_up_up, ev_ft_b0]
  refine c _ ⟨n + 1, .int 0, fun _ => .int 0, by omega, by omega, ?_, ?_, fun _ _ => rfl, by omega, by omega, fun z hz' => ?_, fun z hz' => ?_⟩
  · rw [ev_up_s, nI_0]
  · rw [ev_up_n (by omega), ev_up_s]
  · have e1 : ¬ z = n := by
      rcases hz' with h | ⟨h, -⟩
      · omega
      · exact h
    have e2 : ¬ z = n + 1 := by
      rcases hz' with h | ⟨h, c, hc⟩
      · omega
      · intro e
        rw [e, hz (n + 1) (by omega)] at hc
        cases hc
    rw [ev_up_n e1, ev_up_n e2, ev_up_n e1]
  · rw [ev_up_n (by omega), ev_up_n (by omega), ev_up_n (by omega)]; exact hz z (by omega)
theorem S_len (hS : ev_SB H0 n0 k N H n) (c : P (.inl (some (.int (nI k)))) H n q) : ev_ok (ev_TT X) 79 0 [.ref n0] [] H n q P := by
  obtain ⟨b, ml, f, h1, h2, h3, h4, h5, h6, h7, h8, h9⟩ := hS
  simp (disch := omega) only [t_J4_length_8abf5_0, t_J4_length_8abf5_1, t_J4_length_8abf5_4, t_J5_length_8abf5_0, t_J5_length_8abf5_1, t_J5_length_8abf5_4, ev_kr_1, ev_isK_y, true_and, ev_fG_3, ev_isO_3, ev_lk_s h3]
  exact c
theorem S_range (hb : H b = some (.inl (1, N, f))) (hbn : ¬ b = n) (hk : k ≤ N) (hN : N ≤ 3000) (hf : ∀ i, i < N → fits .byte (f i) = true)
    (c : ∀ f', (∀ i, i < k → fits .byte (f' i) = true) → P (.inl (some (.ref n))) (ev_up H n (.inl (1, k, f'))) (n + 1) (q + k)) : ev_ok (ev_TT X) 126 0 [.ref b, .int 0, .int (nI k)] [] H n q P := by
  by_cases hkN : N = k
  · subst hkN
    simp (disch := omega) only [t_J7_copyOfRange_39247_0, t_J7_copyOfRange_39247_1, t_J7_copyOfRange_39247_4, t_J7_copyOfRange_39247_5, t_J7_copyOfRange_39247_6, t_J7_copyOfRange_39247_7, t_J7_copyOfRange_39247_17, ↓reduceIte, ev_aN_y, true_and, not_true_eq_false, ev_ofN, ev_lk_s hb, ev_ofN, ev_isA_1]
    refine t_J7_copyOfRange_39247_18.mpr ⟨⟨Nat.le_of_ble_eq_true rfl, N, f, hb, hf⟩, ?_⟩
    have hA : ev_isAk (some (.inl (1, N, f))) 1 = True := ev_isAk_y
    rw [hb]
    simp (disch := omega) only [t_J7_copyOfRange_39247_21, t_J7_copyOfRange_39247_24, ev_aN_y, true_and, ev_up_s, ev_aC_y, ev_aF_y, ev_aN_y, hA]
    exact c f hf
  · have hne : ¬ nI k = nI N := fun e => by rw [nI_eq (by omega) (by omega)] at e; omega
    have hp := nI_pos' (n := k) (by omega)
    have hcl := nI_clamp (n := k) (by omega)
    have hk2 : k ≤ 100000 := by omega
    have hlt : nI k < nI N := nI_lt (by omega) (by omega)
    simp (disch := omega) only [t_J7_copyOfRange_39247_0, t_J7_copyOfRange_39247_1, t_J7_copyOfRange_39247_4, t_J7_copyOfRange_39247_5, t_J7_copyOfRange_39247_6, t_J7_copyOfRange_39247_7, t_J7_copyOfRange_39247_10, t_J7_copyOfRange_39247_11, t_J7_copyOfRange_39247_12, t_J7_copyOfRange_39247_13, t_J7_copyOfRangeByte_39247_0, t_J7_copyOfRangeByte_39247_1, t_J7_copyOfRangeByte_39247_2, t_J7_copyOfRangeByte_39247_5, t_J7_copyOfRangeByte_39247_6, t_J7_copyOfRangeByte_39247_7, t_J7_copyOfRangeByte_39247_8, t_J7_copyOfRangeByte_39247_9, t_J7_copyOfRangeByte_39247_10, t_J7_copyOfRangeByte_39247_12, t_J7_copyOfRangeByte_39247_14, t_J7_copyOfRangeByte_39247_15, t_J7_copyOfRangeByte_39247_16, t_J7_copyOfRangeByte_39247_18, t_J7_copyOfRangeByte_39247_19, t_J7_copyOfRangeByte_39247_20, t_J7_copyOfRangeByte_39247_21, t_J7_copyOfRangeByte_39247_22, t_J7_copyOfRangeByte_39247_23, t_J7_copyOfRangeByte_39247_24, t_J7_checkLength_df160_0, t_J7_checkLength_df160_1, t_J7_checkLength_df160_2, t_J7_checkLength_df160_37, t_J9_min_7cf53_0, t_J9_min_7cf53_1, t_J9_min_7cf53_2, t_J9_min_7cf53_9, t_J9_min_7cf53_10, ↓reduceIte, ev_k_i, ev_kr_1, ev_kr_0, ev_aN_y, and_true, true_and, not_true_eq_false, ev_ofN, ev_lku_n, ev_lk_s hb, ev_ofN, ev_isA_1, hne, hp, hcl, hk2, hlt, Int32.sub_zero]
    refine t_J7_copyOfRangeByte_39247_27.mpr ⟨⟨nI_pos' (by omega), Int32.le_refl 0, Int32.le_refl 0, Nat.le_of_ble_eq_true rfl, ⟨1, N, f, ev_lk_s ((ev_up_n hbn).trans hb), by decide, rfl, by rw [hcl, ev_z0]; omega, fun i hi => ?_⟩, 1, k, _, ev_up_s, by decide, rfl, by rw [hcl, ev_z0]; omega⟩, ?_⟩
    · rw [hcl] at hi
      rw [ev_z0, Nat.zero_add]
      exact hf i (by omega)
    rw [hcl, ev_z0, ev_lk_s ((ev_up_n hbn).trans hb), ev_up_s]
    simp (disch := omega) only [t_J7_copyOfRange_39247_16, t_J7_copyOfRangeByte_39247_30, t_J7_copyOfRangeByte_39247_32, ev_kr_1, ev_up_up, ev_aC_y, ev_aF_y]
    refine c _ fun i hi => ?_
    unfold va_cpy
    split
    · exact hf _ (by omega)
    · rfl
theorem S_toString (hS : ev_SB H0 n0 k N H n) (c : ∀ H1, ev_St X H1 n k → (∀ z, z < n0 → H1 z = H0 z) → (∀ z, n + 2 ≤ z → H1 z = none) → P (.inl (some (.ref n))) H1 (n + 2) (q + 4 + k)) : ev_ok (ev_TT X) 273 0 [.ref n0] [] H n q P := by
  obtain ⟨b, ml, f, h1, h2, h3, h4, h5, h6, h7, h8, h9⟩ := hS
  have hk1 : ev_isK (ev_lk X H n0) 1 = True := by rw [ev_lk_s h3]; exact ev_isK_y
  have hn0 : ¬ n0 = n := by omega
  have hbn : ¬ b = n := by omega
  have h3' : ev_lk X (ev_up H n (.inr (0, [.null, .int 0, .int 0, .int 0]))) n0 = some (.inr (1, [.ref b, .int 0, ml, .int (nI k)])) := by rw [ev_lku_n hn0]; exact ev_lk_s h3
  have h3'' := fun c => (ev_up_n (h := H) (c := c) hn0).trans h3
  have hl := fun (c : ev_C) P n q => S_lat (X := X) (P := P) (n := n) (q := q) (h3'' c)
  simp (disch := omega) only [t_J4_toString_0e30d_0, t_J4_toString_0e30d_3, t_J4_toString_0e30d_4, t_J4_toString_0e30d_5, t_J0_init_81219_0, t_J0_init_81219_1, t_J0_init_81219_2, t_J0_init_81219_3, t_J0_init_db425_0, t_J0_init_db425_1, t_J0_init_db425_4, t_J0_init_db425_5, t_J0_init_db425_8, t_J0_init_db425_9, t_J0_init_db425_10, t_J0_init_db425_13, t_J0_init_db425_15, t_J0_init_db425_16, t_J0_init_db425_19, t_J0_init_db425_22, t_J0_init_db425_23, t_J0_init_db425_24, t_J0_init_db425_27, t_J0_init_db425_28, t_J0_init_db425_29, t_J0_init_db425_30, t_J0_init_db425_32, t_J5_length_8abf5_0, t_J5_length_8abf5_1, t_J5_length_8abf5_4, t_J4_length_8abf5_0, t_J4_length_8abf5_1, t_J4_length_8abf5_4, t_J5_getValue_6d5f1_0, t_J5_getValue_6d5f1_1, t_J5_getValue_6d5f1_4, ↓reduceIte, ev_k_r, ev_k_n, ev_kr_1, ev_isK_y, and_true, true_and, ev_fG_0, ev_fG_3, ev_fS_1, ev_isO_0, ev_isO_1, ev_isO_3, ev_up_s, h3', hl, show ¬ (1 : Int32) = 0 from by decide, ev_ft_b0]
  refine S_range (b := b) (N := N) (f := f) (by rw [ev_up_n hbn, ev_up_n hbn]; exact h4) (by omega) h6 (by omega) h5 fun f' hf' => ?_
  simp (disch := omega) only [t_J4_toString_0e30d_8, t_J0_init_81219_6, t_J0_init_db425_35, t_J0_init_db425_38, t_J0_init_db425_97, ev_kr_1, ev_kr_0, ev_ft_a, and_true, true_and, ev_fS_0, ev_isO_0, ev_up_s, ev_up_n]
  refine c _ ⟨n + 1, [.int 0, .int 0], 1, f', ?_, ?_, by decide, rfl, hf'⟩ (fun z hz => ?_) (fun z hz => ?_)
  · rw [ev_lku_s]
  · rw [ev_lku_n (by omega), ev_lku_s]
  · rw [ev_up_n (by omega), ev_up_n (by omega), ev_up_n (by omega), ev_up_n (by omega)]; exact h8 z (Or.inl hz)
  · rw [ev_up_n (by omega), ev_up_n (by omega), ev_up_n (by omega), ev_up_n (by omega)]; exact h9 z (by omega)
end S43
end
section
/-! ===== the class: text of a row ===== -/
theorem ev_SB_fr {H0 H : ev_M} {n0 k N n : Nat} (h : ev_SB H0 n0 k N H n) : ∀ z, z < n0 → H z = H0 z := by
  obtain ⟨b, ml, f, h1, h2, h3, h4, h5, h6, h7, h8, h9⟩ := h
  exact fun z hz => h8 z (Or.inl hz)
theorem ev_SB_fo {H0 H : ev_M} {n0 k N n : Nat} (h : ev_SB H0 n0 k N H n) : ∀ z c, ¬ z = n0 → H0 z = some (.inr c) → H z = some (.inr c) := by
  obtain ⟨b, ml, f, h1, h2, h3, h4, h5, h6, h7, h8, h9⟩ := h
  exact fun z c hz hc => (h8 z (Or.inr ⟨hz, c, hc⟩)).trans hc
theorem ev_SB_hi {H0 H : ev_M} {n0 k N n : Nat} (h : ev_SB H0 n0 k N H n) : ∀ z, n ≤ z → H z = none := by
  obtain ⟨b, ml, f, h1, h2, h3, h4, h5, h6, h7, h8, h9⟩ := h
  exact h9
theorem ev_SB_lt {H0 H : ev_M} {n0 k N n : Nat} (h : ev_SB H0 n0 k N H n) : n0 + 1 < n := by
  obtain ⟨b, ml, f, h1, h2, h3, h4, h5, h6, h7, h8, h9⟩ := h
  omega
theorem ev_SB_k {X : ev_E} {H0 H : ev_M} {n0 k N n : Nat} (h : ev_SB H0 n0 k N H n) : ev_isK (ev_lk X H n0) 1 = True := by
  obtain ⟨b, ml, f, h1, h2, h3, h4, h5, h6, h7, h8, h9⟩ := h
  rw [ev_lk_s h3]; exact ev_isK_y
theorem ev_SB_low {X : ev_E} {H0 H : ev_M} {n0 k N n : Nat} (h : ev_SB H0 n0 k N H n) (hb : X.1.heap.size ≤ n0) (hw : ev_low X H0) : ev_low X H := fun a ha => (ev_SB_fr h a (by omega)).trans (hw a ha)
def okV (L : ev_PL) : Prop := ∀ x ∈ L, x.2 ∈ (List.range 100).map nI
theorem okL_at {L : ev_PL} (h : okL L) {j : Nat} (hj : j < L.length) : ∃ a, a < 20 ∧ (pf_at L j).1 = nI a := by
  have e : pf_at L j = L[j] := by
    unfold pf_at
    rw [List.getD_eq_getElem?_getD, List.getElem?_eq_getElem hj]; rfl
  rw [e]
  obtain ⟨a, ha, h2⟩ := List.mem_map.mp (h.2 _ (List.getElem_mem hj))
  exact ⟨a, List.mem_range.mp ha, h2.symm⟩
theorem okV_at {L : ev_PL} (h : okV L) {j : Nat} (hj : j < L.length) : ∃ a, a < 100 ∧ (pf_at L j).2 = nI a := by
  have e : pf_at L j = L[j] := by
    unfold pf_at
    rw [List.getD_eq_getElem?_getD, List.getElem?_eq_getElem hj]; rfl
  rw [e]
  obtain ⟨a, ha, h2⟩ := List.mem_map.mp (h _ (List.getElem_mem hj))
  exact ⟨a, List.mem_range.mp ha, h2.symm⟩
section S44
variable {X : ev_E} {H0 H : ev_M} {n0 k N r w i : Nat} {L : ev_PL} {b m lm ll : Int32} {kf vf : Nat → Int32} {n q : Nat} {P : ev_O → ev_M → Nat → Nat → Prop}
theorem W_item0 (hD : ev_DG X) (hb : X.1.heap.size ≤ n0) (hw0 : ev_low X H0) (hrn : r + 2 < n0) (e0 : ev_row H0 r kf vf L.length b m lm ll = H0) (hkv : ev_RL kf vf L) (hL : okL L) (hS : ev_SB H0 n0 k N H n) (hk : k ≤ 140) (hi : i < L.length) (hl : L.length ≤ 20)
    (c : ∀ k1 N1 H1 n1 q1, ev_SB H0 n0 k1 N1 H1 n1 → k1 ≤ k + 5 → n1 ≤ n + 3 → q ≤ q1 ∧ q1 + 2 * N ≤ q + 2 * N1 → N ≤ N1 → N1 ≤ max N 300 → ev_ok (ev_TT X) 285 72 [.ref r, .int (nI 0), .ref n0, .int (nI i)] [] H1 n1 q1 P) : ev_ok (ev_TT X) 285 29 [.ref r, .int (nI 0), .ref n0, .int (nI i)] [] H n q P := by
  have hr0 : ∀ H n k N, ev_SB H0 n0 k N H n → ev_lk X H r = some (.inr (7, [.ref (r + 1), .ref (r + 2), .int (nI L.length), .int b, .int m, .int lm, .int ll])) := fun H n k N h => ev_lk_s ((ev_SB_fr h r (by omega)).trans ((congrFun e0 r).symm.trans ev_row_0))
  have hr1 : ∀ H n k N, ev_SB H0 n0 k N H n → ev_lk X H (r + 1) = some (.inl (0, 20, fun i => .int (kf i))) := fun H n k N h => ev_lk_s ((ev_SB_fr h _ (by omega)).trans ((congrFun e0 _).symm.trans ev_row_1))
  have hr2 : ∀ H n k N, ev_SB H0 n0 k N H n → ev_lk X H (r + 2) = some (.inl (0, 20, fun i => .int (vf i))) := fun H n k N h => ev_lk_s ((ev_SB_fr h _ (by omega)).trans ((congrFun e0 _).symm.trans ev_row_2))
  have hp := nI_pos' (n := i) (by omega)
  have hcl := nI_clamp (n := i) (by omega)
  have hi20 : i < 20 := by omega
  have hat := ev_RL_at hkv hi
  obtain ⟨ka, hka, hke⟩ := okL_at hL hi
  have hkf : kf i = nI ka := hat.1.trans hke
  simp (disch := omega) only [t_X2_written_29, t_X2_written_30, t_X2_written_31, t_X2_written_34, t_X2_written_35, t_X2_written_36, t_X2_written_39, t_X2_written_40, t_X2_written_41, ↓reduceIte, ev_aG_y, ev_inA_0, and_true, true_and, ev_fG_0, ev_isO_0, hp, hcl, hi20, ev_inA_0, hkf, show nI 0 = 0 from rfl, show ¬ (0 : Int32) = 1 from by decide, hr0 _ _ _ _ hS, hr1 _ _ _ _ hS, ev_SB_k (X := X) hS]
  have hd1 := ev_dg_b ka
  refine S_int hD hb (ev_SB_low hS hb hw0) hS (by omega) (by omega) fun N1 H1 n1 q1 hS1 hg1 => ?_
  unfold ev_gr at hg1
  have hC := c _ N1 H1 n1 q1 hS1 (by omega) (by omega) (by omega) (by omega) (by omega)
  simp (disch := omega) only [t_X2_written_44, t_X2_written_45, t_X2_written_46, t_X2_written_47, t_X2_written_57, t_X2_written_58, ↓reduceIte, ev_kr_1, not_false_eq_true, show nI 0 = 0 from rfl, show ¬ (0 : Int32) = 2 from by decide] at hC ⊢
  exact hC
theorem W_item1 (hD : ev_DG X) (hb : X.1.heap.size ≤ n0) (hw0 : ev_low X H0) (hrn : r + 2 < n0) (e0 : ev_row H0 r kf vf L.length b m lm ll = H0) (hkv : ev_RL kf vf L) (hL : okL L) (hV : okV L) (hS : ev_SB H0 n0 k N H n) (hk : k ≤ 140) (hi : i < L.length) (hl : L.length ≤ 20)
    (c : ∀ k1 N1 H1 n1 q1, ev_SB H0 n0 k1 N1 H1 n1 → k1 ≤ k + 5 → n1 ≤ n + 3 → q ≤ q1 ∧ q1 + 2 * N ≤ q + 2 * N1 → N ≤ N1 → N1 ≤ max N 300 → ev_ok (ev_TT X) 285 72 [.ref r, .int (nI 1), .ref n0, .int (nI i)] [] H1 n1 q1 P) : ev_ok (ev_TT X) 285 29 [.ref r, .int (nI 1), .ref n0, .int (nI i)] [] H n q P := by
  have hr0 : ∀ H n k N, ev_SB H0 n0 k N H n → ev_lk X H r = some (.inr (7, [.ref (r + 1), .ref (r + 2), .int (nI L.length), .int b, .int m, .int lm, .int ll])) := fun H n k N h => ev_lk_s ((ev_SB_fr h r (by omega)).trans ((congrFun e0 r).symm.trans ev_row_0))
  have hr1 : ∀ H n k N, ev_SB H0 n0 k N H n → ev_lk X H (r + 1) = some (.inl (0, 20, fun i => .int (kf i))) := fun H n k N h => ev_lk_s ((ev_SB_fr h _ (by omega)).trans ((congrFun e0 _).symm.trans ev_row_1))
  have hr2 : ∀ H n k N, ev_SB H0 n0 k N H n → ev_lk X H (r + 2) = some (.inl (0, 20, fun i => .int (vf i))) := fun H n k N h => ev_lk_s ((ev_SB_fr h _ (by omega)).trans ((congrFun e0 _).symm.trans ev_row_2))
  have hp := nI_pos' (n := i) (by omega)
  have hcl := nI_clamp (n := i) (by omega)
  have hi20 : i < 20 := by omega
  have hat := ev_RL_at hkv hi
  obtain ⟨ka, hka, hke⟩ := okL_at hL hi
  have hkf : kf i = nI ka := hat.1.trans hke
  obtain ⟨va, hva, hve⟩ := okV_at hV hi
  have hvf : vf i = nI va := hat.2.trans hve
  simp (disch := omega) only [t_X2_written_29, t_X2_written_30, t_X2_written_31, t_X2_written_45, t_X2_written_46, t_X2_written_47, t_X2_written_57, t_X2_written_58, t_X2_written_61, t_X2_written_62, t_X2_written_63, t_X2_written_66, t_X2_written_67, t_X2_written_68, ↓reduceIte, ev_aG_y, ev_inA_0, and_true, true_and, not_false_eq_true, ev_fG_1, ev_isO_1, hp, hcl, hi20, ev_inA_0, hvf, show nI 1 = 1 from rfl, show ¬ (1 : Int32) = 2 from by decide, show ¬ (1 : Int32) = 0 from by decide, hr0 _ _ _ _ hS, hr2 _ _ _ _ hS, ev_SB_k (X := X) hS]
  have hd1 := ev_dg_b va
  refine S_int hD hb (ev_SB_low hS hb hw0) hS (by omega) (by omega) fun N1 H1 n1 q1 hS1 hg1 => ?_
  unfold ev_gr at hg1
  have hC := c _ N1 H1 n1 q1 hS1 (by omega) (by omega) (by omega) (by omega) (by omega)
  simp (disch := omega) only [t_X2_written_71, ev_kr_1, show nI 1 = 1 from rfl] at hC ⊢
  exact hC
theorem W_item2 (hD : ev_DG X) (hb : X.1.heap.size ≤ n0) (hw0 : ev_low X H0) (hrn : r + 2 < n0) (e0 : ev_row H0 r kf vf L.length b m lm ll = H0) (hkv : ev_RL kf vf L) (hL : okL L) (hV : okV L) (hS : ev_SB H0 n0 k N H n) (hk : k ≤ 140) (hi : i < L.length) (hl : L.length ≤ 20)
    (c : ∀ k1 N1 H1 n1 q1, ev_SB H0 n0 k1 N1 H1 n1 → k1 ≤ k + 5 → n1 ≤ n + 3 → q ≤ q1 ∧ q1 + 2 * N ≤ q + 2 * N1 → N ≤ N1 → N1 ≤ max N 300 → ev_ok (ev_TT X) 285 72 [.ref r, .int (nI 2), .ref n0, .int (nI i)] [] H1 n1 q1 P) : ev_ok (ev_TT X) 285 29 [.ref r, .int (nI 2), .ref n0, .int (nI i)] [] H n q P := by
  have hr0 : ∀ H n k N, ev_SB H0 n0 k N H n → ev_lk X H r = some (.inr (7, [.ref (r + 1), .ref (r + 2), .int (nI L.length), .int b, .int m, .int lm, .int ll])) := fun H n k N h => ev_lk_s ((ev_SB_fr h r (by omega)).trans ((congrFun e0 r).symm.trans ev_row_0))
  have hr1 : ∀ H n k N, ev_SB H0 n0 k N H n → ev_lk X H (r + 1) = some (.inl (0, 20, fun i => .int (kf i))) := fun H n k N h => ev_lk_s ((ev_SB_fr h _ (by omega)).trans ((congrFun e0 _).symm.trans ev_row_1))
  have hr2 : ∀ H n k N, ev_SB H0 n0 k N H n → ev_lk X H (r + 2) = some (.inl (0, 20, fun i => .int (vf i))) := fun H n k N h => ev_lk_s ((ev_SB_fr h _ (by omega)).trans ((congrFun e0 _).symm.trans ev_row_2))
  have hp := nI_pos' (n := i) (by omega)
  have hcl := nI_clamp (n := i) (by omega)
  have hi20 : i < 20 := by omega
  have hat := ev_RL_at hkv hi
  obtain ⟨ka, hka, hke⟩ := okL_at hL hi
  have hkf : kf i = nI ka := hat.1.trans hke
  obtain ⟨va, hva, hve⟩ := okV_at hV hi
  have hvf : vf i = nI va := hat.2.trans hve
  simp (disch := omega) only [t_X2_written_29, t_X2_written_30, t_X2_written_31, t_X2_written_34, t_X2_written_35, t_X2_written_36, t_X2_written_39, t_X2_written_40, t_X2_written_41, ↓reduceIte, ev_aG_y, ev_inA_0, and_true, true_and, ev_fG_0, ev_isO_0, hp, hcl, hi20, ev_inA_0, hkf, show nI 2 = 2 from rfl, show ¬ (2 : Int32) = 1 from by decide, hr0 _ _ _ _ hS, hr1 _ _ _ _ hS, ev_SB_k (X := X) hS]
  have hd1 := ev_dg_b ka
  refine S_int hD hb (ev_SB_low hS hb hw0) hS (by omega) (by omega) fun N1 H1 n1 q1 hS1 hg1 => ?_
  unfold ev_gr at hg1
  simp (disch := omega) only [t_X2_written_44, t_X2_written_45, t_X2_written_46, t_X2_written_47, t_X2_written_50, t_X2_written_51, t_X2_written_53, ↓reduceIte, ev_kr_1, true_and, not_true_eq_false, not_true_eq_false, ev_SB_k (X := X) hS1]
  refine S_chr61 hS1 (by omega) fun N2 H2 n2 q2 hS2 hg2 => ?_
  unfold ev_gr at hg2
  simp (disch := omega) only [t_X2_written_56, t_X2_written_57, t_X2_written_58, t_X2_written_61, t_X2_written_62, t_X2_written_63, t_X2_written_66, t_X2_written_67, t_X2_written_68, ↓reduceIte, ev_kr_1, ev_aG_y, ev_inA_0, and_true, true_and, ev_fG_1, ev_isO_1, hp, hcl, hi20, ev_inA_0, hvf, show ¬ (2 : Int32) = 0 from by decide, hr0 _ _ _ _ hS2, hr2 _ _ _ _ hS2, ev_SB_k (X := X) hS2]
  have hd3 := ev_dg_b va
  refine S_int hD hb (ev_SB_low hS2 hb hw0) hS2 (by omega) (by omega) fun N3 H3 n3 q3 hS3 hg3 => ?_
  unfold ev_gr at hg3
  have hC := c _ N3 H3 n3 q3 hS3 (by omega) (by omega) (by omega) (by omega) (by omega)
  simp (disch := omega) only [t_X2_written_71, ev_kr_1, show nI 2 = 2 from rfl] at hC ⊢
  exact hC
theorem W_loop (hD : ev_DG X) (hb : X.1.heap.size ≤ n0) (hw0 : ev_low X H0) (hrn : r + 2 < n0) (e0 : ev_row H0 r kf vf L.length b m lm ll = H0) (hkv : ev_RL kf vf L) (hL : okL L) (hw3 : w < 3) (hV : w ≠ 0 → okV L) (hl : L.length ≤ 20) {n9 q9 : Nat}
    (c : ∀ k1 N1 H1 n1 q1, ev_SB H0 n0 k1 N1 H1 n1 → k1 ≤ 120 → n1 ≤ n9 + 80 → q9 ≤ q1 ∧ q1 ≤ q9 + 2 * N1 → N1 ≤ 300 → ev_ok (ev_TT X) 285 78 [.ref r, .int (nI w), .ref n0, .int (nI L.length)] [] H1 n1 q1 P) :
    ∀ (d i k N : Nat) (H : ev_M) (n q : Nat), i + d = L.length → ev_SB H0 n0 k N H n → k ≤ 6 * i → n ≤ n9 + 4 * i → q9 ≤ q ∧ q ≤ q9 + 2 * N → N ≤ 300 → ev_ok (ev_TT X) 285 10 [.ref r, .int (nI w), .ref n0, .int (nI i)] [] H n q P := by
  intro d
  induction d with
  | zero =>
    intro i k N H n q hi hS hk hn hq hN
    have e : i = L.length := by omega
    subst e
    have h0 : ev_lk X H r = some (.inr (7, [.ref (r + 1), .ref (r + 2), .int (nI L.length), .int b, .int m, .int lm, .int ll])) := ev_lk_s ((ev_SB_fr hS r (by omega)).trans ((congrFun e0 r).symm.trans ev_row_0))
    have hle : nI L.length ≤ nI L.length := Int32.le_refl _
    have hC := c k N H n q hS (by omega) (by omega) hq hN
    simp (disch := omega) only [t_X2_written_10, t_X2_written_11, t_X2_written_12, t_X2_written_15, ↓reduceIte, true_and, ev_fG_2, ev_isO_2, h0, hle]
    exact hC
  | succ d ih =>
    intro i k N H n q hi hS hk hn hq hN
    have hil : i < L.length := by omega
    have h0 : ∀ H n k N, ev_SB H0 n0 k N H n → ev_lk X H r = some (.inr (7, [.ref (r + 1), .ref (r + 2), .int (nI L.length), .int b, .int m, .int lm, .int ll])) := fun H n k N h => ev_lk_s ((ev_SB_fr h r (by omega)).trans ((congrFun e0 r).symm.trans ev_row_0))
    have hlt : ¬ nI L.length ≤ nI i := nI_ge hil (by omega)
    have key : ∀ k N H n q, ev_SB H0 n0 k N H n → k ≤ 6 * i + 1 → n ≤ n9 + 4 * i + 1 → q9 ≤ q ∧ q ≤ q9 + 2 * N → N ≤ 300 → ev_ok (ev_TT X) 285 29 [.ref r, .int (nI w), .ref n0, .int (nI i)] [] H n q P := by
      intro k N H n q hS hk hn hq hN
      have hT : ∀ k1 N1 H1 n1 q1, ev_SB H0 n0 k1 N1 H1 n1 → k1 ≤ k + 5 → n1 ≤ n + 3 → q ≤ q1 ∧ q1 + 2 * N ≤ q + 2 * N1 → N ≤ N1 → N1 ≤ max N 300 → ev_ok (ev_TT X) 285 72 [.ref r, .int (nI w), .ref n0, .int (nI i)] [] H1 n1 q1 P := by
        intro k1 N1 H1 n1 q1 g1 g2 g3 g4 g5 g6
        have hI := ih (i + 1) k1 N1 H1 n1 q1 (by omega) g1 (by omega) (by omega) (by omega) (by omega)
        simp (disch := omega) only [t_X2_written_72, t_X2_written_75, ev_k_r, nI_1]
        exact hI
      have hw' : w = 0 ∨ w = 1 ∨ w = 2 := by omega
      rcases hw' with rfl | rfl | rfl
      · exact W_item0 hD hb hw0 hrn e0 hkv hL hS (by omega) hil hl hT
      · exact W_item1 hD hb hw0 hrn e0 hkv hL (hV (by omega)) hS (by omega) hil hl hT
      · exact W_item2 hD hb hw0 hrn e0 hkv hL (hV (by omega)) hS (by omega) hil hl hT
    by_cases hz : i = 0
    · subst hz
      have hK := key k N H n q hS (by omega) (by omega) hq hN
      have h00 : nI 0 ≤ 0 := by decide
      rw [t_X2_written_10]
      simp (disch := omega) only [t_X2_written_11, t_X2_written_12, t_X2_written_15, t_X2_written_18, t_X2_written_19, ↓reduceIte, true_and, ev_fG_2, ev_isO_2, h0 _ _ _ _ hS, hlt, h00]
      exact hK
    · have hz' : ¬ nI i ≤ 0 := nI_nle (by omega) (by omega)
      rw [t_X2_written_10]
      simp (disch := omega) only [t_X2_written_11, t_X2_written_12, t_X2_written_15, t_X2_written_18, t_X2_written_19, t_X2_written_22, t_X2_written_23, t_X2_written_25, ↓reduceIte, true_and, ev_fG_2, ev_isO_2, h0 _ _ _ _ hS, hlt, hz', ev_SB_k (X := X) hS]
      refine S_chr32 hS (by omega) fun N1 H1 n1 q1 hS1 hg => ?_
      unfold ev_gr at hg
      have hK := key (k + 1) N1 H1 n1 q1 hS1 (by omega) (by omega) (by omega) (by omega)
      simp (disch := omega) only [t_X2_written_28, ev_kr_1]
      exact hK
theorem R_written (hD : ev_DG X) (hb : X.1.heap.size ≤ n) (hw0 : ev_low X H) (hrn : r + 2 < n) (hH : ev_rL H r L b m lm ll H) (hL : okL L) (hw3 : w < 3) (hV : w ≠ 0 → okV L) (hz : ∀ z, n ≤ z → H z = none)
    (c : ∀ H1 s k n1 q1, ev_St X H1 s k → n ≤ s → s < n1 → k ≤ 120 → (∀ z, z < n → H1 z = H z) → (∀ z, n1 ≤ z → H1 z = none) → n ≤ n1 → n1 ≤ n + 90 → q ≤ q1 → q1 ≤ q + 800 → P (.inl (some (.ref s))) H1 n1 q1) : ev_ok (ev_TT X) 285 0 [.ref r, .int (nI w), ev_J, ev_J] [] H n q P := by
  obtain ⟨kf, vf, hkv, e0⟩ := hH
  have hl := okL_len hL
  simp (disch := omega) only [t_X2_written_0, t_X2_written_3, t_X2_written_4]
  refine S_init hz fun H1 hS => ?_
  simp (disch := omega) only [t_X2_written_7, t_X2_written_8, t_X2_written_9, ev_k_i, ev_k_r, ev_kr_0]
  have hN := W_loop (X := X) (P := P) (q9 := q) (n9 := n + 2) hD hb hw0 hrn e0.symm hkv hL hw3 hV hl (fun k1 N1 H1 n1 q1 g1 g2 g3 g4 g5 => ?_) L.length 0 0 16 H1 (n + 2) (q + 4 + 16) (by omega) hS (by omega) (by omega) (by omega) (by omega)
  · rw [nI_0] at hN
    exact hN
  · simp (disch := omega) only [t_X2_written_78, t_X2_written_79, true_and, ev_SB_k (X := X) g1]
    refine S_toString g1 fun H2 g6 g7 g8 => ?_
    simp (disch := omega) only [t_X2_written_82, ev_kr_1]
    have := ev_SB_lt g1
    exact c H2 n1 k1 (n1 + 2) _ g6 (by omega) (by omega) g2 g7 g8 (by omega) (by omega) (by omega) (by omega)
end S44
end
section
/-! ===== the class: copy ===== -/
section S45
variable {X : ev_E} {h H : ev_M} {r o c cr : Nat} {kf vf ko vo : Nat → Int32} {b m lm ll bo mo lmo llo : Int32} {L LO : ev_PL} {n q : Nat} {P : ev_O → ev_M → Nat → Nat → Prop}
theorem r_become (hc : c ≤ 20) (hap : r + 2 < o ∨ o + 2 < r) (h0 : h o = some (.inr (7, [.ref (o + 1), .ref (o + 2), .int (nI c), .int bo, .int mo, .int lmo, .int llo]))) (h1 : h (o + 1) = some (.inl (0, 20, fun i => .int (ko i)))) (h2 : h (o + 2) = some (.inl (0, 20, fun i => .int (vo i)))) (k : ∀ kf1 vf1, (∀ j, j < c → kf1 j = ko j ∧ vf1 j = vo j) → P (.inl none) (ev_row h r kf1 vf1 c 0 (-1) 0 (-1)) n q) : ev_ok (ev_TT X) 140 0 [.ref r, .ref o, ev_J, ev_J] [] (ev_row h r kf vf cr b m lm ll) n q P := by
  have hA0 : ∀ kf vf c' b m lm ll, ev_lk X (ev_row h r kf vf c' b m lm ll) o = some (.inr (7, [.ref (o + 1), .ref (o + 2), .int (nI c), .int bo, .int mo, .int lmo, .int llo])) := fun _ _ _ _ _ _ _ => ev_lk_s ((ev_row_o (by omega) (by omega) (by omega)).trans h0)
  have hA1 : ∀ kf vf c' b m lm ll, ev_lk X (ev_row h r kf vf c' b m lm ll) (o + 1) = some (.inl (0, 20, fun i => .int (ko i))) := fun _ _ _ _ _ _ _ => ev_lk_s ((ev_row_o (by omega) (by omega) (by omega)).trans h1)
  have hA2 : ∀ kf vf c' b m lm ll, ev_lk X (ev_row h r kf vf c' b m lm ll) (o + 2) = some (.inl (0, 20, fun i => .int (vo i))) := fun _ _ _ _ _ _ _ => ev_lk_s ((ev_row_o (by omega) (by omega) (by omega)).trans h2)
  have key : ∀ d i kf vf, i + d = c → (∀ j, j < i → kf j = ko j ∧ vf j = vo j) → ev_ok (ev_TT X) 140 14 [.ref r, .ref o, .int (nI c), .int (nI i)] [] (ev_row h r kf vf 0 0 (-1) 0 (-1)) n q P := by
    intro d
    induction d with
    | zero =>
      intro i kf vf hi hj
      have hi2 : c ≤ i := by omega
      simp (disch := omega) only [t_X2_become_14, t_X2_become_15, t_X2_become_16, t_X2_become_49, t_X2_become_50, t_X2_become_51, t_X2_become_54, ↓reduceIte, ev_ft_I, and_true, true_and, ev_fS_2, ev_isO_2, ev_row_0, ev_row_u0, nI_leI, hi2]
      exact k _ _ fun j hjc => hj j (by omega)
    | succ d ih =>
      intro i kf vf hi hj
      have hi2 : ¬ c ≤ i := by omega
      have hp := nI_pos' (n := i) (by omega)
      have h20 : i < 20 := by omega
      have hI := ih (i + 1) (ev_fu kf i (ko i)) (ev_fu vf i (vo i)) (by omega) (fun j hjc => ?_)
      · rw [t_X2_become_14]
        simp (disch := omega) only [t_X2_become_15, t_X2_become_16, t_X2_become_19, t_X2_become_20, t_X2_become_23, t_X2_become_24, t_X2_become_25, t_X2_become_28, t_X2_become_29, t_X2_become_30, t_X2_become_31, t_X2_become_32, t_X2_become_35, t_X2_become_36, t_X2_become_37, t_X2_become_40, t_X2_become_41, t_X2_become_42, t_X2_become_43, t_X2_become_46, ↓reduceIte, ev_k_i, ev_aG_y, ev_aS_y, ev_inA_0, and_true, true_and, nI_1, ev_fG_0, ev_fG_1, ev_isO_0, ev_isO_1, ev_row_1, ev_row_2, ev_row_l0, ev_row_u1, ev_row_u2, nI_leI, hi2, nI_clamp, hp, h20, hA0, hA1, hA2]
        exact hI
      · unfold ev_fu
        by_cases e : j = i
        · rw [if_pos e, if_pos e, e]
          exact ⟨rfl, rfl⟩
        · rw [if_neg e, if_neg e]
          exact hj j (by omega)
  have h9 := key c 0 kf vf (by omega) (fun j hj => absurd hj (Nat.not_lt_zero j))
  rw [nI_0] at h9
  have hrn := fun kf vf c' b m lm ll P n q => @r_renew X h r kf vf c' b m lm ll n q P 0 (-1) ev_isB_0
  simp (disch := omega) only [t_X2_become_0, t_X2_become_1, t_X2_become_4, t_X2_become_5, t_X2_become_6, t_X2_become_7, t_X2_become_8, t_X2_become_11_i, t_X2_become_12, t_X2_become_13, ev_k_i, ev_k_r, ev_kr_1, ev_isK_y, true_and, ev_fG_2, ev_isO_2, ev_row_l0, hrn, hA0]
  exact h9
theorem r_become_self (hc : c ≤ 20) (hs : ∀ j, j < c → kf j = ko j ∧ vf j = vo j) (k : ∀ kf1 vf1, (∀ j, j < c → kf1 j = ko j ∧ vf1 j = vo j) → P (.inl none) (ev_row h r kf1 vf1 c 0 (-1) 0 (-1)) n q) : ev_ok (ev_TT X) 140 0 [.ref r, .ref r, ev_J, ev_J] [] (ev_row h r kf vf c b m lm ll) n q P := by
  have key : ∀ d i kf vf, i + d = c → (∀ j, j < c → kf j = ko j ∧ vf j = vo j) → ev_ok (ev_TT X) 140 14 [.ref r, .ref r, .int (nI c), .int (nI i)] [] (ev_row h r kf vf 0 0 (-1) 0 (-1)) n q P := by
    intro d
    induction d with
    | zero =>
      intro i kf vf hi hj
      have hi2 : c ≤ i := by omega
      simp (disch := omega) only [t_X2_become_14, t_X2_become_15, t_X2_become_16, t_X2_become_49, t_X2_become_50, t_X2_become_51, t_X2_become_54, ↓reduceIte, ev_ft_I, and_true, true_and, ev_fS_2, ev_isO_2, ev_row_0, ev_row_u0, nI_leI, hi2]
      exact k _ _ fun j hjc => hj j (by omega)
    | succ d ih =>
      intro i kf vf hi hj
      have hi2 : ¬ c ≤ i := by omega
      have hp := nI_pos' (n := i) (by omega)
      have h20 : i < 20 := by omega
      have hI := ih (i + 1) (ev_fu kf i (kf i)) (ev_fu vf i (vf i)) (by omega) (fun j hjc => ?_)
      · rw [t_X2_become_14]
        simp (disch := omega) only [t_X2_become_15, t_X2_become_16, t_X2_become_19, t_X2_become_20, t_X2_become_23, t_X2_become_24, t_X2_become_25, t_X2_become_28, t_X2_become_29, t_X2_become_30, t_X2_become_31, t_X2_become_32, t_X2_become_35, t_X2_become_36, t_X2_become_37, t_X2_become_40, t_X2_become_41, t_X2_become_42, t_X2_become_43, t_X2_become_46, ↓reduceIte, ev_k_i, ev_aG_y, ev_aS_y, ev_inA_0, and_true, true_and, nI_1, ev_fG_0, ev_fG_1, ev_isO_0, ev_isO_1, ev_row_1, ev_row_2, ev_row_l0, ev_row_l1, ev_row_l2, ev_row_u1, ev_row_u2, nI_leI, hi2, nI_clamp, hp, h20]
        exact hI
      · unfold ev_fu
        by_cases e : j = i
        · rw [if_pos e, if_pos e, e]
          exact hj i (by omega)
        · rw [if_neg e, if_neg e]
          exact hj j (by omega)
  have h9 := key c 0 kf vf (by omega) hs
  rw [nI_0] at h9
  have hrn := fun kf vf c' b m lm ll P n q => @r_renew X h r kf vf c' b m lm ll n q P 0 (-1) ev_isB_0
  simp (disch := omega) only [t_X2_become_0, t_X2_become_1, t_X2_become_4, t_X2_become_5, t_X2_become_6, t_X2_become_7, t_X2_become_8, t_X2_become_11_i, t_X2_become_12, t_X2_become_13, ev_k_i, ev_k_r, ev_kr_1, ev_isK_y, true_and, ev_fG_2, ev_isO_2, ev_row_l0, hrn]
  exact h9
theorem R_become (hH : ev_rL h r L b m lm ll H) (hO : ev_rL H o LO bo mo lmo llo H) (hap : r + 2 < o ∨ o + 2 < r) (hl : LO.length ≤ 20) (k : ∀ H1, ev_rL h r LO 0 (-1) 0 (-1) H1 → P (.inl none) H1 n q) : ev_ok (ev_TT X) 140 0 [.ref r, .ref o, ev_J, ev_J] [] H n q P := by
  obtain ⟨kf, vf, h1, rfl⟩ := hH
  obtain ⟨ko, vo, h2, e⟩ := hO
  have e0 := (ev_row_o (h := h) (r := r) (kf := kf) (vf := vf) (c := L.length) (b := b) (m := m) (lm := lm) (ll := ll) (a := o) (by omega) (by omega) (by omega)).symm.trans ((congrFun e o).trans ev_row_0)
  have e1 := (ev_row_o (h := h) (r := r) (kf := kf) (vf := vf) (c := L.length) (b := b) (m := m) (lm := lm) (ll := ll) (a := o + 1) (by omega) (by omega) (by omega)).symm.trans ((congrFun e (o + 1)).trans ev_row_1)
  have e2 := (ev_row_o (h := h) (r := r) (kf := kf) (vf := vf) (c := L.length) (b := b) (m := m) (lm := lm) (ll := ll) (a := o + 2) (by omega) (by omega) (by omega)).symm.trans ((congrFun e (o + 2)).trans ev_row_2)
  refine r_become hl hap e0 e1 e2 fun kf1 vf1 hj => k _ ⟨kf1, vf1, fun i x hx => ?_, rfl⟩
  have hi := (List.getElem?_eq_some_iff.mp hx).1
  rw [(hj i hi).1, (hj i hi).2]
  exact h2 i x hx
theorem R_become_self (hH : ev_rL h r L b m lm ll H) (hl : L.length ≤ 20) (k : ∀ H1, ev_rL h r L 0 (-1) 0 (-1) H1 → P (.inl none) H1 n q) : ev_ok (ev_TT X) 140 0 [.ref r, .ref r, ev_J, ev_J] [] H n q P := by
  obtain ⟨kf, vf, h1, rfl⟩ := hH
  refine r_become_self (ko := kf) (vo := vf) hl (fun j _ => ⟨rfl, rfl⟩) fun kf1 vf1 hj => k _ ⟨kf1, vf1, fun i x hx => ?_, rfl⟩
  have hi := (List.getElem?_eq_some_iff.mp hx).1
  rw [(hj i hi).1, (hj i hi).2]
  exact h1 i x hx
end S45
section C45
variable {X : ev_E} {x : Nat} {G : ev_CS} {H : ev_M} {n q : Nat} {P : ev_O → ev_M → Nat → Nat → Prop}
theorem C_copy (hc : c_all x G H) (hG : okG G) {t u : Int32} (k0 : t < 0 ∨ nI 4 ≤ t → P (.inr 0) H (n + 1) (q + 6))
    (k1 : ∀ i, i < 4 → t = nI i → (u < 0 ∨ nI 4 ≤ u) → P (.inr 0) H (n + 1) (q + 6))
    (k2 : ∀ i j, i < 4 → t = nI i → j < 4 → u = nI j → ∀ H1, c_all x (pg_T G j (ps_row (G.1 j) (G.1 i).1 0 (-1) 0 (-1))) H1 → c_fr x H H1 → P (.inl (some (.int (nI (G.1 i).1.length)))) H1 n q) : ev_ok (ev_TT X) 198 0 [.ref x, .int t, .int u, ev_J, ev_J] [] H n q P := by
  have hk := c_all_k (X := X) hc
  rcases pk_ix t (n := 4) (by omega) with h | h | ⟨i, hi, rfl⟩
  · simp (disch := omega) only [t_X5_copy_0, t_X5_copy_1, t_X5_copy_2, x_X5_copy_2, true_and, hk, C_tableOf_n (Or.inl h)]
    exact k0 (Or.inl h)
  · simp (disch := omega) only [t_X5_copy_0, t_X5_copy_1, t_X5_copy_2, x_X5_copy_2, true_and, hk, C_tableOf_n (Or.inr h)]
    exact k0 (Or.inr h)
  · rcases pk_ix u (n := 4) (by omega) with h | h | ⟨j, hj, rfl⟩
    · simp (disch := omega) only [t_X5_copy_0, t_X5_copy_1, t_X5_copy_2, t_X5_copy_5, t_X5_copy_6, t_X5_copy_7, t_X5_copy_8, x_X5_copy_8, ev_k_i, ev_kr_1, true_and, hk, C_tableOf_y hc hi, C_tableOf_n (Or.inl h)]
      exact k1 i hi rfl (Or.inl h)
    · simp (disch := omega) only [t_X5_copy_0, t_X5_copy_1, t_X5_copy_2, t_X5_copy_5, t_X5_copy_6, t_X5_copy_7, t_X5_copy_8, x_X5_copy_8, ev_k_i, ev_kr_1, true_and, hk, C_tableOf_y hc hi, C_tableOf_n (Or.inr h)]
      exact k1 i hi rfl (Or.inr h)
    · obtain ⟨h1, h2, h3⟩ := hc.2.2.2.2.2.2.1 j hj
      obtain ⟨g1, g2, g3⟩ := hc.2.2.2.2.2.2.1 i hi
      have hT := hG.1 i hi
      unfold ev_tbc at h1 g1
      have h3k : ev_isK (ev_lk X H (x + 14 + 5 * j + 3)) 9 = True := by rw [ev_lk_s h3]; exact ev_isK_y
      have hii := fun P n q => C_tableOf_y (X := X) (P := P) (n := n) (q := q) hc hi
      simp (disch := omega) only [t_X5_copy_0, t_X5_copy_1, t_X5_copy_2, t_X5_copy_5, t_X5_copy_6, t_X5_copy_7, t_X5_copy_8, t_X5_copy_11, t_X5_copy_13, t_X5_copy_15, t_X5_copy_18, ev_k_i, ev_k_r, ev_kr_1, true_and, ev_fG_1, ev_isO_1, hk, hii, C_tableOf_y hc hj, ev_lk_s h1, h3k]
      refine W_outdate h3 ?_
      have h1' := fun c => (ev_up_n (h := H) (a := x + 14 + 5 * j + 3) (b := x + 13 + 5 * j) (c := c) (by omega)).trans h1
      have g1' := fun c => (ev_up_n (h := H) (a := x + 14 + 5 * j + 3) (b := x + 13 + 5 * i) (c := c) (by omega)).trans g1
      have h2' := ev_rL_up (a := x + 14 + 5 * j + 3) (c := (ev_wkc (x + 14 + 5 * j) (G.1 j).2.2.1.1 true (G.1 j).2.2.1.2.2 (G.1 j).2.2.2.1 (G.1 j).2.2.2.2)) h2 (by omega) (by omega) (by omega)
      have g2' := ev_rL_up (a := x + 14 + 5 * j + 3) (c := (ev_wkc (x + 14 + 5 * j) (G.1 j).2.2.1.1 true (G.1 j).2.2.1.2.2 (G.1 j).2.2.2.1 (G.1 j).2.2.2.2)) g2 (by omega) (by omega) (by omega)
      have h2k := ev_rL_k (X := X) h2'
      simp (disch := omega) only [t_X5_copy_21, t_X5_copy_23, t_X5_copy_26, t_X5_copy_27, t_X5_copy_30, ev_kr_0, true_and, ev_fG_0, ev_isO_0, ev_lk_s (h1' _), ev_lk_s (g1' _), h2k]
      have hfin : ∀ H1, ev_rL (ev_up H (x + 14 + 5 * j + 3) (ev_wkc (x + 14 + 5 * j) (G.1 j).2.2.1.1 true (G.1 j).2.2.1.2.2 (G.1 j).2.2.2.1 (G.1 j).2.2.2.2)) (x + 14 + 5 * j) (G.1 i).1 0 (-1) 0 (-1) H1 → ev_ok (ev_TT X) 198 33 [.ref x, .int (nI i), .int (nI j), .ref (x + 13 + 5 * i), .ref (x + 13 + 5 * j)] [] H1 n q P := by
        intro H1 hH1
        have hE := c_tab_row hc hj hH1
        have e1 : H1 (x + 13 + 5 * j) = some (.inr (8, [.ref (x + 14 + 5 * j), .ref (x + 14 + 5 * j + 3)])) := (ev_rL_o hH1 (by omega) (by omega) (by omega)).trans (h1' _)
        have e2 := (ev_rL_b (X := X) hH1).2.1
        simp (disch := omega) only [t_X5_copy_33, t_X5_copy_35, t_X5_copy_38, t_X5_copy_41, true_and, ev_fG_0, ev_isO_0, ev_lk_s e1, e2.1, e2.2]
        exact k2 i j hi rfl hj rfl H1 hE.1 hE.2
      by_cases hij : i = j
      · subst hij
        refine R_become_self h2' (okL_len hT.1) fun H1 hH1 => ?_
        have hF := hfin H1 hH1
        simp (disch := omega) only [ev_kr_0]
        exact hF
      · refine R_become h2' (ev_rL_self g2') (by omega) (okL_len hT.1) fun H1 hH1 => ?_
        have hF := hfin H1 hH1
        simp (disch := omega) only [ev_kr_0]
        exact hF
end C45
end
section
/-! ===== the class: texts, the house ===== -/
section C46
variable {X : ev_E} {x : Nat} {G : ev_CS} {H : ev_M} {n q : Nat} {P : ev_O → ev_M → Nat → Nat → Prop}
/-- what a text leaves: a new text, nothing else changed, little room used -/
def ev_txt (X : ev_E) (H : ev_M) (n q : Nat) (P : ev_O → ev_M → Nat → Nat → Prop) : Prop := ∀ H1 s k n1 q1, ev_St X H1 s k → n ≤ s → s < n1 → k ≤ 120 → (∀ z, z < n → H1 z = H z) → (∀ z, n1 ≤ z → H1 z = none) → n ≤ n1 → n1 ≤ n + 90 → q ≤ q1 → q1 ≤ q + 800 → P (.inl (some (.ref s))) H1 n1 q1
theorem C_text (hc : c_all x G H) (hG : okG G) (hV : ∀ i, i < 4 → okV (G.1 i).1) (hD : ev_DG X) (hb : X.1.heap.size ≤ x) (hw0 : ev_low X H) (hxn : x + 57 ≤ n) (hz : ∀ z, n ≤ z → H z = none) {t w : Int32} (k0 : t < 0 ∨ nI 4 ≤ t → P (.inr 0) H (n + 1) (q + 6))
    (k1 : ∀ i, i < 4 → t = nI i → (w < 0 ∨ nI 3 ≤ w) → P (.inr 1) H (n + 1) (q + 6))
    (k2 : ∀ i a, i < 4 → t = nI i → a < 3 → w = nI a → ev_txt X H n q P) : ev_ok (ev_TT X) 300 0 [.ref x, .int t, .int w, ev_J] [] H n q P := by
  have hk := c_all_k (X := X) hc
  rcases pk_ix t (n := 4) (by omega) with h | h | ⟨i, hi, rfl⟩
  · simp (disch := omega) only [t_X5_text_0, t_X5_text_1, t_X5_text_2, x_X5_text_2, true_and, hk, C_tableOf_n (Or.inl h)]
    exact k0 (Or.inl h)
  · simp (disch := omega) only [t_X5_text_0, t_X5_text_1, t_X5_text_2, x_X5_text_2, true_and, hk, C_tableOf_n (Or.inr h)]
    exact k0 (Or.inr h)
  · rcases pk_ix w (n := 3) (by omega) with h | h | ⟨a, ha, rfl⟩
    · simp (disch := omega) only [t_X5_text_0, t_X5_text_1, t_X5_text_2, t_X5_text_5, t_X5_text_6, t_X5_text_7, x_X5_text_7, ev_k_i, ev_kr_1, true_and, hk, C_tableOf_y hc hi, C_dWalk_n (Or.inl h)]
      exact k1 i hi rfl (Or.inl h)
    · simp (disch := omega) only [t_X5_text_0, t_X5_text_1, t_X5_text_2, t_X5_text_5, t_X5_text_6, t_X5_text_7, x_X5_text_7, ev_k_i, ev_kr_1, true_and, hk, C_tableOf_y hc hi, C_dWalk_n (Or.inr h)]
      exact k1 i hi rfl (Or.inr h)
    · obtain ⟨h1, h2, h3⟩ := hc.2.2.2.2.2.2.1 i hi
      have hT := hG.1 i hi
      unfold ev_tbc at h1
      have h2k := ev_rL_k (X := X) h2
      simp (disch := omega) only [t_X5_text_0, t_X5_text_1, t_X5_text_2, t_X5_text_5, t_X5_text_6, t_X5_text_7, t_X5_text_10, t_X5_text_11, t_X5_text_14, t_X5_text_15, ev_k_i, ev_kr_1, ev_kr_0, true_and, ev_fG_0, ev_isO_0, hk, C_tableOf_y hc hi, C_dWalk_y ha, ev_lk_s h1, h2k]
      refine R_written hD (by omega) hw0 (by omega) h2 hT.1 ha (fun _ => hV i hi) hz fun H1 s k n1 q1 g1 g2 g3 g4 g5 g6 g7 g8 g9 g10 => ?_
      simp (disch := omega) only [t_X5_text_18, ev_kr_1]
      exact k2 i a hi rfl ha rfl H1 s k n1 q1 g1 g2 g3 g4 g5 g6 g7 g8 g9 g10
theorem C_stack (hc : c_all x G H) (hG : okG G) (hD : ev_DG X) (hb : X.1.heap.size ≤ x) (hw0 : ev_low X H) (hxn : x + 57 ≤ n) (hz : ∀ z, n ≤ z → H z = none) (k2 : ev_txt X H n q P) : ev_ok (ev_TT X) 299 0 [.ref x] [] H n q P := by
  have h0 := hc.1
  unfold c_top at h0
  have h2 := hc.2.2.2.1
  have h2k := ev_rL_k (X := X) h2
  simp (disch := omega) only [t_X5_stack_0, t_X5_stack_1, t_X5_stack_4, t_X5_stack_5, true_and, ev_fG_2, ev_isO_2, ev_lk_s h0, h2k]
  rw [← nI_0]
  refine R_written hD (by omega) hw0 (by omega) h2 hG.2.1 (by omega) (fun z => absurd rfl z) hz fun H1 s k n1 q1 g1 g2 g3 g4 g5 g6 g7 g8 g9 g10 => ?_
  simp (disch := omega) only [t_X5_stack_8, ev_kr_1]
  exact k2 H1 s k n1 q1 g1 g2 g3 g4 g5 g6 g7 g8 g9 g10
theorem C_kept (hc : c_all x G H) (hG : okG G) (hD : ev_DG X) (hb : X.1.heap.size ≤ x) (hw0 : ev_low X H) (hxn : x + 57 ≤ n) (hz : ∀ z, n ≤ z → H z = none) {s : Int32} (k0 : s < 1 ∨ 6 < s → P (.inr 1) H (n + 1) (q + 6)) (k2 : ∀ j, j < 6 → s = nI (j + 1) → ev_txt X H n q P) : ev_ok (ev_TT X) 298 0 [.ref x, .int s] [] H n q P := by
  have hk := c_all_k (X := X) hc
  rcases ev_sz s with h | ⟨j, hj, rfl⟩
  · simp (disch := omega) only [t_X5_kept_0, t_X5_kept_1, t_X5_kept_2, x_X5_kept_2, true_and, hk, C_keeperOf_n h]
    exact k0 h
  · obtain ⟨h1, h2⟩ := hc.2.2.2.2.2.2.2 j hj
    unfold ev_kec at h1
    have h2k := ev_rL_k (X := X) h2
    simp (disch := omega) only [t_X5_kept_0, t_X5_kept_1, t_X5_kept_2, t_X5_kept_5, t_X5_kept_8, t_X5_kept_9, ev_kr_1, true_and, ev_fG_0, ev_isO_0, hk, C_keeperOf_y hc hj, ev_lk_s h1, h2k]
    rw [← nI_0]
    refine R_written hD (by omega) hw0 (by omega) h2 (hG.2.2.1 j hj) (by omega) (fun z => absurd rfl z) hz fun H1 s k n1 q1 g1 g2 g3 g4 g5 g6 g7 g8 g9 g10 => ?_
    simp (disch := omega) only [t_X5_kept_12, ev_kr_1]
    exact k2 j hj rfl H1 s k n1 q1 g1 g2 g3 g4 g5 g6 g7 g8 g9 g10
def pt_cnt (G : ev_CS) : Nat → Nat
  | 0 => 0
  | i + 1 => pt_cnt G i + (G.1 i).1.length
theorem C_pairs (hc : c_all x G H) (k : P (.inl (some (.int (nI (pt_cnt G 4))))) H n q) : ev_ok (ev_TT X) 57 0 [.ref x, ev_J, ev_J, ev_J, ev_J, ev_J] [] H n q P := by
  have h0 := hc.1
  unfold c_top at h0
  obtain ⟨f, hf, hf4⟩ := hc.2.1
  have key : ∀ d i w, i + d = 4 → ev_ok (ev_TT X) 57 13 [.ref x, .int (nI (pt_cnt G i)), .ref (x + 1), .int (nI 4), .int (nI i), w] [] H n q P := by
    intro d
    induction d with
    | zero =>
      intro i w hi
      have hi2 : 4 ≤ i := by omega
      have e : i = 4 := by omega
      subst e
      simp (disch := omega) only [t_X5_pairsOfTables_13, t_X5_pairsOfTables_15, t_X5_pairsOfTables_16, t_X5_pairsOfTables_42, t_X5_pairsOfTables_43, ↓reduceIte, nI_leI, hi2]
      exact k
    | succ d ih =>
      intro i w hi
      have hi4 : i < 4 := by omega
      have hi2 : ¬ 4 ≤ i := by omega
      have hp := nI_pos' (n := i) (by omega)
      have hfi := hf4 i hi4
      obtain ⟨h1, h2, h3⟩ := hc.2.2.2.2.2.2.1 i hi4
      unfold ev_tbc at h1
      have h2b := (ev_rL_b (X := X) h2).2.1
      have hI := ih (i + 1) (.ref (x + 13 + 5 * i)) (by omega)
      have e : nI (pt_cnt G i) + nI (G.1 i).1.length = nI (pt_cnt G (i + 1)) := nI_add _ _
      rw [t_X5_pairsOfTables_13]
      simp (disch := omega) only [t_X5_pairsOfTables_15, t_X5_pairsOfTables_16, t_X5_pairsOfTables_19, t_X5_pairsOfTables_20, t_X5_pairsOfTables_22, t_X5_pairsOfTables_23, t_X5_pairsOfTables_25, t_X5_pairsOfTables_26, t_X5_pairsOfTables_28, t_X5_pairsOfTables_31, t_X5_pairsOfTables_34, t_X5_pairsOfTables_35, t_X5_pairsOfTables_36, t_X5_pairsOfTables_39, ↓reduceIte, ev_k_i, ev_k_r, ev_aG_y, and_true, true_and, nI_1, ev_fG_0, ev_isO_0, nI_leI, hi2, nI_clamp, hp, hi4, ev_lk_s hf, hfi, ev_inA_3, ev_lk_s h1, h2b.1, h2b.2, e]
      exact hI
  have h9 := key 4 0 ev_J (by omega)
  have e0 : pt_cnt G 0 = 0 := rfl
  rw [e0, nI_0] at h9
  simp (disch := omega) only [t_X5_pairsOfTables_0, t_X5_pairsOfTables_1, t_X5_pairsOfTables_2, t_X5_pairsOfTables_3, t_X5_pairsOfTables_6, t_X5_pairsOfTables_7, t_X5_pairsOfTables_8, t_X5_pairsOfTables_9, t_X5_pairsOfTables_10, t_X5_pairsOfTables_11, ev_k_i, ev_k_r, ev_aN_y, true_and, ev_fG_0, ev_isO_0, ev_ofN, ev_lk_s h0, ev_lk_s hf, ev_isA_3, ev_ofN]
  exact h9
def ph_of (G : ev_CS) (a : Nat) : Int32 := if a = 0 then nI (pt_cnt G 4) else if a = 1 then nI G.2.2.2.1.2.2 else if a = 2 then nI G.2.1.1.length else if a = 3 then G.2.2.2.2.1 else G.2.2.2.2.2
theorem C_house (hc : c_all x G H) {w : Int32} (k0 : (w < 0 ∨ nI 5 ≤ w) → P (.inr 1) H (n + 1) (q + 6)) (k2 : ∀ a, a < 5 → w = nI a → P (.inl (some (.int (ph_of G a)))) H n q) : ev_ok (ev_TT X) 105 0 [.ref x, .int w] [] H n q P := by
  have hk := c_all_k (X := X) hc
  have h0 := hc.1
  unfold c_top at h0
  have h1 := c_ask0 hc
  have h2b := (ev_rL_b (X := X) hc.2.2.2.1).2.1
  rcases or_assoc.mpr (pk_ix w (n := 5) (by omega)) with h | ⟨a, ha, rfl⟩
  · have hs : w.toInt < (0) ∨ (0) + ((([36, 41, 49, 57, 62] : List Nat).length : Nat) : Int) ≤ w.toInt := ev_swn (n := 5) (by omega) h
    simp (disch := omega) only [t_X5_house_0, t_X5_house_1, t_X5_house_67, ↓reduceIte, hs]
    exact k0 h
  · have hK := k2 a ha rfl
    have ha' : a = 0 ∨ a = 1 ∨ a = 2 ∨ a = 3 ∨ a = 4 := by omega
    rcases ha' with rfl | rfl | rfl | rfl | rfl

    · have hs : (if (nI 0).toInt < (0) ∨ (0) + ((([36, 41, 49, 57, 62] : List Nat).length : Nat) : Int) ≤ (nI 0).toInt then 67 else ([36, 41, 49, 57, 62] : List Nat).getD ((nI 0).toInt - (0)).toNat 67) = 36 := by decide
      simp (disch := omega) only [t_X5_house_0, t_X5_house_1, t_X5_house_36, t_X5_house_37, ev_isK_y, true_and, hs, ev_lk_s h0]
      refine C_pairs hc ?_
      simp (disch := omega) only [t_X5_house_40, ev_kr_1]
      exact hK
    · have hs : (if (nI 1).toInt < (0) ∨ (0) + ((([36, 41, 49, 57, 62] : List Nat).length : Nat) : Int) ≤ (nI 1).toInt then 67 else ([36, 41, 49, 57, 62] : List Nat).getD ((nI 1).toInt - (0)).toNat 67) = 41 := by decide
      simp (disch := omega) only [t_X5_house_0, t_X5_house_1, t_X5_house_41, t_X5_house_42, t_X5_house_45, t_X5_house_48, true_and, ev_fG_1, ev_fG_5, ev_isO_1, ev_isO_5, hs, ev_lk_s h0, ev_lk_s h1]
      exact hK
    · have hs : (if (nI 2).toInt < (0) ∨ (0) + ((([36, 41, 49, 57, 62] : List Nat).length : Nat) : Int) ≤ (nI 2).toInt then 67 else ([36, 41, 49, 57, 62] : List Nat).getD ((nI 2).toInt - (0)).toNat 67) = 49 := by decide
      simp (disch := omega) only [t_X5_house_0, t_X5_house_1, t_X5_house_49, t_X5_house_50, t_X5_house_53, t_X5_house_56, true_and, ev_fG_2, ev_isO_2, hs, ev_lk_s h0, h2b.1, h2b.2]
      exact hK
    · have hs : (if (nI 3).toInt < (0) ∨ (0) + ((([36, 41, 49, 57, 62] : List Nat).length : Nat) : Int) ≤ (nI 3).toInt then 67 else ([36, 41, 49, 57, 62] : List Nat).getD ((nI 3).toInt - (0)).toNat 67) = 57 := by decide
      simp (disch := omega) only [t_X5_house_0, t_X5_house_1, t_X5_house_57, t_X5_house_58, t_X5_house_61, true_and, ev_fG_5, ev_isO_5, hs, ev_lk_s h0]
      exact hK
    · have hs : (if (nI 4).toInt < (0) ∨ (0) + ((([36, 41, 49, 57, 62] : List Nat).length : Nat) : Int) ≤ (nI 4).toInt then 67 else ([36, 41, 49, 57, 62] : List Nat).getD ((nI 4).toInt - (0)).toNat 67) = 62 := by decide
      simp (disch := omega) only [t_X5_house_0, t_X5_house_1, t_X5_house_62, t_X5_house_63, t_X5_house_66, true_and, ev_fG_6, ev_isO_6, hs, ev_lk_s h0]
      exact hK
end C46
end
section
/-! ===== the class: isSound, answer left open ===== -/
section S47
variable {X : ev_E} {h H : ev_M} {r o : Nat} {b m lm ll bo mo lmo llo : Int32} {L LO : ev_PL} {n q : Nat} {P : ev_O → ev_M → Nat → Nat → Prop}
theorem R_lastOf (hH : ev_rL h r L b m lm ll H) (hO : ev_rL H o LO bo mo lmo llo H) (hl : L.length ≤ 20) (hlo : LO.length ≤ 20) (c : ∀ v, ev_isB v → P (.inl (some (.int v))) H n q) : ev_ok (ev_TT X) 93 0 [.ref r, .ref o, ev_J, ev_J] [] H n q P := by
  obtain ⟨kf, vf, h1, e⟩ := hH
  obtain ⟨ko, vo, h2, eo⟩ := hO
  have r0 : ev_lk X H r = _ := ev_lk_s ((congrFun e r).trans ev_row_0)
  have r1 : ev_lk X H (r + 1) = _ := ev_lk_s ((congrFun e (r + 1)).trans ev_row_1)
  have o0 : ev_lk X H o = _ := ev_lk_s ((congrFun eo o).trans ev_row_0)
  have o1 : ev_lk X H (o + 1) = _ := ev_lk_s ((congrFun eo (o + 1)).trans ev_row_1)
  have hmin := fun x y P n q => @r_min X n q P x y H
  by_cases hE : nI L.length = (if nI LO.length < m then nI LO.length else m)
  · have hle : L.length ≤ LO.length := by
      have h3 : nI L.length ≤ nI LO.length := by
        rw [hE]
        split
        · exact Int32.le_refl _
        · rename_i h4
          exact Int32.not_lt.mp h4
      exact (nI_leI (by omega) (by omega)).mp h3
    have hs : nI LO.length - nI L.length = nI (LO.length - L.length) := pk_sub hle
    have key : ∀ d i, i + d = L.length → ev_ok (ev_TT X) 93 32 [.ref r, .ref o, .int (nI (LO.length - L.length)), .int (nI i)] [] H n q P := by
      intro d
      induction d with
      | zero =>
        intro i hi
        have hi2 : L.length ≤ i := by omega
        simp (disch := omega) only [t_X2_isLastOf_32, t_X2_isLastOf_33, t_X2_isLastOf_34, t_X2_isLastOf_37, t_X2_isLastOf_65, t_X2_isLastOf_66, ↓reduceIte, ev_nb_1, true_and, ev_fG_2, ev_isO_2, r0, nI_leI, hi2]
        exact c _ ev_isB_1
      | succ d ih =>
        intro i hi
        have hi2 : ¬ L.length ≤ i := by omega
        have hp := nI_pos' (n := i) (by omega)
        have hp2 := nI_pos' (n := LO.length - L.length + i) (by omega)
        have h20 : i < 20 := by omega
        have h21 : LO.length - L.length + i < 20 := by omega
        have hI := ih (i + 1) (by omega)
        rw [t_X2_isLastOf_32]
        simp (disch := omega) only [t_X2_isLastOf_33, t_X2_isLastOf_34, t_X2_isLastOf_37, t_X2_isLastOf_40, t_X2_isLastOf_41, t_X2_isLastOf_44, t_X2_isLastOf_45, t_X2_isLastOf_46, t_X2_isLastOf_47, t_X2_isLastOf_50, t_X2_isLastOf_51, t_X2_isLastOf_52, t_X2_isLastOf_53, t_X2_isLastOf_54, t_X2_isLastOf_57, t_X2_isLastOf_58, t_X2_isLastOf_59, t_X2_isLastOf_62, ↓reduceIte, ev_k_i, ev_aG_y, ev_inA_0, ev_nb_0, and_true, true_and, nI_1, ev_fG_0, ev_fG_2, ev_isO_0, ev_isO_2, r0, r1, o0, o1, nI_leI, hi2, hp, hp2, h20, h21, nI_add, nI_clamp]
        split <;> (first | exact c _ ev_isB_0 | exact c _ ev_isB_1 | exact hI)
    have h9 := key L.length 0 (by omega)
    rw [nI_0] at h9
    simp (disch := omega) only [t_X2_isLastOf_0, t_X2_isLastOf_1, t_X2_isLastOf_4, t_X2_isLastOf_5, t_X2_isLastOf_8, t_X2_isLastOf_9, t_X2_isLastOf_12, t_X2_isLastOf_15, t_X2_isLastOf_20, t_X2_isLastOf_21, t_X2_isLastOf_24, t_X2_isLastOf_25, t_X2_isLastOf_28, t_X2_isLastOf_29, t_X2_isLastOf_30, t_X2_isLastOf_31, ↓reduceIte, ev_k_i, ev_k_r, ev_kr_1, true_and, ev_fG_2, ev_fG_4, ev_isO_2, ev_isO_4, r0, o0, hmin, hs, ← hE]
    exact h9
  · simp (disch := omega) only [t_X2_isLastOf_0, t_X2_isLastOf_1, t_X2_isLastOf_4, t_X2_isLastOf_5, t_X2_isLastOf_8, t_X2_isLastOf_9, t_X2_isLastOf_12, t_X2_isLastOf_15, t_X2_isLastOf_18, t_X2_isLastOf_19, ↓reduceIte, ev_kr_1, ev_nb_0, true_and, ev_fG_2, ev_fG_4, ev_isO_2, ev_isO_4, r0, o0, hmin, hE]
    exact c _ ev_isB_0
end S47
section C47
variable {X : ev_E} {x : Nat} {G : ev_CS} {H : ev_M} {n q : Nat} {P : ev_O → ev_M → Nat → Nat → Prop}
theorem C_aKeep (hc : c_all x G H) (hG : okG G) (c : ∀ v, ev_isB v → P (.inl (some (.int v))) H n q) : ev_ok (ev_TT X) 146 0 [.ref x, ev_J, ev_J, ev_J, ev_J] [] H n q P := by
  have h0 := hc.1
  unfold c_top at h0
  have hst := hc.2.2.2.1
  have hls := okL_len hG.2.1
  have hG' : ∀ j, j < 6 → (G.2.2.1 j).1.length ≤ 20 := fun j hj => okL_len (hG.2.2.1 j hj)
  have ha0 := c_ask0 hc
  have hak : ev_isK (ev_lk X H (x + 2)) 5 = True := by rw [ev_lk_s ha0]; exact ev_isK_y
  obtain ⟨ne, hk1, hn1, hHa, hN⟩ := hc.2.2.1
  obtain ⟨f, h4, h4b⟩ := hc.2.2.2.2.1
  have key : ∀ d j w, j + d = 6 → ev_ok (ev_TT X) 146 10 [.ref x, .ref (x + 11), .int (nI 6), .int (nI j), w] [] H n q P := by
    intro d
    induction d with
    | zero =>
      intro j w hj
      have hi2 : 6 ≤ j := by omega
      simp (disch := omega) only [t_X5_areKeepersLastOfStack_10, t_X5_areKeepersLastOfStack_11, t_X5_areKeepersLastOfStack_12, t_X5_areKeepersLastOfStack_43, t_X5_areKeepersLastOfStack_44, ↓reduceIte, ev_nb_1, true_and, nI_leI, hi2]
      exact c _ ev_isB_1
    | succ d ih =>
      intro j w hj
      have hj6 : j < 6 := by omega
      have hi2 : ¬ 6 ≤ j := by omega
      have hp := nI_pos' (n := j) (by omega)
      have hf := h4b j hj6
      obtain ⟨h7, h8⟩ := hc.2.2.2.2.2.2.2 j hj6
      unfold ev_kec at h7
      have h8k := ev_rL_k (X := X) h8
      have hI := ih (j + 1) (.ref (x + 33 + 4 * j)) (by omega)
      rw [t_X5_areKeepersLastOfStack_10]
      simp (disch := omega) only [t_X5_areKeepersLastOfStack_11, t_X5_areKeepersLastOfStack_12, t_X5_areKeepersLastOfStack_15, t_X5_areKeepersLastOfStack_16, t_X5_areKeepersLastOfStack_17, t_X5_areKeepersLastOfStack_18, t_X5_areKeepersLastOfStack_20, t_X5_areKeepersLastOfStack_22, t_X5_areKeepersLastOfStack_25, t_X5_areKeepersLastOfStack_26, t_X5_areKeepersLastOfStack_29, ↓reduceIte, ev_k_i, ev_aG_y, and_true, true_and, ev_fG_0, ev_fG_2, ev_isO_0, ev_isO_2, ev_lk_s h0, nI_leI, hi2, nI_clamp, hp, hj6, ev_lk_s h4, hf, ev_inA_4, ev_lk_s h7, h8k]
      refine R_lastOf h8 hst (hG' j hj6) hls fun v hv => ?_
      rcases hv with rfl | rfl
      · simp (disch := omega) only [t_X5_areKeepersLastOfStack_32, t_X5_areKeepersLastOfStack_35, t_X5_areKeepersLastOfStack_36, ↓reduceIte, ev_kr_1, ev_nb_0, true_and, not_true_eq_false]
        exact c _ ev_isB_0
      · simp (disch := omega) only [t_X5_areKeepersLastOfStack_32, t_X5_areKeepersLastOfStack_37, t_X5_areKeepersLastOfStack_40, ↓reduceIte, ev_k_i, ev_kr_1, not_false_eq_true, nI_1, show ¬ (1 : Int32) = 0 from by decide]
        exact hI
  have h9 := key 6 0 ev_J (by omega)
  rw [nI_0] at h9
  simp (disch := omega) only [t_X5_areKeepersLastOfStack_0, t_X5_areKeepersLastOfStack_1, t_X5_areKeepersLastOfStack_4, t_X5_areKeepersLastOfStack_5, t_X5_areKeepersLastOfStack_6, t_X5_areKeepersLastOfStack_7, t_X5_areKeepersLastOfStack_8, t_X5_areKeepersLastOfStack_9, ev_k_i, ev_k_r, ev_aN_y, true_and, ev_fG_3, ev_isO_3, ev_ofN, ev_lk_s h0, ev_lk_s h4, ev_isA_4, ev_ofN]
  exact h9
theorem C_aMiss (hc : c_all x G H) (hG : okG G) (c : ∀ v, ev_isB v → P (.inl (some (.int v))) H n q) : ev_ok (ev_TT X) 99 0 [.ref x, ev_J, ev_J, ev_J, ev_J] [] H n q P := by
  have h0 := hc.1
  unfold c_top at h0
  have hst := hc.2.2.2.1
  have hls := okL_len hG.2.1
  have hG' : ∀ j, j < 6 → (G.2.2.1 j).1.length ≤ 20 := fun j hj => okL_len (hG.2.2.1 j hj)
  have ha0 := c_ask0 hc
  have hak : ev_isK (ev_lk X H (x + 2)) 5 = True := by rw [ev_lk_s ha0]; exact ev_isK_y
  obtain ⟨ne, hk1, hn1, hHa, hN⟩ := hc.2.2.1
  obtain ⟨f, h4, h4b⟩ := hc.2.2.2.2.1
  have key : ∀ d j w, j + d = 6 → ev_ok (ev_TT X) 99 10 [.ref x, .ref (x + 11), .int (nI 6), .int (nI j), w] [] H n q P := by
    intro d
    induction d with
    | zero =>
      intro j w hj
      have hi2 : 6 ≤ j := by omega
      simp (disch := omega) only [t_X5_areMissesByDepth_10, t_X5_areMissesByDepth_11, t_X5_areMissesByDepth_12, t_X5_areMissesByDepth_51, t_X5_areMissesByDepth_52, ↓reduceIte, ev_nb_1, true_and, nI_leI, hi2]
      exact c _ ev_isB_1
    | succ d ih =>
      intro j w hj
      have hj6 : j < 6 := by omega
      have hi2 : ¬ 6 ≤ j := by omega
      have hp := nI_pos' (n := j) (by omega)
      have hf := h4b j hj6
      obtain ⟨h7, h8⟩ := hc.2.2.2.2.2.2.2 j hj6
      unfold ev_kec at h7
      have h8k := ev_rL_k (X := X) h8
      have h8b := (ev_rL_b (X := X) h8).2.2.1
      have hI := ih (j + 1) (.ref (x + 33 + 4 * j)) (by omega)
      rw [t_X5_areMissesByDepth_10]
      simp (disch := omega) only [t_X5_areMissesByDepth_11, t_X5_areMissesByDepth_12, t_X5_areMissesByDepth_15, t_X5_areMissesByDepth_16, t_X5_areMissesByDepth_17, t_X5_areMissesByDepth_18, t_X5_areMissesByDepth_20, t_X5_areMissesByDepth_22, t_X5_areMissesByDepth_25, t_X5_areMissesByDepth_26, t_X5_areMissesByDepth_29, t_X5_areMissesByDepth_31, t_X5_areMissesByDepth_34, t_X5_areMissesByDepth_37, ↓reduceIte, ev_k_i, ev_aG_y, and_true, true_and, ev_fG_0, ev_fG_1, ev_isO_0, ev_isO_1, ev_lk_s h0, nI_leI, hi2, nI_clamp, hp, hj6, ev_lk_s h4, hf, ev_inA_4, ev_lk_s h7, hak, h8b.1, h8b.2]
      rw [hHa]
      refine A_cntO hG.2.2.2 ?_
      rw [← hHa]
      simp (disch := omega) only [t_X5_areMissesByDepth_40, t_X5_areMissesByDepth_43, t_X5_areMissesByDepth_44, t_X5_areMissesByDepth_45, t_X5_areMissesByDepth_48, ev_k_i, ev_kr_1, ev_nb_0, true_and, nI_1]
      split <;> (first | exact c _ ev_isB_0 | exact c _ ev_isB_1 | exact hI)
  have h9 := key 6 0 ev_J (by omega)
  rw [nI_0] at h9
  simp (disch := omega) only [t_X5_areMissesByDepth_0, t_X5_areMissesByDepth_1, t_X5_areMissesByDepth_4, t_X5_areMissesByDepth_5, t_X5_areMissesByDepth_6, t_X5_areMissesByDepth_7, t_X5_areMissesByDepth_8, t_X5_areMissesByDepth_9, ev_k_i, ev_k_r, ev_aN_y, true_and, ev_fG_3, ev_isO_3, ev_ofN, ev_lk_s h0, ev_lk_s h4, ev_isA_4, ev_ofN]
  exact h9
theorem C_aBest (hc : c_all x G H) (c : ∀ v, ev_isB v → P (.inl (some (.int v))) H n q) : ev_ok (ev_TT X) 46 0 [.ref x, ev_J] [] H n q P := by
  have h0 := hc.1
  unfold c_top at h0
  obtain ⟨f, h4, h4b⟩ := hc.2.2.2.2.1
  obtain ⟨be, h5⟩ := hc.2.2.2.2.2.1
  have h6' : (6 : Int32) = nI 6 := rfl
  have key : ∀ d j, j + d = 6 → ev_ok (ev_TT X) 46 2 [.ref x, .int (nI j)] [] H n q P := by
    intro d
    induction d with
    | zero =>
      intro j hj
      have hi2 : 6 ≤ j := by omega
      simp (disch := omega) only [t_X5_areBestsWithinMisses_2, t_X5_areBestsWithinMisses_3, t_X5_areBestsWithinMisses_5, t_X5_areBestsWithinMisses_34, t_X5_areBestsWithinMisses_35, ↓reduceIte, ev_nb_1, true_and, nI_leI, hi2, h6']
      exact c _ ev_isB_1
    | succ d ih =>
      intro j hj
      have hj6 : j < 6 := by omega
      have hi2 : ¬ 6 ≤ j := by omega
      have hp := nI_pos' (n := j) (by omega)
      have hf := h4b j hj6
      obtain ⟨h7, h8⟩ := hc.2.2.2.2.2.2.2 j hj6
      unfold ev_kec at h7
      have hI := ih (j + 1) (by omega)
      rw [t_X5_areBestsWithinMisses_2]
      simp (disch := omega) only [t_X5_areBestsWithinMisses_3, t_X5_areBestsWithinMisses_5, t_X5_areBestsWithinMisses_8, t_X5_areBestsWithinMisses_9, t_X5_areBestsWithinMisses_12, t_X5_areBestsWithinMisses_13, t_X5_areBestsWithinMisses_14, t_X5_areBestsWithinMisses_15, t_X5_areBestsWithinMisses_18, t_X5_areBestsWithinMisses_19, t_X5_areBestsWithinMisses_20, t_X5_areBestsWithinMisses_23, t_X5_areBestsWithinMisses_26, t_X5_areBestsWithinMisses_27, t_X5_areBestsWithinMisses_28, t_X5_areBestsWithinMisses_31, ↓reduceIte, ev_k_r, ev_aG_y, ev_inA_0, ev_nb_0, and_true, true_and, nI_1, ev_fG_1, ev_fG_3, ev_fG_4, ev_isO_1, ev_isO_3, ev_isO_4, h6', nI_leI, hi2, ev_lk_s h0, ev_lk_s h4, ev_lk_s h5, hf, hp, hj6, nI_clamp, ev_inA_4, ev_lk_s h7]
      split <;> (first | exact c _ ev_isB_0 | exact c _ ev_isB_1 | exact hI)
  have h9 := key 6 0 (by omega)
  rw [nI_0] at h9
  simp (disch := omega) only [t_X5_areBestsWithinMisses_0, t_X5_areBestsWithinMisses_1, ev_k_r]
  exact h9
theorem C_aGrow (hc : c_all x G H) (c : ∀ v, ev_isB v → P (.inl (some (.int v))) H n q) : ev_ok (ev_TT X) 53 0 [.ref x, ev_J] [] H n q P := by
  have h0 := hc.1
  unfold c_top at h0
  obtain ⟨f, h4, h4b⟩ := hc.2.2.2.2.1
  obtain ⟨be, h5⟩ := hc.2.2.2.2.2.1
  have h6' : (6 : Int32) = nI 6 := rfl
  have key : ∀ d j, j + d = 5 → ev_ok (ev_TT X) 53 2 [.ref x, .int (nI (j + 1))] [] H n q P := by
    intro d
    induction d with
    | zero =>
      intro j hj
      have hi2 : 6 ≤ j + 1 := by omega
      simp (disch := omega) only [t_X5_isNoneGrowingWithSize_2, t_X5_isNoneGrowingWithSize_3, t_X5_isNoneGrowingWithSize_5, t_X5_isNoneGrowingWithSize_56, t_X5_isNoneGrowingWithSize_57, ↓reduceIte, ev_nb_1, true_and, nI_leI, hi2, h6']
      exact c _ ev_isB_1
    | succ d ih =>
      intro j hj
      have hj6 : j < 6 := by omega
      have hj7 : j + 1 < 6 := by omega
      have hi2 : ¬ 6 ≤ j + 1 := by omega
      have hp := nI_pos' (n := j) (by omega)
      have hp1 := nI_pos' (n := j + 1) (by omega)
      have hf := h4b j hj6
      have hf1 := h4b (j + 1) hj7
      obtain ⟨h7, h8⟩ := hc.2.2.2.2.2.2.2 j hj6
      obtain ⟨h71, h81⟩ := hc.2.2.2.2.2.2.2 (j + 1) hj7
      unfold ev_kec at h7 h71
      have hI := ih (j + 1) (by omega)
      rw [t_X5_isNoneGrowingWithSize_2]
      simp (disch := omega) only [t_X5_isNoneGrowingWithSize_3, t_X5_isNoneGrowingWithSize_5, t_X5_isNoneGrowingWithSize_8, t_X5_isNoneGrowingWithSize_9, t_X5_isNoneGrowingWithSize_12, t_X5_isNoneGrowingWithSize_13, t_X5_isNoneGrowingWithSize_14, t_X5_isNoneGrowingWithSize_17, t_X5_isNoneGrowingWithSize_18, t_X5_isNoneGrowingWithSize_21, t_X5_isNoneGrowingWithSize_22, t_X5_isNoneGrowingWithSize_23, t_X5_isNoneGrowingWithSize_24, t_X5_isNoneGrowingWithSize_25, t_X5_isNoneGrowingWithSize_28, t_X5_isNoneGrowingWithSize_31, t_X5_isNoneGrowingWithSize_32, t_X5_isNoneGrowingWithSize_35, t_X5_isNoneGrowingWithSize_36, t_X5_isNoneGrowingWithSize_37, t_X5_isNoneGrowingWithSize_38, t_X5_isNoneGrowingWithSize_41, t_X5_isNoneGrowingWithSize_42, t_X5_isNoneGrowingWithSize_43, t_X5_isNoneGrowingWithSize_44, t_X5_isNoneGrowingWithSize_45, t_X5_isNoneGrowingWithSize_48, t_X5_isNoneGrowingWithSize_49, t_X5_isNoneGrowingWithSize_50, t_X5_isNoneGrowingWithSize_53, ↓reduceIte, ev_k_r, ev_aG_y, ev_inA_0, ev_nb_0, and_true, true_and, nI_1, ev_fG_1, ev_fG_3, ev_fG_4, ev_isO_1, ev_isO_3, ev_isO_4, h6', nI_pred, nI_leI, hi2, ev_lk_s h0, ev_lk_s h4, ev_lk_s h5, hf, hf1, hp, hp1, hj6, hj7, nI_clamp, ev_inA_4, ev_lk_s h7, ev_lk_s h71]
      split
      · first | exact c _ ev_isB_0 | exact hI
      · split <;> (first | exact c _ ev_isB_0 | exact c _ ev_isB_1 | exact hI)
  have h9 := key 5 0 (by omega)
  rw [show nI (0 + 1) = 1 from rfl] at h9
  simp (disch := omega) only [t_X5_isNoneGrowingWithSize_0, t_X5_isNoneGrowingWithSize_1, ev_k_r]
  exact h9
theorem C_aThm (hc : c_all x G H) (c : ∀ v, ev_isB v → P (.inl (some (.int v))) H n q) : ev_ok (ev_TT X) 54 0 [.ref x, ev_J, ev_J] [] H n q P := by
  have h0 := hc.1
  unfold c_top at h0
  obtain ⟨f, h4, h4b⟩ := hc.2.2.2.2.1
  obtain ⟨be, h5⟩ := hc.2.2.2.2.2.1
  have h6' : (6 : Int32) = nI 6 := rfl
  have key : ∀ d j w, j + d = 6 → ev_ok (ev_TT X) 54 2 [.ref x, .int (nI (j + 1)), w] [] H n q P := by
    intro d
    induction d with
    | zero =>
      intro j w hj
      have hi2 : 6 < j + 1 := by omega
      simp (disch := omega) only [t_X5_isTheoremKept_2, t_X5_isTheoremKept_3, t_X5_isTheoremKept_5, t_X5_isTheoremKept_59, t_X5_isTheoremKept_60, ↓reduceIte, ev_nb_1, true_and, nI_ltI, hi2, h6']
      exact c _ ev_isB_1
    | succ d ih =>
      intro j w hj
      have hj6 : j < 6 := by omega
      have hi2 : ¬ 6 < j + 1 := by omega
      have hp := nI_pos' (n := j) (by omega)
      have hf := h4b j hj6
      obtain ⟨h7, h8⟩ := hc.2.2.2.2.2.2.2 j hj6
      unfold ev_kec at h7
      have inner : ∀ e k, k + e = j + 1 → ev_ok (ev_TT X) 54 10 [.ref x, .int (nI (j + 1)), .int (nI (k + 1))] [] H n q P := by
        intro e
        induction e with
        | zero =>
          intro k hk
          have hi3 : j + 1 < k + 1 := by omega
          have hI := ih (j + 1) (.int (nI (k + 1))) (by omega)
          simp (disch := omega) only [t_X5_isTheoremKept_10, t_X5_isTheoremKept_11, t_X5_isTheoremKept_12, t_X5_isTheoremKept_53, t_X5_isTheoremKept_56, ↓reduceIte, ev_k_r, nI_1, nI_ltI, hi3]
          exact hI
        | succ e ih2 =>
          intro k hk
          have hi3 : ¬ j + 1 < k + 1 := by omega
          have hj7 : k < 6 := by omega
          have hp1 := nI_pos' (n := k) (by omega)
          have hI := ih2 (k + 1) (by omega)
          rw [t_X5_isTheoremKept_10]
          simp (disch := omega) only [t_X5_isTheoremKept_11, t_X5_isTheoremKept_12, t_X5_isTheoremKept_15, t_X5_isTheoremKept_16, t_X5_isTheoremKept_19, t_X5_isTheoremKept_20, t_X5_isTheoremKept_21, t_X5_isTheoremKept_22, t_X5_isTheoremKept_23, t_X5_isTheoremKept_26, t_X5_isTheoremKept_27, t_X5_isTheoremKept_28, t_X5_isTheoremKept_29, t_X5_isTheoremKept_30, t_X5_isTheoremKept_31, t_X5_isTheoremKept_32, t_X5_isTheoremKept_33, t_X5_isTheoremKept_36, t_X5_isTheoremKept_37, t_X5_isTheoremKept_38, t_X5_isTheoremKept_39, t_X5_isTheoremKept_40, t_X5_isTheoremKept_41, t_X5_isTheoremKept_42, t_X5_isTheoremKept_45, t_X5_isTheoremKept_46, t_X5_isTheoremKept_47, t_X5_isTheoremKept_50, ↓reduceIte, ev_k_i, ev_aG_y, ev_inA_0, ev_nb_0, and_true, true_and, nI_1, ev_fG_1, ev_fG_3, ev_fG_4, ev_isO_1, ev_isO_3, ev_isO_4, nI_pred, nI_ltI, ev_lk_s h0, ev_lk_s h4, ev_lk_s h5, hf, hp, hp1, hj6, hj7, nI_clamp, ev_inA_4, ev_lk_s h7, hi3]
          split <;> (first | exact c _ ev_isB_0 | exact c _ ev_isB_1 | exact hI)
      have h9 := inner (j + 1) 0 (by omega)
      rw [show nI (0 + 1) = 1 from rfl] at h9
      rw [t_X5_isTheoremKept_2]
      simp (disch := omega) only [t_X5_isTheoremKept_3, t_X5_isTheoremKept_5, t_X5_isTheoremKept_8, t_X5_isTheoremKept_9, ↓reduceIte, ev_k_i, h6', nI_ltI, hi2]
      exact h9
  have h9 := key 6 0 ev_J (by omega)
  rw [show nI (0 + 1) = 1 from rfl] at h9
  simp (disch := omega) only [t_X5_isTheoremKept_0, t_X5_isTheoremKept_1, ev_k_r]
  exact h9
theorem C_aMost (hc : c_all x G H) (c : ∀ v, ev_isB v → P (.inl (some (.int v))) H n q) : ev_ok (ev_TT X) 106 0 [.ref x, ev_J, ev_J, ev_J, ev_J] [] H n q P := by
  have h0 := hc.1
  unfold c_top at h0
  obtain ⟨f, h4, h4b⟩ := hc.2.2.2.2.1
  obtain ⟨g, g4, g4b⟩ := hc.2.1
  have key : ∀ d j w l0, j + d = 6 → ev_ok (ev_TT X) 106 49 [l0, .ref (x + 11), .int (nI 6), .int (nI j), w] [] H n q P := by
    intro d
    induction d with
    | zero =>
      intro j w l0 hj
      have hi2 : 6 ≤ j := by omega
      simp (disch := omega) only [t_X5_isNoTableAboveMost_49, t_X5_isNoTableAboveMost_50, t_X5_isNoTableAboveMost_51, t_X5_isNoTableAboveMost_78, t_X5_isNoTableAboveMost_79, ↓reduceIte, ev_nb_1, true_and, nI_leI, hi2]
      exact c _ ev_isB_1
    | succ d ih =>
      intro j w l0 hj
      have hj6 : j < 6 := by omega
      have hi2 : ¬ 6 ≤ j := by omega
      have hp := nI_pos' (n := j) (by omega)
      have hf := h4b j hj6
      obtain ⟨h7, h8⟩ := hc.2.2.2.2.2.2.2 j hj6
      unfold ev_kec at h7
      have h8k := ev_rL_k (X := X) h8
      have hI := fun l0 : Value => ih (j + 1) (.ref (x + 33 + 4 * j)) l0 (by omega)
      rw [t_X5_isNoTableAboveMost_49]
      simp (disch := omega) only [t_X5_isNoTableAboveMost_50, t_X5_isNoTableAboveMost_51, t_X5_isNoTableAboveMost_54, t_X5_isNoTableAboveMost_55, t_X5_isNoTableAboveMost_56, t_X5_isNoTableAboveMost_57, t_X5_isNoTableAboveMost_59, t_X5_isNoTableAboveMost_61, t_X5_isNoTableAboveMost_64, ↓reduceIte, ev_k_i, ev_aG_y, and_true, true_and, ev_fG_0, ev_isO_0, nI_leI, hi2, nI_clamp, hp, hj6, ev_lk_s h4, hf, ev_inA_4, ev_lk_s h7, h8k]
      refine R_abm h8 ?_
      rcases @ev_isB_b (pr_above (G.2.2.1 j).2.1 (G.2.2.1 j).1.length) (Classical.propDecidable _) with e | e
      · rw [e]
        simp (disch := omega) only [t_X5_isNoTableAboveMost_67, t_X5_isNoTableAboveMost_72, t_X5_isNoTableAboveMost_75, ↓reduceIte, ev_k_i, ev_kr_1, nI_1]
        exact hI _
      · rw [e]
        simp (disch := omega) only [t_X5_isNoTableAboveMost_67, t_X5_isNoTableAboveMost_70, t_X5_isNoTableAboveMost_71, ↓reduceIte, ev_kr_1, ev_nb_0, true_and, show ¬ (1 : Int32) = 0 from by decide]
        exact c _ ev_isB_0
  have key2 : ∀ d i w, i + d = 4 → ev_ok (ev_TT X) 106 10 [.ref x, .ref (x + 1), .int (nI 4), .int (nI i), w] [] H n q P := by
    intro d
    induction d with
    | zero =>
      intro j w hj
      have hi2 : 4 ≤ j := by omega
      have h9 := fun (w l0 : Value) => key 6 0 w l0 (by omega)
      rw [nI_0] at h9
      simp (disch := omega) only [t_X5_isNoTableAboveMost_10, t_X5_isNoTableAboveMost_11, t_X5_isNoTableAboveMost_12, t_X5_isNoTableAboveMost_39, t_X5_isNoTableAboveMost_40, t_X5_isNoTableAboveMost_43, t_X5_isNoTableAboveMost_44, t_X5_isNoTableAboveMost_45, t_X5_isNoTableAboveMost_46, t_X5_isNoTableAboveMost_47, t_X5_isNoTableAboveMost_48, ↓reduceIte, ev_k_i, ev_k_r, ev_aN_y, true_and, ev_fG_3, ev_isO_3, ev_ofN, nI_leI, hi2, ev_lk_s h0, ev_lk_s h4, ev_isA_4, ev_ofN]
      exact h9 _ _
    | succ d ih =>
      intro j w hj
      have hj6 : j < 4 := by omega
      have hi2 : ¬ 4 ≤ j := by omega
      have hp := nI_pos' (n := j) (by omega)
      have hf := g4b j hj6
      obtain ⟨h7, h8, h9⟩ := hc.2.2.2.2.2.2.1 j hj6
      unfold ev_tbc at h7
      have h8k := ev_rL_k (X := X) h8
      have hI := ih (j + 1) (.ref (x + 13 + 5 * j)) (by omega)
      rw [t_X5_isNoTableAboveMost_10]
      simp (disch := omega) only [t_X5_isNoTableAboveMost_11, t_X5_isNoTableAboveMost_12, t_X5_isNoTableAboveMost_15, t_X5_isNoTableAboveMost_16, t_X5_isNoTableAboveMost_17, t_X5_isNoTableAboveMost_18, t_X5_isNoTableAboveMost_20, t_X5_isNoTableAboveMost_22, t_X5_isNoTableAboveMost_25, ↓reduceIte, ev_k_i, ev_aG_y, and_true, true_and, ev_fG_0, ev_isO_0, nI_leI, hi2, nI_clamp, hp, hj6, ev_lk_s g4, hf, ev_inA_3, ev_lk_s h7, h8k]
      refine R_abm h8 ?_
      rcases @ev_isB_b (pr_above (G.1 j).2.1.2.1 (G.1 j).1.length) (Classical.propDecidable _) with e | e
      · rw [e]
        simp (disch := omega) only [t_X5_isNoTableAboveMost_28, t_X5_isNoTableAboveMost_33, t_X5_isNoTableAboveMost_36, ↓reduceIte, ev_k_i, ev_kr_1, nI_1]
        exact hI
      · rw [e]
        simp (disch := omega) only [t_X5_isNoTableAboveMost_28, t_X5_isNoTableAboveMost_31, t_X5_isNoTableAboveMost_32, ↓reduceIte, ev_kr_1, ev_nb_0, true_and, show ¬ (1 : Int32) = 0 from by decide]
        exact c _ ev_isB_0
  have h9 := key2 4 0 ev_J (by omega)
  rw [nI_0] at h9
  simp (disch := omega) only [t_X5_isNoTableAboveMost_0, t_X5_isNoTableAboveMost_1, t_X5_isNoTableAboveMost_4, t_X5_isNoTableAboveMost_5, t_X5_isNoTableAboveMost_6, t_X5_isNoTableAboveMost_7, t_X5_isNoTableAboveMost_8, t_X5_isNoTableAboveMost_9, ev_k_i, ev_k_r, ev_aN_y, true_and, ev_fG_0, ev_isO_0, ev_ofN, ev_lk_s h0, ev_lk_s g4, ev_isA_3, ev_ofN]
  exact h9
theorem C_isSound {As : List Nat} (hA : aR G As) (hc : c_all x G H) (hG : okG G) (c : ∀ H1, c_all x G H1 → c_fr x H H1 → ∀ v, ev_isB v → P (.inl (some (.int v))) H1 n q) : ev_ok (ev_TT X) 201 0 [.ref x, ev_J] [] H n q P := by
  have h6' : (6 : Int32) = nI 6 := rfl
  have rest : ∀ H1, c_all x G H1 → c_fr x H H1 → ev_ok (ev_TT X) 201 30 [.ref x, .int (nI 6)] [] H1 n q P := by
    intro H1 hc1 hf1
    have hk1 := c_all_k (X := X) hc1
    simp (disch := omega) only [t_X5_isSound_30, t_X5_isSound_31, true_and, hk1]
    refine C_aMost hc1 fun v hv => ?_
    rcases hv with rfl | rfl
    · simp (disch := omega) only [t_X5_isSound_34, t_X5_isSound_76, t_X5_isSound_77, ↓reduceIte, ev_kr_1, ev_nb_0, true_and]
      exact c _ hc1 hf1 _ ev_isB_0
    · simp (disch := omega) only [t_X5_isSound_34, t_X5_isSound_37, t_X5_isSound_38, ↓reduceIte, ev_kr_1, true_and, show ¬ (1 : Int32) = 0 from by decide, hk1]
      refine C_aKeep hc1 hG fun v hv => ?_
      rcases hv with rfl | rfl
      · simp (disch := omega) only [t_X5_isSound_41, t_X5_isSound_76, t_X5_isSound_77, ↓reduceIte, ev_kr_1, ev_nb_0, true_and]
        exact c _ hc1 hf1 _ ev_isB_0
      · simp (disch := omega) only [t_X5_isSound_41, t_X5_isSound_44, t_X5_isSound_45, ↓reduceIte, ev_kr_1, true_and, show ¬ (1 : Int32) = 0 from by decide, hk1]
        refine C_aMiss hc1 hG fun v hv => ?_
        rcases hv with rfl | rfl
        · simp (disch := omega) only [t_X5_isSound_48, t_X5_isSound_76, t_X5_isSound_77, ↓reduceIte, ev_kr_1, ev_nb_0, true_and]
          exact c _ hc1 hf1 _ ev_isB_0
        · simp (disch := omega) only [t_X5_isSound_48, t_X5_isSound_51, t_X5_isSound_52, ↓reduceIte, ev_kr_1, true_and, show ¬ (1 : Int32) = 0 from by decide, hk1]
          refine C_aBest hc1 fun v hv => ?_
          rcases hv with rfl | rfl
          · simp (disch := omega) only [t_X5_isSound_55, t_X5_isSound_76, t_X5_isSound_77, ↓reduceIte, ev_kr_1, ev_nb_0, true_and]
            exact c _ hc1 hf1 _ ev_isB_0
          · simp (disch := omega) only [t_X5_isSound_55, t_X5_isSound_58, t_X5_isSound_59, ↓reduceIte, ev_kr_1, true_and, show ¬ (1 : Int32) = 0 from by decide, hk1]
            refine C_aGrow hc1 fun v hv => ?_
            rcases hv with rfl | rfl
            · simp (disch := omega) only [t_X5_isSound_62, t_X5_isSound_76, t_X5_isSound_77, ↓reduceIte, ev_kr_1, ev_nb_0, true_and]
              exact c _ hc1 hf1 _ ev_isB_0
            · simp (disch := omega) only [t_X5_isSound_62, t_X5_isSound_65, t_X5_isSound_66, ↓reduceIte, ev_kr_1, true_and, show ¬ (1 : Int32) = 0 from by decide, hk1]
              refine C_aThm hc1 fun v hv => ?_
              rcases hv with rfl | rfl
              · simp (disch := omega) only [t_X5_isSound_69, t_X5_isSound_76, t_X5_isSound_77, ↓reduceIte, ev_kr_1, ev_nb_0, true_and]
                exact c _ hc1 hf1 _ ev_isB_0
              · simp (disch := omega) only [t_X5_isSound_69, t_X5_isSound_72, t_X5_isSound_73, t_X5_isSound_77, ↓reduceIte, ev_kr_1, ev_nb_1, true_and, show ¬ (1 : Int32) = 0 from by decide]
                exact c _ hc1 hf1 _ ev_isB_1
  have key : ∀ d j H1, j + d = 6 → c_all x G H1 → c_fr x H H1 → ev_ok (ev_TT X) 201 2 [.ref x, .int (nI j)] [] H1 n q P := by
    intro d
    induction d with
    | zero =>
      intro j H1 hj hc1 hf1
      have hi2 : 6 ≤ j := by omega
      have e : j = 6 := by omega
      subst e
      have h9 := rest H1 hc1 hf1
      simp (disch := omega) only [t_X5_isSound_2, t_X5_isSound_3, t_X5_isSound_5, ↓reduceIte, nI_leI, hi2, h6']
      exact h9
    | succ d ih =>
      intro j H1 hj hc1 hf1
      have hj6 : j < 6 := by omega
      have hi2 : ¬ 6 ≤ j := by omega
      have hp := nI_pos' (n := j) (by omega)
      have h0 := hc1.1
      unfold c_top at h0
      have ha0 := c_ask0 hc1
      have hak : ev_isK (ev_lk X H1 (x + 2)) 5 = True := by rw [ev_lk_s ha0]; exact ev_isK_y
      obtain ⟨ne, hk1, hn1, hH, hN⟩ := hc1.2.2.1
      rw [t_X5_isSound_2]
      simp (disch := omega) only [t_X5_isSound_3, t_X5_isSound_5, t_X5_isSound_8, t_X5_isSound_9, t_X5_isSound_12, t_X5_isSound_13, t_X5_isSound_14, t_X5_isSound_17, t_X5_isSound_18, t_X5_isSound_19, t_X5_isSound_20, ↓reduceIte, true_and, nI_1, ev_fG_1, ev_fG_4, ev_isO_1, ev_isO_4, h6', nI_leI, hi2, ev_lk_s h0, hak]
      rw [hH]
      refine A_few (As := As) hG.2.2.2 hA.1 hA.2 hN hj6 fun hk' hn' => ?_
      generalize nI (G.2.2.2.1.2.2 - (gs As (j + 1) G.2.2.2.1.2.2).2) = v
      have ho : ∀ a, (a < x + 2 ∨ x + 8 ≤ a) → ev_ask H1 (x + 2) G.2.2.2.1.1 G.2.2.2.1.2.1 ne hk' hn' G.2.2.2.1.2.2 a = H1 a := fun a ha => ev_ask_o (by omega)
      have hc2 := c_upA hc1 (s := G.2.2.2.1) ho ⟨ne, hk', hn', ev_ask_ask.symm, hN⟩
      have hf2 : c_fr x H (ev_ask H1 (x + 2) G.2.2.2.1.1 G.2.2.2.1.2.1 ne hk' hn' G.2.2.2.1.2.2) := fun a ha => (ho a (by omega)).trans (hf1 a ha)
      generalize ev_ask H1 (x + 2) G.2.2.2.1.1 G.2.2.2.1.2.1 ne hk' hn' G.2.2.2.1.2.2 = H2 at hc2 hf2 ⊢
      obtain ⟨be, h5⟩ := hc2.2.2.2.2.2.1
      have hc3 := c_upB hc2 (be' := ev_fu be j v) (H1 := ev_up H2 (x + 12) (.inl (0, 6, fun i => .int (ev_fu be j v i)))) (fun a ha => ev_up_n (by omega)) ev_up_s
      have hf3 : c_fr x H (ev_up H2 (x + 12) (.inl (0, 6, fun i => .int (ev_fu be j v i)))) := fun a ha => (ev_up_n (by omega)).trans (hf2 a ha)
      have hI := ih (j + 1) _ (by omega) hc3 hf3
      have eu : updV (fun i => .int (be i)) j (.int v) = fun i => .int (ev_fu be j v i) := ev_updI
      simp (disch := omega) only [t_X5_isSound_23, t_X5_isSound_24, t_X5_isSound_27, ev_k_r, ev_kr_1, ev_aS_y, ev_inA_0, and_true, true_and, nI_1, h5, hp, hj6, nI_clamp, eu]
      exact hI
  have h9 := key 6 0 H (by omega) hc (fun _ _ => rfl)
  rw [nI_0] at h9
  simp (disch := omega) only [t_X5_isSound_0, t_X5_isSound_1, ev_k_r]
  exact h9
end C47
end
section
/-! ===== the class: digest, answer left open ===== -/
theorem no_ix {i N : Nat} (h : i < N) (hN : N < 2 ^ 31) : ¬ (nI i < 0 ∨ nI N ≤ nI i) := by
  intro e
  rcases e with e | e
  · exact nI_pos (by omega) e
  · exact nI_ge h hN e
theorem nI_inj {i j : Nat} (hi : i < 2 ^ 31) (hj : j < 2 ^ 31) (e : nI i = nI j) : i = j := (nI_eq hi hj).mp e
theorem no_sz {j : Nat} (h : j < 6) : ¬ (nI (j + 1) < 1 ∨ (6 : Int32) < nI (j + 1)) := by
  intro e
  rcases e with e | e
  · exact nI_nlt (a := j + 1) (b := 1) (by omega) (by omega) e
  · exact nI_nlt (a := 6) (b := j + 1) (by omega) (by omega) e
section C48
variable {X : ev_E} {x : Nat} {G : ev_CS} {H : ev_M} {n q : Nat} {P : ev_O → ev_M → Nat → Nat → Prop}
theorem C_ofTable_y (hc : c_all x G H) (hG : okG G) {i a : Nat} (hi : i < 4) (ha : a < 5) (k : P (.inl (some (.int (pt_of (G.1 i) a)))) H n q) : ev_ok (ev_TT X) 109 0 [.ref x, .int (nI i), .int (nI a), ev_J] [] H n q P := by
  refine C_ofTable hc hG (fun z => absurd z (no_ix hi (by omega))) (fun i h1 h2 z => absurd z (no_ix ha (by omega))) fun i2 a2 h1 h2 h3 h4 => ?_
  have e1 := nI_inj (by omega) (by omega) h2
  have e2 := nI_inj (by omega) (by omega) h4
  subst e1 e2
  exact k
theorem C_size_y (hc : c_all x G H) (hG : okG G) {i : Nat} (hi : i < 4) (k : P (.inl (some (.int (nI (G.1 i).1.length)))) H n q) : ev_ok (ev_TT X) 111 0 [.ref x, .int (nI i)] [] H n q P := by
  refine C_size hc hG (fun z => absurd z (no_ix hi (by omega))) fun i2 h1 h2 => ?_
  have e1 := nI_inj (by omega) (by omega) h2
  subst e1
  exact k
theorem C_pairAt_y (hc : c_all x G H) (hG : okG G) {i : Nat} (hi : i < 4) {p : Int32} (k : P (.inl (some (.int (pr_told (G.1 i).1 p 2)))) H n q) : ev_ok (ev_TT X) 159 0 [.ref x, .int (nI i), .int p] [] H n q P := by
  refine C_pairAt hc hG (fun z => absurd z (no_ix hi (by omega))) fun i2 h1 h2 => ?_
  have e1 := nI_inj (by omega) (by omega) h2
  subst e1
  exact k
theorem C_hasMore_y (hc : c_all x G H) (hG : okG G) {i : Nat} (hi : i < 4) (k : P (.inl (some (.int (ev_bb (((G.1 i).2.2.1.1 && !(G.1 i).2.2.1.2.1) && decide ((G.1 i).2.2.2.2 < (G.1 i).1.length)))))) H n q) : ev_ok (ev_TT X) 150 0 [.ref x, .int (nI i)] [] H n q P := by
  refine C_hasMore hc hG (fun z => absurd z (no_ix hi (by omega))) fun i2 h1 h2 => ?_
  have e1 := nI_inj (by omega) (by omega) h2
  subst e1
  exact k
theorem C_isStale_y (hc : c_all x G H) (hG : okG G) {i : Nat} (hi : i < 4) (k : P (.inl (some (.int (ev_bb ((G.1 i).2.2.1.1 && (G.1 i).2.2.1.2.1))))) H n q) : ev_ok (ev_TT X) 107 0 [.ref x, .int (nI i)] [] H n q P := by
  refine C_isStale hc hG (fun z => absurd z (no_ix hi (by omega))) fun i2 h1 h2 => ?_
  have e1 := nI_inj (by omega) (by omega) h2
  subst e1
  exact k
theorem C_house_y (hc : c_all x G H) {a : Nat} (ha : a < 5) (k : P (.inl (some (.int (ph_of G a)))) H n q) : ev_ok (ev_TT X) 105 0 [.ref x, .int (nI a)] [] H n q P := by
  refine C_house hc (fun z => absurd z (no_ix ha (by omega))) fun a2 h3 h4 => ?_
  have e2 := nI_inj (by omega) (by omega) h4
  subst e2
  exact k
theorem C_misses_y (hc : c_all x G H) (hG : okG G) {j : Nat} (hj : j < 6) (k : P (.inl (some (.int (G.2.2.1 j).2.2.2.2.1))) H n q) : ev_ok (ev_TT X) 158 0 [.ref x, .int (nI (j + 1))] [] H n q P := by
  refine C_misses hc hG (fun z => absurd z (no_sz hj)) fun i2 h1 h2 => ?_
  have e1 : j = i2 := by have := nI_inj (by omega) (by omega) h2; omega
  subst e1
  exact k
theorem C_lost_y (hc : c_all x G H) (hG : okG G) {j : Nat} (hj : j < 6) (k : P (.inl (some (.int (G.2.2.1 j).2.2.2.1))) H n q) : ev_ok (ev_TT X) 156 0 [.ref x, .int (nI (j + 1))] [] H n q P := by
  refine C_lost hc hG (fun z => absurd z (no_sz hj)) fun i2 h1 h2 => ?_
  have e1 : j = i2 := by have := nI_inj (by omega) (by omega) h2; omega
  subst e1
  exact k
theorem C_takenAt_y (hc : c_all x G H) (hG : okG G) {j a : Nat} (hj : j < 6) (ha : a < 20) (k : P (.inl (some (.int (pr_told (G.2.2.1 j).1 (pf_place (G.2.2.1 j).1 (nI a)) 1)))) H n q) : ev_ok (ev_TT X) 161 0 [.ref x, .int (nI (j + 1)), .int (nI a), ev_J] [] H n q P := by
  refine C_takenAt hc hG (fun z => absurd z (no_sz hj)) (fun i h1 h2 z => absurd z (no_ix ha (by omega))) fun i2 a2 h1 h2 h3 h4 => ?_
  have e1 : j = i2 := by have := nI_inj (by omega) (by omega) h2; omega
  subst e1
  exact k
theorem C_best_y {As : List Nat} (hA : aR G As) (hc : c_all x G H) (hG : okG G) {j : Nat} (hj : j < 6) (k : ∀ v H1, c_all x G H1 → c_fr x H H1 → P (.inl (some (.int v))) H1 n q) : ev_ok (ev_TT X) 147 0 [.ref x, .int (nI (j + 1))] [] H n q P :=
  C_best hA hc hG (fun z => absurd z (no_sz hj)) fun j h1 h2 H1 h3 h4 => k _ H1 h3 h4
theorem C_mixT (hc : c_all x G H) (hG : okG G) {i : Nat} (hi : i < 4) {d0 : Int64} (c : ∀ d, P (.inl (some (.long d))) H n q) : ev_ok (ev_TT X) 203 0 [.ref x, .long d0, ev_J, .int (nI i), ev_J, ev_J, ev_J] [] H n q P := by
  have hk := c_all_k (X := X) hc
  have hl := okL_len (hG.1 i hi).1
  have h4' : (4 : Int32) = nI 4 := rfl
  have tail : ∀ d w, ev_ok (ev_TT X) 203 65 [.ref x, .long d0, ev_J, .int (nI i), .long d, ev_J, w] [] H n q P := by
    intro d w
    simp (disch := omega) only [t_X5_mixedWithTable_65, t_X5_mixedWithTable_67, t_X5_mixedWithTable_68, t_X5_mixedWithTable_69, true_and, hk]
    refine C_hasMore_y hc hG hi ?_
    have hv1 := ev_bb_B (((G.1 i).2.2.1.1 && !(G.1 i).2.2.1.2.1) && decide ((G.1 i).2.2.2.2 < (G.1 i).1.length))
    rcases hv1 with e | e <;> (
      rw [e]
      simp (disch := omega) only [t_X5_mixedWithTable_72, t_X5_mixedWithTable_75, t_X5_mixedWithTable_76, t_X5_mixedWithTable_79, t_X5_mixedWithTable_80, t_X5_mixedWithTable_83, t_X5_mixedWithTable_85, t_X5_mixedWithTable_87, t_X5_mixedWithTable_88, t_X5_mixedWithTable_89, t_X5_mixed_0, t_X5_mixed_1, t_X5_mixed_4, t_X5_mixed_5, t_X5_mixed_6, t_X5_mixed_7, t_X5_mixed_8, ↓reduceIte, ev_k_i, ev_kr_1, true_and, hk, show ¬ (1 : Int32) = 0 from by decide]
      refine C_isStale_y hc hG hi ?_
      have hv2 := ev_bb_B ((G.1 i).2.2.1.1 && (G.1 i).2.2.1.2.1)
      rcases hv2 with e2 | e2 <;> (
        rw [e2]
        simp (disch := omega) only [t_X5_mixedWithTable_92, t_X5_mixedWithTable_95, t_X5_mixedWithTable_96, t_X5_mixedWithTable_99, t_X5_mixedWithTable_100, t_X5_mixedWithTable_103, t_X5_mixed_0, t_X5_mixed_1, t_X5_mixed_4, t_X5_mixed_5, t_X5_mixed_6, t_X5_mixed_7, t_X5_mixed_8, ↓reduceIte, ev_kr_1, show ¬ (1 : Int32) = 0 from by decide]
        exact c _))
  have loop2 : ∀ e p d, p + e = (G.1 i).1.length → ev_ok (ev_TT X) 203 35 [.ref x, .long d0, ev_J, .int (nI i), .long d, ev_J, .int (nI p)] [] H n q P := by
    intro e
    induction e with
    | zero =>
      intro p d hp
      have hi2 : (G.1 i).1.length ≤ p := by omega
      have h9 := tail d (.int (nI p))
      simp (disch := omega) only [t_X5_mixedWithTable_35, t_X5_mixedWithTable_37, t_X5_mixedWithTable_38, t_X5_mixedWithTable_39, true_and, hk]
      refine C_size_y hc hG hi ?_
      simp (disch := omega) only [t_X5_mixedWithTable_42, ↓reduceIte, ev_kr_1, nI_leI, hi2]
      exact h9
    | succ e ih =>
      intro p d hp
      have hi2 : ¬ (G.1 i).1.length ≤ p := by omega
      rw [t_X5_mixedWithTable_35]
      simp (disch := omega) only [t_X5_mixedWithTable_37, t_X5_mixedWithTable_38, t_X5_mixedWithTable_39, true_and, hk]
      refine C_size_y hc hG hi ?_
      simp (disch := omega) only [t_X5_mixedWithTable_42, t_X5_mixedWithTable_45, t_X5_mixedWithTable_47, t_X5_mixedWithTable_48, t_X5_mixedWithTable_49, t_X5_mixedWithTable_51, ↓reduceIte, ev_kr_1, true_and, hk, nI_leI, hi2]
      refine C_pairAt_y hc hG hi ?_
      simp (disch := omega) only [t_X5_mixedWithTable_54, t_X5_mixedWithTable_57, t_X5_mixedWithTable_59, t_X5_mixedWithTable_62, t_X5_mixed_0, t_X5_mixed_1, t_X5_mixed_4, t_X5_mixed_5, t_X5_mixed_6, t_X5_mixed_7, t_X5_mixed_8, ev_k_i, ev_k_J, ev_kr_1, nI_1]
      exact ih (p + 1) _ (by omega)
  have loop1 : ∀ e w d, w + e = 5 → ev_ok (ev_TT X) 203 6 [.ref x, .long d0, ev_J, .int (nI i), .long d, ev_J, .int (nI w)] [] H n q P := by
    intro e
    induction e with
    | zero =>
      intro w d hp
      have hi2 : 4 < w := by omega
      have h9 := loop2 _ 0 d (Nat.zero_add _)
      rw [nI_0] at h9
      simp (disch := omega) only [t_X5_mixedWithTable_6, t_X5_mixedWithTable_8, t_X5_mixedWithTable_9, t_X5_mixedWithTable_32, t_X5_mixedWithTable_33, ↓reduceIte, ev_k_J, h4', nI_ltI, hi2]
      exact h9
    | succ e ih =>
      intro w d hp
      have hi2 : ¬ 4 < w := by omega
      rw [t_X5_mixedWithTable_6]
      simp (disch := omega) only [t_X5_mixedWithTable_8, t_X5_mixedWithTable_9, t_X5_mixedWithTable_12, t_X5_mixedWithTable_14, t_X5_mixedWithTable_15, t_X5_mixedWithTable_16, t_X5_mixedWithTable_18, ↓reduceIte, true_and, h4', nI_ltI, hi2, hk]
      refine C_ofTable_y hc hG hi (by omega) ?_
      simp (disch := omega) only [t_X5_mixedWithTable_21, t_X5_mixedWithTable_24, t_X5_mixedWithTable_26, t_X5_mixedWithTable_29, t_X5_mixed_0, t_X5_mixed_1, t_X5_mixed_4, t_X5_mixed_5, t_X5_mixed_6, t_X5_mixed_7, t_X5_mixed_8, ev_k_i, ev_k_J, ev_kr_1, nI_1]
      exact ih (w + 1) _ (by omega)
  have h9 := loop1 5 0 d0 (by omega)
  rw [nI_0] at h9
  simp (disch := omega) only [t_X5_mixedWithTable_0, t_X5_mixedWithTable_1, t_X5_mixedWithTable_3, t_X5_mixedWithTable_4, ev_k_i, ev_k_J]
  exact h9
theorem C_mixK {As : List Nat} (hA : aR G As) (hc : c_all x G H) (hG : okG G) {j : Nat} (hj : j < 6) {d0 : Int64} (c : ∀ H1 d, c_all x G H1 → c_fr x H H1 → P (.inl (some (.long d))) H1 n q) : ev_ok (ev_TT X) 202 0 [.ref x, .long d0, ev_J, .int (nI (j + 1)), ev_J, ev_J, ev_J] [] H n q P := by
  have hk := c_all_k (X := X) hc
  have h20' : (20 : Int32) = nI 20 := rfl
  simp (disch := omega) only [t_X5_mixedWithKeeper_0, t_X5_mixedWithKeeper_1, t_X5_mixedWithKeeper_3, t_X5_mixedWithKeeper_5, t_X5_mixedWithKeeper_6, t_X5_mixedWithKeeper_7, ev_k_i, true_and, hk]
  refine C_misses_y hc hG hj ?_
  simp (disch := omega) only [t_X5_mixedWithKeeper_10, t_X5_mixedWithKeeper_13, t_X5_mixedWithKeeper_15, t_X5_mixedWithKeeper_17, t_X5_mixedWithKeeper_18, t_X5_mixedWithKeeper_19, t_X5_mixed_0, t_X5_mixed_1, t_X5_mixed_4, t_X5_mixed_5, t_X5_mixed_6, t_X5_mixed_7, t_X5_mixed_8, ev_k_i, ev_kr_1, true_and, hk]
  refine C_best_y hA hc hG hj fun v H1 hc1 hf1 => ?_
  have hk1 := c_all_k (X := X) hc1
  simp (disch := omega) only [t_X5_mixedWithKeeper_22, t_X5_mixedWithKeeper_25, t_X5_mixedWithKeeper_27, t_X5_mixedWithKeeper_29, t_X5_mixedWithKeeper_30, t_X5_mixedWithKeeper_31, t_X5_mixed_0, t_X5_mixed_1, t_X5_mixed_4, t_X5_mixed_5, t_X5_mixed_6, t_X5_mixed_7, t_X5_mixed_8, ev_k_i, ev_kr_1, true_and, hk1]
  refine C_lost_y hc1 hG hj ?_
  have loop : ∀ e a d, a + e = 20 → ev_ok (ev_TT X) 202 42 [.ref x, .long d0, ev_J, .int (nI (j + 1)), .long d, ev_J, .int (nI a)] [] H1 n q P := by
    intro e
    induction e with
    | zero =>
      intro a d ha
      have hi2 : 20 ≤ a := by omega
      have h9 := c H1 d hc1 hf1
      simp (disch := omega) only [t_X5_mixedWithKeeper_42, t_X5_mixedWithKeeper_44, t_X5_mixedWithKeeper_46, t_X5_mixedWithKeeper_69, t_X5_mixedWithKeeper_71, ↓reduceIte, h20', nI_leI, hi2]
      exact h9
    | succ e ih =>
      intro a d ha
      have hi2 : ¬ 20 ≤ a := by omega
      rw [t_X5_mixedWithKeeper_42]
      simp (disch := omega) only [t_X5_mixedWithKeeper_44, t_X5_mixedWithKeeper_46, t_X5_mixedWithKeeper_49, t_X5_mixedWithKeeper_51, t_X5_mixedWithKeeper_52, t_X5_mixedWithKeeper_53, t_X5_mixedWithKeeper_55, ↓reduceIte, true_and, h20', nI_leI, hi2, hk1]
      refine C_takenAt_y hc1 hG hj (by omega) ?_
      simp (disch := omega) only [t_X5_mixedWithKeeper_58, t_X5_mixedWithKeeper_61, t_X5_mixedWithKeeper_63, t_X5_mixedWithKeeper_66, t_X5_mixed_0, t_X5_mixed_1, t_X5_mixed_4, t_X5_mixed_5, t_X5_mixed_6, t_X5_mixed_7, t_X5_mixed_8, ev_k_i, ev_k_J, ev_kr_1, nI_1]
      exact ih (a + 1) _ (by omega)
  have h9 := fun d => loop 20 0 d (by omega)
  rw [nI_0] at h9
  simp (disch := omega) only [t_X5_mixedWithKeeper_34, t_X5_mixedWithKeeper_37, t_X5_mixedWithKeeper_39, t_X5_mixedWithKeeper_40, t_X5_mixed_0, t_X5_mixed_1, t_X5_mixed_4, t_X5_mixed_5, t_X5_mixed_6, t_X5_mixed_7, t_X5_mixed_8, ev_k_i, ev_k_J, ev_kr_1]
  exact h9 _
theorem C_digest {As : List Nat} (hA : aR G As) (hc : c_all x G H) (hG : okG G) (c : ∀ H1 d, c_all x G H1 → c_fr x H H1 → P (.inl (some (.long d))) H1 n q) : ev_ok (ev_TT X) 226 0 [.ref x, ev_J, ev_J, ev_J] [] H n q P := by
  have h4' : (4 : Int32) = nI 4 := rfl
  have h6' : (6 : Int32) = nI 6 := rfl
  have hk := c_all_k (X := X) hc
  have h0 := hc.1
  unfold c_top at h0
  have h1 := c_ask0 hc
  have h60 := hG.2.2.2
  have h2k := ev_rL_k (X := X) hc.2.2.2.1
  have h2b := (ev_rL_b (X := X) hc.2.2.2.1).2.1
  have hls := okL_len hG.2.1
  have tail : ∀ d w H1, c_all x G H1 → c_fr x H H1 → ev_ok (ev_TT X) 226 140 [.ref x, .long d, ev_J, w] [] H1 n q P := by
    intro d w H1 hc1 hf1
    have hk1 := c_all_k (X := X) hc1
    simp (disch := omega) only [t_X5_digest_140, t_X5_digest_141, t_X5_digest_142, true_and, hk1]
    refine C_isSound hA hc1 hG fun H2 hc2 hf2 v hv => ?_
    rcases hv with rfl | rfl <;> (
      simp (disch := omega) only [t_X5_digest_145, t_X5_digest_148, t_X5_digest_149, t_X5_digest_152, t_X5_digest_153, t_X5_digest_156, t_X5_mixed_0, t_X5_mixed_1, t_X5_mixed_4, t_X5_mixed_5, t_X5_mixed_6, t_X5_mixed_7, t_X5_mixed_8, ↓reduceIte, ev_kr_1, show ¬ (1 : Int32) = 0 from by decide]
      exact c _ _ hc2 (fun a ha => (hf2 a ha).trans (hf1 a ha)))
  have loop5 : ∀ e j d H1, j + e = 6 → c_all x G H1 → c_fr x H H1 → ev_ok (ev_TT X) 226 121 [.ref x, .long d, ev_J, .int (nI (j + 1))] [] H1 n q P := by
    intro e
    induction e with
    | zero =>
      intro j d H1 hj hc1 hf1
      have hi2 : 6 < j + 1 := by omega
      have h9 := tail d (.int (nI (j + 1))) H1 hc1 hf1
      simp (disch := omega) only [t_X5_digest_121, t_X5_digest_122, t_X5_digest_124, ↓reduceIte, h6', nI_ltI, hi2]
      exact h9
    | succ e ih =>
      intro j d H1 hj hc1 hf1
      have hi2 : ¬ 6 < j + 1 := by omega
      have hk1 := c_all_k (X := X) hc1
      rw [t_X5_digest_121]
      simp (disch := omega) only [t_X5_digest_122, t_X5_digest_124, t_X5_digest_127, t_X5_digest_128, t_X5_digest_129, t_X5_digest_130, ↓reduceIte, true_and, h6', nI_ltI, hi2, hk1]
      refine C_mixK hA hc1 hG (by omega) fun H2 d2 hc2 hf2 => ?_
      have h9 := ih (j + 1) d2 H2 (by omega) hc2 (fun a ha => (hf2 a ha).trans (hf1 a ha))
      simp (disch := omega) only [t_X5_digest_133, t_X5_digest_134, t_X5_digest_137, ev_k_r, ev_k_J, ev_kr_1, nI_1]
      exact h9
  have loop4 : ∀ e p d, p + e = G.2.1.1.length → ev_ok (ev_TT X) 226 88 [.ref x, .long d, ev_J, .int (nI p)] [] H n q P := by
    intro e
    induction e with
    | zero =>
      intro p d hp
      have hi2 : G.2.1.1.length ≤ p := by omega
      have h9 := loop5 6 0 d H (by omega) hc (fun _ _ => rfl)
      rw [show nI (0 + 1) = 1 from rfl] at h9
      simp (disch := omega) only [t_X5_digest_88, t_X5_digest_89, t_X5_digest_90, t_X5_digest_93, t_X5_digest_96, t_X5_digest_119, t_X5_digest_120, ↓reduceIte, ev_k_J, true_and, ev_fG_2, ev_isO_2, ev_lk_s h0, h2b.1, h2b.2, nI_leI, hi2]
      exact h9
    | succ e ih =>
      intro p d hp
      have hi2 : ¬ G.2.1.1.length ≤ p := by omega
      rw [t_X5_digest_88]
      simp (disch := omega) only [t_X5_digest_89, t_X5_digest_90, t_X5_digest_93, t_X5_digest_96, t_X5_digest_99, t_X5_digest_100, t_X5_digest_101, t_X5_digest_104, t_X5_digest_105, t_X5_digest_106, ↓reduceIte, true_and, ev_fG_2, ev_isO_2, ev_lk_s h0, h2b.1, h2b.2, nI_leI, hi2, h2k]
      refine R_told hc.2.2.2.1 hls ?_
      simp (disch := omega) only [t_X5_digest_109, t_X5_digest_112, t_X5_digest_113, t_X5_digest_116, t_X5_mixed_0, t_X5_mixed_1, t_X5_mixed_4, t_X5_mixed_5, t_X5_mixed_6, t_X5_mixed_7, t_X5_mixed_8, ev_k_r, ev_k_J, ev_kr_1, nI_1]
      exact ih (p + 1) _ (by omega)
  have loop3 : ∀ e p d, p + e = G.2.2.2.1.2.2 → ev_ok (ev_TT X) 226 49 [.ref x, .long d, ev_J, .int (nI p)] [] H n q P := by
    intro e
    induction e with
    | zero =>
      intro p d hp
      have hi2 : G.2.2.2.1.2.2 ≤ p := by omega
      have h9 := loop4 _ 0 d (Nat.zero_add _)
      rw [nI_0] at h9
      simp (disch := omega) only [t_X5_digest_49, t_X5_digest_50, t_X5_digest_51, t_X5_digest_54, t_X5_digest_57, t_X5_digest_86, t_X5_digest_87, ↓reduceIte, ev_k_J, true_and, ev_fG_1, ev_fG_5, ev_isO_1, ev_isO_5, ev_lk_s h0, ev_lk_s h1, nI_leI, hi2]
      exact h9
    | succ e ih =>
      intro p d hp
      have hi2 : ¬ G.2.2.2.1.2.2 ≤ p := by omega
      rw [t_X5_digest_49]
      simp (disch := omega) only [t_X5_digest_50, t_X5_digest_51, t_X5_digest_54, t_X5_digest_57, t_X5_digest_60, t_X5_digest_61, t_X5_digest_62, t_X5_digest_63, ↓reduceIte, ev_isK_y, true_and, ev_fG_1, ev_fG_5, ev_isO_1, ev_isO_5, ev_lk_s h0, ev_lk_s h1, nI_leI, hi2]
      refine C_askedAt hc hG (fun z => ?_) fun j1 hj1 hj2 => ?_
      · exact absurd ⟨nI_pos' (by omega), nI_lt (by omega) (by omega)⟩ z
      · simp (disch := omega) only [t_X5_digest_66, t_X5_digest_69, t_X5_digest_70, t_X5_digest_71, t_X5_digest_72, t_X5_digest_73, t_X5_mixed_0, t_X5_mixed_1, t_X5_mixed_4, t_X5_mixed_5, t_X5_mixed_6, t_X5_mixed_7, t_X5_mixed_8, ev_k_r, ev_kr_1, true_and, hk]
        refine C_depthAt hc hG (fun z => ?_) fun j3 hj3 hj4 => ?_
        · exact absurd ⟨nI_pos' (by omega), nI_lt (by omega) (by omega)⟩ z
        · simp (disch := omega) only [t_X5_digest_76, t_X5_digest_79, t_X5_digest_80, t_X5_digest_83, t_X5_mixed_0, t_X5_mixed_1, t_X5_mixed_4, t_X5_mixed_5, t_X5_mixed_6, t_X5_mixed_7, t_X5_mixed_8, ev_k_r, ev_k_J, ev_kr_1, nI_1]
          exact ih (p + 1) _ (by omega)
  have loop2 : ∀ e i d, i + e = 4 → ev_ok (ev_TT X) 226 29 [.ref x, .long d, ev_J, .int (nI i)] [] H n q P := by
    intro e
    induction e with
    | zero =>
      intro i d hp
      have hi2 : 4 ≤ i := by omega
      have h9 := loop3 _ 0 d (Nat.zero_add _)
      rw [nI_0] at h9
      simp (disch := omega) only [t_X5_digest_29, t_X5_digest_30, t_X5_digest_31, t_X5_digest_47, t_X5_digest_48, ↓reduceIte, ev_k_J, h4', nI_leI, hi2]
      exact h9
    | succ e ih =>
      intro i d hp
      have hi2 : ¬ 4 ≤ i := by omega
      rw [t_X5_digest_29]
      simp (disch := omega) only [t_X5_digest_30, t_X5_digest_31, t_X5_digest_34, t_X5_digest_35, t_X5_digest_36, t_X5_digest_37, ↓reduceIte, true_and, h4', nI_leI, hi2, hk]
      refine C_mixT hc hG (by omega) fun d2 => ?_
      have h9 := ih (i + 1) d2 (by omega)
      simp (disch := omega) only [t_X5_digest_40, t_X5_digest_41, t_X5_digest_44, ev_k_r, ev_k_J, ev_kr_1, nI_1]
      exact h9
  have loop1 : ∀ e w d, w + e = 5 → ev_ok (ev_TT X) 226 6 [.ref x, .long d, ev_J, .int (nI w)] [] H n q P := by
    intro e
    induction e with
    | zero =>
      intro w d hp
      have hi2 : 4 < w := by omega
      have h9 := loop2 4 0 d (by omega)
      rw [nI_0] at h9
      simp (disch := omega) only [t_X5_digest_6, t_X5_digest_7, t_X5_digest_8, t_X5_digest_27, t_X5_digest_28, ↓reduceIte, ev_k_J, h4', nI_ltI, hi2]
      exact h9
    | succ e ih =>
      intro w d hp
      have hi2 : ¬ 4 < w := by omega
      rw [t_X5_digest_6]
      simp (disch := omega) only [t_X5_digest_7, t_X5_digest_8, t_X5_digest_11, t_X5_digest_12, t_X5_digest_13, t_X5_digest_14, ↓reduceIte, true_and, h4', nI_ltI, hi2, hk]
      refine C_house_y hc (by omega) ?_
      simp (disch := omega) only [t_X5_digest_17, t_X5_digest_20, t_X5_digest_21, t_X5_digest_24, t_X5_mixed_0, t_X5_mixed_1, t_X5_mixed_4, t_X5_mixed_5, t_X5_mixed_6, t_X5_mixed_7, t_X5_mixed_8, ev_k_r, ev_k_J, ev_kr_1, nI_1]
      exact ih (w + 1) _ (by omega)
  have h9 := fun d => loop1 5 0 d (by omega)
  rw [nI_0] at h9
  simp (disch := omega) only [t_X5_digest_0, t_X5_digest_3, t_X5_digest_4, t_X5_digest_5, ev_k_r, ev_k_J]
  exact h9 _
end C48
end
section
/-! ===== the reference: its lists of pairs ===== -/
theorem ls_mapE {α β : Type} (f : α → β) : ∀ (L : List α) (j : Nat), (L.eraseIdx j).map f = (L.map f).eraseIdx j
  | [], _ => rfl
  | _ :: _, 0 => rfl
  | x :: L, j + 1 => congrArg (f x :: ·) (ls_mapE f L j)
theorem ls_eraseN {α : Type} : ∀ {L : List α} (j : Nat), L.Nodup → ∀ {x : α}, L[j]? = some x → x ∉ L.eraseIdx j := by
  intro L j hN x hx hm
  obtain ⟨i, hi, h⟩ := List.mem_eraseIdx_iff_getElem?.mp hm
  have hj := (List.getElem?_eq_some_iff.mp hx).1
  exact hi ((List.getElem?_inj hj hN).mp (hx.trans h.symm)).symm
def ev_bs (X : ev_E) (D : Nat) : Prop := X.1.heap.size ≤ D ∧ (∀ a, X.1.heap.size ≤ a → X.2.2.2.2.1 a = none) ∧ X.2.2.2.2.2 1 < X.1.heap.size
def m_pc (z : Int32 × Int32) (c : Option ev_C) : Prop := ∃ g : Nat → Value, c = some (.inl (0, 2, g)) ∧ g 0 = .int z.1 ∧ g 1 = .int z.2
abbrev m_Q : Type := List (Nat × Int32 × Int32)
def m_lst (X : ev_E) (H : ev_M) (l D N : Nat) (ow : Nat → Nat) (w : Nat) (qs : m_Q) : Prop := ∃ e : Nat, ev_AT X H l e (qs.map fun z => .ref z.1) ∧ (qs.map Prod.fst).Nodup ∧ (∀ z ∈ qs, D ≤ z.1 ∧ z.1 < N ∧ ow z.1 = w ∧ m_pc z.2 (H z.1)) ∧ ((e < D ∧ e = X.2.2.2.2.2 1 ∧ H e = none) ∨ (D ≤ e ∧ e < N ∧ ow e = w))
def m_fr (H H1 : ev_M) (l D N : Nat) (ow : Nat → Nat) (w : Nat) : Prop := ∀ a, a < N → ¬ a = l → ¬ (D ≤ a ∧ ow a = w) → H1 a = H a
def m_ow (ow : Nat → Nat) (N w : Nat) : Nat → Nat := fun a => if a < N then ow a else w
theorem m_ow_l {ow : Nat → Nat} {N w a : Nat} (h : a < N) : m_ow ow N w a = ow a := if_pos h
theorem m_ow_g {ow : Nat → Nat} {N w a : Nat} (h : N ≤ a) : m_ow ow N w a = w := if_neg (by omega)
theorem ev_AT_cg {X : ev_E} {H H1 : ev_M} {l e : Nat} {L : List Value} (h : ev_AT X H l e L) (e1 : H1 l = H l) (e2 : H1 e = H e) (el : ∀ v ∈ L, ev_el X H1 v) : ev_AT X H1 l e L := by
  obtain ⟨mc, h1, h2, h3⟩ := h
  refine ⟨mc, e1.trans h1, el, ?_⟩
  rw [e2]
  exact h3
theorem m_pc_el {X : ev_E} {H : ev_M} {p : Nat} {z : Int32 × Int32} (h : m_pc z (H p)) : ev_el X H (.ref p) := by
  obtain ⟨g, h1, h2⟩ := h
  exact Or.inr ⟨p, rfl, Or.inl ⟨2, g, h1⟩⟩
section M49
variable {X : ev_E} {H H1 : ev_M} {l D N N1 w w' l' : Nat} {ow ow1 : Nat → Nat} {qs qs' : m_Q} {n q : Nat} {P : ev_O → ev_M → Nat → Nat → Prop}
theorem m_lst_cg (hM : m_lst X H l D N ow w qs) (hN : N ≤ N1) (e : ∀ a, (a = l ∨ (D ≤ a ∧ a < N ∧ ow a = w) ∨ (a < D ∧ a = X.2.2.2.2.2 1)) → H1 a = H a) (eo : ∀ a, D ≤ a → a < N → ow a = w → ow1 a = w) : m_lst X H1 l D N1 ow1 w qs := by
  obtain ⟨e0, h1, h2, h3, h4⟩ := hM
  have e00 : H1 e0 = H e0 := e e0 (by rcases h4 with ⟨a, b, c⟩ | ⟨a, b, c⟩; exact Or.inr (Or.inr ⟨a, b⟩); exact Or.inr (Or.inl ⟨a, b, c⟩))
  have h3' : ∀ z ∈ qs, D ≤ z.1 ∧ z.1 < N1 ∧ ow1 z.1 = w ∧ m_pc z.2 (H1 z.1) := fun z hz => by
    obtain ⟨a, b, c, d⟩ := h3 z hz
    refine ⟨a, by omega, eo _ a b c, ?_⟩
    rw [e z.1 (Or.inr (Or.inl ⟨a, b, c⟩))]
    exact d
  refine ⟨e0, ev_AT_cg h1 (e l (Or.inl rfl)) e00 (fun v hv => ?_), h2, h3', ?_⟩
  · obtain ⟨z, hz, rfl⟩ := List.mem_map.mp hv
    exact m_pc_el (h3' z hz).2.2.2
  · rcases h4 with ⟨a, b, c⟩ | ⟨a, b, c⟩
    · exact Or.inl ⟨a, b, e00.trans c⟩
    · exact Or.inr ⟨a, by omega, eo _ a b c⟩
/-- another owner's list is as it was -/
theorem m_lst_fr (hM : m_lst X H l' D N ow w' qs') (hB : ev_bs X D) (hf : m_fr H H1 l D N ow w) (hN : N ≤ N1) (hDN : D ≤ N) (hw : ¬ w' = w) (hl : ¬ l' = l) (hlD : X.1.heap.size ≤ l ∧ l < D) (hlD' : l' < D) (eo : ∀ a, a < N → ow1 a = ow a) : m_lst X H1 l' D N1 ow1 w' qs' := by
  refine m_lst_cg hM hN (fun a ha => ?_) (fun a h1 h2 h3 => (eo a h2).trans h3)
  have hB2 := hB.2.2
  rcases ha with rfl | ⟨h1, h2, h3⟩ | ⟨h1, h2⟩
  · exact hf _ (by omega) hl (fun z => by omega)
  · exact hf a h2 (fun z => by omega) (fun z => hw (h3.symm.trans z.2))
  · exact hf a (by omega) (by omega) (fun z => by omega)
theorem m_len : (qs.map fun z : Nat × Int32 × Int32 => Value.ref z.1).length = qs.length := List.length_map _
theorem m_nth {j : Nat} (hj : j < qs.length) : (qs.map fun z : Nat × Int32 × Int32 => Value.ref z.1)[j]? = some (.ref qs[j].1) := by
  rw [List.getElem?_map, List.getElem?_eq_getElem hj]; rfl
theorem ML_size (hM : m_lst X H l D N ow w qs) (k : P (.inl (some (.int (nI qs.length)))) H n q) : ev_ok (ev_TT X) 24 0 [.ref l] [] H n q P := by
  obtain ⟨e, ⟨mc, h1, h2⟩, -⟩ := hM
  refine L_size h1 ?_
  rw [m_len]
  exact k
theorem ML_k (hM : m_lst X H l D N ow w qs) : ev_isK (ev_lk X H l) 4 = True := by
  obtain ⟨e, ⟨mc, h1, h2⟩, -⟩ := hM
  rw [ev_lk_s h1]
  exact ev_isK_y
theorem ML_get (hM : m_lst X H l D N ow w qs) (hL : qs.length < 90) {j : Nat} (hj : j < qs.length) (k : P (.inl (some (.ref qs[j].1))) H n q) : ev_ok (ev_TT X) 128 0 [.ref l, .int (nI j)] [] H n q P := by
  obtain ⟨e, ⟨mc, h1, h2⟩, -⟩ := hM
  exact L_get h1 h2 (by rw [m_len]; omega) (m_nth hj) k
theorem ML_set (hM : m_lst X H l D N ow w qs) {j : Nat} (hj : j < qs.length) {g : Nat → Value} (hg : H qs[j].1 = some (.inl (0, 2, g))) (v : Int32) : m_lst X (ev_up H qs[j].1 (.inl (0, 2, updV g 1 (.int v)))) l D N ow w (qs.set j (qs[j].1, qs[j].2.1, v)) := by
  obtain ⟨e, h1, h2, h3, h4⟩ := hM
  have hj3 := h3 qs[j] (List.getElem_mem hj)
  have hf : (qs.set j (qs[j].1, qs[j].2.1, v)).map Prod.fst = qs.map Prod.fst := by
    rw [List.map_set]
    have : (qs.map Prod.fst)[j]'(by rw [List.length_map]; exact hj) = qs[j].1 := by rw [List.getElem_map]
    rw [← this]
    exact List.set_getElem_self _
  have hr : (qs.set j (qs[j].1, qs[j].2.1, v)).map (fun z : Nat × Int32 × Int32 => Value.ref z.1) = qs.map fun z => .ref z.1 := by
    have e2 : ∀ L : m_Q, L.map (fun z : Nat × Int32 × Int32 => Value.ref z.1) = (L.map Prod.fst).map Value.ref := fun L => by rw [List.map_map]; rfl
    rw [e2, e2, hf]
  have hlp : ¬ l = qs[j].1 := fun z => by
    obtain ⟨mc, g1, g2⟩ := h1
    rw [← z, g1] at hg
    cases hg
  have hep : ¬ e = qs[j].1 := fun z => by
    obtain ⟨mc, g1, g2, g3⟩ := h1
    rcases g3 with ⟨g3, -⟩ | ⟨M, F, g3, -⟩
    · rw [z, hg] at g3; cases g3
    · rw [z, hg] at g3; cases g3
  refine ⟨e, ?_, by rw [hf]; exact h2, fun z hz => ?_, ?_⟩
  · rw [hr]
    refine ev_AT_cg h1 (ev_up_n hlp) (ev_up_n hep) (fun x hx => ev_el_up hg ?_)
    obtain ⟨mc, g1, g2, g3⟩ := h1
    exact g2 x hx
  · obtain ⟨i, hi, rfl⟩ := List.getElem_of_mem hz
    rw [List.getElem_set]
    by_cases e2 : j = i
    · rw [if_pos e2]
      refine ⟨hj3.1, hj3.2.1, hj3.2.2.1, updV g 1 (.int v), ev_up_s, ?_, ?_⟩
      · obtain ⟨g', a1, a2, a3⟩ := hj3.2.2.2
        rw [hg] at a1
        cases a1
        exact a2
      · rfl
    · rw [if_neg e2]
      have hi' : i < qs.length := by rw [List.length_set] at hi; exact hi
      have hz3 := h3 qs[i] (List.getElem_mem hi')
      have hne : ¬ qs[i].1 = qs[j].1 := fun z => by
        have hm : (qs.map Prod.fst)[i]? = (qs.map Prod.fst)[j]? := by
          rw [List.getElem?_map, List.getElem?_map, List.getElem?_eq_getElem hi', List.getElem?_eq_getElem hj]
          exact congrArg some z
        exact e2 ((List.getElem?_inj (by rw [List.length_map]; exact hi') h2).mp hm).symm
      rw [ev_up_n hne]
      exact hz3
  · rcases h4 with ⟨a, b, c⟩ | h4
    · exact Or.inl ⟨a, b, (ev_up_n hep).trans c⟩
    · exact Or.inr h4
theorem ML_remove (hM : m_lst X H l D N ow w qs) (hL : qs.length < 90) {j : Nat} (hj : j < qs.length) (k : ∀ H1, m_lst X H1 l D N ow w (qs.eraseIdx j) → m_fr H H1 l D N ow w → H1 qs[j].1 = H qs[j].1 → (∀ a, N ≤ a → ¬ a = l → H1 a = H a) → P (.inl (some (.ref qs[j].1))) H1 n q) : ev_ok (ev_TT X) 130 0 [.ref l, .int (nI j), ev_J, ev_J] [] H n q P := by
  obtain ⟨e, h1, h2, h3, h4⟩ := hM
  have hj3 := h3 qs[j] (List.getElem_mem hj)
  have hne : ∀ z ∈ qs, ¬ z.1 = l ∧ ¬ z.1 = e := fun z hz => by
    obtain ⟨-, -, -, g, hg, -⟩ := h3 z hz
    obtain ⟨mc, g1, g2, g3⟩ := h1
    refine ⟨fun zz => ?_, fun zz => ?_⟩
    · rw [zz, g1] at hg; cases hg
    · rcases g3 with ⟨g3, -⟩ | ⟨M, F, g3, -⟩
      · rw [zz, g3] at hg; cases hg
      · rw [zz, g3] at hg; cases hg
  have h4' : D ≤ e ∧ e < N ∧ ow e = w := by
    rcases h4 with ⟨a, b, c⟩ | h4
    · obtain ⟨mc, g1, g2, g3⟩ := h1
      rcases g3 with ⟨-, -, -, g3⟩ | ⟨M, F, g3, -⟩
      · have : qs.length = 0 := by rw [← m_len, g3]; rfl
        omega
      · rw [c] at g3; cases g3
    · exact h4
  refine L_remove h1 (by rw [m_len]; exact hL) (m_nth hj) fun H1 g1 g2 => ?_
  refine k H1 ⟨e, ?_, ?_, fun z hz => ?_, Or.inr h4'⟩ (fun a ha hal haw => g2 a hal (fun z => haw (z ▸ ⟨h4'.1, h4'.2.2⟩))) (g2 _ (hne _ (List.getElem_mem hj)).1 (hne _ (List.getElem_mem hj)).2) (fun a ha hal => g2 a hal (by omega))
  · rw [ls_mapE]; exact g1
  · rw [ls_mapE]; exact h2.eraseIdx j
  · have hz' := List.mem_of_mem_eraseIdx hz
    obtain ⟨a, b, c, d⟩ := h3 z hz'
    refine ⟨a, b, c, ?_⟩
    rw [g2 _ (hne z hz').1 (hne z hz').2]
    exact d
theorem ML_clear (hM : m_lst X H l D N ow w qs) (hL : qs.length < 90) (k : ∀ H1, m_lst X H1 l D N ow w [] → m_fr H H1 l D N ow w → (∀ a, N ≤ a → ¬ a = l → H1 a = H a) → P (.inl none) H1 n q) : ev_ok (ev_TT X) 21 0 [.ref l, ev_J, ev_J, ev_J] [] H n q P := by
  obtain ⟨e, h1, h2, h3, h4⟩ := hM
  refine L_clear h1 (by rw [m_len]; exact hL) fun H1 g1 g2 => ?_
  have hfr : ∀ a, ¬ a = l → ¬ (D ≤ a ∧ a < N ∧ ow a = w) → H1 a = H a := fun a hal haw => g2 a hal (by
    rcases h4 with ⟨-, -, h4⟩ | h4
    · exact Or.inr h4
    · exact Or.inl fun z => haw (z ▸ h4))
  refine k H1 ⟨e, g1, List.nodup_nil, fun z hz => absurd hz (List.not_mem_nil), ?_⟩ (fun a ha hal haw => hfr a hal (fun z => haw ⟨z.1, z.2.2⟩)) (fun a ha hal => hfr a hal (fun z => by omega))
  rcases h4 with ⟨a, b, c⟩ | h4
  · refine Or.inl ⟨a, b, (g2 e (fun z => ?_) (Or.inr c)).trans c⟩
    exact ev_AT_ne h1 z.symm
  · exact Or.inr h4
theorem ML_add (hM : m_lst X H l D n ow w qs) (hL : qs.length ≤ 60) {z : Nat × Int32 × Int32} (hz : D ≤ z.1 ∧ z.1 < n ∧ ow z.1 = w ∧ m_pc z.2 (H z.1)) (hq : z.1 ∉ qs.map Prod.fst) (hf : ∀ a, n ≤ a → H a = none) (hB : ev_bs X D) (hlD : l < D) (hDn : D ≤ n)
    (k : ∀ H1 n1 q1, m_lst X H1 l D n1 (m_ow ow n w) w (qs ++ [z]) → m_fr H H1 l D n ow w → (∀ a, n1 ≤ a → H1 a = none) → n ≤ n1 → n1 ≤ n + 1 → q ≤ q1 → q1 ≤ q + 90 → P (.inl (some (.int 1))) H1 n1 q1) : ev_ok (ev_TT X) 261 0 [.ref l, .ref z.1] [] H n q P := by
  obtain ⟨e, h1, h2, h3, h4⟩ := hM
  have hB2 := hB.2.2
  have hB1 := hB.1
  have hne : ∀ z : Nat × Int32 × Int32, m_pc z.2 (H z.1) → ¬ z.1 = l ∧ ¬ z.1 = e := fun z h3 => by
    obtain ⟨g, hg, -⟩ := h3
    obtain ⟨mc, g1, g2, g3⟩ := h1
    refine ⟨fun zz => ?_, fun zz => ?_⟩
    · rw [zz, g1] at hg; cases hg
    · rcases g3 with ⟨g3, -⟩ | ⟨M, F, g3, -⟩
      · rw [zz, g3] at hg; cases hg
      · rw [zz, g3] at hg; cases hg
  refine L_add h1 (by rw [m_len]; exact hL) (m_pc_el hz.2.2.2) (by omega) (hf n (Nat.le_refl n)) (hB.2.1 n (by omega)) (by omega) fun H1 e1 n1 q1 g1 g2 g3 => ?_
  have hn1 : n ≤ n1 ∧ n1 ≤ n + 1 ∧ q ≤ q1 ∧ q1 ≤ q + 90 ∧ (e1 = e ∨ (e1 = n ∧ n1 = n + 1)) := by
    rcases g3 with ⟨a, b, c, -⟩ | ⟨a, b, c, d⟩
    · exact ⟨by omega, by omega, by omega, by omega, Or.inl a⟩
    · exact ⟨by omega, by omega, c, d, Or.inr ⟨a, b⟩⟩
  have hpair : ∀ z : Nat × Int32 × Int32, D ≤ z.1 ∧ z.1 < n ∧ ow z.1 = w ∧ m_pc z.2 (H z.1) → D ≤ z.1 ∧ z.1 < n1 ∧ m_ow ow n w z.1 = w ∧ m_pc z.2 (H1 z.1) := fun z hz => by
    obtain ⟨a, b, c, d⟩ := hz
    refine ⟨a, by omega, (m_ow_l b).trans c, ?_⟩
    rw [g2 _ (hne z d).1 (Or.inl (hne z d).2) (Or.inl (by omega))]
    exact d
  have hzz := hpair z hz
  refine k H1 n1 q1 ⟨e1, ?_, ?_, fun z' hz' => ?_, ?_⟩ (fun a ha hal haw => ?_) (fun a ha => ?_) hn1.1 hn1.2.1 hn1.2.2.1 hn1.2.2.2.1
  · rw [List.map_append]
    exact g1
  · rw [List.map_append]
    refine List.nodup_append.mpr ⟨h2, List.nodup_cons.mpr ⟨List.not_mem_nil, List.nodup_nil⟩, fun a ha b hb hab => ?_⟩
    rw [List.mem_singleton.mp hb] at hab
    exact hq (hab ▸ ha)
  · rcases List.mem_append.mp hz' with h | h
    · exact hpair z' (h3 z' h)
    · rw [List.mem_singleton.mp h]
      exact hzz
  · rcases g3 with ⟨a, b, c, ⟨d, hd⟩⟩ | ⟨a, b, c, d⟩
    · right
      rcases h4 with ⟨-, -, h4⟩ | h4
      · rw [h4] at hd; cases hd
      · rw [a]
        exact ⟨h4.1, by omega, (m_ow_l h4.2.1).trans h4.2.2⟩
    · right
      exact ⟨by omega, by omega, m_ow_g (by omega)⟩
  · refine g2 a hal ?_ (Or.inl (by omega))
    rcases h4 with ⟨-, -, h4⟩ | h4
    · exact Or.inr h4
    · exact Or.inl fun z => haw (z ▸ ⟨h4.1, h4.2.2⟩)
  · refine (g2 a (by omega) ?_ (by omega)).trans (hf a (by omega))
    rcases h4 with ⟨-, -, h4⟩ | h4
    · exact Or.inr h4
    · exact Or.inl (by omega)
end M49
end
section
/-! ===== the reference: one picture of it ===== -/
theorem pf_at_get {L : ev_PL} {j : Nat} (hj : j < L.length) : pf_at L j = L[j] := by
  unfold pf_at
  rw [List.getD_eq_getElem?_getD, List.getElem?_eq_getElem hj]; rfl
theorem pf_none {L : ev_PL} {k : Int32} (h : ∀ j, j < L.length → ¬ (pf_at L j).1 = k) : pf_find L k = none := by
  unfold pf_find
  rw [List.findIdx?_eq_none_iff]
  intro x hx
  obtain ⟨j, hj, rfl⟩ := List.getElem_of_mem hx
  have := h j hj
  rw [pf_at_get hj] at this
  exact decide_eq_false this
theorem pf_some {L : ev_PL} {k : Int32} {i : Nat} (hi : i < L.length) (he : (pf_at L i).1 = k) (h : ∀ j, j < i → ¬ (pf_at L j).1 = k) : pf_find L k = some i := by
  unfold pf_find
  rw [List.findIdx?_eq_some_iff_getElem]
  refine ⟨hi, ?_, fun j hj => ?_⟩
  · rw [pf_at_get hi] at he
    exact decide_eq_true he
  · have := h j hj
    rw [pf_at_get (by omega)] at this
    simp [this]
theorem m_at {qs : m_Q} {L : ev_PL} (hq : qs.map Prod.snd = L) {j : Nat} (hj : j < qs.length) : pf_at L j = qs[j].2 := by
  subst hq
  rw [pf_at_get (by rw [List.length_map]; exact hj), List.getElem_map]
theorem m_ln {qs : m_Q} {L : ev_PL} (hq : qs.map Prod.snd = L) : L.length = qs.length := by
  subst hq
  exact List.length_map _
def m_wk (s : ev_TS) : Int32 := if s.2.2.1.1 = true then s.2.2.2.1 else -1
def m_tbc (l : Nat) (s : ev_TS) : ev_C := .inr (12, [.ref l, .int s.2.1.1, .int s.2.1.2.1, .int s.2.1.2.2.1, .int s.2.1.2.2.2, .int (m_wk s), .int (nI s.2.2.2.2), .int (ev_bb s.2.2.1.2.2), .int (ev_bb s.2.2.1.2.1)])
def m_top (y : Nat) (r : Int32 × Int32 × Int32) : ev_C := .inr (13, [.int r.1, .int r.2.1, .int r.2.2, .ref (y + 1), .ref (y + 10)])
def m_ask (X : ev_E) (H : ev_M) (l D N : Nat) (ow : Nat → Nat) (zf : Nat → Nat) (As : List Nat) : Prop := ∃ e : Nat, ev_AT X H l e (As.map fun k => .ref (zf k)) ∧ ((e < D ∧ e = X.2.2.2.2.2 1 ∧ H e = none) ∨ (D ≤ e ∧ e < N ∧ ow e = 4))
def m_arr (y : Nat) (H : ev_M) : Prop := ∃ f : Nat → Value, H (y + 1) = some (.inl (5, 4, f)) ∧ ∀ i, i < 4 → f i = .ref (y + 2 + 2 * i)
/-- the reference at y, its four tables, its askings; what lies from y + 12 on is owned by the table ow tells, or (4) by the askings -/
def m_aw (X : ev_E) (zf : Nat → Nat) (y : Nat) (r : Int32 × Int32 × Int32) (T : Nat → ev_TS) (As : List Nat) (H : ev_M) (N : Nat) (ow : Nat → Nat) : Prop := H y = some (m_top y r) ∧ m_arr y H ∧
  (∀ i, i < 4 → H (y + 2 + 2 * i) = some (m_tbc (y + 3 + 2 * i) (T i)) ∧ ∃ qs, m_lst X H (y + 3 + 2 * i) (y + 12) N ow i qs ∧ qs.map Prod.snd = (T i).1) ∧ m_ask X H (y + 10) (y + 12) N ow zf As
def m_all (X : ev_E) (zf : Nat → Nat) (y : Nat) (r : Int32 × Int32 × Int32) (T : Nat → ev_TS) (As : List Nat) (H : ev_M) (N : Nat) : Prop := ∃ ow, m_aw X zf y r T As H N ow
def m_post (X : ev_E) (zf : Nat → Nat) (y : Nat) (H : ev_M) (n q : Nat) (r : Int32 × Int32 × Int32) (T : Nat → ev_TS) (As : List Nat) (H1 : ev_M) (n1 q1 : Nat) : Prop := m_all X zf y r T As H1 n1 ∧ (∀ a, a < y ∨ a = y + 11 → H1 a = H a) ∧ (∀ a, n1 ≤ a → H1 a = none) ∧ n ≤ n1 ∧ n1 ≤ n + 900 ∧ q ≤ q1 ∧ q1 ≤ q + 12000
def mg_T (T : Nat → ev_TS) (i : Nat) (s : ev_TS) : Nat → ev_TS := fun i' => if i' = i then s else T i'
/-- where an operation on table i stands: what it has changed since H0, n0, q0 -/
def m_cur (X : ev_E) (y i : Nat) (H0 : ev_M) (n0 q0 : Nat) (ow0 : Nat → Nat) (cN cQ : Nat) (r : Int32 × Int32 × Int32) (s : ev_TS) (H : ev_M) (n q : Nat) (ow : Nat → Nat) (qs : m_Q) : Prop :=
  H y = some (m_top y r) ∧ H (y + 2 + 2 * i) = some (m_tbc (y + 3 + 2 * i) s) ∧ m_lst X H (y + 3 + 2 * i) (y + 12) n ow i qs ∧ qs.map Prod.snd = s.1 ∧
  (∀ a, a < n0 → ¬ a = y → ¬ a = y + 2 + 2 * i → ¬ a = y + 3 + 2 * i → ¬ (y + 12 ≤ a ∧ ow0 a = i) → H a = H0 a) ∧ (∀ a, a < n0 → ow a = ow0 a) ∧ (∀ a, n ≤ a → H a = none) ∧ n0 ≤ n ∧ n ≤ n0 + cN ∧ q0 ≤ q ∧ q ≤ q0 + cQ
section M50
variable {X : ev_E} {zf : Nat → Nat} {y i : Nat} {r r1 : Int32 × Int32 × Int32} {T : Nat → ev_TS} {As : List Nat} {H H0 H1 : ev_M} {N n0 q0 cN cQ : Nat} {ow ow0 : Nat → Nat} {s s1 : ev_TS} {qs : m_Q} {n q : Nat} {P : ev_O → ev_M → Nat → Nat → Prop}
theorem m_ask_cg {ow1 : Nat → Nat} {l D N1 : Nat} (hM : m_ask X H l D N ow zf As) (hN : N ≤ N1) (e : ∀ a, (a = l ∨ (D ≤ a ∧ a < N ∧ ow a = 4) ∨ (a < D ∧ a = X.2.2.2.2.2 1)) → H1 a = H a) (eo : ∀ a, D ≤ a → a < N → ow a = 4 → ow1 a = 4) (hel : ∀ v ∈ As.map (fun k => Value.ref (zf k)), ev_el X H v → ev_el X H1 v) : m_ask X H1 l D N1 ow1 zf As := by
  obtain ⟨e0, h1, h4⟩ := hM
  have e00 : H1 e0 = H e0 := e e0 (by rcases h4 with ⟨a, b, c⟩ | ⟨a, b, c⟩; exact Or.inr (Or.inr ⟨a, b⟩); exact Or.inr (Or.inl ⟨a, b, c⟩))
  have hel0 : ∀ v ∈ As.map (fun k => Value.ref (zf k)), ev_el X H v := by
    obtain ⟨mc, g1, g2, g3⟩ := h1
    exact g2
  refine ⟨e0, ev_AT_cg h1 (e l (Or.inl rfl)) e00 (fun v hv => hel v hv (hel0 v hv)), ?_⟩
  rcases h4 with ⟨a, b, c⟩ | ⟨a, b, c⟩
  · exact Or.inl ⟨a, b, e00.trans c⟩
  · exact Or.inr ⟨a, by omega, eo _ a b c⟩
theorem mc_0 (hm : m_aw X zf y r T As H n ow) (hi : i < 4) (hz : ∀ a, n ≤ a → H a = none) : ∃ qs, m_cur X y i H n q ow 0 0 r (T i) H n q ow qs := by
  obtain ⟨h1, h2, h3, h4⟩ := hm
  obtain ⟨g1, qs, g2, g3⟩ := h3 i hi
  exact ⟨qs, h1, g1, g2, g3, fun _ _ _ _ _ _ => rfl, fun _ _ => rfl, hz, Nat.le_refl _, by omega, Nat.le_refl _, by omega⟩
/-- an Integer of the cache is an element whatever the heap -/
def m_zok (X : ev_E) (zf : Nat → Nat) (As : List Nat) : Prop := ∀ k ∈ As, zf k < X.1.heap.size ∧ ∃ v, X.2.2.2.2.1 (zf k) = some (.inr (2, v))
theorem m_zel (hZ : m_zok X zf As) (hw : ev_low X H) : ∀ v ∈ As.map (fun k => Value.ref (zf k)), ev_el X H v := by
  intro v hv
  obtain ⟨k, hk, rfl⟩ := List.mem_map.mp hv
  obtain ⟨h1, w, h2⟩ := hZ k hk
  exact Or.inr ⟨_, rfl, Or.inr ⟨2, _, rfl, rfl, w, ev_lk_o (hw _ h1) h2⟩⟩
theorem mc_end (hm : m_aw X zf y r T As H n ow) (hZ : m_zok X zf As) (hw : ev_low X H) (hB : ev_bs X y) (hi : i < 4) (hn : y + 12 ≤ n) {n1 q1 : Nat} {ow1 : Nat → Nat} (hC : m_cur X y i H n q ow cN cQ r1 s1 H1 n1 q1 ow1 qs) (hcN : cN ≤ 900) (hcQ : cQ ≤ 12000) : m_post X zf y H n q r1 (mg_T T i s1) As H1 n1 q1 := by
  obtain ⟨h1, ⟨f, h2, h2b⟩, h3, h4⟩ := hm
  obtain ⟨c1, c2, c3, c4, c5, c6, c7, c8, c9, c10, c11⟩ := hC
  have hB1 := hB.1
  have hB2 := hB.2.2
  have hlow : ∀ a, a < X.1.heap.size → H1 a = H a := fun a ha => c5 a (by omega) (by omega) (by omega) (by omega) (fun z => by omega)
  refine ⟨⟨ow1, c1, ⟨f, (c5 _ (by omega) (by omega) (by omega) (by omega) (fun z => by omega)).trans h2, h2b⟩, fun j hj => ?_, ?_⟩, fun a ha => ?_, c7, c8, by omega, c10, by omega⟩
  · unfold mg_T
    by_cases e : j = i
    · subst e
      rw [if_pos rfl]
      exact ⟨c2, qs, c3, c4⟩
    · rw [if_neg e]
      obtain ⟨g1, qs', g2, g3⟩ := h3 j hj
      refine ⟨(c5 _ (by omega) (by omega) (by omega) (by omega) (fun z => by omega)).trans g1, qs', m_lst_cg g2 c8 (fun a ha => ?_) (fun a a1 a2 a3 => (c6 a a2).trans a3), g3⟩
      rcases ha with rfl | ⟨a1, a2, a3⟩ | ⟨a1, a2⟩
      · exact c5 _ (by omega) (by omega) (by omega) (by omega) (fun z => by omega)
      · exact c5 a a2 (by omega) (by omega) (by omega) (fun z => e (a3.symm.trans z.2))
      · exact hlow a (by omega)
  · refine m_ask_cg h4 c8 (fun a ha => ?_) (fun a a1 a2 a3 => (c6 a a2).trans a3) (fun v hv _ => m_zel hZ (fun a ha => (hlow a ha).trans (hw a ha)) v hv)
    rcases ha with rfl | ⟨a1, a2, a3⟩ | ⟨a1, a2⟩
    · exact c5 _ (by omega) (by omega) (by omega) (by omega) (fun z => by omega)
    · exact c5 a a2 (by omega) (by omega) (by omega) (fun z => by omega)
    · exact hlow a (by omega)
  · exact c5 a (by omega) (by omega) (by omega) (by omega) (fun z => by omega)
/-- only the first cell is written -/
theorem m_post_top (hm : m_aw X zf y r T As H n ow) (hZ : m_zok X zf As) (hw : ev_low X H) (hB : ev_bs X y) (hn : y + 12 ≤ n) (hz : ∀ a, n ≤ a → H a = none) (r1 : Int32 × Int32 × Int32) : m_post X zf y H n q r1 T As (ev_up H y (m_top y r1)) n q := by
  obtain ⟨h1, ⟨f, h2, h2b⟩, h3, h4⟩ := hm
  have hB1 := hB.1
  have hB2 := hB.2.2
  refine ⟨⟨ow, ev_up_s, ⟨f, (ev_up_n (by omega)).trans h2, h2b⟩, fun j hj => ?_, ?_⟩, fun a ha => ev_up_n (by omega), fun a ha => (ev_up_n (by omega)).trans (hz a ha), Nat.le_refl _, by omega, Nat.le_refl _, by omega⟩
  · obtain ⟨g1, qs', g2, g3⟩ := h3 j hj
    refine ⟨(ev_up_n (by omega)).trans g1, qs', m_lst_cg g2 (Nat.le_refl _) (fun a ha => ev_up_n ?_) (fun a a1 a2 a3 => a3), g3⟩
    rcases ha with rfl | ⟨a1, a2, a3⟩ | ⟨a1, a2⟩ <;> omega
  · refine m_ask_cg h4 (Nat.le_refl _) (fun a ha => ev_up_n ?_) (fun a a1 a2 a3 => a3) (fun v hv _ => m_zel hZ (fun a ha => (ev_up_n (by omega)).trans (hw a ha)) v hv)
    rcases ha with rfl | ⟨a1, a2, a3⟩ | ⟨a1, a2⟩ <;> omega
theorem m_aw_top (hm : m_aw X zf y r T As H n ow) (hZ : m_zok X zf As) (hw : ev_low X H) (hB : ev_bs X y) (r1 : Int32 × Int32 × Int32) : m_aw X zf y r1 T As (ev_up H y (m_top y r1)) n ow := by
  obtain ⟨h1, ⟨f, h2, h2b⟩, h3, h4⟩ := hm
  have hB1 := hB.1
  have hB2 := hB.2.2
  refine ⟨ev_up_s, ⟨f, (ev_up_n (by omega)).trans h2, h2b⟩, fun j hj => ?_, ?_⟩
  · obtain ⟨g1, qs', g2, g3⟩ := h3 j hj
    refine ⟨(ev_up_n (by omega)).trans g1, qs', m_lst_cg g2 (Nat.le_refl _) (fun a ha => ev_up_n ?_) (fun a a1 a2 a3 => a3), g3⟩
    rcases ha with rfl | ⟨a1, a2, a3⟩ | ⟨a1, a2⟩ <;> omega
  · refine m_ask_cg h4 (Nat.le_refl _) (fun a ha => ev_up_n ?_) (fun a a1 a2 a3 => a3) (fun v hv _ => m_zel hZ (fun a ha => (ev_up_n (by omega)).trans (hw a ha)) v hv)
    rcases ha with rfl | ⟨a1, a2, a3⟩ | ⟨a1, a2⟩ <;> omega
/-- a field of the table's own cell -/
theorem mc_fld (hB : ev_bs X y) (hi : i < 4) (hn : y + 12 ≤ n0) (hC : m_cur X y i H0 n0 q0 ow0 cN cQ r s H n q ow qs) (s1 : ev_TS) (hs : s1.1 = s.1) : m_cur X y i H0 n0 q0 ow0 cN cQ r s1 (ev_up H (y + 2 + 2 * i) (m_tbc (y + 3 + 2 * i) s1)) n q ow qs := by
  obtain ⟨c1, c2, c3, c4, c5, c6, c7, c8, c9, c10, c11⟩ := hC
  have hB1 := hB.1
  have hB2 := hB.2.2
  refine ⟨(ev_up_n (by omega)).trans c1, ev_up_s, m_lst_cg c3 (Nat.le_refl _) (fun a ha => ev_up_n ?_) (fun a a1 a2 a3 => a3), c4.trans hs.symm, fun a a1 a2 a3 a4 a5 => (ev_up_n a3).trans (c5 a a1 a2 a3 a4 a5), c6, fun a ha => (ev_up_n (by omega)).trans (c7 a ha), c8, c9, c10, c11⟩
  rcases ha with rfl | ⟨a1, a2, a3⟩ | ⟨a1, a2⟩ <;> omega
theorem mc_tp (hB : ev_bs X y) (hi : i < 4) (hn : y + 12 ≤ n0) (hC : m_cur X y i H0 n0 q0 ow0 cN cQ r s H n q ow qs) (r1 : Int32 × Int32 × Int32) : m_cur X y i H0 n0 q0 ow0 cN cQ r1 s (ev_up H y (m_top y r1)) n q ow qs := by
  obtain ⟨c1, c2, c3, c4, c5, c6, c7, c8, c9, c10, c11⟩ := hC
  have hB1 := hB.1
  have hB2 := hB.2.2
  refine ⟨ev_up_s, (ev_up_n (by omega)).trans c2, m_lst_cg c3 (Nat.le_refl _) (fun a ha => ev_up_n ?_) (fun a a1 a2 a3 => a3), c4, fun a a1 a2 a3 a4 a5 => (ev_up_n a2).trans (c5 a a1 a2 a3 a4 a5), c6, fun a ha => (ev_up_n (by omega)).trans (c7 a ha), c8, c9, c10, c11⟩
  rcases ha with rfl | ⟨a1, a2, a3⟩ | ⟨a1, a2⟩ <;> omega
end M50
end
section
/-! ===== the reference: steps on a table ===== -/
def ps_L (s : ev_TS) (L : ev_PL) : ev_TS := (L, s.2)
def m_two (k v : Int32) : Nat → Value := fun i => if i = 0 then .int k else if i = 1 then .int v else .int 0
section M51
variable {X : ev_E} {y i : Nat} {r r1 : Int32 × Int32 × Int32} {H H0 H1 : ev_M} {n0 q0 cN cQ : Nat} {ow ow0 : Nat → Nat} {s s1 : ev_TS} {qs : m_Q} {n q : Nat} {P : ev_O → ev_M → Nat → Nat → Prop}
theorem mc_lk (hC : m_cur X y i H0 n0 q0 ow0 cN cQ r s H n q ow qs) : ev_lk X H (y + 2 + 2 * i) = some (m_tbc (y + 3 + 2 * i) s) := ev_lk_s hC.2.1
theorem mc_tk (hC : m_cur X y i H0 n0 q0 ow0 cN cQ r s H n q ow qs) : ev_isK (ev_lk X H (y + 2 + 2 * i)) 12 = True := by
  rw [mc_lk hC]
  exact ev_isK_y
theorem mc_len (hC : m_cur X y i H0 n0 q0 ow0 cN cQ r s H n q ow qs) : s.1.length = qs.length := m_ln hC.2.2.2.1
theorem mc_kl (hC : m_cur X y i H0 n0 q0 ow0 cN cQ r s H n q ow qs) : ev_isK (ev_lk X H (y + 3 + 2 * i)) 4 = True := ML_k hC.2.2.1
theorem mc_pair (hC : m_cur X y i H0 n0 q0 ow0 cN cQ r s H n q ow qs) {j : Nat} (hj : j < qs.length) : ∃ g : Nat → Value, H qs[j].1 = some (.inl (0, 2, g)) ∧ g 0 = .int (pf_at s.1 j).1 ∧ g 1 = .int (pf_at s.1 j).2 := by
  obtain ⟨e, -, -, h3, -⟩ := hC.2.2.1
  rw [m_at hC.2.2.2.1 hj]
  exact (h3 _ (List.getElem_mem hj)).2.2.2
theorem mc_in (hC : m_cur X y i H0 n0 q0 ow0 cN cQ r s H n q ow qs) {j : Nat} (hj : j < qs.length) : y + 12 ≤ qs[j].1 ∧ qs[j].1 < n ∧ ow qs[j].1 = i := by
  obtain ⟨e, -, -, h3, -⟩ := hC.2.2.1
  have := h3 _ (List.getElem_mem hj)
  exact ⟨this.1, this.2.1, this.2.2.1⟩
theorem mc_frame (hC : m_cur X y i H0 n0 q0 ow0 cN cQ r s H n q ow qs) {ow1 : Nat → Nat} {n1 q1 : Nat} {c2 d2 : Nat} {qs1 : m_Q} (hf : ∀ a, a < n → ¬ a = y → ¬ a = y + 2 + 2 * i → ¬ a = y + 3 + 2 * i → ¬ (y + 12 ≤ a ∧ ow a = i) → H1 a = H a) (ho : ∀ a, a < n → ow1 a = ow a) (h1 : H1 y = some (m_top y r)) (h2 : H1 (y + 2 + 2 * i) = some (m_tbc (y + 3 + 2 * i) s1)) (hM : m_lst X H1 (y + 3 + 2 * i) (y + 12) n1 ow1 i qs1) (hq : qs1.map Prod.snd = s1.1) (hz : ∀ a, n1 ≤ a → H1 a = none) (hn : n ≤ n1) (hcn : n1 + cN ≤ n + c2) (hqq : q ≤ q1) (hcq : q1 + cQ ≤ q + d2) : m_cur X y i H0 n0 q0 ow0 c2 d2 r s1 H1 n1 q1 ow1 qs1 := by
  obtain ⟨c1, c2', c3, c4, c5, c6, c7, c8, c9, c10, c11⟩ := hC
  refine ⟨h1, h2, hM, hq, fun a a1 a2 a3 a4 a5 => ?_, fun a ha => (ho a (by omega)).trans (c6 a ha), hz, by omega, by omega, by omega, by omega⟩
  exact (hf a (by omega) a2 a3 a4 (fun z => a5 ⟨z.1, (c6 a a1).symm.trans z.2⟩)).trans (c5 a a1 a2 a3 a4 a5)
theorem mc_setv (hB : ev_bs X y) (hi : i < 4) (hn : y + 12 ≤ n0) (hC : m_cur X y i H0 n0 q0 ow0 cN cQ r s H n q ow qs) {j : Nat} (hj : j < qs.length) {g : Nat → Value} (hg : H qs[j].1 = some (.inl (0, 2, g))) (v : Int32) : m_cur X y i H0 n0 q0 ow0 cN cQ r (ps_L s (s.1.set j ((pf_at s.1 j).1, v))) (ev_up H qs[j].1 (.inl (0, 2, updV g 1 (.int v)))) n q ow (qs.set j (qs[j].1, qs[j].2.1, v)) := by
  have hin := mc_in hC hj
  have hC0 := hC
  obtain ⟨c1, c2, c3, c4, c5, c6, c7, c8, c9, c10, c11⟩ := hC0
  refine mc_frame (c2 := cN) (d2 := cQ) hC (fun a a1 a2 a3 a4 a5 => ev_up_n (fun z => a5 (z ▸ ⟨hin.1, hin.2.2⟩))) (fun _ _ => rfl) ((ev_up_n (by omega)).trans c1) ((ev_up_n (by omega)).trans c2) (ML_set c3 hj hg v) ?_ (fun a ha => (ev_up_n (by omega)).trans (c7 a ha)) (Nat.le_refl _) (Nat.le_refl _) (Nat.le_refl _) (Nat.le_refl _)
  unfold ps_L
  rw [List.map_set, c4, m_at c4 hj]
theorem mc_remove (hC : m_cur X y i H0 n0 q0 ow0 cN cQ r s H n q ow qs) (hi : i < 4) (hn : y + 12 ≤ n0) (hL : qs.length < 90) {j : Nat} (hj : j < qs.length)
    (k : ∀ H1, m_cur X y i H0 n0 q0 ow0 cN cQ r (ps_L s (s.1.eraseIdx j)) H1 n q ow (qs.eraseIdx j) → H1 qs[j].1 = H qs[j].1 → P (.inl (some (.ref qs[j].1))) H1 n q) : ev_ok (ev_TT X) 130 0 [.ref (y + 3 + 2 * i), .int (nI j), ev_J, ev_J] [] H n q P := by
  have hC0 := hC
  obtain ⟨c1, c2, c3, c4, c5, c6, c7, c8, c9, c10, c11⟩ := hC0
  refine ML_remove c3 hL hj fun H1 g1 g2 g3 g4 => k H1 (mc_frame (c2 := cN) (d2 := cQ) hC (fun a a1 a2 a3 a4 a5 => g2 a a1 a4 a5) (fun _ _ => rfl) ((g2 y (by omega) (by omega) (by omega)).trans c1) ((g2 _ (by omega) (by omega) (by omega)).trans c2) g1 ?_ (fun a ha => (g4 a ha (by omega)).trans (c7 a ha)) (Nat.le_refl _) (Nat.le_refl _) (Nat.le_refl _) (Nat.le_refl _)) g3
  rw [ls_mapE, c4]; rfl
theorem mc_add (hB : ev_bs X y) (hC : m_cur X y i H0 n0 q0 ow0 cN cQ r s H n q ow qs) (hi : i < 4) (hn : y + 12 ≤ n0) (hL : qs.length ≤ 60) {z : Nat × Int32 × Int32} (hz : y + 12 ≤ z.1 ∧ z.1 < n ∧ ow z.1 = i ∧ m_pc z.2 (H z.1)) (hq : z.1 ∉ qs.map Prod.fst)
    (k : ∀ H1 n1 q1 ow1, m_cur X y i H0 n0 q0 ow0 (cN + 1) (cQ + 90) r (ps_L s (s.1 ++ [z.2])) H1 n1 q1 ow1 (qs ++ [z]) → P (.inl (some (.int 1))) H1 n1 q1) : ev_ok (ev_TT X) 261 0 [.ref (y + 3 + 2 * i), .ref z.1] [] H n q P := by
  have hC0 := hC
  obtain ⟨c1, c2, c3, c4, c5, c6, c7, c8, c9, c10, c11⟩ := hC0
  have hB1 : ev_bs X (y + 12) := ⟨by have := hB.1; omega, hB.2⟩
  refine ML_add c3 hL hz hq c7 hB1 (by omega) (by omega) fun H1 n1 q1 g1 g2 g3 g4 g5 g6 g7 => k H1 n1 q1 _ (mc_frame (c2 := cN + 1) (d2 := cQ + 90) hC (fun a a1 a2 a3 a4 a5 => g2 a a1 a4 a5) (fun a ha => m_ow_l ha) ((g2 y (by omega) (by omega) (by omega)).trans c1) ((g2 _ (by omega) (by omega) (by omega)).trans c2) g1 ?_ g3 g4 (by omega) g6 (by omega))
  rw [List.map_append, c4]; rfl
/-- a new pair, made at n -/
theorem mc_new (hB : ev_bs X y) (hi : i < 4) (hn : y + 12 ≤ n0) (hC : m_cur X y i H0 n0 q0 ow0 cN cQ r s H n q ow qs) (g : Nat → Value) (d : Nat) : m_cur X y i H0 n0 q0 ow0 (cN + 1) (cQ + d) r s (ev_up H n (.inl (0, 2, g))) (n + 1) (q + d) (m_ow ow n i) qs := by
  have hC0 := hC
  obtain ⟨c1, c2, c3, c4, c5, c6, c7, c8, c9, c10, c11⟩ := hC0
  have hB1 := hB.1
  have hB2 := hB.2.2
  refine mc_frame (c2 := cN + 1) (d2 := cQ + d) hC (fun a a1 a2 a3 a4 a5 => ev_up_n (by omega)) (fun a ha => m_ow_l ha) ((ev_up_n (by omega)).trans c1) ((ev_up_n (by omega)).trans c2) (m_lst_cg c3 (by omega) (fun a ha => ev_up_n ?_) (fun a a1 a2 a3 => (m_ow_l a2).trans a3)) c4 (fun a ha => (ev_up_n (by omega)).trans (c7 a (by omega))) (by omega) (by omega) (by omega) (by omega)
  rcases ha with rfl | ⟨a1, a2, a3⟩ | ⟨a1, a2⟩ <;> omega
theorem mc_addnew (hB : ev_bs X y) (hC : m_cur X y i H0 n0 q0 ow0 cN cQ r s H n q ow qs) (hi : i < 4) (hn : y + 12 ≤ n0) (hL : qs.length ≤ 60) {g : Nat → Value} {a b : Int32} (h0 : g 0 = .int a) (h1 : g 1 = .int b)
    (k : ∀ H1 n1 q1 ow1 qs1, m_cur X y i H0 n0 q0 ow0 (cN + 2) (cQ + 92) r (ps_L s (s.1 ++ [(a, b)])) H1 n1 q1 ow1 qs1 → P (.inl (some (.int 1))) H1 n1 q1) : ev_ok (ev_TT X) 261 0 [.ref (y + 3 + 2 * i), .ref n] [] (ev_up H n (.inl (0, 2, g))) (n + 1) (q + 2) P := by
  have hC1 := mc_new hB hi hn hC g 2
  have hnq : (n, a, b).1 ∉ qs.map Prod.fst := fun hm => by
    obtain ⟨z, hz, e⟩ := List.mem_map.mp hm
    obtain ⟨ee, -, -, h3, -⟩ := hC.2.2.1
    have := (h3 z hz).2.1
    dsimp only at e
    omega
  have hge := hC.2.2.2.2.2.2.2.1
  exact mc_add hB hC1 hi hn hL (z := (n, a, b)) ⟨by dsimp only; omega, by dsimp only; omega, m_ow_g (Nat.le_refl n), g, ev_up_s, h0, h1⟩ hnq fun H1 n1 q1 ow1 g1 => k H1 n1 q1 ow1 _ g1
theorem M_place (hC : m_cur X y i H0 n0 q0 ow0 cN cQ r s H n q ow qs) (hl : s.1.length ≤ 20) {k : Int32} (c : P (.inl (some (.int (pf_place s.1 k)))) H n q) : ev_ok (ev_TT X) 207 0 [.ref (y + 2 + 2 * i), .int k, ev_J] [] H n q P := by
  have hlk := mc_lk hC
  unfold m_tbc at hlk
  have hlen := mc_len hC
  have hkl := mc_kl hC
  have key : ∀ d j, j + d = qs.length → (∀ j', j' < j → ¬ (pf_at s.1 j').1 = k) → ev_ok (ev_TT X) 207 2 [.ref (y + 2 + 2 * i), .int k, .int (nI j)] [] H n q P := by
    intro d
    induction d with
    | zero =>
      intro j hj hne
      have hi2 : qs.length ≤ j := by omega
      have e : pf_place s.1 k = -1 := by
        unfold pf_place
        rw [pf_none (fun j' hj' => hne j' (by omega))]
      rw [e] at c
      simp (disch := omega) only [t_X7_place_2, t_X7_place_3, t_X7_place_4, t_X7_place_7, true_and, ev_fG_0, ev_isO_0, hlk, hkl]
      refine ML_size hC.2.2.1 ?_
      simp (disch := omega) only [t_X7_place_10, t_X7_place_38, t_X7_place_39, ↓reduceIte, ev_kr_1, nI_leI, hi2]
      exact c
    | succ d ih =>
      intro j hj hne
      have hi2 : ¬ qs.length ≤ j := by omega
      have hjq : j < qs.length := by omega
      have h90 : qs.length < 90 := by omega
      obtain ⟨g, g0, g1, g2⟩ := mc_pair hC hjq
      have hak : ev_isAk (H qs[j].1) 0 = True := by rw [g0]; exact ev_isAk_y
      rw [t_X7_place_2]
      simp (disch := omega) only [t_X7_place_3, t_X7_place_4, t_X7_place_7, true_and, ev_fG_0, ev_isO_0, hlk, hkl]
      refine ML_size hC.2.2.1 ?_
      simp (disch := omega) only [t_X7_place_10, t_X7_place_13, t_X7_place_14, t_X7_place_17, t_X7_place_18, ↓reduceIte, ev_kr_1, true_and, ev_fG_0, ev_isO_0, hlk, hkl, nI_leI, hi2]
      refine ML_get hC.2.2.1 h90 hjq ?_
      by_cases e : (pf_at s.1 j).1 = k
      · have e2 : pf_place s.1 k = nI j := by
          unfold pf_place
          rw [pf_some (by omega) e hne]
        rw [e2] at c
        simp (disch := omega) only [t_X7_place_21, t_X7_place_24, t_X7_place_25, t_X7_place_26, t_X7_place_27, t_X7_place_30, t_X7_place_31, ↓reduceIte, ev_kr_1, ev_aG_y, ev_inA_0, and_true, true_and, not_true_eq_false, ev_z0, ev_z1, hak, ev_lk_s g0, g1, e, ev_z0, show (0 : Nat) < 2 from by omega]
        exact c
      · have hI := ih (j + 1) (by omega) (fun j' hj' => by
          by_cases e3 : j' = j
          · rw [e3]; exact e
          · exact hne j' (by omega))
        simp (disch := omega) only [t_X7_place_21, t_X7_place_24, t_X7_place_25, t_X7_place_26, t_X7_place_27, t_X7_place_32, t_X7_place_35, ↓reduceIte, ev_k_i, ev_kr_1, ev_aG_y, ev_inA_0, and_true, true_and, not_false_eq_true, nI_1, ev_z0, ev_z1, hak, ev_lk_s g0, g1, e, ev_z0, show (0 : Nat) < 2 from by omega]
        exact hI
  have h9 := key qs.length 0 (by omega) (fun j' hj' => by omega)
  rw [nI_0] at h9
  simp (disch := omega) only [t_X7_place_0, t_X7_place_1, ev_k_i]
  exact h9
theorem M_asked (hB : ev_bs X y) (hC : m_cur X y i H0 n0 q0 ow0 cN cQ r s H n q ow qs) (hi : i < 4) (hn : y + 12 ≤ n0) (hl : s.1.length ≤ 20) (hb : ev_isB s.2.1.1) {j : Nat} (hj : j < s.1.length)
    (k : ∀ H1 n1 q1 ow1 qs1, m_cur X y i H0 n0 q0 ow0 (cN + 1) (cQ + 90) r (ps_L s (pr_ask s.1 s.2.1.1 j)) H1 n1 q1 ow1 qs1 → P (.inl none) H1 n1 q1) : ev_ok (ev_TT X) 277 0 [.ref (y + 2 + 2 * i), .int (nI j)] [] H n q P := by
  have hlk := mc_lk hC
  unfold m_tbc at hlk
  have hlen := mc_len hC
  have hkl := mc_kl hC
  have hjq : j < qs.length := by omega
  rcases hb with e | e
  · have e2 : pr_ask s.1 s.2.1.1 j = s.1 := by unfold pr_ask; rw [if_pos e]
    rw [e] at hlk
    simp (disch := omega) only [t_X7_asked_0, t_X7_asked_1, t_X7_asked_4, t_X7_asked_26, ↓reduceIte, true_and, ev_fG_1, ev_isO_1, hlk]
    refine k H n q ow qs ?_
    rw [e2]
    obtain ⟨c1, c2, c3, c4, c5, c6, c7, c8, c9, c10, c11⟩ := hC
    exact ⟨c1, c2, c3, c4, c5, c6, c7, c8, by omega, c10, by omega⟩
  · have e2 : pr_ask s.1 s.2.1.1 j = s.1.eraseIdx j ++ [pf_at s.1 j] := by unfold pr_ask; rw [e]; exact if_neg (by decide)
    rw [e] at hlk
    rw [e2] at k
    have hin := mc_in hC hjq
    obtain ⟨g, g0, g1, g2⟩ := mc_pair hC hjq
    have hat := m_at hC.2.2.2.1 hjq
    have hnd : (qs.map Prod.fst).Nodup := by
      obtain ⟨ee, -, h2, -, -⟩ := hC.2.2.1
      exact h2
    have hel := hC.2.2.2.2.2.2.2.1
    have hE : (qs.eraseIdx j).length ≤ 60 := by
      have := List.length_eraseIdx_le qs j
      omega
    simp (disch := omega) only [t_X7_asked_0, t_X7_asked_1, t_X7_asked_4, t_X7_asked_7, t_X7_asked_8, t_X7_asked_11, t_X7_asked_12, t_X7_asked_15, t_X7_asked_16, ↓reduceIte, true_and, ev_fG_0, ev_fG_1, ev_isO_0, ev_isO_1, hlk, hkl, show ¬ (1 : Int32) = 0 from by decide]
    refine mc_remove hC hi hn (by omega) hjq fun H1 hC1 hg => ?_
    have hkl1 := mc_kl hC1
    have hak : ev_isAk (H1 qs[j].1) 0 = True := by rw [hg, g0]; exact ev_isAk_y
    simp (disch := omega) only [t_X7_asked_19, t_X7_asked_22, ev_kr_1, true_and, hkl1, hak]
    refine mc_add hB hC1 hi hn hE (z := qs[j]) ⟨hin.1, hin.2.1, hin.2.2, ?_⟩ ?_ fun H2 n1 q1 ow1 hC2 => ?_
    · rw [hg, ← hat]
      exact ⟨g, g0, g1, g2⟩
    · rw [ls_mapE]
      refine ls_eraseN j hnd ?_
      rw [List.getElem?_map, List.getElem?_eq_getElem hjq]; rfl
    · rw [← hat] at hC2
      simp (disch := omega) only [t_X7_asked_25_i, t_X7_asked_26, ev_kr_1]
      exact k H2 n1 q1 ow1 _ hC2
theorem M_isOn (hlk : ev_lk X H (y + 2 + 2 * i) = some (m_tbc (y + 3 + 2 * i) s)) (hkd : ¬ s.2.2.2.1 = -1) (c : P (.inl (some (.int (ev_bb (s.2.2.1.1 && !s.2.2.1.2.1))))) H n q) : ev_ok (ev_TT X) 62 0 [.ref (y + 2 + 2 * i)] [] H n q P := by
  unfold m_tbc m_wk at hlk
  rcases h1 : s.2.2.1.1 with _ | _
  · rw [h1] at hlk c
    rw [if_neg Bool.false_ne_true] at hlk
    simp (disch := omega) only [t_X7_isOn_0, t_X7_isOn_1, t_X7_isOn_4, t_X7_isOn_5, t_X7_isOn_19, t_X7_isOn_20, ↓reduceIte, ev_nb_0, true_and, ev_fG_5, ev_isO_5, hlk]
    exact c
  · rw [h1] at hlk c
    rw [if_pos rfl] at hlk
    rcases h2 : s.2.2.1.2.1 with _ | _ <;> (
      rw [h2] at hlk c
      simp (disch := omega) only [t_X7_isOn_0, t_X7_isOn_1, t_X7_isOn_4, t_X7_isOn_5, t_X7_isOn_8, t_X7_isOn_9, t_X7_isOn_12, t_X7_isOn_15, t_X7_isOn_16, t_X7_isOn_19, t_X7_isOn_20, ↓reduceIte, ev_nb_0, ev_nb_1, true_and, not_true_eq_false, not_false_eq_true, ev_fG_5, ev_fG_8, ev_isO_5, ev_isO_8, hlk, hkd, ev_bb_f, ev_bb_t, show ¬ (1 : Int32) = 0 from by decide, not_true_eq_false]
      exact c)
theorem M_hasMoreT (hC : m_cur X y i H0 n0 q0 ow0 cN cQ r s H n q ow qs) (hl : s.1.length ≤ 20) (hk : s.2.2.2.2 < 2 ^ 31) (hkd : ¬ s.2.2.2.1 = -1) (c : P (.inl (some (.int (ev_bb ((s.2.2.1.1 && !s.2.2.1.2.1) && decide (s.2.2.2.2 < s.1.length)))))) H n q) : ev_ok (ev_TT X) 114 0 [.ref (y + 2 + 2 * i)] [] H n q P := by
  have hlk := mc_lk hC
  have htk := mc_tk hC
  have hlen := mc_len hC
  have hkl := mc_kl hC
  simp (disch := omega) only [t_X7_hasMore_0, t_X7_hasMore_1, true_and, htk]
  refine M_isOn hlk hkd ?_
  unfold m_tbc at hlk
  rcases hu : (s.2.2.1.1 && !s.2.2.1.2.1) with _ | _
  · rw [hu] at c
    simp (disch := omega) only [t_X7_hasMore_4, t_X7_hasMore_25, t_X7_hasMore_26, ↓reduceIte, ev_kr_1, ev_nb_0, true_and, ev_bb_f]
    exact c
  · rw [hu] at c
    simp (disch := omega) only [t_X7_hasMore_4, t_X7_hasMore_7, t_X7_hasMore_8, t_X7_hasMore_11, t_X7_hasMore_12, t_X7_hasMore_15, ↓reduceIte, ev_kr_1, true_and, ev_fG_0, ev_fG_6, ev_isO_0, ev_isO_6, hlk, hkl, ev_bb_t, show ¬ (1 : Int32) = 0 from by decide]
    refine ML_size hC.2.2.1 ?_
    by_cases e : s.2.2.2.2 < s.1.length
    · rw [decide_eq_true e] at c
      have e2 : ¬ qs.length ≤ s.2.2.2.2 := by omega
      simp (disch := omega) only [t_X7_hasMore_18, t_X7_hasMore_21, t_X7_hasMore_22, t_X7_hasMore_26, ↓reduceIte, ev_kr_1, ev_nb_1, true_and, nI_leI, e2]
      exact c
    · rw [decide_eq_false e] at c
      have e2 : qs.length ≤ s.2.2.2.2 := by omega
      simp (disch := omega) only [t_X7_hasMore_18, t_X7_hasMore_25, t_X7_hasMore_26, ↓reduceIte, ev_kr_1, ev_nb_0, true_and, nI_leI, e2]
      exact c
end M51
end
section
/-! ===== the reference: what fails, a step of a walk ===== -/
section M52
variable {X : ev_E} {zf : Nat → Nat} {y i : Nat} {r r1 : Int32 × Int32 × Int32} {T : Nat → ev_TS} {As : List Nat} {H H0 H1 : ev_M} {n0 q0 cN cQ : Nat} {ow ow0 : Nat → Nat} {s s1 : ev_TS} {qs : m_Q} {n q : Nat} {P : ev_O → ev_M → Nat → Nat → Prop}
theorem m_lk0 (hm : m_aw X zf y r T As H n ow) : ev_lk X H y = some (.inr (13, [.int r.1, .int r.2.1, .int r.2.2, .ref (y + 1), .ref (y + 10)])) := ev_lk_s hm.1
theorem m_h0 (hm : m_aw X zf y r T As H n ow) : H y = some (.inr (13, [.int r.1, .int r.2.1, .int r.2.2, .ref (y + 1), .ref (y + 10)])) := hm.1
theorem m_lk1 (hm : m_aw X zf y r T As H n ow) : ∃ f : Nat → Value, ev_lk X H (y + 1) = some (.inl (5, 4, f)) ∧ ∀ i, i < 4 → f i = .ref (y + 2 + 2 * i) := by
  obtain ⟨f, h1, h2⟩ := hm.2.1
  exact ⟨f, ev_lk_s h1, h2⟩
theorem m_k13 (hm : m_aw X zf y r T As H n ow) : ev_isK (ev_lk X H y) 13 = True := by
  rw [m_lk0 hm]
  exact ev_isK_y
theorem m_post_up {r0 : Int32 × Int32 × Int32} {n1 q1 : Nat} (h : m_post X zf y (ev_up H y (m_top y r0)) n q r T As H1 n1 q1) : m_post X zf y H n q r T As H1 n1 q1 := by
  obtain ⟨h1, h2, h3, h4⟩ := h
  exact ⟨h1, fun a ha => (h2 a ha).trans (ev_up_n (by omega)), h3, h4⟩
theorem M_fails_000 (h : H y = some (.inr (13, [.int r.1, .int r.2.1, .int r.2.2, .ref (y + 1), .ref (y + 10)]))) : ev_ok (ev_TT X) 63 0 [.ref y, .int 0, .int 0, .int 0] [] H n q P ↔ P (.inl (some (.int 0))) (ev_up H y (m_top y (0, r.2))) n q := by
  unfold m_top
  simp (disch := omega) only [t_X8_fails_0, t_X8_fails_1, t_X8_fails_2, t_X8_fails_9, t_X8_fails_10, t_X8_fails_17, t_X8_fails_18, t_X8_fails_25, t_X8_fails_26, t_X8_fails_29, t_X8_fails_30, t_X8_fails_33, t_X8_fails_40, t_X8_fails_41, ↓reduceIte, ev_ft_I, ev_nb_0, and_true, true_and, ev_fG_0, ev_fS_0, ev_isO_0, ev_lku_s, h, show (0 : Int32) ≤ 0 from by decide]
theorem M_fails_001 (h : H y = some (.inr (13, [.int r.1, .int r.2.1, .int r.2.2, .ref (y + 1), .ref (y + 10)]))) : ev_ok (ev_TT X) 63 0 [.ref y, .int 0, .int 0, .int 1] [] H n q P ↔ P (.inl (some (.int 1))) (ev_up H y (m_top y (3, r.2))) n q := by
  unfold m_top
  simp (disch := omega) only [t_X8_fails_0, t_X8_fails_1, t_X8_fails_2, t_X8_fails_9, t_X8_fails_10, t_X8_fails_17, t_X8_fails_18, t_X8_fails_21, t_X8_fails_22, t_X8_fails_26, t_X8_fails_29, t_X8_fails_30, t_X8_fails_33, t_X8_fails_36, t_X8_fails_37, t_X8_fails_41, ↓reduceIte, ev_ft_I, ev_nb_1, and_true, true_and, ev_fG_0, ev_fS_0, ev_isO_0, ev_lku_s, h, show ¬ (1 : Int32) = 0 from by decide, show ¬ (3 : Int32) ≤ 0 from by decide]
theorem M_fails_010 (h : H y = some (.inr (13, [.int r.1, .int r.2.1, .int r.2.2, .ref (y + 1), .ref (y + 10)]))) : ev_ok (ev_TT X) 63 0 [.ref y, .int 0, .int 1, .int 0] [] H n q P ↔ P (.inl (some (.int 1))) (ev_up H y (m_top y (2, r.2))) n q := by
  unfold m_top
  simp (disch := omega) only [t_X8_fails_0, t_X8_fails_1, t_X8_fails_2, t_X8_fails_9, t_X8_fails_10, t_X8_fails_13, t_X8_fails_14, t_X8_fails_26, t_X8_fails_29, t_X8_fails_30, t_X8_fails_33, t_X8_fails_36, t_X8_fails_37, t_X8_fails_41, ↓reduceIte, ev_ft_I, ev_nb_1, and_true, true_and, ev_fG_0, ev_fS_0, ev_isO_0, ev_lku_s, h, show ¬ (1 : Int32) = 0 from by decide, show ¬ (2 : Int32) ≤ 0 from by decide]
theorem M_fails_011 (h : H y = some (.inr (13, [.int r.1, .int r.2.1, .int r.2.2, .ref (y + 1), .ref (y + 10)]))) : ev_ok (ev_TT X) 63 0 [.ref y, .int 0, .int 1, .int 1] [] H n q P ↔ P (.inl (some (.int 1))) (ev_up H y (m_top y (2, r.2))) n q := by
  unfold m_top
  simp (disch := omega) only [t_X8_fails_0, t_X8_fails_1, t_X8_fails_2, t_X8_fails_9, t_X8_fails_10, t_X8_fails_13, t_X8_fails_14, t_X8_fails_26, t_X8_fails_29, t_X8_fails_30, t_X8_fails_33, t_X8_fails_36, t_X8_fails_37, t_X8_fails_41, ↓reduceIte, ev_ft_I, ev_nb_1, and_true, true_and, ev_fG_0, ev_fS_0, ev_isO_0, ev_lku_s, h, show ¬ (1 : Int32) = 0 from by decide, show ¬ (2 : Int32) ≤ 0 from by decide]
theorem M_fails_100 (h : H y = some (.inr (13, [.int r.1, .int r.2.1, .int r.2.2, .ref (y + 1), .ref (y + 10)]))) : ev_ok (ev_TT X) 63 0 [.ref y, .int 1, .int 0, .int 0] [] H n q P ↔ P (.inl (some (.int 1))) (ev_up H y (m_top y (1, r.2))) n q := by
  unfold m_top
  simp (disch := omega) only [t_X8_fails_0, t_X8_fails_1, t_X8_fails_2, t_X8_fails_5, t_X8_fails_6, t_X8_fails_26, t_X8_fails_29, t_X8_fails_30, t_X8_fails_33, t_X8_fails_36, t_X8_fails_37, t_X8_fails_41, ↓reduceIte, ev_ft_I, ev_nb_1, and_true, true_and, ev_fG_0, ev_fS_0, ev_isO_0, ev_lku_s, h, show ¬ (1 : Int32) = 0 from by decide, show ¬ (1 : Int32) ≤ 0 from by decide]
theorem M_fails_101 (h : H y = some (.inr (13, [.int r.1, .int r.2.1, .int r.2.2, .ref (y + 1), .ref (y + 10)]))) : ev_ok (ev_TT X) 63 0 [.ref y, .int 1, .int 0, .int 1] [] H n q P ↔ P (.inl (some (.int 1))) (ev_up H y (m_top y (1, r.2))) n q := by
  unfold m_top
  simp (disch := omega) only [t_X8_fails_0, t_X8_fails_1, t_X8_fails_2, t_X8_fails_5, t_X8_fails_6, t_X8_fails_26, t_X8_fails_29, t_X8_fails_30, t_X8_fails_33, t_X8_fails_36, t_X8_fails_37, t_X8_fails_41, ↓reduceIte, ev_ft_I, ev_nb_1, and_true, true_and, ev_fG_0, ev_fS_0, ev_isO_0, ev_lku_s, h, show ¬ (1 : Int32) = 0 from by decide, show ¬ (1 : Int32) ≤ 0 from by decide]
theorem M_fails_110 (h : H y = some (.inr (13, [.int r.1, .int r.2.1, .int r.2.2, .ref (y + 1), .ref (y + 10)]))) : ev_ok (ev_TT X) 63 0 [.ref y, .int 1, .int 1, .int 0] [] H n q P ↔ P (.inl (some (.int 1))) (ev_up H y (m_top y (1, r.2))) n q := by
  unfold m_top
  simp (disch := omega) only [t_X8_fails_0, t_X8_fails_1, t_X8_fails_2, t_X8_fails_5, t_X8_fails_6, t_X8_fails_26, t_X8_fails_29, t_X8_fails_30, t_X8_fails_33, t_X8_fails_36, t_X8_fails_37, t_X8_fails_41, ↓reduceIte, ev_ft_I, ev_nb_1, and_true, true_and, ev_fG_0, ev_fS_0, ev_isO_0, ev_lku_s, h, show ¬ (1 : Int32) = 0 from by decide, show ¬ (1 : Int32) ≤ 0 from by decide]
theorem M_fails_111 (h : H y = some (.inr (13, [.int r.1, .int r.2.1, .int r.2.2, .ref (y + 1), .ref (y + 10)]))) : ev_ok (ev_TT X) 63 0 [.ref y, .int 1, .int 1, .int 1] [] H n q P ↔ P (.inl (some (.int 1))) (ev_up H y (m_top y (1, r.2))) n q := by
  unfold m_top
  simp (disch := omega) only [t_X8_fails_0, t_X8_fails_1, t_X8_fails_2, t_X8_fails_5, t_X8_fails_6, t_X8_fails_26, t_X8_fails_29, t_X8_fails_30, t_X8_fails_33, t_X8_fails_36, t_X8_fails_37, t_X8_fails_41, ↓reduceIte, ev_ft_I, ev_nb_1, and_true, true_and, ev_fG_0, ev_fS_0, ev_isO_0, ev_lku_s, h, show ¬ (1 : Int32) = 0 from by decide, show ¬ (1 : Int32) ≤ 0 from by decide]
theorem M_isOut_y {v w : Int32} (h : v < 0 ∨ w ≤ v) : ev_ok (ev_TT X) 65 0 [.int v, .int w] [] H n q P ↔ P (.inl (some (.int 1))) H n q := by
  by_cases h0 : v < 0
  · simp (disch := omega) only [t_X8_isOut_0, t_X8_isOut_1, t_X8_isOut_9, t_X8_isOut_10, t_X8_isOut_14, ↓reduceIte, ev_nb_1, true_and, h0]
  · have h1 : w ≤ v := h.resolve_left h0
    have h2 : ¬ v < w := Int32.not_lt.mpr h1
    simp (disch := omega) only [t_X8_isOut_0, t_X8_isOut_1, t_X8_isOut_4, t_X8_isOut_5, t_X8_isOut_6, t_X8_isOut_9, t_X8_isOut_10, t_X8_isOut_14, ↓reduceIte, ev_nb_1, true_and, h0, h2]
theorem M_isOut_n {v w : Int32} (h0 : ¬ v < 0) (h1 : ¬ w ≤ v) : ev_ok (ev_TT X) 65 0 [.int v, .int w] [] H n q P ↔ P (.inl (some (.int 0))) H n q := by
  have h2 : v < w := Int32.not_le.mp h1
  simp (disch := omega) only [t_X8_isOut_0, t_X8_isOut_1, t_X8_isOut_4, t_X8_isOut_5, t_X8_isOut_6, t_X8_isOut_13, t_X8_isOut_14, ↓reduceIte, ev_nb_0, true_and, h0, h2]
theorem M_isOut_i {a N : Nat} (h : a < N) (hN : N < 2 ^ 31) : ev_ok (ev_TT X) 65 0 [.int (nI a), .int (nI N)] [] H n q P ↔ P (.inl (some (.int 0))) H n q := M_isOut_n (nI_pos (by omega)) (nI_ge h hN)
theorem M_isNo_y {v : Int32} (h : v < 0 ∨ nI 4 ≤ v) : ev_ok (ev_TT X) 117 0 [.int v] [] H n q P ↔ P (.inl (some (.int 1))) H n q := by
  have h' := fun P n q => M_isOut_y (X := X) (H := H) (P := P) (n := n) (q := q) (v := v) (w := 4) h
  simp (disch := omega) only [t_X8_isNo_0, t_X8_isNo_1, t_X8_isNo_2, t_X8_isNo_5, ev_kr_1, ev_nb_1, true_and, h']
theorem M_isNo_n {a : Nat} (h : a < 4) : ev_ok (ev_TT X) 117 0 [.int (nI a)] [] H n q P ↔ P (.inl (some (.int 0))) H n q := by
  have h' := fun P n q => M_isOut_n (X := X) (H := H) (P := P) (n := n) (q := q) (v := nI a) (w := 4) (nI_pos (by omega)) (nI_ge (b := 4) h (by omega))
  simp (disch := omega) only [t_X8_isNo_0, t_X8_isNo_1, t_X8_isNo_2, t_X8_isNo_5, ev_kr_1, ev_nb_0, true_and, h']
theorem M_isNoSize_y {v : Int32} (h : v < 1 ∨ 6 < v) : ev_ok (ev_TT X) 118 0 [.int v] [] H n q P ↔ P (.inl (some (.int 1))) H n q := by
  have hb : v - 1 < 0 ∨ 6 ≤ v - 1 := by
    have e : (v - 1).toInt = (v.toInt - 1).bmod (2 ^ 32) := Int32.toInt_sub v 1
    have b1 := Int32.le_toInt v
    have b2 := Int32.toInt_lt v
    rw [Int.bmod_def] at e
    rw [Int32.lt_iff_toInt_lt, Int32.le_iff_toInt_le]
    have z0 : (0 : Int32).toInt = 0 := rfl
    have z6 : (6 : Int32).toInt = 6 := rfl
    have z1 : (1 : Int32).toInt = 1 := rfl
    rw [Int32.lt_iff_toInt_lt, Int32.lt_iff_toInt_lt] at h
    rw [z0, z6]
    rw [z1, z6] at h
    split at e <;> omega
  have h' := fun P n q => M_isOut_y (X := X) (H := H) (P := P) (n := n) (q := q) (v := v - 1) (w := 6) hb
  simp (disch := omega) only [t_X8_isNoSize_0, t_X8_isNoSize_1, t_X8_isNoSize_2, t_X8_isNoSize_3, t_X8_isNoSize_5, t_X8_isNoSize_8, ev_kr_1, ev_nb_1, true_and, h']
theorem M_isNoSize_n {j : Nat} (h : j < 6) : ev_ok (ev_TT X) 118 0 [.int (nI (j + 1))] [] H n q P ↔ P (.inl (some (.int 0))) H n q := by
  have h' := fun P n q => M_isOut_n (X := X) (H := H) (P := P) (n := n) (q := q) (v := nI j) (w := 6) (nI_pos (by omega)) (nI_ge (b := 6) h (by omega))
  simp (disch := omega) only [t_X8_isNoSize_0, t_X8_isNoSize_1, t_X8_isNoSize_2, t_X8_isNoSize_3, t_X8_isNoSize_5, t_X8_isNoSize_8, ev_kr_1, ev_nb_0, true_and, h', nI_pred]
theorem M_no (h : H y = some (.inr (13, [.int r.1, .int r.2.1, .int r.2.2, .ref (y + 1), .ref (y + 10)]))) : ev_ok (ev_TT X) 69 0 [.ref y] [] H n q P ↔ P (.inl (some (.int (-9)))) (ev_up H y (m_top y (r.1, r.2.1 + 1, r.2.2))) n q := by
  unfold m_top
  simp (disch := omega) only [t_X8_no_0, t_X8_no_1, t_X8_no_2, t_X8_no_5, t_X8_no_6, t_X8_no_7, t_X8_no_10, t_X8_no_12, ev_ft_I, and_true, true_and, ev_fG_1, ev_fS_1, ev_isO_1, h, ev_lk_s h]
theorem pr_told_y {L : ev_PL} {j : Nat} (hj : j < L.length) (hl : L.length ≤ 20) (w : Int32) : pr_told L (nI j) w = if w = 0 then (pf_at L j).1 else if w = 1 then (pf_at L j).2 else (pf_at L j).1 * 100 + (pf_at L j).2 := by
  unfold pr_told
  rw [if_pos ⟨nI_pos' (by omega), nI_lt hj (by omega)⟩, nI_clamp (by omega)]
def ps_step (s : ev_TS) : ev_TS := (s.1, s.2.1, (s.2.2.1.1, s.2.2.1.2.1, true), s.2.2.2.1, s.2.2.2.2 + 1)
theorem M_step (hB : ev_bs X y) (hC : m_cur X y i H0 n0 q0 ow0 cN cQ r s H n q ow qs) (hi : i < 4) (hn : y + 12 ≤ n0) (hl : s.1.length ≤ 20) (hbg : s.2.2.1.1 = true) (hk : s.2.2.2.2 < s.1.length) (hkd : s.2.2.2.1 = 0 ∨ s.2.2.2.1 = 1 ∨ s.2.2.2.1 = 2)
    (c : ∀ H1, m_cur X y i H0 n0 q0 ow0 cN cQ r (ps_step s) H1 n q ow qs → (∀ a, ¬ a = y + 2 + 2 * i → H1 a = H a) → P (.inl (some (.int (pr_told s.1 (nI s.2.2.2.2) s.2.2.2.1)))) H1 n q) : ev_ok (ev_TT X) 208 0 [.ref (y + 2 + 2 * i), ev_J] [] H n q P := by
  have hlk := mc_lk hC
  have ht := hC.2.1
  unfold m_tbc at hlk ht
  have hlen := mc_len hC
  have hkl := mc_kl hC
  have hjq : s.2.2.2.2 < qs.length := by omega
  obtain ⟨g, g0, g1, g2⟩ := mc_pair hC hjq
  have hak : ev_isAk (H qs[s.2.2.2.2].1) 0 = True := by rw [g0]; exact ev_isAk_y
  have hne : ¬ qs[s.2.2.2.2].1 = y + 2 + 2 * i := fun z => by rw [z, ht] at g0; cases g0
  have hg0' := fun c => (ev_lku_n (X := X) (h := H) (c := c) hne).trans (ev_lk_s g0)
  have hw : m_wk s = s.2.2.2.1 := if_pos hbg
  have hE := mc_fld hB hi hn hC (ps_step s) rfl
  have hK := c _ hE (fun a ha => ev_up_n ha)
  unfold m_tbc at hK
  rw [show m_wk (ps_step s) = m_wk s from rfl] at hK
  rw [pr_told_y hk hl] at hK
  simp (disch := omega) only [t_X7_step_0, t_X7_step_1, t_X7_step_4, t_X7_step_5, t_X7_step_8, true_and, ev_fG_0, ev_fG_6, ev_isO_0, ev_isO_6, hlk, hkl]
  refine ML_get hC.2.2.1 (by omega) hjq ?_
  have h01 : (m_wk s = 0) = (s.2.2.2.1 = 0) := by rw [hw]
  have h11 : (m_wk s = 1) = (s.2.2.2.1 = 1) := by rw [hw]
  rcases hkd with e | e | e <;> (
    rw [e] at h01 h11 hK
    simp only [↓reduceIte, show ¬ (1 : Int32) = 0 from by decide, show ¬ (2 : Int32) = 0 from by decide, show ¬ (2 : Int32) = 1 from by decide] at hK
    simp (disch := omega) only [t_X7_step_11, t_X7_step_14, t_X7_step_15, t_X7_step_16, t_X7_step_17, t_X7_step_20, t_X7_step_21, t_X7_step_22, t_X7_step_25, t_X7_step_26, t_X7_step_27, t_X7_step_30, t_X7_step_31, t_X7_step_34, t_X7_step_37, t_X7_step_38, t_X7_step_39, t_X7_step_40, t_X7_step_43, t_X7_step_44, t_X7_step_47, t_X7_step_48, t_X7_step_51, t_X7_step_52, t_X7_step_53, t_X7_step_54, t_X7_step_57, t_X7_step_58, t_X7_step_59, t_X7_step_60, t_X7_step_62, t_X7_step_63, t_X7_step_64, t_X7_step_65, t_X7_step_66, t_X7_step_67, ↓reduceIte, ev_k_r, ev_kr_1, ev_aG_y, ev_inA_0, ev_ft_I, ev_ft_1, and_true, true_and, not_true_eq_false, not_false_eq_true, nI_1, ev_fG_5, ev_fG_6, ev_fS_6, ev_fS_7, ev_isO_5, ev_isO_6, ev_isO_7, ev_z0, ev_z1, ev_lku_s, ev_up_s, hlk, ht, hak, hg0', g1, g2, ev_z0, show (0 : Nat) < 2 from by omega, show (1 : Nat) < 2 from by omega, show (0 : Int32) ≤ 1 from by decide, show (1 : Int32).toNatClampNeg = 1 from rfl, ev_up_up, h01, h11, show ¬ (1 : Int32) = 0 from by decide, show ¬ (2 : Int32) = 0 from by decide, show ¬ (2 : Int32) = 1 from by decide, not_true_eq_false]
    exact hK)
def ps_anew (s : ev_TS) (b m : Int32) : ev_TS := (s.1, (b, m, 0, -1), s.2.2)
theorem M_anew (hB : ev_bs X y) (hC : m_cur X y i H0 n0 q0 ow0 cN cQ r s H n q ow qs) (hi : i < 4) (hn : y + 12 ≤ n0) {b1 m1 : Int32} (hb : ev_isB b1)
    (c : ∀ H1, m_cur X y i H0 n0 q0 ow0 cN cQ r (ps_anew s b1 m1) H1 n q ow qs → P (.inl none) H1 n q) : ev_ok (ev_TT X) 61 0 [.ref (y + 2 + 2 * i), .int b1, .int m1] [] H n q P := by
  have ht := hC.2.1
  unfold m_tbc at ht
  have hE := mc_fld hB hi hn hC (ps_anew s b1 m1) rfl
  have hK := c _ hE
  unfold m_tbc at hK
  have hf := ev_ft_B hb
  rcases hb with rfl | rfl <;> (
    simp (disch := omega) only [t_X7_anew_0, t_X7_anew_1, t_X7_anew_2, t_X7_anew_5, t_X7_anew_6, t_X7_anew_7, t_X7_anew_10, t_X7_anew_11, t_X7_anew_12, t_X7_anew_15, t_X7_anew_16, t_X7_anew_17, t_X7_anew_20, ev_ft_I, ev_ft_0, ev_ft_1, and_true, true_and, ev_fS_1, ev_fS_2, ev_fS_3, ev_fS_4, ev_isO_1, ev_isO_2, ev_isO_3, ev_isO_4, ev_up_s, ht, ev_up_up]
    exact hK)
end M52
end
section
/-! ===== the reference: what is read of its tables ===== -/
def m_cx (X : ev_E) (zf : Nat → Nat) (y : Nat) (T : Nat → ev_TS) (As : List Nat) (H : ev_M) (n : Nat) : Prop := m_zok X zf As ∧ ev_low X H ∧ ev_bs X y ∧ y + 12 ≤ n ∧ (∀ a, n ≤ a → H a = none) ∧ (∀ i, i < 4 → okT (T i)) ∧ ∀ i, i < 4 → (T i).2.2.2.1 = 0 ∨ (T i).2.2.2.1 = 1 ∨ (T i).2.2.2.1 = 2
theorem m_cx_top {X : ev_E} {zf : Nat → Nat} {y : Nat} {T : Nat → ev_TS} {As : List Nat} {H : ev_M} {n : Nat} (h : m_cx X zf y T As H n) (r : Int32 × Int32 × Int32) : m_cx X zf y T As (ev_up H y (m_top y r)) n := by
  obtain ⟨hZ, hw, hB, hn, hz, hT⟩ := h
  have := hB.1
  exact ⟨hZ, fun a ha => (ev_up_n (by omega)).trans (hw a ha), hB, hn, fun a ha => (ev_up_n (by omega)).trans (hz a ha), hT⟩
theorem m_kd {s : ev_TS} (h : s.2.2.2.1 = 0 ∨ s.2.2.2.1 = 1 ∨ s.2.2.2.1 = 2) : ¬ s.2.2.2.1 = -1 := by
  rcases h with h | h | h <;> (rw [h]; decide)
theorem pf_place_m1 {L : ev_PL} {k : Int32} (hl : L.length ≤ 20) : (pf_place L k = -1) = ((pf_find L k).isSome = false) := by
  unfold pf_place
  rcases e : pf_find L k with _ | j
  · simp
  · have hj := (pf_find_s e).1
    simp [ev_nm1 (show j < 2 ^ 31 by omega)]
section M53
variable {X : ev_E} {zf : Nat → Nat} {y : Nat} {r : Int32 × Int32 × Int32} {T : Nat → ev_TS} {As : List Nat} {H : ev_M} {ow : Nat → Nat} {n q : Nat} {P : ev_O → ev_M → Nat → Nat → Prop}
theorem MM_has (hm : m_aw X zf y r T As H n ow) (hx : m_cx X zf y T As H n) {t k : Int32} (k0 : t < 0 ∨ nI 4 ≤ t → ∀ H1, m_post X zf y H n q (1, r.2) T As H1 n q → P (.inl (some (.int 0))) H1 n q)
    (k1 : ∀ i, i < 4 → t = nI i → ((k < 0 ∨ nI 20 ≤ k)) → ∀ H1, m_post X zf y H n q (2, r.2) T As H1 n q → P (.inl (some (.int 0))) H1 n q)
    (k2 : ∀ i a, i < 4 → t = nI i → a < 20 → k = nI a → ∀ H1, m_post X zf y H n q (0, r.2) T As H1 n q → P (.inl (some (.int (ev_bb (pf_find (T i).1 k).isSome)))) H1 n q) : ev_ok (ev_TT X) 233 0 [.ref y, .int t, .int k] [] H n q P := by
  have hx0 := hx
  obtain ⟨hZ, hw, hB, hn, hz, hT, hW⟩ := hx0
  have h0 := m_h0 hm
  have hl0 := m_lk0 hm
  have hk13 := m_k13 hm
  rcases pk_ix t (n := 4) (by omega) with hbt | hbt | ⟨i, hi, rfl⟩
  · skip
    rcases pk_ix k (n := 20) (by omega) with hb_k | hb_k | ⟨a_k, ha_k, rfl⟩
    · skip
      simp (disch := omega) only [t_X8_has_0, t_X8_has_1, t_X8_has_2, t_X8_has_3, t_X8_has_6, t_X8_has_27, t_X8_has_28, t_X8_isNoKey_0, t_X8_isNoKey_1, t_X8_isNoKey_2, t_X8_isNoKey_5, t_X8_isNoKey_6, t_X8_isNoKey_8, t_X8_isNoKey_11, t_X8_isNoKey_12, t_X8_isNoKey_15, ↓reduceIte, ev_kr_1, ev_isK_y, ev_nb_0, ev_nb_1, true_and, not_false_eq_true, show ¬ (1 : Int32) = 0 from by decide, not_false_eq_true, M_isNo_y (Or.inl hbt), M_isOut_y (v := k) (w := 20) (Or.inl hb_k), M_fails_110 h0, hl0]
      exact k0 (Or.inl hbt) _ (m_post_top hm hZ hw hB hn hz (1, r.2))
    · skip
      simp (disch := omega) only [t_X8_has_0, t_X8_has_1, t_X8_has_2, t_X8_has_3, t_X8_has_6, t_X8_has_27, t_X8_has_28, t_X8_isNoKey_0, t_X8_isNoKey_1, t_X8_isNoKey_2, t_X8_isNoKey_5, t_X8_isNoKey_6, t_X8_isNoKey_8, t_X8_isNoKey_11, t_X8_isNoKey_12, t_X8_isNoKey_15, ↓reduceIte, ev_kr_1, ev_isK_y, ev_nb_0, ev_nb_1, true_and, not_false_eq_true, show ¬ (1 : Int32) = 0 from by decide, not_false_eq_true, M_isNo_y (Or.inl hbt), M_isOut_y (v := k) (w := 20) (Or.inr hb_k), M_fails_110 h0, hl0]
      exact k0 (Or.inl hbt) _ (m_post_top hm hZ hw hB hn hz (1, r.2))
    · skip
      simp (disch := omega) only [t_X8_has_0, t_X8_has_1, t_X8_has_2, t_X8_has_3, t_X8_has_6, t_X8_has_27, t_X8_has_28, t_X8_isNoKey_0, t_X8_isNoKey_1, t_X8_isNoKey_2, t_X8_isNoKey_5, t_X8_isNoKey_6, t_X8_isNoKey_8, t_X8_isNoKey_11, t_X8_isNoKey_12, t_X8_isNoKey_15, ↓reduceIte, ev_kr_1, ev_isK_y, ev_nb_0, ev_nb_1, true_and, not_false_eq_true, show ¬ (1 : Int32) = 0 from by decide, not_false_eq_true, M_isNo_y (Or.inl hbt), M_isOut_n (v := nI a_k) (w := 20) (nI_pos (by omega)) (nI_ge (b := 20) ha_k (by omega)), M_fails_100 h0, hl0]
      exact k0 (Or.inl hbt) _ (m_post_top hm hZ hw hB hn hz (1, r.2))
  · skip
    rcases pk_ix k (n := 20) (by omega) with hb_k | hb_k | ⟨a_k, ha_k, rfl⟩
    · skip
      simp (disch := omega) only [t_X8_has_0, t_X8_has_1, t_X8_has_2, t_X8_has_3, t_X8_has_6, t_X8_has_27, t_X8_has_28, t_X8_isNoKey_0, t_X8_isNoKey_1, t_X8_isNoKey_2, t_X8_isNoKey_5, t_X8_isNoKey_6, t_X8_isNoKey_8, t_X8_isNoKey_11, t_X8_isNoKey_12, t_X8_isNoKey_15, ↓reduceIte, ev_kr_1, ev_isK_y, ev_nb_0, ev_nb_1, true_and, not_false_eq_true, show ¬ (1 : Int32) = 0 from by decide, not_false_eq_true, M_isNo_y (Or.inr hbt), M_isOut_y (v := k) (w := 20) (Or.inl hb_k), M_fails_110 h0, hl0]
      exact k0 (Or.inr hbt) _ (m_post_top hm hZ hw hB hn hz (1, r.2))
    · skip
      simp (disch := omega) only [t_X8_has_0, t_X8_has_1, t_X8_has_2, t_X8_has_3, t_X8_has_6, t_X8_has_27, t_X8_has_28, t_X8_isNoKey_0, t_X8_isNoKey_1, t_X8_isNoKey_2, t_X8_isNoKey_5, t_X8_isNoKey_6, t_X8_isNoKey_8, t_X8_isNoKey_11, t_X8_isNoKey_12, t_X8_isNoKey_15, ↓reduceIte, ev_kr_1, ev_isK_y, ev_nb_0, ev_nb_1, true_and, not_false_eq_true, show ¬ (1 : Int32) = 0 from by decide, not_false_eq_true, M_isNo_y (Or.inr hbt), M_isOut_y (v := k) (w := 20) (Or.inr hb_k), M_fails_110 h0, hl0]
      exact k0 (Or.inr hbt) _ (m_post_top hm hZ hw hB hn hz (1, r.2))
    · skip
      simp (disch := omega) only [t_X8_has_0, t_X8_has_1, t_X8_has_2, t_X8_has_3, t_X8_has_6, t_X8_has_27, t_X8_has_28, t_X8_isNoKey_0, t_X8_isNoKey_1, t_X8_isNoKey_2, t_X8_isNoKey_5, t_X8_isNoKey_6, t_X8_isNoKey_8, t_X8_isNoKey_11, t_X8_isNoKey_12, t_X8_isNoKey_15, ↓reduceIte, ev_kr_1, ev_isK_y, ev_nb_0, ev_nb_1, true_and, not_false_eq_true, show ¬ (1 : Int32) = 0 from by decide, not_false_eq_true, M_isNo_y (Or.inr hbt), M_isOut_n (v := nI a_k) (w := 20) (nI_pos (by omega)) (nI_ge (b := 20) ha_k (by omega)), M_fails_100 h0, hl0]
      exact k0 (Or.inr hbt) _ (m_post_top hm hZ hw hB hn hz (1, r.2))
  · skip
    rcases pk_ix k (n := 20) (by omega) with hb_k | hb_k | ⟨a_k, ha_k, rfl⟩
    · skip
      simp (disch := omega) only [t_X8_has_0, t_X8_has_1, t_X8_has_2, t_X8_has_3, t_X8_has_6, t_X8_has_27, t_X8_has_28, t_X8_isNoKey_0, t_X8_isNoKey_1, t_X8_isNoKey_2, t_X8_isNoKey_5, t_X8_isNoKey_6, t_X8_isNoKey_8, t_X8_isNoKey_11, t_X8_isNoKey_12, t_X8_isNoKey_15, ↓reduceIte, ev_kr_1, ev_isK_y, ev_nb_0, ev_nb_1, true_and, not_false_eq_true, show ¬ (1 : Int32) = 0 from by decide, not_false_eq_true, M_isNo_n hi, M_isOut_y (v := k) (w := 20) (Or.inl hb_k), M_fails_010 h0, hl0]
      exact k1 i hi rfl (Or.inl hb_k) _ (m_post_top hm hZ hw hB hn hz (2, r.2))
    · skip
      simp (disch := omega) only [t_X8_has_0, t_X8_has_1, t_X8_has_2, t_X8_has_3, t_X8_has_6, t_X8_has_27, t_X8_has_28, t_X8_isNoKey_0, t_X8_isNoKey_1, t_X8_isNoKey_2, t_X8_isNoKey_5, t_X8_isNoKey_6, t_X8_isNoKey_8, t_X8_isNoKey_11, t_X8_isNoKey_12, t_X8_isNoKey_15, ↓reduceIte, ev_kr_1, ev_isK_y, ev_nb_0, ev_nb_1, true_and, not_false_eq_true, show ¬ (1 : Int32) = 0 from by decide, not_false_eq_true, M_isNo_n hi, M_isOut_y (v := k) (w := 20) (Or.inr hb_k), M_fails_010 h0, hl0]
      exact k1 i hi rfl (Or.inr hb_k) _ (m_post_top hm hZ hw hB hn hz (2, r.2))
    · skip
      simp (disch := omega) only [t_X8_has_0, t_X8_has_1, t_X8_has_2, t_X8_has_3, t_X8_has_6, t_X8_isNoKey_0, t_X8_isNoKey_1, t_X8_isNoKey_2, t_X8_isNoKey_5, t_X8_isNoKey_6, t_X8_isNoKey_8, t_X8_isNoKey_11, t_X8_isNoKey_12, t_X8_isNoKey_15, ↓reduceIte, ev_kr_1, ev_isK_y, ev_nb_0, true_and, not_true_eq_false, not_true_eq_false, M_isNo_n hi, M_isOut_n (v := nI a_k) (w := 20) (nI_pos (by omega)) (nI_ge (b := 20) ha_k (by omega)), M_fails_000 h0, hl0]
      have hm1 := m_aw_top hm hZ hw hB (0, r.2)
      have hx1 := m_cx_top hx (0, r.2)
      have hp0 : m_post X zf y H n q (0, r.2) T As (ev_up H y (m_top y (0, r.2))) n q := m_post_top hm hZ hw hB hn hz (0, r.2)
      have hup := fun (r2 : Int32 × Int32 × Int32) (T2 : Nat → ev_TS) (H2 : ev_M) (n2 q2 : Nat) => @m_post_up X zf y r2 T2 As H H2 n q (0, r.2) n2 q2
      generalize ev_up H y (m_top y (0, r.2)) = H1 at hm1 hx1 hp0 hup ⊢
      obtain ⟨-, hw1, -, -, hz1, -, -⟩ := hx1
      have h10 := m_h0 hm1
      have hl10 := m_lk0 hm1
      have hk13 := m_k13 hm1
      obtain ⟨f, hf1, hf2⟩ := m_lk1 hm1
      have hfi := hf2 i hi
      have hpi := nI_pos' (n := i) (by omega)
      have hci := nI_clamp (n := i) (by omega)
      have hTi := hT i hi
      have hli := okL_len hTi.1
      obtain ⟨qs, hC⟩ := mc_0 (q := q) hm1 hi hz1
      have htk := mc_tk hC
      have hlk := mc_lk hC
      have ht := hC.2.1
      have hkl := mc_kl hC
      have hlen := mc_len hC
      unfold m_tbc at hlk ht
      simp (disch := omega) only [t_X8_has_9, t_X8_has_10, t_X8_has_13, t_X8_has_14, t_X8_has_15, t_X8_has_16, ev_isK_y, ev_aG_y, and_true, true_and, ev_fG_3, ev_isO_3, hl10, hf1, hfi, hpi, hci, hi, ev_inA_5, hlk]
      refine M_place hC hli ?_
      have hK := k2 i a_k hi rfl ha_k rfl _ hp0
      have hpm := pf_place_m1 (k := nI a_k) hli
      rcases e : (pf_find (T i).1 (nI a_k)).isSome with _ | _ <;> (
        rw [e] at hK hpm
        simp (disch := omega) only [t_X8_has_19, t_X8_has_20, t_X8_has_23, t_X8_has_24, t_X8_has_27, t_X8_has_28, ↓reduceIte, ev_kr_1, ev_nb_0, ev_nb_1, true_and, hpm, Bool.true_eq_false]
        exact hK)
theorem MM_placeOf (hm : m_aw X zf y r T As H n ow) (hx : m_cx X zf y T As H n) {t k : Int32} (k0 : t < 0 ∨ nI 4 ≤ t → ∀ H1, m_post X zf y H n q (1, r.2) T As H1 n q → P (.inl (some (.int 0))) H1 n q)
    (k1 : ∀ i, i < 4 → t = nI i → ((k < 0 ∨ nI 20 ≤ k)) → ∀ H1, m_post X zf y H n q (2, r.2) T As H1 n q → P (.inl (some (.int 0))) H1 n q)
    (k2 : ∀ i a, i < 4 → t = nI i → a < 20 → k = nI a → ∀ H1, m_post X zf y H n q (0, r.2) T As H1 n q → P (.inl (some (.int (pf_place (T i).1 k)))) H1 n q) : ev_ok (ev_TT X) 238 0 [.ref y, .int t, .int k] [] H n q P := by
  have hx0 := hx
  obtain ⟨hZ, hw, hB, hn, hz, hT, hW⟩ := hx0
  have h0 := m_h0 hm
  have hl0 := m_lk0 hm
  have hk13 := m_k13 hm
  rcases pk_ix t (n := 4) (by omega) with hbt | hbt | ⟨i, hi, rfl⟩
  · skip
    rcases pk_ix k (n := 20) (by omega) with hb_k | hb_k | ⟨a_k, ha_k, rfl⟩
    · skip
      simp (disch := omega) only [t_X8_placeOf_0, t_X8_placeOf_1, t_X8_placeOf_2, t_X8_placeOf_3, t_X8_placeOf_6, t_X8_placeOf_9, t_X8_placeOf_10, t_X8_placeOf_23, t_X8_isNoKey_0, t_X8_isNoKey_1, t_X8_isNoKey_2, t_X8_isNoKey_5, t_X8_isNoKey_6, t_X8_isNoKey_8, t_X8_isNoKey_11, t_X8_isNoKey_12, t_X8_isNoKey_15, ↓reduceIte, ev_kr_1, ev_isK_y, ev_nb_1, true_and, show ¬ (1 : Int32) = 0 from by decide, M_isNo_y (Or.inl hbt), M_isOut_y (v := k) (w := 20) (Or.inl hb_k), M_fails_110 h0, hl0]
      exact k0 (Or.inl hbt) _ (m_post_top hm hZ hw hB hn hz (1, r.2))
    · skip
      simp (disch := omega) only [t_X8_placeOf_0, t_X8_placeOf_1, t_X8_placeOf_2, t_X8_placeOf_3, t_X8_placeOf_6, t_X8_placeOf_9, t_X8_placeOf_10, t_X8_placeOf_23, t_X8_isNoKey_0, t_X8_isNoKey_1, t_X8_isNoKey_2, t_X8_isNoKey_5, t_X8_isNoKey_6, t_X8_isNoKey_8, t_X8_isNoKey_11, t_X8_isNoKey_12, t_X8_isNoKey_15, ↓reduceIte, ev_kr_1, ev_isK_y, ev_nb_1, true_and, show ¬ (1 : Int32) = 0 from by decide, M_isNo_y (Or.inl hbt), M_isOut_y (v := k) (w := 20) (Or.inr hb_k), M_fails_110 h0, hl0]
      exact k0 (Or.inl hbt) _ (m_post_top hm hZ hw hB hn hz (1, r.2))
    · skip
      simp (disch := omega) only [t_X8_placeOf_0, t_X8_placeOf_1, t_X8_placeOf_2, t_X8_placeOf_3, t_X8_placeOf_6, t_X8_placeOf_9, t_X8_placeOf_10, t_X8_placeOf_23, t_X8_isNoKey_0, t_X8_isNoKey_1, t_X8_isNoKey_2, t_X8_isNoKey_5, t_X8_isNoKey_6, t_X8_isNoKey_8, t_X8_isNoKey_11, t_X8_isNoKey_12, t_X8_isNoKey_15, ↓reduceIte, ev_kr_1, ev_isK_y, ev_nb_1, true_and, show ¬ (1 : Int32) = 0 from by decide, M_isNo_y (Or.inl hbt), M_isOut_n (v := nI a_k) (w := 20) (nI_pos (by omega)) (nI_ge (b := 20) ha_k (by omega)), M_fails_100 h0, hl0]
      exact k0 (Or.inl hbt) _ (m_post_top hm hZ hw hB hn hz (1, r.2))
  · skip
    rcases pk_ix k (n := 20) (by omega) with hb_k | hb_k | ⟨a_k, ha_k, rfl⟩
    · skip
      simp (disch := omega) only [t_X8_placeOf_0, t_X8_placeOf_1, t_X8_placeOf_2, t_X8_placeOf_3, t_X8_placeOf_6, t_X8_placeOf_9, t_X8_placeOf_10, t_X8_placeOf_23, t_X8_isNoKey_0, t_X8_isNoKey_1, t_X8_isNoKey_2, t_X8_isNoKey_5, t_X8_isNoKey_6, t_X8_isNoKey_8, t_X8_isNoKey_11, t_X8_isNoKey_12, t_X8_isNoKey_15, ↓reduceIte, ev_kr_1, ev_isK_y, ev_nb_1, true_and, show ¬ (1 : Int32) = 0 from by decide, M_isNo_y (Or.inr hbt), M_isOut_y (v := k) (w := 20) (Or.inl hb_k), M_fails_110 h0, hl0]
      exact k0 (Or.inr hbt) _ (m_post_top hm hZ hw hB hn hz (1, r.2))
    · skip
      simp (disch := omega) only [t_X8_placeOf_0, t_X8_placeOf_1, t_X8_placeOf_2, t_X8_placeOf_3, t_X8_placeOf_6, t_X8_placeOf_9, t_X8_placeOf_10, t_X8_placeOf_23, t_X8_isNoKey_0, t_X8_isNoKey_1, t_X8_isNoKey_2, t_X8_isNoKey_5, t_X8_isNoKey_6, t_X8_isNoKey_8, t_X8_isNoKey_11, t_X8_isNoKey_12, t_X8_isNoKey_15, ↓reduceIte, ev_kr_1, ev_isK_y, ev_nb_1, true_and, show ¬ (1 : Int32) = 0 from by decide, M_isNo_y (Or.inr hbt), M_isOut_y (v := k) (w := 20) (Or.inr hb_k), M_fails_110 h0, hl0]
      exact k0 (Or.inr hbt) _ (m_post_top hm hZ hw hB hn hz (1, r.2))
    · skip
      simp (disch := omega) only [t_X8_placeOf_0, t_X8_placeOf_1, t_X8_placeOf_2, t_X8_placeOf_3, t_X8_placeOf_6, t_X8_placeOf_9, t_X8_placeOf_10, t_X8_placeOf_23, t_X8_isNoKey_0, t_X8_isNoKey_1, t_X8_isNoKey_2, t_X8_isNoKey_5, t_X8_isNoKey_6, t_X8_isNoKey_8, t_X8_isNoKey_11, t_X8_isNoKey_12, t_X8_isNoKey_15, ↓reduceIte, ev_kr_1, ev_isK_y, ev_nb_1, true_and, show ¬ (1 : Int32) = 0 from by decide, M_isNo_y (Or.inr hbt), M_isOut_n (v := nI a_k) (w := 20) (nI_pos (by omega)) (nI_ge (b := 20) ha_k (by omega)), M_fails_100 h0, hl0]
      exact k0 (Or.inr hbt) _ (m_post_top hm hZ hw hB hn hz (1, r.2))
  · skip
    rcases pk_ix k (n := 20) (by omega) with hb_k | hb_k | ⟨a_k, ha_k, rfl⟩
    · skip
      simp (disch := omega) only [t_X8_placeOf_0, t_X8_placeOf_1, t_X8_placeOf_2, t_X8_placeOf_3, t_X8_placeOf_6, t_X8_placeOf_9, t_X8_placeOf_10, t_X8_placeOf_23, t_X8_isNoKey_0, t_X8_isNoKey_1, t_X8_isNoKey_2, t_X8_isNoKey_5, t_X8_isNoKey_6, t_X8_isNoKey_8, t_X8_isNoKey_11, t_X8_isNoKey_12, t_X8_isNoKey_15, ↓reduceIte, ev_kr_1, ev_isK_y, ev_nb_1, true_and, show ¬ (1 : Int32) = 0 from by decide, M_isNo_n hi, M_isOut_y (v := k) (w := 20) (Or.inl hb_k), M_fails_010 h0, hl0]
      exact k1 i hi rfl (Or.inl hb_k) _ (m_post_top hm hZ hw hB hn hz (2, r.2))
    · skip
      simp (disch := omega) only [t_X8_placeOf_0, t_X8_placeOf_1, t_X8_placeOf_2, t_X8_placeOf_3, t_X8_placeOf_6, t_X8_placeOf_9, t_X8_placeOf_10, t_X8_placeOf_23, t_X8_isNoKey_0, t_X8_isNoKey_1, t_X8_isNoKey_2, t_X8_isNoKey_5, t_X8_isNoKey_6, t_X8_isNoKey_8, t_X8_isNoKey_11, t_X8_isNoKey_12, t_X8_isNoKey_15, ↓reduceIte, ev_kr_1, ev_isK_y, ev_nb_1, true_and, show ¬ (1 : Int32) = 0 from by decide, M_isNo_n hi, M_isOut_y (v := k) (w := 20) (Or.inr hb_k), M_fails_010 h0, hl0]
      exact k1 i hi rfl (Or.inr hb_k) _ (m_post_top hm hZ hw hB hn hz (2, r.2))
    · skip
      simp (disch := omega) only [t_X8_placeOf_0, t_X8_placeOf_1, t_X8_placeOf_2, t_X8_placeOf_3, t_X8_placeOf_6, t_X8_isNoKey_0, t_X8_isNoKey_1, t_X8_isNoKey_2, t_X8_isNoKey_5, t_X8_isNoKey_6, t_X8_isNoKey_8, t_X8_isNoKey_11, t_X8_isNoKey_12, t_X8_isNoKey_15, ↓reduceIte, ev_kr_1, ev_isK_y, ev_nb_0, true_and, M_isNo_n hi, M_isOut_n (v := nI a_k) (w := 20) (nI_pos (by omega)) (nI_ge (b := 20) ha_k (by omega)), M_fails_000 h0, hl0]
      have hm1 := m_aw_top hm hZ hw hB (0, r.2)
      have hx1 := m_cx_top hx (0, r.2)
      have hp0 : m_post X zf y H n q (0, r.2) T As (ev_up H y (m_top y (0, r.2))) n q := m_post_top hm hZ hw hB hn hz (0, r.2)
      have hup := fun (r2 : Int32 × Int32 × Int32) (T2 : Nat → ev_TS) (H2 : ev_M) (n2 q2 : Nat) => @m_post_up X zf y r2 T2 As H H2 n q (0, r.2) n2 q2
      generalize ev_up H y (m_top y (0, r.2)) = H1 at hm1 hx1 hp0 hup ⊢
      obtain ⟨-, hw1, -, -, hz1, -, -⟩ := hx1
      have h10 := m_h0 hm1
      have hl10 := m_lk0 hm1
      have hk13 := m_k13 hm1
      obtain ⟨f, hf1, hf2⟩ := m_lk1 hm1
      have hfi := hf2 i hi
      have hpi := nI_pos' (n := i) (by omega)
      have hci := nI_clamp (n := i) (by omega)
      have hTi := hT i hi
      have hli := okL_len hTi.1
      obtain ⟨qs, hC⟩ := mc_0 (q := q) hm1 hi hz1
      have htk := mc_tk hC
      have hlk := mc_lk hC
      have ht := hC.2.1
      have hkl := mc_kl hC
      have hlen := mc_len hC
      unfold m_tbc at hlk ht
      simp (disch := omega) only [t_X8_placeOf_13, t_X8_placeOf_14, t_X8_placeOf_17, t_X8_placeOf_18, t_X8_placeOf_19, t_X8_placeOf_20, ev_isK_y, ev_aG_y, and_true, true_and, ev_fG_3, ev_isO_3, hl10, hf1, hfi, hpi, hci, hi, ev_inA_5, hlk]
      refine M_place hC hli ?_
      simp (disch := omega) only [t_X8_placeOf_23, ev_kr_1]
      exact k2 i a_k hi rfl ha_k rfl _ hp0
theorem MM_size (hm : m_aw X zf y r T As H n ow) (hx : m_cx X zf y T As H n) {t : Int32} (k0 : t < 0 ∨ nI 4 ≤ t → ∀ H1, m_post X zf y H n q (1, r.2) T As H1 n q → P (.inl (some (.int 0))) H1 n q)
    (k2 : ∀ i, i < 4 → t = nI i → ∀ H1, m_post X zf y H n q (0, r.2) T As H1 n q → P (.inl (some (.int (nI (T i).1.length)))) H1 n q) : ev_ok (ev_TT X) 168 0 [.ref y, .int t] [] H n q P := by
  have hx0 := hx
  obtain ⟨hZ, hw, hB, hn, hz, hT, hW⟩ := hx0
  have h0 := m_h0 hm
  have hl0 := m_lk0 hm
  have hk13 := m_k13 hm
  rcases pk_ix t (n := 4) (by omega) with hbt | hbt | ⟨i, hi, rfl⟩
  · skip
    simp (disch := omega) only [t_X8_size_0, t_X8_size_1, t_X8_size_2, t_X8_size_5, t_X8_size_6, t_X8_size_7, t_X8_size_10, t_X8_size_13, t_X8_size_14, t_X8_size_29, ↓reduceIte, ev_kr_1, ev_isK_y, true_and, show ¬ (1 : Int32) = 0 from by decide, M_isNo_y (Or.inl hbt), M_fails_100 h0, hl0]
    exact k0 (Or.inl hbt) _ (m_post_top hm hZ hw hB hn hz (1, r.2))
  · skip
    simp (disch := omega) only [t_X8_size_0, t_X8_size_1, t_X8_size_2, t_X8_size_5, t_X8_size_6, t_X8_size_7, t_X8_size_10, t_X8_size_13, t_X8_size_14, t_X8_size_29, ↓reduceIte, ev_kr_1, ev_isK_y, true_and, show ¬ (1 : Int32) = 0 from by decide, M_isNo_y (Or.inr hbt), M_fails_100 h0, hl0]
    exact k0 (Or.inr hbt) _ (m_post_top hm hZ hw hB hn hz (1, r.2))
  · skip
    simp (disch := omega) only [t_X8_size_0, t_X8_size_1, t_X8_size_2, t_X8_size_5, t_X8_size_6, t_X8_size_7, t_X8_size_10, ↓reduceIte, ev_kr_1, ev_isK_y, true_and, M_isNo_n hi, M_fails_000 h0, hl0]
    have hm1 := m_aw_top hm hZ hw hB (0, r.2)
    have hx1 := m_cx_top hx (0, r.2)
    have hp0 : m_post X zf y H n q (0, r.2) T As (ev_up H y (m_top y (0, r.2))) n q := m_post_top hm hZ hw hB hn hz (0, r.2)
    have hup := fun (r2 : Int32 × Int32 × Int32) (T2 : Nat → ev_TS) (H2 : ev_M) (n2 q2 : Nat) => @m_post_up X zf y r2 T2 As H H2 n q (0, r.2) n2 q2
    generalize ev_up H y (m_top y (0, r.2)) = H1 at hm1 hx1 hp0 hup ⊢
    obtain ⟨-, hw1, -, -, hz1, -, -⟩ := hx1
    have h10 := m_h0 hm1
    have hl10 := m_lk0 hm1
    have hk13 := m_k13 hm1
    obtain ⟨f, hf1, hf2⟩ := m_lk1 hm1
    have hfi := hf2 i hi
    have hpi := nI_pos' (n := i) (by omega)
    have hci := nI_clamp (n := i) (by omega)
    have hTi := hT i hi
    have hli := okL_len hTi.1
    obtain ⟨qs, hC⟩ := mc_0 (q := q) hm1 hi hz1
    have htk := mc_tk hC
    have hlk := mc_lk hC
    have ht := hC.2.1
    have hkl := mc_kl hC
    have hlen := mc_len hC
    unfold m_tbc at hlk ht
    simp (disch := omega) only [t_X8_size_17, t_X8_size_18, t_X8_size_21, t_X8_size_22, t_X8_size_23, t_X8_size_26, ev_aG_y, and_true, true_and, ev_fG_0, ev_fG_3, ev_isO_0, ev_isO_3, hl10, hf1, hfi, hpi, hci, hi, ev_inA_5, hlk, hkl]
    refine ML_size hC.2.2.1 ?_
    simp (disch := omega) only [t_X8_size_29, ev_kr_1]
    rw [← hlen]
    exact k2 i hi rfl _ hp0
end M53
end
section
/-! ===== the reference: what is told of a table ===== -/
theorem updV_s {f : Nat → Value} {k : Nat} {v : Value} : updV f k v k = v := if_pos rfl
theorem updV_n {f : Nat → Value} {k j : Nat} {v : Value} (h : ¬ j = k) : updV f k v j = f j := if_neg h
theorem m_aw_ext {X : ev_E} {zf : Nat → Nat} {y : Nat} {r : Int32 × Int32 × Int32} {T : Nat → ev_TS} {As : List Nat} {H H2 : ev_M} {ow : Nat → Nat} {n n2 : Nat} (hm : m_aw X zf y r T As H n ow) (hx : m_cx X zf y T As H n) (e : ∀ a, a < n → H2 a = H a) (h1 : n ≤ n2) : m_aw X zf y r T As H2 n2 ow := by
  obtain ⟨g1, ⟨f, g2, g2b⟩, g3, g4⟩ := hm
  obtain ⟨hZ, hw, hB, hn, hz, hT, hW⟩ := hx
  have hB1 := hB.1
  have hB2 := hB.2.2
  refine ⟨(e _ (by omega)).trans g1, ⟨f, (e _ (by omega)).trans g2, g2b⟩, fun j hj => ?_, ?_⟩
  · obtain ⟨a1, qs', a2, a3⟩ := g3 j hj
    refine ⟨(e _ (by omega)).trans a1, qs', m_lst_cg a2 h1 (fun a ha => e a ?_) (fun a a1 a2 a3 => a3), a3⟩
    rcases ha with rfl | ⟨a1, a2, a3⟩ | ⟨a1, a2⟩ <;> omega
  · refine m_ask_cg g4 h1 (fun a ha => e a ?_) (fun a a1 a2 a3 => a3) (fun v hv _ => m_zel hZ (fun a ha => (e a (by omega)).trans (hw a ha)) v hv)
    rcases ha with rfl | ⟨a1, a2, a3⟩ | ⟨a1, a2⟩ <;> omega
theorem m_post_ext {X : ev_E} {zf : Nat → Nat} {y : Nat} {r : Int32 × Int32 × Int32} {T : Nat → ev_TS} {As : List Nat} {H H2 : ev_M} {ow : Nat → Nat} {n q n2 q2 : Nat} (hm : m_aw X zf y r T As H n ow) (hx : m_cx X zf y T As H n) (e : ∀ a, a < n → H2 a = H a) (z : ∀ a, n2 ≤ a → H2 a = none) (h1 : n ≤ n2) (h2 : n2 ≤ n + 900) (h3 : q ≤ q2) (h4 : q2 ≤ q + 12000) : m_post X zf y H n q r T As H2 n2 q2 :=
  ⟨⟨ow, m_aw_ext hm hx e h1⟩, fun a ha => e a (by have := hx.2.2.2.1; omega), z, h1, h2, h3, h4⟩
/-- a list under a new cell at n -/
theorem ML_it {X : ev_E} {H : ev_M} {l D N w n : Nat} {ow : Nat → Nat} {qs : m_Q} (hM : m_lst X H l D N ow w qs) (hN : N ≤ n) (hlD : l < D) (hDN : D ≤ N) : ∃ mc e, H l = some (ev_alc mc e qs.length) ∧ ∀ c, (ev_up H n c) l = some (ev_alc mc e (qs.map fun z => Value.ref z.1).length) ∧ ev_AE X (ev_up H n c) e (qs.map fun z => .ref z.1) := by
  obtain ⟨e, ⟨mc, h1, h2⟩, h3, h4, h5⟩ := hM
  refine ⟨mc, e, ?_, fun c => ⟨(ev_up_n (by omega)).trans h1, fun v hv => ?_, ?_⟩⟩
  · rw [← m_len]; exact h1
  · obtain ⟨z, hz, rfl⟩ := List.mem_map.mp hv
    obtain ⟨a1, a2, a3, g, a4, -⟩ := h4 z hz
    exact Or.inr ⟨z.1, rfl, Or.inl ⟨2, g, (ev_up_n (by omega)).trans a4⟩⟩
  · rw [ev_up_n (h := H) (a := n) (b := e) (c := c) (by rcases h5 with ⟨a, -⟩ | ⟨-, a, -⟩ <;> omega)]
    exact h2.2
section M54
variable {X : ev_E} {zf : Nat → Nat} {y : Nat} {r : Int32 × Int32 × Int32} {T : Nat → ev_TS} {As : List Nat} {H : ev_M} {ow : Nat → Nat} {n q : Nat} {P : ev_O → ev_M → Nat → Nat → Prop}
theorem M_told (hm : m_aw X zf y r T As H n ow) (hx : m_cx X zf y T As H n) {i : Nat} (hi : i < 4) {p w : Int32} (hw0 : w = 0 ∨ w = 1 ∨ w = 2) (c : P (.inl (some (.int (pr_told (T i).1 p w)))) H n q) : ev_ok (ev_TT X) 214 0 [.ref y, .int (nI i), .int p, .int w, ev_J] [] H n q P := by
  have hx0 := hx
  obtain ⟨hZ, hw, hB, hn, hz, hT, hW⟩ := hx0
  have hl10 := m_lk0 hm
  have hk13 := m_k13 hm
  obtain ⟨f, hf1, hf2⟩ := m_lk1 hm
  have hfi := hf2 i hi
  have hpi := nI_pos' (n := i) (by omega)
  have hci := nI_clamp (n := i) (by omega)
  have hTi := hT i hi
  have hli := okL_len hTi.1
  obtain ⟨qs, hC⟩ := mc_0 (q := q) hm hi hz
  have htk := mc_tk hC
  have hlk := mc_lk hC
  have ht := hC.2.1
  have hkl := mc_kl hC
  have hlen := mc_len hC
  unfold m_tbc at hlk ht
  simp (disch := omega) only [t_X8_told_0, t_X8_told_1, t_X8_told_2, t_X8_told_5, t_X8_told_6, t_X8_told_7, t_X8_told_10, ev_aG_y, and_true, true_and, ev_fG_0, ev_fG_3, ev_isO_0, ev_isO_3, hl10, hf1, hfi, hpi, hci, hi, ev_inA_5, hlk, hkl]
  refine ML_size hC.2.2.1 ?_
  rcases pk_ix p (n := qs.length) (by omega) with hb | hb | ⟨j, hj, rfl⟩
  · have e : pr_told (T i).1 p w = -1 := by unfold pr_told; exact if_neg (fun z => Int32.not_le.mpr hb z.1)
    rw [e] at c
    simp (disch := omega) only [t_X8_told_13, t_X8_told_16, t_X8_told_19, t_X8_told_20, ↓reduceIte, ev_kr_1, show ¬ (1 : Int32) = 0 from by decide, M_isOut_y (Or.inl hb)]
    exact c
  · have e : pr_told (T i).1 p w = -1 := by unfold pr_told; rw [hlen]; exact if_neg (fun z => Int32.not_lt.mpr hb z.2)
    rw [e] at c
    simp (disch := omega) only [t_X8_told_13, t_X8_told_16, t_X8_told_19, t_X8_told_20, ↓reduceIte, ev_kr_1, show ¬ (1 : Int32) = 0 from by decide, M_isOut_y (Or.inr hb)]
    exact c
  · obtain ⟨g, g0, g1, g2⟩ := mc_pair hC hj
    have hak : ev_isAk (H qs[j].1) 0 = True := by rw [g0]; exact ev_isAk_y
    have e := pr_told_y (w := w) (by rw [hlen]; exact hj) hli
    rw [e] at c
    simp (disch := omega) only [t_X8_told_13, t_X8_told_16, t_X8_told_21, t_X8_told_22, t_X8_told_25, t_X8_told_26, t_X8_told_27, t_X8_told_30, t_X8_told_31, ↓reduceIte, ev_kr_1, ev_aG_y, and_true, true_and, ev_fG_0, ev_fG_3, ev_isO_0, ev_isO_3, hl10, hf1, hfi, hpi, hci, hi, ev_inA_5, hlk, hkl, M_isOut_i hj (by omega)]
    refine ML_get hC.2.2.1 (by omega) hj ?_
    rcases hw0 with rfl | rfl | rfl <;> (
      simp only [↓reduceIte, show ¬ (1 : Int32) = 0 from by decide, show ¬ (2 : Int32) = 0 from by decide, show ¬ (2 : Int32) = 1 from by decide] at c
      simp (disch := omega) only [t_X8_told_34, t_X8_told_37, t_X8_told_39, t_X8_told_40, t_X8_told_43, t_X8_told_45, t_X8_told_46, t_X8_told_47, t_X8_told_50, t_X8_told_51, t_X8_told_52, t_X8_told_55, t_X8_told_57, t_X8_told_58, t_X8_told_59, t_X8_told_62, t_X8_told_64, t_X8_told_65, t_X8_told_66, t_X8_told_68, t_X8_told_69, t_X8_told_71, t_X8_told_72, t_X8_told_73, t_X8_told_74, ↓reduceIte, ev_k_i, ev_kr_1, ev_aG_y, ev_inA_0, and_true, true_and, not_true_eq_false, not_false_eq_true, ev_z0, ev_z1, show ¬ (1 : Int32) = 0 from by decide, show ¬ (2 : Int32) = 0 from by decide, show ¬ (2 : Int32) = 1 from by decide, show (0 : Int32) ≤ 1 from by decide, show (1 : Int32).toNatClampNeg = 1 from rfl, show (0 : Nat) < 2 from by omega, show (1 : Nat) < 2 from by omega, not_true_eq_false, not_false_eq_true, hak, ev_lk_s g0, g1, g2]
      exact c)
theorem m_cx_top2 {H1 : ev_M} {r1 : Int32 × Int32 × Int32} (hx : m_cx X zf y T As H n) (_hm1 : m_aw X zf y r1 T As H1 n ow) (hw1 : ev_low X H1) (hz1 : ∀ a, n ≤ a → H1 a = none) : m_cx X zf y T As H1 n := by
  obtain ⟨hZ, hw, hB, hn, hz, hT⟩ := hx
  exact ⟨hZ, hw1, hB, hn, hz1, hT⟩
theorem MM_keyAt (hm : m_aw X zf y r T As H n ow) (hx : m_cx X zf y T As H n) {t p : Int32} (k0 : t < 0 ∨ nI 4 ≤ t → ∀ H1, m_post X zf y H n q (1, r.2) T As H1 n q → P (.inl (some (.int 0))) H1 n q)
    (k2 : ∀ i, i < 4 → t = nI i → ∀ H1, m_post X zf y H n q (0, r.2) T As H1 n q → P (.inl (some (.int (pr_told (T i).1 p 0)))) H1 n q) : ev_ok (ev_TT X) 235 0 [.ref y, .int t, .int p] [] H n q P := by
  have hx0 := hx
  obtain ⟨hZ, hw, hB, hn, hz, hT, hW⟩ := hx0
  have h0 := m_h0 hm
  have hl0 := m_lk0 hm
  have hk13 := m_k13 hm
  rcases pk_ix t (n := 4) (by omega) with hbt | hbt | ⟨i, hi, rfl⟩
  · skip
    simp (disch := omega) only [t_X8_keyAt_0, t_X8_keyAt_1, t_X8_keyAt_2, t_X8_keyAt_5, t_X8_keyAt_6, t_X8_keyAt_7, t_X8_keyAt_10, t_X8_keyAt_13, t_X8_keyAt_14, t_X8_keyAt_24, ↓reduceIte, ev_kr_1, ev_isK_y, true_and, show ¬ (1 : Int32) = 0 from by decide, M_isNo_y (Or.inl hbt), M_fails_100 h0, hl0]
    exact k0 (Or.inl hbt) _ (m_post_top hm hZ hw hB hn hz (1, r.2))
  · skip
    simp (disch := omega) only [t_X8_keyAt_0, t_X8_keyAt_1, t_X8_keyAt_2, t_X8_keyAt_5, t_X8_keyAt_6, t_X8_keyAt_7, t_X8_keyAt_10, t_X8_keyAt_13, t_X8_keyAt_14, t_X8_keyAt_24, ↓reduceIte, ev_kr_1, ev_isK_y, true_and, show ¬ (1 : Int32) = 0 from by decide, M_isNo_y (Or.inr hbt), M_fails_100 h0, hl0]
    exact k0 (Or.inr hbt) _ (m_post_top hm hZ hw hB hn hz (1, r.2))
  · skip
    simp (disch := omega) only [t_X8_keyAt_0, t_X8_keyAt_1, t_X8_keyAt_2, t_X8_keyAt_5, t_X8_keyAt_6, t_X8_keyAt_7, t_X8_keyAt_10, ↓reduceIte, ev_kr_1, ev_isK_y, true_and, M_isNo_n hi, M_fails_000 h0, hl0]
    have hm1 := m_aw_top hm hZ hw hB (0, r.2)
    have hx1 := m_cx_top hx (0, r.2)
    have hp0 : m_post X zf y H n q (0, r.2) T As (ev_up H y (m_top y (0, r.2))) n q := m_post_top hm hZ hw hB hn hz (0, r.2)
    have hup := fun (r2 : Int32 × Int32 × Int32) (T2 : Nat → ev_TS) (H2 : ev_M) (n2 q2 : Nat) => @m_post_up X zf y r2 T2 As H H2 n q (0, r.2) n2 q2
    generalize ev_up H y (m_top y (0, r.2)) = H1 at hm1 hx1 hp0 hup ⊢
    obtain ⟨-, hw1, -, -, hz1, -, -⟩ := hx1
    have h10 := m_h0 hm1
    have hl10 := m_lk0 hm1
    have hk13 := m_k13 hm1
    obtain ⟨f, hf1, hf2⟩ := m_lk1 hm1
    have hfi := hf2 i hi
    have hpi := nI_pos' (n := i) (by omega)
    have hci := nI_clamp (n := i) (by omega)
    have hTi := hT i hi
    have hli := okL_len hTi.1
    obtain ⟨qs, hC⟩ := mc_0 (q := q) hm1 hi hz1
    have htk := mc_tk hC
    have hlk := mc_lk hC
    have ht := hC.2.1
    have hkl := mc_kl hC
    have hlen := mc_len hC
    unfold m_tbc at hlk ht
    simp (disch := omega) only [t_X8_keyAt_17, t_X8_keyAt_18, t_X8_keyAt_19, t_X8_keyAt_20, t_X8_keyAt_21, ev_isK_y, true_and, hl10]
    refine M_told hm1 (m_cx_top2 hx hm1 hw1 hz1) hi (Or.inl rfl) ?_
    simp (disch := omega) only [t_X8_keyAt_24, ev_kr_1]
    exact k2 i hi rfl _ hp0
theorem MM_valueAt (hm : m_aw X zf y r T As H n ow) (hx : m_cx X zf y T As H n) {t p : Int32} (k0 : t < 0 ∨ nI 4 ≤ t → ∀ H1, m_post X zf y H n q (1, r.2) T As H1 n q → P (.inl (some (.int 0))) H1 n q)
    (k2 : ∀ i, i < 4 → t = nI i → ∀ H1, m_post X zf y H n q (0, r.2) T As H1 n q → P (.inl (some (.int (pr_told (T i).1 p 1)))) H1 n q) : ev_ok (ev_TT X) 243 0 [.ref y, .int t, .int p] [] H n q P := by
  have hx0 := hx
  obtain ⟨hZ, hw, hB, hn, hz, hT, hW⟩ := hx0
  have h0 := m_h0 hm
  have hl0 := m_lk0 hm
  have hk13 := m_k13 hm
  rcases pk_ix t (n := 4) (by omega) with hbt | hbt | ⟨i, hi, rfl⟩
  · skip
    simp (disch := omega) only [t_X8_valueAt_0, t_X8_valueAt_1, t_X8_valueAt_2, t_X8_valueAt_5, t_X8_valueAt_6, t_X8_valueAt_7, t_X8_valueAt_10, t_X8_valueAt_13, t_X8_valueAt_14, t_X8_valueAt_24, ↓reduceIte, ev_kr_1, ev_isK_y, true_and, show ¬ (1 : Int32) = 0 from by decide, M_isNo_y (Or.inl hbt), M_fails_100 h0, hl0]
    exact k0 (Or.inl hbt) _ (m_post_top hm hZ hw hB hn hz (1, r.2))
  · skip
    simp (disch := omega) only [t_X8_valueAt_0, t_X8_valueAt_1, t_X8_valueAt_2, t_X8_valueAt_5, t_X8_valueAt_6, t_X8_valueAt_7, t_X8_valueAt_10, t_X8_valueAt_13, t_X8_valueAt_14, t_X8_valueAt_24, ↓reduceIte, ev_kr_1, ev_isK_y, true_and, show ¬ (1 : Int32) = 0 from by decide, M_isNo_y (Or.inr hbt), M_fails_100 h0, hl0]
    exact k0 (Or.inr hbt) _ (m_post_top hm hZ hw hB hn hz (1, r.2))
  · skip
    simp (disch := omega) only [t_X8_valueAt_0, t_X8_valueAt_1, t_X8_valueAt_2, t_X8_valueAt_5, t_X8_valueAt_6, t_X8_valueAt_7, t_X8_valueAt_10, ↓reduceIte, ev_kr_1, ev_isK_y, true_and, M_isNo_n hi, M_fails_000 h0, hl0]
    have hm1 := m_aw_top hm hZ hw hB (0, r.2)
    have hx1 := m_cx_top hx (0, r.2)
    have hp0 : m_post X zf y H n q (0, r.2) T As (ev_up H y (m_top y (0, r.2))) n q := m_post_top hm hZ hw hB hn hz (0, r.2)
    have hup := fun (r2 : Int32 × Int32 × Int32) (T2 : Nat → ev_TS) (H2 : ev_M) (n2 q2 : Nat) => @m_post_up X zf y r2 T2 As H H2 n q (0, r.2) n2 q2
    generalize ev_up H y (m_top y (0, r.2)) = H1 at hm1 hx1 hp0 hup ⊢
    obtain ⟨-, hw1, -, -, hz1, -, -⟩ := hx1
    have h10 := m_h0 hm1
    have hl10 := m_lk0 hm1
    have hk13 := m_k13 hm1
    obtain ⟨f, hf1, hf2⟩ := m_lk1 hm1
    have hfi := hf2 i hi
    have hpi := nI_pos' (n := i) (by omega)
    have hci := nI_clamp (n := i) (by omega)
    have hTi := hT i hi
    have hli := okL_len hTi.1
    obtain ⟨qs, hC⟩ := mc_0 (q := q) hm1 hi hz1
    have htk := mc_tk hC
    have hlk := mc_lk hC
    have ht := hC.2.1
    have hkl := mc_kl hC
    have hlen := mc_len hC
    unfold m_tbc at hlk ht
    simp (disch := omega) only [t_X8_valueAt_17, t_X8_valueAt_18, t_X8_valueAt_19, t_X8_valueAt_20, t_X8_valueAt_21, ev_isK_y, true_and, hl10]
    refine M_told hm1 (m_cx_top2 hx hm1 hw1 hz1) hi (Or.inr (Or.inl rfl)) ?_
    simp (disch := omega) only [t_X8_valueAt_24, ev_kr_1]
    exact k2 i hi rfl _ hp0
theorem MM_pairAt (hm : m_aw X zf y r T As H n ow) (hx : m_cx X zf y T As H n) {t p : Int32} (k0 : t < 0 ∨ nI 4 ≤ t → ∀ H1, m_post X zf y H n q (1, r.2) T As H1 n q → P (.inl (some (.int 0))) H1 n q)
    (k2 : ∀ i, i < 4 → t = nI i → ∀ H1, m_post X zf y H n q (0, r.2) T As H1 n q → P (.inl (some (.int (pr_told (T i).1 p 2)))) H1 n q) : ev_ok (ev_TT X) 237 0 [.ref y, .int t, .int p] [] H n q P := by
  have hx0 := hx
  obtain ⟨hZ, hw, hB, hn, hz, hT, hW⟩ := hx0
  have h0 := m_h0 hm
  have hl0 := m_lk0 hm
  have hk13 := m_k13 hm
  rcases pk_ix t (n := 4) (by omega) with hbt | hbt | ⟨i, hi, rfl⟩
  · skip
    simp (disch := omega) only [t_X8_pairAt_0, t_X8_pairAt_1, t_X8_pairAt_2, t_X8_pairAt_5, t_X8_pairAt_6, t_X8_pairAt_7, t_X8_pairAt_10, t_X8_pairAt_13, t_X8_pairAt_14, t_X8_pairAt_24, ↓reduceIte, ev_kr_1, ev_isK_y, true_and, show ¬ (1 : Int32) = 0 from by decide, M_isNo_y (Or.inl hbt), M_fails_100 h0, hl0]
    exact k0 (Or.inl hbt) _ (m_post_top hm hZ hw hB hn hz (1, r.2))
  · skip
    simp (disch := omega) only [t_X8_pairAt_0, t_X8_pairAt_1, t_X8_pairAt_2, t_X8_pairAt_5, t_X8_pairAt_6, t_X8_pairAt_7, t_X8_pairAt_10, t_X8_pairAt_13, t_X8_pairAt_14, t_X8_pairAt_24, ↓reduceIte, ev_kr_1, ev_isK_y, true_and, show ¬ (1 : Int32) = 0 from by decide, M_isNo_y (Or.inr hbt), M_fails_100 h0, hl0]
    exact k0 (Or.inr hbt) _ (m_post_top hm hZ hw hB hn hz (1, r.2))
  · skip
    simp (disch := omega) only [t_X8_pairAt_0, t_X8_pairAt_1, t_X8_pairAt_2, t_X8_pairAt_5, t_X8_pairAt_6, t_X8_pairAt_7, t_X8_pairAt_10, ↓reduceIte, ev_kr_1, ev_isK_y, true_and, M_isNo_n hi, M_fails_000 h0, hl0]
    have hm1 := m_aw_top hm hZ hw hB (0, r.2)
    have hx1 := m_cx_top hx (0, r.2)
    have hp0 : m_post X zf y H n q (0, r.2) T As (ev_up H y (m_top y (0, r.2))) n q := m_post_top hm hZ hw hB hn hz (0, r.2)
    have hup := fun (r2 : Int32 × Int32 × Int32) (T2 : Nat → ev_TS) (H2 : ev_M) (n2 q2 : Nat) => @m_post_up X zf y r2 T2 As H H2 n q (0, r.2) n2 q2
    generalize ev_up H y (m_top y (0, r.2)) = H1 at hm1 hx1 hp0 hup ⊢
    obtain ⟨-, hw1, -, -, hz1, -, -⟩ := hx1
    have h10 := m_h0 hm1
    have hl10 := m_lk0 hm1
    have hk13 := m_k13 hm1
    obtain ⟨f, hf1, hf2⟩ := m_lk1 hm1
    have hfi := hf2 i hi
    have hpi := nI_pos' (n := i) (by omega)
    have hci := nI_clamp (n := i) (by omega)
    have hTi := hT i hi
    have hli := okL_len hTi.1
    obtain ⟨qs, hC⟩ := mc_0 (q := q) hm1 hi hz1
    have htk := mc_tk hC
    have hlk := mc_lk hC
    have ht := hC.2.1
    have hkl := mc_kl hC
    have hlen := mc_len hC
    unfold m_tbc at hlk ht
    simp (disch := omega) only [t_X8_pairAt_17, t_X8_pairAt_18, t_X8_pairAt_19, t_X8_pairAt_20, t_X8_pairAt_21, ev_isK_y, true_and, hl10]
    refine M_told hm1 (m_cx_top2 hx hm1 hw1 hz1) hi (Or.inr (Or.inr rfl)) ?_
    simp (disch := omega) only [t_X8_pairAt_24, ev_kr_1]
    exact k2 i hi rfl _ hp0
theorem MM_eldest (hm : m_aw X zf y r T As H n ow) (hx : m_cx X zf y T As H n) {t : Int32} (k0 : t < 0 ∨ nI 4 ≤ t → ∀ H1, m_post X zf y H n q (1, r.2) T As H1 n q → P (.inl (some (.int 0))) H1 n q)
    (k2 : ∀ i, i < 4 → t = nI i → ∀ H1, m_post X zf y H n q (0, r.2) T As H1 n q → P (.inl (some (.int (pr_told (T i).1 0 0)))) H1 n q) : ev_ok (ev_TT X) 232 0 [.ref y, .int t] [] H n q P := by
  have hx0 := hx
  obtain ⟨hZ, hw, hB, hn, hz, hT, hW⟩ := hx0
  have h0 := m_h0 hm
  have hl0 := m_lk0 hm
  have hk13 := m_k13 hm
  rcases pk_ix t (n := 4) (by omega) with hbt | hbt | ⟨i, hi, rfl⟩
  · skip
    simp (disch := omega) only [t_X8_eldest_0, t_X8_eldest_1, t_X8_eldest_2, t_X8_eldest_5, t_X8_eldest_6, t_X8_eldest_7, t_X8_eldest_10, t_X8_eldest_13, t_X8_eldest_14, t_X8_eldest_24, ↓reduceIte, ev_kr_1, ev_isK_y, true_and, show ¬ (1 : Int32) = 0 from by decide, M_isNo_y (Or.inl hbt), M_fails_100 h0, hl0]
    exact k0 (Or.inl hbt) _ (m_post_top hm hZ hw hB hn hz (1, r.2))
  · skip
    simp (disch := omega) only [t_X8_eldest_0, t_X8_eldest_1, t_X8_eldest_2, t_X8_eldest_5, t_X8_eldest_6, t_X8_eldest_7, t_X8_eldest_10, t_X8_eldest_13, t_X8_eldest_14, t_X8_eldest_24, ↓reduceIte, ev_kr_1, ev_isK_y, true_and, show ¬ (1 : Int32) = 0 from by decide, M_isNo_y (Or.inr hbt), M_fails_100 h0, hl0]
    exact k0 (Or.inr hbt) _ (m_post_top hm hZ hw hB hn hz (1, r.2))
  · skip
    simp (disch := omega) only [t_X8_eldest_0, t_X8_eldest_1, t_X8_eldest_2, t_X8_eldest_5, t_X8_eldest_6, t_X8_eldest_7, t_X8_eldest_10, ↓reduceIte, ev_kr_1, ev_isK_y, true_and, M_isNo_n hi, M_fails_000 h0, hl0]
    have hm1 := m_aw_top hm hZ hw hB (0, r.2)
    have hx1 := m_cx_top hx (0, r.2)
    have hp0 : m_post X zf y H n q (0, r.2) T As (ev_up H y (m_top y (0, r.2))) n q := m_post_top hm hZ hw hB hn hz (0, r.2)
    have hup := fun (r2 : Int32 × Int32 × Int32) (T2 : Nat → ev_TS) (H2 : ev_M) (n2 q2 : Nat) => @m_post_up X zf y r2 T2 As H H2 n q (0, r.2) n2 q2
    generalize ev_up H y (m_top y (0, r.2)) = H1 at hm1 hx1 hp0 hup ⊢
    obtain ⟨-, hw1, -, -, hz1, -, -⟩ := hx1
    have h10 := m_h0 hm1
    have hl10 := m_lk0 hm1
    have hk13 := m_k13 hm1
    obtain ⟨f, hf1, hf2⟩ := m_lk1 hm1
    have hfi := hf2 i hi
    have hpi := nI_pos' (n := i) (by omega)
    have hci := nI_clamp (n := i) (by omega)
    have hTi := hT i hi
    have hli := okL_len hTi.1
    obtain ⟨qs, hC⟩ := mc_0 (q := q) hm1 hi hz1
    have htk := mc_tk hC
    have hlk := mc_lk hC
    have ht := hC.2.1
    have hkl := mc_kl hC
    have hlen := mc_len hC
    unfold m_tbc at hlk ht
    simp (disch := omega) only [t_X8_eldest_17, t_X8_eldest_18, t_X8_eldest_19, t_X8_eldest_20, t_X8_eldest_21, ev_isK_y, true_and, hl10]
    refine M_told hm1 (m_cx_top2 hx hm1 hw1 hz1) hi (Or.inl rfl) ?_
    simp (disch := omega) only [t_X8_eldest_24, ev_kr_1]
    exact k2 i hi rfl _ hp0
theorem MM_latest (hm : m_aw X zf y r T As H n ow) (hx : m_cx X zf y T As H n) {t : Int32} (k0 : t < 0 ∨ nI 4 ≤ t → ∀ H1, m_post X zf y H n q (1, r.2) T As H1 n q → P (.inl (some (.int 0))) H1 n q)
    (k2 : ∀ i, i < 4 → t = nI i → ∀ H1, m_post X zf y H n q (0, r.2) T As H1 n q → P (.inl (some (.int (pr_told (T i).1 (nI (T i).1.length - 1) 0)))) H1 n q) : ev_ok (ev_TT X) 236 0 [.ref y, .int t] [] H n q P := by
  have hx0 := hx
  obtain ⟨hZ, hw, hB, hn, hz, hT, hW⟩ := hx0
  have h0 := m_h0 hm
  have hl0 := m_lk0 hm
  have hk13 := m_k13 hm
  rcases pk_ix t (n := 4) (by omega) with hbt | hbt | ⟨i, hi, rfl⟩
  · skip
    simp (disch := omega) only [t_X8_latest_0, t_X8_latest_1, t_X8_latest_2, t_X8_latest_5, t_X8_latest_6, t_X8_latest_7, t_X8_latest_10, t_X8_latest_13, t_X8_latest_14, t_X8_latest_37, ↓reduceIte, ev_kr_1, ev_isK_y, true_and, show ¬ (1 : Int32) = 0 from by decide, M_isNo_y (Or.inl hbt), M_fails_100 h0, hl0]
    exact k0 (Or.inl hbt) _ (m_post_top hm hZ hw hB hn hz (1, r.2))
  · skip
    simp (disch := omega) only [t_X8_latest_0, t_X8_latest_1, t_X8_latest_2, t_X8_latest_5, t_X8_latest_6, t_X8_latest_7, t_X8_latest_10, t_X8_latest_13, t_X8_latest_14, t_X8_latest_37, ↓reduceIte, ev_kr_1, ev_isK_y, true_and, show ¬ (1 : Int32) = 0 from by decide, M_isNo_y (Or.inr hbt), M_fails_100 h0, hl0]
    exact k0 (Or.inr hbt) _ (m_post_top hm hZ hw hB hn hz (1, r.2))
  · skip
    simp (disch := omega) only [t_X8_latest_0, t_X8_latest_1, t_X8_latest_2, t_X8_latest_5, t_X8_latest_6, t_X8_latest_7, t_X8_latest_10, ↓reduceIte, ev_kr_1, ev_isK_y, true_and, M_isNo_n hi, M_fails_000 h0, hl0]
    have hm1 := m_aw_top hm hZ hw hB (0, r.2)
    have hx1 := m_cx_top hx (0, r.2)
    have hp0 : m_post X zf y H n q (0, r.2) T As (ev_up H y (m_top y (0, r.2))) n q := m_post_top hm hZ hw hB hn hz (0, r.2)
    have hup := fun (r2 : Int32 × Int32 × Int32) (T2 : Nat → ev_TS) (H2 : ev_M) (n2 q2 : Nat) => @m_post_up X zf y r2 T2 As H H2 n q (0, r.2) n2 q2
    generalize ev_up H y (m_top y (0, r.2)) = H1 at hm1 hx1 hp0 hup ⊢
    obtain ⟨-, hw1, -, -, hz1, -, -⟩ := hx1
    have h10 := m_h0 hm1
    have hl10 := m_lk0 hm1
    have hk13 := m_k13 hm1
    obtain ⟨f, hf1, hf2⟩ := m_lk1 hm1
    have hfi := hf2 i hi
    have hpi := nI_pos' (n := i) (by omega)
    have hci := nI_clamp (n := i) (by omega)
    have hTi := hT i hi
    have hli := okL_len hTi.1
    obtain ⟨qs, hC⟩ := mc_0 (q := q) hm1 hi hz1
    have htk := mc_tk hC
    have hlk := mc_lk hC
    have ht := hC.2.1
    have hkl := mc_kl hC
    have hlen := mc_len hC
    unfold m_tbc at hlk ht
    simp (disch := omega) only [t_X8_latest_17, t_X8_latest_18, t_X8_latest_19, t_X8_latest_20, t_X8_latest_23, t_X8_latest_24, t_X8_latest_25, t_X8_latest_28, ev_aG_y, and_true, true_and, ev_fG_0, ev_fG_3, ev_isO_0, ev_isO_3, hl10, hf1, hfi, hpi, hci, hi, ev_inA_5, hlk, hkl]
    refine ML_size hC.2.2.1 ?_
    simp (disch := omega) only [t_X8_latest_31, t_X8_latest_32, t_X8_latest_33, t_X8_latest_34, ev_kr_1, ev_isK_y, true_and, hl10]
    refine M_told hm1 (m_cx_top2 hx hm1 hw1 hz1) hi (Or.inl rfl) ?_
    simp (disch := omega) only [t_X8_latest_37, ev_kr_1]
    rw [← hlen]
    exact k2 i hi rfl _ hp0
theorem MM_isStale (hm : m_aw X zf y r T As H n ow) (hx : m_cx X zf y T As H n) {t : Int32} (k0 : t < 0 ∨ nI 4 ≤ t → ∀ H1, m_post X zf y H n q (1, r.2) T As H1 n q → P (.inl (some (.int 0))) H1 n q)
    (k2 : ∀ i, i < 4 → t = nI i → ∀ H1, m_post X zf y H n q (0, r.2) T As H1 n q → P (.inl (some (.int (ev_bb ((T i).2.2.1.1 && (T i).2.2.1.2.1))))) H1 n q) : ev_ok (ev_TT X) 166 0 [.ref y, .int t] [] H n q P := by
  have hx0 := hx
  obtain ⟨hZ, hw, hB, hn, hz, hT, hW⟩ := hx0
  have h0 := m_h0 hm
  have hl0 := m_lk0 hm
  have hk13 := m_k13 hm
  rcases pk_ix t (n := 4) (by omega) with hbt | hbt | ⟨i, hi, rfl⟩
  · skip
    simp (disch := omega) only [t_X8_isStale_0, t_X8_isStale_1, t_X8_isStale_2, t_X8_isStale_5, t_X8_isStale_6, t_X8_isStale_7, t_X8_isStale_10, t_X8_isStale_25, t_X8_isStale_26, ↓reduceIte, ev_kr_1, ev_isK_y, ev_nb_0, true_and, not_false_eq_true, show ¬ (1 : Int32) = 0 from by decide, not_false_eq_true, M_isNo_y (Or.inl hbt), M_fails_100 h0, hl0]
    exact k0 (Or.inl hbt) _ (m_post_top hm hZ hw hB hn hz (1, r.2))
  · skip
    simp (disch := omega) only [t_X8_isStale_0, t_X8_isStale_1, t_X8_isStale_2, t_X8_isStale_5, t_X8_isStale_6, t_X8_isStale_7, t_X8_isStale_10, t_X8_isStale_25, t_X8_isStale_26, ↓reduceIte, ev_kr_1, ev_isK_y, ev_nb_0, true_and, not_false_eq_true, show ¬ (1 : Int32) = 0 from by decide, not_false_eq_true, M_isNo_y (Or.inr hbt), M_fails_100 h0, hl0]
    exact k0 (Or.inr hbt) _ (m_post_top hm hZ hw hB hn hz (1, r.2))
  · skip
    simp (disch := omega) only [t_X8_isStale_0, t_X8_isStale_1, t_X8_isStale_2, t_X8_isStale_5, t_X8_isStale_6, t_X8_isStale_7, t_X8_isStale_10, ↓reduceIte, ev_kr_1, ev_isK_y, true_and, not_true_eq_false, not_true_eq_false, M_isNo_n hi, M_fails_000 h0, hl0]
    have hm1 := m_aw_top hm hZ hw hB (0, r.2)
    have hx1 := m_cx_top hx (0, r.2)
    have hp0 : m_post X zf y H n q (0, r.2) T As (ev_up H y (m_top y (0, r.2))) n q := m_post_top hm hZ hw hB hn hz (0, r.2)
    have hup := fun (r2 : Int32 × Int32 × Int32) (T2 : Nat → ev_TS) (H2 : ev_M) (n2 q2 : Nat) => @m_post_up X zf y r2 T2 As H H2 n q (0, r.2) n2 q2
    generalize ev_up H y (m_top y (0, r.2)) = H1 at hm1 hx1 hp0 hup ⊢
    obtain ⟨-, hw1, -, -, hz1, -, -⟩ := hx1
    have h10 := m_h0 hm1
    have hl10 := m_lk0 hm1
    have hk13 := m_k13 hm1
    obtain ⟨f, hf1, hf2⟩ := m_lk1 hm1
    have hfi := hf2 i hi
    have hpi := nI_pos' (n := i) (by omega)
    have hci := nI_clamp (n := i) (by omega)
    have hTi := hT i hi
    have hli := okL_len hTi.1
    obtain ⟨qs, hC⟩ := mc_0 (q := q) hm1 hi hz1
    have htk := mc_tk hC
    have hlk := mc_lk hC
    have ht := hC.2.1
    have hkl := mc_kl hC
    have hlen := mc_len hC
    unfold m_tbc at hlk ht
    have hK := k2 i hi rfl _ hp0
    have hkd := m_kd (hW i hi)
    unfold m_wk at hlk
    rcases h1 : (T i).2.2.1.1 with _ | _
    · rw [h1] at hlk hK
      rw [if_neg Bool.false_ne_true] at hlk
      simp (disch := omega) only [t_X8_isStale_13, t_X8_isStale_14, t_X8_isStale_15, t_X8_isStale_18, t_X8_isStale_25, t_X8_isStale_26, t_X8_isStaleNow_0, t_X8_isStaleNow_1, t_X8_isStaleNow_4, t_X8_isStaleNow_5, t_X8_isStaleNow_6, t_X8_isStaleNow_9, t_X8_isStaleNow_10, t_X8_isStaleNow_29, t_X8_isStaleNow_30, ↓reduceIte, ev_kr_1, ev_isK_y, ev_aG_y, ev_nb_0, and_true, true_and, ev_fG_3, ev_fG_5, ev_isO_3, ev_isO_5, hl10, hf1, hfi, hpi, hci, hi, ev_inA_5, hlk]
      exact hK
    · rw [h1] at hlk hK
      rw [if_pos rfl] at hlk
      rcases h2 : (T i).2.2.1.2.1 with _ | _ <;> (
        rw [h2] at hlk hK
        simp (disch := omega) only [t_X8_isStale_13, t_X8_isStale_14, t_X8_isStale_15, t_X8_isStale_18, t_X8_isStale_21, t_X8_isStale_22, t_X8_isStale_25, t_X8_isStale_26, t_X8_isStaleNow_0, t_X8_isStaleNow_1, t_X8_isStaleNow_4, t_X8_isStaleNow_5, t_X8_isStaleNow_6, t_X8_isStaleNow_9, t_X8_isStaleNow_10, t_X8_isStaleNow_13, t_X8_isStaleNow_14, t_X8_isStaleNow_17, t_X8_isStaleNow_18, t_X8_isStaleNow_19, t_X8_isStaleNow_22, t_X8_isStaleNow_25, t_X8_isStaleNow_26, t_X8_isStaleNow_29, t_X8_isStaleNow_30, ↓reduceIte, ev_kr_1, ev_isK_y, ev_aG_y, ev_nb_0, ev_nb_1, and_true, true_and, ev_fG_3, ev_fG_5, ev_fG_8, ev_isO_3, ev_isO_5, ev_isO_8, show ¬ (1 : Int32) = 0 from by decide, hl10, hf1, hfi, hpi, hci, hi, ev_inA_5, hlk, ev_bb_t, ev_bb_f, hkd]
        exact hK)
theorem MM_hasMore (hm : m_aw X zf y r T As H n ow) (hx : m_cx X zf y T As H n) {t : Int32} (k0 : t < 0 ∨ nI 4 ≤ t → ∀ H1, m_post X zf y H n q (1, r.2) T As H1 n q → P (.inl (some (.int 0))) H1 n q)
    (k2 : ∀ i, i < 4 → t = nI i → ∀ H1, m_post X zf y H n q (0, r.2) T As H1 n q → P (.inl (some (.int (ev_bb (((T i).2.2.1.1 && !(T i).2.2.1.2.1) && decide ((T i).2.2.2.2 < (T i).1.length)))))) H1 n q) : ev_ok (ev_TT X) 164 0 [.ref y, .int t] [] H n q P := by
  have hx0 := hx
  obtain ⟨hZ, hw, hB, hn, hz, hT, hW⟩ := hx0
  have h0 := m_h0 hm
  have hl0 := m_lk0 hm
  have hk13 := m_k13 hm
  rcases pk_ix t (n := 4) (by omega) with hbt | hbt | ⟨i, hi, rfl⟩
  · skip
    simp (disch := omega) only [t_X8_hasMore_0, t_X8_hasMore_1, t_X8_hasMore_2, t_X8_hasMore_5, t_X8_hasMore_6, t_X8_hasMore_7, t_X8_hasMore_10, t_X8_hasMore_29, t_X8_hasMore_30, ↓reduceIte, ev_kr_1, ev_isK_y, ev_nb_0, true_and, not_false_eq_true, show ¬ (1 : Int32) = 0 from by decide, not_false_eq_true, M_isNo_y (Or.inl hbt), M_fails_100 h0, hl0]
    exact k0 (Or.inl hbt) _ (m_post_top hm hZ hw hB hn hz (1, r.2))
  · skip
    simp (disch := omega) only [t_X8_hasMore_0, t_X8_hasMore_1, t_X8_hasMore_2, t_X8_hasMore_5, t_X8_hasMore_6, t_X8_hasMore_7, t_X8_hasMore_10, t_X8_hasMore_29, t_X8_hasMore_30, ↓reduceIte, ev_kr_1, ev_isK_y, ev_nb_0, true_and, not_false_eq_true, show ¬ (1 : Int32) = 0 from by decide, not_false_eq_true, M_isNo_y (Or.inr hbt), M_fails_100 h0, hl0]
    exact k0 (Or.inr hbt) _ (m_post_top hm hZ hw hB hn hz (1, r.2))
  · skip
    simp (disch := omega) only [t_X8_hasMore_0, t_X8_hasMore_1, t_X8_hasMore_2, t_X8_hasMore_5, t_X8_hasMore_6, t_X8_hasMore_7, t_X8_hasMore_10, ↓reduceIte, ev_kr_1, ev_isK_y, true_and, not_true_eq_false, not_true_eq_false, M_isNo_n hi, M_fails_000 h0, hl0]
    have hm1 := m_aw_top hm hZ hw hB (0, r.2)
    have hx1 := m_cx_top hx (0, r.2)
    have hp0 : m_post X zf y H n q (0, r.2) T As (ev_up H y (m_top y (0, r.2))) n q := m_post_top hm hZ hw hB hn hz (0, r.2)
    have hup := fun (r2 : Int32 × Int32 × Int32) (T2 : Nat → ev_TS) (H2 : ev_M) (n2 q2 : Nat) => @m_post_up X zf y r2 T2 As H H2 n q (0, r.2) n2 q2
    generalize ev_up H y (m_top y (0, r.2)) = H1 at hm1 hx1 hp0 hup ⊢
    obtain ⟨-, hw1, -, -, hz1, -, -⟩ := hx1
    have h10 := m_h0 hm1
    have hl10 := m_lk0 hm1
    have hk13 := m_k13 hm1
    obtain ⟨f, hf1, hf2⟩ := m_lk1 hm1
    have hfi := hf2 i hi
    have hpi := nI_pos' (n := i) (by omega)
    have hci := nI_clamp (n := i) (by omega)
    have hTi := hT i hi
    have hli := okL_len hTi.1
    obtain ⟨qs, hC⟩ := mc_0 (q := q) hm1 hi hz1
    have htk := mc_tk hC
    have hlk := mc_lk hC
    have ht := hC.2.1
    have hkl := mc_kl hC
    have hlen := mc_len hC
    unfold m_tbc at hlk ht
    have hK := k2 i hi rfl _ hp0
    have hkd := m_kd (hW i hi)
    simp (disch := omega) only [t_X8_hasMore_13, t_X8_hasMore_14, t_X8_hasMore_17, t_X8_hasMore_18, t_X8_hasMore_19, ev_isK_y, ev_aG_y, and_true, true_and, ev_fG_3, ev_isO_3, hl10, hf1, hfi, hpi, hci, hi, ev_inA_5, hlk]
    refine M_hasMoreT hC hli (by have := hTi.2.2.1; omega) hkd ?_
    rcases hb : (((T i).2.2.1.1 && !(T i).2.2.1.2.1) && decide ((T i).2.2.2.2 < (T i).1.length)) with _ | _ <;> (
      rw [hb] at hK
      simp (disch := omega) only [t_X8_hasMore_22, t_X8_hasMore_25, t_X8_hasMore_26, t_X8_hasMore_29, t_X8_hasMore_30, ↓reduceIte, ev_kr_1, ev_nb_0, ev_nb_1, true_and, show ¬ (1 : Int32) = 0 from by decide, ev_bb_t, ev_bb_f]
      exact hK)
end M54
end
section
/-! ===== the reference: ofTable ===== -/
section M55
variable {X : ev_E} {zf : Nat → Nat} {y : Nat} {r : Int32 × Int32 × Int32} {T : Nat → ev_TS} {As : List Nat} {H : ev_M} {ow : Nat → Nat} {n q : Nat} {P : ev_O → ev_M → Nat → Nat → Prop}
theorem M_tabNow (hm : m_aw X zf y r T As H n ow) (hx : m_cx X zf y T As H n) {i a : Nat} (hi : i < 4) (ha : a < 5) (c : ∀ H1, (∀ z, z < n → H1 z = H z) → (∀ z, n + 2 ≤ z → H1 z = none) → P (.inl (some (.int (pt_of (T i) a)))) H1 (n + 2) (q + 9)) : ev_ok (ev_TT X) 169 0 [.ref y, .int (nI i), .int (nI a), ev_J, ev_J, ev_J, ev_J] [] H n q P := by
  have hx0 := hx
  obtain ⟨hZ, hw, hB, hn, hz, hT, hW⟩ := hx0
  have hz' := hz
  have hl10 := m_lk0 hm
  have hk13 := m_k13 hm
  obtain ⟨f, hf1, hf2⟩ := m_lk1 hm
  have hfi := hf2 i hi
  have hpi := nI_pos' (n := i) (by omega)
  have hci := nI_clamp (n := i) (by omega)
  have hTi := hT i hi
  have hli := okL_len hTi.1
  obtain ⟨qs, hC⟩ := mc_0 (q := q) hm hi hz
  have htk := mc_tk hC
  have hlk := mc_lk hC
  have ht := hC.2.1
  have hkl := mc_kl hC
  have hlen := mc_len hC
  unfold m_tbc at hlk ht
  have hB1 := hB.1
  obtain ⟨mc, e0, g1, g2⟩ := ML_it (n := n) hC.2.2.1 (Nat.le_refl _) (by omega) (by omega)
  have hlk' := fun c => (ev_lku_n (X := X) (h := H) (a := n) (b := y + 2 + 2 * i) (c := c) (by omega)).trans hlk
  have h5 : ∀ (sum w : _) it, sum = pt_sum (T i).1 → ev_ok (ev_TT X) 169 53 [.ref y, .int (nI i), .int (nI a), .ref (y + 2 + 2 * i), .int sum, .ref n, w] [] (ev_up H n it) (n + 1) (q + 4) P := by
    intro sum w it hsum
    have hpa := nI_pos' (n := a) (by omega)
    have hca := nI_clamp (n := a) (by omega)
    have hc' : ∀ g : Nat → Value, P (.inl (some (.int (pt_of (T i) a)))) (ev_up (ev_up H n it) (n + 1) (.inl (0, 5, g))) (n + 2) (q + 9) := fun g => c _ (fun z hz => by rw [ev_up_n (by omega), ev_up_n (by omega)]) (fun z hz => by rw [ev_up_n (by omega), ev_up_n (by omega)]; exact hz' z (by omega))
    have hlk2 := fun c1 c2 => (ev_lku_n (X := X) (h := ev_up H n c1) (a := n + 1) (b := y + 2 + 2 * i) (c := c2) (by omega)).trans (hlk' c1)
    have hn11 : n + 1 + 1 = n + 2 := rfl
    have hq9 : q + 4 + 5 = q + 9 := rfl
    have hB01 := hTi.2.1
    have h100 : 5 ≤ 100000 := by omega
    have hb1 : ∀ b : Int32, ev_isB b → (if b = 0 then ev_ok (ev_TT X) 70 8 [.int b] [] (ev_up (ev_up H n it) (n + 1) (.inl (0, 5, fun _ => .int 0))) (n + 2) (q + 9) P else ev_ok (ev_TT X) 70 4 [.int b] [] (ev_up (ev_up H n it) (n + 1) (.inl (0, 5, fun _ => .int 0))) (n + 2) (q + 9) P) → True := fun _ _ _ => trivial
    rcases hB01 with e | e <;> (
      rw [e] at hlk2
      simp (disch := omega) only [t_X8_tableNow_53, t_X8_tableNow_54, t_X8_tableNow_56, t_X8_tableNow_57, t_X8_tableNow_58, t_X8_tableNow_59, t_X8_tableNow_62, t_X8_tableNow_65, t_X8_tableNow_66, t_X8_tableNow_67, t_X8_tableNow_68, t_X8_tableNow_69, t_X8_tableNow_72, t_X8_tableNow_73, t_X8_tableNow_74, t_X8_tableNow_75, t_X8_tableNow_76, t_X8_tableNow_79, t_X8_tableNow_80, t_X8_tableNow_81, t_X8_tableNow_82, t_X8_tableNow_83, t_X8_tableNow_86, t_X8_tableNow_87, t_X8_tableNow_88, t_X8_tableNow_89, t_X8_tableNow_91, t_X8_tableNow_92, t_X8_tableNow_94, t_X8_tableNow_96, t_X8_one_0, t_X8_one_1, t_X8_one_4, t_X8_one_5, t_X8_one_8, t_X8_one_9, ↓reduceIte, ev_k_i, ev_kr_1, ev_aS_y, ev_inA_0, and_true, true_and, ev_fG_1, ev_fG_2, ev_fG_3, ev_fG_4, ev_isO_1, ev_isO_2, ev_isO_3, ev_isO_4, ev_z0, ev_z1, show ¬ (1 : Int32) = 0 from by decide, show (0 : Int32) ≤ 1 from by decide, show (1 : Int32).toNatClampNeg = 1 from rfl, ev_up_s, show (2 : Int32).toNatClampNeg = 2 from rfl, show (3 : Int32).toNatClampNeg = 3 from rfl, show (4 : Int32).toNatClampNeg = 4 from rfl, show (5 : Int32).toNatClampNeg = 5 from rfl, show (0 : Int32) ≤ 2 from by decide, show (0 : Int32) ≤ 3 from by decide, show (0 : Int32) ≤ 4 from by decide, show (0 : Int32) ≤ 5 from by decide, hlk2, hn11, hq9, h100, ev_inA_0, ev_up_up, show (0 : Nat) < 5 from by omega, show (1 : Nat) < 5 from by omega, show (2 : Nat) < 5 from by omega, show (3 : Nat) < 5 from by omega, show (4 : Nat) < 5 from by omega]
      have ha' : a = 0 ∨ a = 1 ∨ a = 2 ∨ a = 3 ∨ a = 4 := by omega
      rcases ha' with rfl | rfl | rfl | rfl | rfl <;> (
        unfold pt_of at hc'
        simp only [e, hsum, show ¬ (1 : Nat) = 0 from by decide, show ¬ (2 : Nat) = 0 from by decide, show ¬ (2 : Nat) = 1 from by decide, show ¬ (3 : Nat) = 0 from by decide, show ¬ (3 : Nat) = 1 from by decide, show ¬ (3 : Nat) = 2 from by decide, show ¬ (4 : Nat) = 0 from by decide, show ¬ (4 : Nat) = 1 from by decide, show ¬ (4 : Nat) = 2 from by decide, show ¬ (4 : Nat) = 3 from by decide, ↓reduceIte] at hc' ⊢
        simp (disch := omega) only [t_X8_tableNow_97, t_X8_tableNow_98, ev_aG_y, ev_inA_0, and_true, true_and, ev_lku_s, hpa, hca, ev_inA_0, updV_s, updV_n, show (0 : Nat) < 5 from by omega, show (1 : Nat) < 5 from by omega, show (2 : Nat) < 5 from by omega, show (3 : Nat) < 5 from by omega, show (4 : Nat) < 5 from by omega]
        exact hc' _))
  have key : ∀ d j sum last w, j + d = qs.length → pr_sm (fun k => (pf_at (T i).1 k).2) d j sum = pt_sum (T i).1 → ev_ok (ev_TT X) 169 19 [.ref y, .int (nI i), .int (nI a), .ref (y + 2 + 2 * i), .int sum, .ref n, w] [] (ev_up H n (ev_itc (y + 3 + 2 * i) j last mc)) (n + 1) (q + 4) P := by
    intro d
    induction d with
    | zero =>
      intro j sum last w hj hs
      have ej : j = qs.length := by omega
      subst ej
      have hik : ev_isK (ev_lk X (ev_up H n (ev_itc (y + 3 + 2 * i) qs.length last mc)) n) 3 = True := by rw [ev_lku_s]; exact ev_isK_y
      simp (disch := omega) only [t_X8_tableNow_19, t_X8_tableNow_21, true_and, hik]
      refine I_has_n ev_up_s (mc' := mc) (e := e0) (k := qs.length) (by rw [← m_len]; exact (g2 _).1) ?_
      have h9 := h5 sum w (ev_itc (y + 3 + 2 * i) qs.length last mc) hs
      simp (disch := omega) only [t_X8_tableNow_26, ↓reduceIte, ev_kr_1]
      exact h9
    | succ d ih =>
      intro j sum last w hj hs
      have hjq : j < qs.length := by omega
      have hik : ev_isK (ev_lk X (ev_up H n (ev_itc (y + 3 + 2 * i) j last mc)) n) 3 = True := by rw [ev_lku_s]; exact ev_isK_y
      obtain ⟨g, g0, g3, g4⟩ := mc_pair hC hjq
      have hin := mc_in hC hjq
      have hg0 := fun c => (ev_up_n (h := H) (a := n) (b := qs[j].1) (c := c) (by omega)).trans g0
      have hak : ev_isAk (H qs[j].1) 0 = True := by rw [g0]; exact ev_isAk_y
      have hglk : ev_lk X H qs[j].1 = some (.inl (0, 2, g)) := ev_lk_s g0
      rw [t_X8_tableNow_19]
      simp (disch := omega) only [t_X8_tableNow_21, true_and, hik]
      refine I_has_y ev_up_s (mc' := mc) (e := e0) (k := qs.length) (by rw [← m_len]; exact (g2 _).1) (by omega) hjq ?_
      simp (disch := omega) only [t_X8_tableNow_26, t_X8_tableNow_29, t_X8_tableNow_31, ↓reduceIte, ev_kr_1, true_and, show ¬ (1 : Int32) = 0 from by decide, hik]
      refine I_next ev_up_s (g2 _).1 (g2 _).2 (by rw [m_len]; omega) (m_nth hjq) ?_
      rw [ev_up_up]
      have hI := ih (j + 1) (sum + (pf_at (T i).1 j).2) (nI j) (.ref qs[j].1) (by omega) hs
      simp (disch := omega) only [t_X8_tableNow_36, t_X8_tableNow_39, t_X8_tableNow_41, t_X8_tableNow_43, t_X8_tableNow_45, t_X8_tableNow_46, t_X8_tableNow_47, t_X8_tableNow_48, t_X8_tableNow_50, ev_k_r, ev_kr_1, ev_aG_y, ev_inA_0, and_true, true_and, show (0 : Int32) ≤ 1 from by decide, show (1 : Int32).toNatClampNeg = 1 from rfl, show (1 : Nat) < 2 from by omega, ev_lku_n, ev_up_n, hak, hglk, g4, ev_inA_0]
      exact hI
  have h9 := key qs.length 0 0 (-1) ev_J (Nat.zero_add _) (by unfold pt_sum; rw [hlen])
  simp (disch := omega) only [t_X8_tableNow_0, t_X8_tableNow_1, t_X8_tableNow_4, t_X8_tableNow_5, t_X8_tableNow_6, t_X8_tableNow_7, t_X8_tableNow_8, t_X8_tableNow_10, t_X8_tableNow_11, t_X8_tableNow_14, ev_k_i, ev_k_r, ev_aG_y, and_true, true_and, ev_fG_0, ev_fG_3, ev_isO_0, ev_isO_3, hl10, hf1, hfi, hpi, hci, hi, ev_inA_5, hlk, hkl]
  refine I_iter g1 (by omega) ?_
  simp (disch := omega) only [t_X8_tableNow_17, ev_k_i, ev_kr_1]
  exact h9
theorem MM_ofTable (hm : m_aw X zf y r T As H n ow) (hx : m_cx X zf y T As H n) {t w : Int32} (k0 : t < 0 ∨ nI 4 ≤ t → ∀ H1, m_post X zf y H n q (1, r.2) T As H1 n q → P (.inl (some (.int 0))) H1 n q)
    (k1 : ∀ i, i < 4 → t = nI i → ((w < 0 ∨ nI 5 ≤ w)) → ∀ H1, m_post X zf y H n q (2, r.2) T As H1 n q → P (.inl (some (.int 0))) H1 n q)
    (k2 : ∀ i a, i < 4 → t = nI i → a < 5 → w = nI a → ∀ H1 n1 q1, m_post X zf y H n q (0, r.2) T As H1 n1 q1 → P (.inl (some (.int (pt_of (T i) a)))) H1 n1 q1) : ev_ok (ev_TT X) 212 0 [.ref y, .int t, .int w] [] H n q P := by
  have hx0 := hx
  obtain ⟨hZ, hw, hB, hn, hz, hT, hW⟩ := hx0
  have h0 := m_h0 hm
  have hl0 := m_lk0 hm
  have hk13 := m_k13 hm
  rcases pk_ix t (n := 4) (by omega) with hbt | hbt | ⟨i, hi, rfl⟩
  · skip
    rcases pk_ix w (n := 5) (by omega) with hb_w | hb_w | ⟨a_w, ha_w, rfl⟩
    · skip
      simp (disch := omega) only [t_X8_ofTable_0, t_X8_ofTable_1, t_X8_ofTable_2, t_X8_ofTable_5, t_X8_ofTable_6, t_X8_ofTable_7, t_X8_ofTable_10, t_X8_ofTable_11, t_X8_ofTable_14, t_X8_ofTable_17, t_X8_ofTable_18, t_X8_ofTable_27, ↓reduceIte, ev_kr_1, ev_isK_y, true_and, show ¬ (1 : Int32) = 0 from by decide, M_isNo_y (Or.inl hbt), M_isOut_y (v := w) (w := 5) (Or.inl hb_w), M_fails_110 h0, hl0]
      exact k0 (Or.inl hbt) _ (m_post_top hm hZ hw hB hn hz (1, r.2))
    · skip
      simp (disch := omega) only [t_X8_ofTable_0, t_X8_ofTable_1, t_X8_ofTable_2, t_X8_ofTable_5, t_X8_ofTable_6, t_X8_ofTable_7, t_X8_ofTable_10, t_X8_ofTable_11, t_X8_ofTable_14, t_X8_ofTable_17, t_X8_ofTable_18, t_X8_ofTable_27, ↓reduceIte, ev_kr_1, ev_isK_y, true_and, show ¬ (1 : Int32) = 0 from by decide, M_isNo_y (Or.inl hbt), M_isOut_y (v := w) (w := 5) (Or.inr hb_w), M_fails_110 h0, hl0]
      exact k0 (Or.inl hbt) _ (m_post_top hm hZ hw hB hn hz (1, r.2))
    · skip
      simp (disch := omega) only [t_X8_ofTable_0, t_X8_ofTable_1, t_X8_ofTable_2, t_X8_ofTable_5, t_X8_ofTable_6, t_X8_ofTable_7, t_X8_ofTable_10, t_X8_ofTable_11, t_X8_ofTable_14, t_X8_ofTable_17, t_X8_ofTable_18, t_X8_ofTable_27, ↓reduceIte, ev_kr_1, ev_isK_y, true_and, show ¬ (1 : Int32) = 0 from by decide, M_isNo_y (Or.inl hbt), M_isOut_n (v := nI a_w) (w := 5) (nI_pos (by omega)) (nI_ge (b := 5) ha_w (by omega)), M_fails_100 h0, hl0]
      exact k0 (Or.inl hbt) _ (m_post_top hm hZ hw hB hn hz (1, r.2))
  · skip
    rcases pk_ix w (n := 5) (by omega) with hb_w | hb_w | ⟨a_w, ha_w, rfl⟩
    · skip
      simp (disch := omega) only [t_X8_ofTable_0, t_X8_ofTable_1, t_X8_ofTable_2, t_X8_ofTable_5, t_X8_ofTable_6, t_X8_ofTable_7, t_X8_ofTable_10, t_X8_ofTable_11, t_X8_ofTable_14, t_X8_ofTable_17, t_X8_ofTable_18, t_X8_ofTable_27, ↓reduceIte, ev_kr_1, ev_isK_y, true_and, show ¬ (1 : Int32) = 0 from by decide, M_isNo_y (Or.inr hbt), M_isOut_y (v := w) (w := 5) (Or.inl hb_w), M_fails_110 h0, hl0]
      exact k0 (Or.inr hbt) _ (m_post_top hm hZ hw hB hn hz (1, r.2))
    · skip
      simp (disch := omega) only [t_X8_ofTable_0, t_X8_ofTable_1, t_X8_ofTable_2, t_X8_ofTable_5, t_X8_ofTable_6, t_X8_ofTable_7, t_X8_ofTable_10, t_X8_ofTable_11, t_X8_ofTable_14, t_X8_ofTable_17, t_X8_ofTable_18, t_X8_ofTable_27, ↓reduceIte, ev_kr_1, ev_isK_y, true_and, show ¬ (1 : Int32) = 0 from by decide, M_isNo_y (Or.inr hbt), M_isOut_y (v := w) (w := 5) (Or.inr hb_w), M_fails_110 h0, hl0]
      exact k0 (Or.inr hbt) _ (m_post_top hm hZ hw hB hn hz (1, r.2))
    · skip
      simp (disch := omega) only [t_X8_ofTable_0, t_X8_ofTable_1, t_X8_ofTable_2, t_X8_ofTable_5, t_X8_ofTable_6, t_X8_ofTable_7, t_X8_ofTable_10, t_X8_ofTable_11, t_X8_ofTable_14, t_X8_ofTable_17, t_X8_ofTable_18, t_X8_ofTable_27, ↓reduceIte, ev_kr_1, ev_isK_y, true_and, show ¬ (1 : Int32) = 0 from by decide, M_isNo_y (Or.inr hbt), M_isOut_n (v := nI a_w) (w := 5) (nI_pos (by omega)) (nI_ge (b := 5) ha_w (by omega)), M_fails_100 h0, hl0]
      exact k0 (Or.inr hbt) _ (m_post_top hm hZ hw hB hn hz (1, r.2))
  · skip
    rcases pk_ix w (n := 5) (by omega) with hb_w | hb_w | ⟨a_w, ha_w, rfl⟩
    · skip
      simp (disch := omega) only [t_X8_ofTable_0, t_X8_ofTable_1, t_X8_ofTable_2, t_X8_ofTable_5, t_X8_ofTable_6, t_X8_ofTable_7, t_X8_ofTable_10, t_X8_ofTable_11, t_X8_ofTable_14, t_X8_ofTable_17, t_X8_ofTable_18, t_X8_ofTable_27, ↓reduceIte, ev_kr_1, ev_isK_y, true_and, show ¬ (1 : Int32) = 0 from by decide, M_isNo_n hi, M_isOut_y (v := w) (w := 5) (Or.inl hb_w), M_fails_010 h0, hl0]
      exact k1 i hi rfl (Or.inl hb_w) _ (m_post_top hm hZ hw hB hn hz (2, r.2))
    · skip
      simp (disch := omega) only [t_X8_ofTable_0, t_X8_ofTable_1, t_X8_ofTable_2, t_X8_ofTable_5, t_X8_ofTable_6, t_X8_ofTable_7, t_X8_ofTable_10, t_X8_ofTable_11, t_X8_ofTable_14, t_X8_ofTable_17, t_X8_ofTable_18, t_X8_ofTable_27, ↓reduceIte, ev_kr_1, ev_isK_y, true_and, show ¬ (1 : Int32) = 0 from by decide, M_isNo_n hi, M_isOut_y (v := w) (w := 5) (Or.inr hb_w), M_fails_010 h0, hl0]
      exact k1 i hi rfl (Or.inr hb_w) _ (m_post_top hm hZ hw hB hn hz (2, r.2))
    · skip
      simp (disch := omega) only [t_X8_ofTable_0, t_X8_ofTable_1, t_X8_ofTable_2, t_X8_ofTable_5, t_X8_ofTable_6, t_X8_ofTable_7, t_X8_ofTable_10, t_X8_ofTable_11, t_X8_ofTable_14, ↓reduceIte, ev_kr_1, ev_isK_y, true_and, M_isNo_n hi, M_isOut_n (v := nI a_w) (w := 5) (nI_pos (by omega)) (nI_ge (b := 5) ha_w (by omega)), M_fails_000 h0, hl0]
      have hm1 := m_aw_top hm hZ hw hB (0, r.2)
      have hx1 := m_cx_top hx (0, r.2)
      have hp0 : m_post X zf y H n q (0, r.2) T As (ev_up H y (m_top y (0, r.2))) n q := m_post_top hm hZ hw hB hn hz (0, r.2)
      have hup := fun (r2 : Int32 × Int32 × Int32) (T2 : Nat → ev_TS) (H2 : ev_M) (n2 q2 : Nat) => @m_post_up X zf y r2 T2 As H H2 n q (0, r.2) n2 q2
      generalize ev_up H y (m_top y (0, r.2)) = H1 at hm1 hx1 hp0 hup ⊢
      obtain ⟨-, hw1, -, -, hz1, -, -⟩ := hx1
      have h10 := m_h0 hm1
      have hl10 := m_lk0 hm1
      have hk13 := m_k13 hm1
      obtain ⟨f, hf1, hf2⟩ := m_lk1 hm1
      have hfi := hf2 i hi
      have hpi := nI_pos' (n := i) (by omega)
      have hci := nI_clamp (n := i) (by omega)
      have hTi := hT i hi
      have hli := okL_len hTi.1
      obtain ⟨qs, hC⟩ := mc_0 (q := q) hm1 hi hz1
      have htk := mc_tk hC
      have hlk := mc_lk hC
      have ht := hC.2.1
      have hkl := mc_kl hC
      have hlen := mc_len hC
      unfold m_tbc at hlk ht
      have hx2 := m_cx_top2 hx hm1 hw1 hz1
      simp (disch := omega) only [t_X8_ofTable_21, t_X8_ofTable_22, t_X8_ofTable_23, t_X8_ofTable_24, ev_isK_y, true_and, hl10]
      refine M_tabNow hm1 hx2 hi ha_w fun H2 e1 e2 => ?_
      simp (disch := omega) only [t_X8_ofTable_27, ev_kr_1]
      exact k2 i a_w hi rfl ha_w rfl H2 _ _ (hup _ _ _ _ _ (m_post_ext hm1 hx2 e1 e2 (by omega) (by omega) (by omega) (by omega)))
end M55
end
section
/-! ===== the reference: get, remove, clear ===== -/
def ps_stale (s : ev_TS) : ev_TS := (s.1, s.2.1, (s.2.2.1.1, true, s.2.2.1.2.2), s.2.2.2.1, s.2.2.2.2)
section M56
variable {X : ev_E} {zf : Nat → Nat} {y : Nat} {r : Int32 × Int32 × Int32} {T : Nat → ev_TS} {As : List Nat} {H : ev_M} {ow : Nat → Nat} {n q : Nat} {P : ev_O → ev_M → Nat → Nat → Prop}
theorem M_got (hm : m_aw X zf y r T As H n ow) (hx : m_cx X zf y T As H n) {i : Nat} (hi : i < 4) {k o : Int32} (c : ∀ H1 n1 q1, m_post X zf y H n q r (mg_T T i (ps_row (T i) (pr_fetch (T i).1 (T i).2.1.1 k o).2 (T i).2.1.1 (T i).2.1.2.1 (T i).2.1.2.2.1 (T i).2.1.2.2.2)) As H1 n1 q1 → P (.inl (some (.int (pr_fetch (T i).1 (T i).2.1.1 k o).1))) H1 n1 q1) : ev_ok (ev_TT X) 289 0 [.ref y, .int (nI i), .int k, .int o, ev_J, ev_J, ev_J] [] H n q P := by
  have hx0 := hx
  obtain ⟨hZ, hw, hB, hn, hz, hT, hW⟩ := hx0
  have hl10 := m_lk0 hm
  have hk13 := m_k13 hm
  obtain ⟨f, hf1, hf2⟩ := m_lk1 hm
  have hfi := hf2 i hi
  have hpi := nI_pos' (n := i) (by omega)
  have hci := nI_clamp (n := i) (by omega)
  have hTi := hT i hi
  have hli := okL_len hTi.1
  obtain ⟨qs, hC⟩ := mc_0 (q := q) hm hi hz
  have htk := mc_tk hC
  have hlk := mc_lk hC
  have ht := hC.2.1
  have hkl := mc_kl hC
  have hlen := mc_len hC
  unfold m_tbc at hlk ht
  have hC1 := mc_fld hB hi hn hC (ps_stale (T i)) rfl
  have hgo : ∀ H2, m_cur X y i H n q ow 0 0 r (ps_stale (T i)) H2 n q ow qs → ev_ok (ev_TT X) 289 14 [.ref y, .int (nI i), .int k, .int o, .ref (y + 2 + 2 * i), ev_J, ev_J] [] H2 n q P := by
    intro H2 hC1
    have htk := mc_tk hC1
    have hlk := mc_lk hC1
    have ht := hC1.2.1
    have hkl := mc_kl hC1
    have hl0 := ev_lk_s (X := X) hC1.1
    unfold m_tbc at hlk ht
    unfold m_top at hl0
    simp (disch := omega) only [t_X8_got_14, t_X8_got_16, t_X8_got_17, ev_isK_y, true_and, hlk]
    refine M_place hC1 hli ?_
    rcases e : pf_find (T i).1 k with _ | j
    · have e1 : pf_place (ps_stale (T i)).1 k = -1 := by
        show pf_place (T i).1 k = -1
        unfold pf_place
        rw [e]
      have e2 : pr_fetch (T i).1 (T i).2.1.1 k o = (o, (T i).1) := by unfold pr_fetch; rw [e]
      rw [e2] at c
      rw [e1]
      simp (disch := omega) only [t_X8_got_20, t_X8_got_22, t_X8_got_24, t_X8_got_25, t_X8_got_28, t_X8_got_29, ↓reduceIte, ev_k_r, ev_kr_1, not_true_eq_false, not_true_eq_false]
      exact c _ _ _ (mc_end hm hZ hw hB hi hn hC1 (by omega) (by omega))
    · have hj := (pf_find_s e).1
      have hjq : j < qs.length := by omega
      have e1 : pf_place (ps_stale (T i)).1 k = nI j := by
        show pf_place (T i).1 k = nI j
        unfold pf_place
        rw [e]
      have e2 : pr_fetch (T i).1 (T i).2.1.1 k o = ((pf_at (T i).1 j).2, pr_ask (T i).1 (T i).2.1.1 j) := by unfold pr_fetch; rw [e]
      rw [e2] at c
      rw [e1]
      have hm1 := ev_nm1 (show j < 2 ^ 31 by omega)
      obtain ⟨g, g0, g1, g2⟩ := mc_pair hC1 hjq
      have hak : ev_isAk (H2 qs[j].1) 0 = True := by rw [g0]; exact ev_isAk_y
      simp (disch := omega) only [t_X8_got_20, t_X8_got_22, t_X8_got_24, t_X8_got_25, t_X8_got_30, t_X8_got_32, t_X8_got_35, t_X8_got_37, ↓reduceIte, ev_k_r, ev_kr_1, true_and, not_false_eq_true, ev_fG_0, ev_isO_0, not_false_eq_true, hlk, hkl, hm1]
      refine ML_get hC1.2.2.1 (by omega) hjq ?_
      simp (disch := omega) only [t_X8_got_40, t_X8_got_43, t_X8_got_44, t_X8_got_45, t_X8_got_47, t_X8_got_49, t_X8_got_51, ev_k_i, ev_kr_1, ev_isK_y, ev_aG_y, ev_inA_0, and_true, true_and, show (0 : Int32) ≤ 1 from by decide, show (1 : Int32).toNatClampNeg = 1 from rfl, show (1 : Nat) < 2 from by omega, hlk, hak, ev_lk_s g0, show (pf_at (ps_stale (T i)).1 j).2 = (pf_at (T i).1 j).2 from rfl, g2]
      refine M_asked hB hC1 hi hn hli hTi.2.1 hj fun H3 n1 q1 ow1 qs1 hC2 => ?_
      simp (disch := omega) only [t_X8_got_54, t_X8_got_56, ev_kr_0]
      exact c _ _ _ (mc_end hm hZ hw hB hi hn hC2 (by omega) (by omega))
  simp (disch := omega) only [t_X8_got_0, t_X8_got_1, t_X8_got_4, t_X8_got_5, t_X8_got_6, t_X8_got_8, t_X8_got_10, t_X8_got_11, ev_k_i, ev_aG_y, ev_ft_1, and_true, true_and, ev_fG_3, ev_fS_8, ev_isO_3, ev_isO_8, hl10, hf1, hfi, hpi, hci, hi, ev_inA_5, ht]
  exact hgo _ hC1
theorem MM_get (hm : m_aw X zf y r T As H n ow) (hx : m_cx X zf y T As H n) {t k : Int32} (k0 : t < 0 ∨ nI 4 ≤ t → ∀ H1, m_post X zf y H n q (1, r.2) T As H1 n q → P (.inl (some (.int 0))) H1 n q)
    (k1 : ∀ i, i < 4 → t = nI i → ((k < 0 ∨ nI 20 ≤ k)) → ∀ H1, m_post X zf y H n q (2, r.2) T As H1 n q → P (.inl (some (.int 0))) H1 n q)
    (k2 : ∀ i a, i < 4 → t = nI i → a < 20 → k = nI a → ∀ H1 n1 q1, m_post X zf y H n q (0, r.2) (mg_T T i (ps_row (T i) (pr_fetch (T i).1 (T i).2.1.1 k (-1)).2 (T i).2.1.1 (T i).2.1.2.1 (T i).2.1.2.2.1 (T i).2.1.2.2.2)) As H1 n1 q1 → P (.inl (some (.int (pr_fetch (T i).1 (T i).2.1.1 k (-1)).1))) H1 n1 q1) : ev_ok (ev_TT X) 302 0 [.ref y, .int t, .int k] [] H n q P := by
  have hx0 := hx
  obtain ⟨hZ, hw, hB, hn, hz, hT, hW⟩ := hx0
  have h0 := m_h0 hm
  have hl0 := m_lk0 hm
  have hk13 := m_k13 hm
  rcases pk_ix t (n := 4) (by omega) with hbt | hbt | ⟨i, hi, rfl⟩
  · skip
    rcases pk_ix k (n := 20) (by omega) with hb_k | hb_k | ⟨a_k, ha_k, rfl⟩
    · skip
      simp (disch := omega) only [t_X8_get_0, t_X8_get_1, t_X8_get_2, t_X8_get_3, t_X8_get_6, t_X8_get_9, t_X8_get_10, t_X8_get_20, t_X8_isNoKey_0, t_X8_isNoKey_1, t_X8_isNoKey_2, t_X8_isNoKey_5, t_X8_isNoKey_6, t_X8_isNoKey_8, t_X8_isNoKey_11, t_X8_isNoKey_12, t_X8_isNoKey_15, ↓reduceIte, ev_kr_1, ev_isK_y, ev_nb_1, true_and, show ¬ (1 : Int32) = 0 from by decide, M_isNo_y (Or.inl hbt), M_isOut_y (v := k) (w := 20) (Or.inl hb_k), M_fails_110 h0, hl0]
      exact k0 (Or.inl hbt) _ (m_post_top hm hZ hw hB hn hz (1, r.2))
    · skip
      simp (disch := omega) only [t_X8_get_0, t_X8_get_1, t_X8_get_2, t_X8_get_3, t_X8_get_6, t_X8_get_9, t_X8_get_10, t_X8_get_20, t_X8_isNoKey_0, t_X8_isNoKey_1, t_X8_isNoKey_2, t_X8_isNoKey_5, t_X8_isNoKey_6, t_X8_isNoKey_8, t_X8_isNoKey_11, t_X8_isNoKey_12, t_X8_isNoKey_15, ↓reduceIte, ev_kr_1, ev_isK_y, ev_nb_1, true_and, show ¬ (1 : Int32) = 0 from by decide, M_isNo_y (Or.inl hbt), M_isOut_y (v := k) (w := 20) (Or.inr hb_k), M_fails_110 h0, hl0]
      exact k0 (Or.inl hbt) _ (m_post_top hm hZ hw hB hn hz (1, r.2))
    · skip
      simp (disch := omega) only [t_X8_get_0, t_X8_get_1, t_X8_get_2, t_X8_get_3, t_X8_get_6, t_X8_get_9, t_X8_get_10, t_X8_get_20, t_X8_isNoKey_0, t_X8_isNoKey_1, t_X8_isNoKey_2, t_X8_isNoKey_5, t_X8_isNoKey_6, t_X8_isNoKey_8, t_X8_isNoKey_11, t_X8_isNoKey_12, t_X8_isNoKey_15, ↓reduceIte, ev_kr_1, ev_isK_y, ev_nb_1, true_and, show ¬ (1 : Int32) = 0 from by decide, M_isNo_y (Or.inl hbt), M_isOut_n (v := nI a_k) (w := 20) (nI_pos (by omega)) (nI_ge (b := 20) ha_k (by omega)), M_fails_100 h0, hl0]
      exact k0 (Or.inl hbt) _ (m_post_top hm hZ hw hB hn hz (1, r.2))
  · skip
    rcases pk_ix k (n := 20) (by omega) with hb_k | hb_k | ⟨a_k, ha_k, rfl⟩
    · skip
      simp (disch := omega) only [t_X8_get_0, t_X8_get_1, t_X8_get_2, t_X8_get_3, t_X8_get_6, t_X8_get_9, t_X8_get_10, t_X8_get_20, t_X8_isNoKey_0, t_X8_isNoKey_1, t_X8_isNoKey_2, t_X8_isNoKey_5, t_X8_isNoKey_6, t_X8_isNoKey_8, t_X8_isNoKey_11, t_X8_isNoKey_12, t_X8_isNoKey_15, ↓reduceIte, ev_kr_1, ev_isK_y, ev_nb_1, true_and, show ¬ (1 : Int32) = 0 from by decide, M_isNo_y (Or.inr hbt), M_isOut_y (v := k) (w := 20) (Or.inl hb_k), M_fails_110 h0, hl0]
      exact k0 (Or.inr hbt) _ (m_post_top hm hZ hw hB hn hz (1, r.2))
    · skip
      simp (disch := omega) only [t_X8_get_0, t_X8_get_1, t_X8_get_2, t_X8_get_3, t_X8_get_6, t_X8_get_9, t_X8_get_10, t_X8_get_20, t_X8_isNoKey_0, t_X8_isNoKey_1, t_X8_isNoKey_2, t_X8_isNoKey_5, t_X8_isNoKey_6, t_X8_isNoKey_8, t_X8_isNoKey_11, t_X8_isNoKey_12, t_X8_isNoKey_15, ↓reduceIte, ev_kr_1, ev_isK_y, ev_nb_1, true_and, show ¬ (1 : Int32) = 0 from by decide, M_isNo_y (Or.inr hbt), M_isOut_y (v := k) (w := 20) (Or.inr hb_k), M_fails_110 h0, hl0]
      exact k0 (Or.inr hbt) _ (m_post_top hm hZ hw hB hn hz (1, r.2))
    · skip
      simp (disch := omega) only [t_X8_get_0, t_X8_get_1, t_X8_get_2, t_X8_get_3, t_X8_get_6, t_X8_get_9, t_X8_get_10, t_X8_get_20, t_X8_isNoKey_0, t_X8_isNoKey_1, t_X8_isNoKey_2, t_X8_isNoKey_5, t_X8_isNoKey_6, t_X8_isNoKey_8, t_X8_isNoKey_11, t_X8_isNoKey_12, t_X8_isNoKey_15, ↓reduceIte, ev_kr_1, ev_isK_y, ev_nb_1, true_and, show ¬ (1 : Int32) = 0 from by decide, M_isNo_y (Or.inr hbt), M_isOut_n (v := nI a_k) (w := 20) (nI_pos (by omega)) (nI_ge (b := 20) ha_k (by omega)), M_fails_100 h0, hl0]
      exact k0 (Or.inr hbt) _ (m_post_top hm hZ hw hB hn hz (1, r.2))
  · skip
    rcases pk_ix k (n := 20) (by omega) with hb_k | hb_k | ⟨a_k, ha_k, rfl⟩
    · skip
      simp (disch := omega) only [t_X8_get_0, t_X8_get_1, t_X8_get_2, t_X8_get_3, t_X8_get_6, t_X8_get_9, t_X8_get_10, t_X8_get_20, t_X8_isNoKey_0, t_X8_isNoKey_1, t_X8_isNoKey_2, t_X8_isNoKey_5, t_X8_isNoKey_6, t_X8_isNoKey_8, t_X8_isNoKey_11, t_X8_isNoKey_12, t_X8_isNoKey_15, ↓reduceIte, ev_kr_1, ev_isK_y, ev_nb_1, true_and, show ¬ (1 : Int32) = 0 from by decide, M_isNo_n hi, M_isOut_y (v := k) (w := 20) (Or.inl hb_k), M_fails_010 h0, hl0]
      exact k1 i hi rfl (Or.inl hb_k) _ (m_post_top hm hZ hw hB hn hz (2, r.2))
    · skip
      simp (disch := omega) only [t_X8_get_0, t_X8_get_1, t_X8_get_2, t_X8_get_3, t_X8_get_6, t_X8_get_9, t_X8_get_10, t_X8_get_20, t_X8_isNoKey_0, t_X8_isNoKey_1, t_X8_isNoKey_2, t_X8_isNoKey_5, t_X8_isNoKey_6, t_X8_isNoKey_8, t_X8_isNoKey_11, t_X8_isNoKey_12, t_X8_isNoKey_15, ↓reduceIte, ev_kr_1, ev_isK_y, ev_nb_1, true_and, show ¬ (1 : Int32) = 0 from by decide, M_isNo_n hi, M_isOut_y (v := k) (w := 20) (Or.inr hb_k), M_fails_010 h0, hl0]
      exact k1 i hi rfl (Or.inr hb_k) _ (m_post_top hm hZ hw hB hn hz (2, r.2))
    · skip
      simp (disch := omega) only [t_X8_get_0, t_X8_get_1, t_X8_get_2, t_X8_get_3, t_X8_get_6, t_X8_get_13, t_X8_get_14, t_X8_get_15, t_X8_get_16, t_X8_get_17, t_X8_isNoKey_0, t_X8_isNoKey_1, t_X8_isNoKey_2, t_X8_isNoKey_5, t_X8_isNoKey_6, t_X8_isNoKey_8, t_X8_isNoKey_11, t_X8_isNoKey_12, t_X8_isNoKey_15, ↓reduceIte, ev_kr_1, ev_isK_y, ev_nb_0, true_and, M_isNo_n hi, M_isOut_n (v := nI a_k) (w := 20) (nI_pos (by omega)) (nI_ge (b := 20) ha_k (by omega)), M_fails_000 h0, hl0]
      have hm1 := m_aw_top hm hZ hw hB (0, r.2)
      have hx1 := m_cx_top hx (0, r.2)
      have hp0 : m_post X zf y H n q (0, r.2) T As (ev_up H y (m_top y (0, r.2))) n q := m_post_top hm hZ hw hB hn hz (0, r.2)
      have hup := fun (r2 : Int32 × Int32 × Int32) (T2 : Nat → ev_TS) (H2 : ev_M) (n2 q2 : Nat) => @m_post_up X zf y r2 T2 As H H2 n q (0, r.2) n2 q2
      generalize ev_up H y (m_top y (0, r.2)) = H1 at hm1 hx1 hp0 hup ⊢
      obtain ⟨-, hw1, -, -, hz1, -, -⟩ := hx1
      have h10 := m_h0 hm1
      have hl10 := m_lk0 hm1
      have hk13 := m_k13 hm1
      obtain ⟨f, hf1, hf2⟩ := m_lk1 hm1
      have hfi := hf2 i hi
      have hpi := nI_pos' (n := i) (by omega)
      have hci := nI_clamp (n := i) (by omega)
      have hTi := hT i hi
      have hli := okL_len hTi.1
      obtain ⟨qs, hC⟩ := mc_0 (q := q) hm1 hi hz1
      have htk := mc_tk hC
      have hlk := mc_lk hC
      have ht := hC.2.1
      have hkl := mc_kl hC
      have hlen := mc_len hC
      unfold m_tbc at hlk ht
      have hx2 := m_cx_top2 hx hm1 hw1 hz1
      simp (disch := omega) only [ev_isK_y, true_and, hl10]
      refine M_got hm1 hx2 hi fun H2 n2 q2 hp => ?_
      simp (disch := omega) only [t_X8_get_20, ev_kr_1]
      exact k2 i a_k hi rfl ha_k rfl H2 _ _ (hup _ _ _ _ _ hp)
theorem MM_getOr (hm : m_aw X zf y r T As H n ow) (hx : m_cx X zf y T As H n) {t k o : Int32} (k0 : t < 0 ∨ nI 4 ≤ t → ∀ H1, m_post X zf y H n q (1, r.2) T As H1 n q → P (.inl (some (.int 0))) H1 n q)
    (k1 : ∀ i, i < 4 → t = nI i → ((k < 0 ∨ nI 20 ≤ k)) → ∀ H1, m_post X zf y H n q (2, r.2) T As H1 n q → P (.inl (some (.int 0))) H1 n q)
    (k2 : ∀ i a, i < 4 → t = nI i → a < 20 → k = nI a → ∀ H1 n1 q1, m_post X zf y H n q (0, r.2) (mg_T T i (ps_row (T i) (pr_fetch (T i).1 (T i).2.1.1 k o).2 (T i).2.1.1 (T i).2.1.2.1 (T i).2.1.2.2.1 (T i).2.1.2.2.2)) As H1 n1 q1 → P (.inl (some (.int (pr_fetch (T i).1 (T i).2.1.1 k o).1))) H1 n1 q1) : ev_ok (ev_TT X) 303 0 [.ref y, .int t, .int k, .int o] [] H n q P := by
  have hx0 := hx
  obtain ⟨hZ, hw, hB, hn, hz, hT, hW⟩ := hx0
  have h0 := m_h0 hm
  have hl0 := m_lk0 hm
  have hk13 := m_k13 hm
  rcases pk_ix t (n := 4) (by omega) with hbt | hbt | ⟨i, hi, rfl⟩
  · skip
    rcases pk_ix k (n := 20) (by omega) with hb_k | hb_k | ⟨a_k, ha_k, rfl⟩
    · skip
      simp (disch := omega) only [t_X8_getOr_0, t_X8_getOr_1, t_X8_getOr_2, t_X8_getOr_3, t_X8_getOr_6, t_X8_getOr_9, t_X8_getOr_10, t_X8_getOr_20, t_X8_isNoKey_0, t_X8_isNoKey_1, t_X8_isNoKey_2, t_X8_isNoKey_5, t_X8_isNoKey_6, t_X8_isNoKey_8, t_X8_isNoKey_11, t_X8_isNoKey_12, t_X8_isNoKey_15, ↓reduceIte, ev_kr_1, ev_isK_y, ev_nb_1, true_and, show ¬ (1 : Int32) = 0 from by decide, M_isNo_y (Or.inl hbt), M_isOut_y (v := k) (w := 20) (Or.inl hb_k), M_fails_110 h0, hl0]
      exact k0 (Or.inl hbt) _ (m_post_top hm hZ hw hB hn hz (1, r.2))
    · skip
      simp (disch := omega) only [t_X8_getOr_0, t_X8_getOr_1, t_X8_getOr_2, t_X8_getOr_3, t_X8_getOr_6, t_X8_getOr_9, t_X8_getOr_10, t_X8_getOr_20, t_X8_isNoKey_0, t_X8_isNoKey_1, t_X8_isNoKey_2, t_X8_isNoKey_5, t_X8_isNoKey_6, t_X8_isNoKey_8, t_X8_isNoKey_11, t_X8_isNoKey_12, t_X8_isNoKey_15, ↓reduceIte, ev_kr_1, ev_isK_y, ev_nb_1, true_and, show ¬ (1 : Int32) = 0 from by decide, M_isNo_y (Or.inl hbt), M_isOut_y (v := k) (w := 20) (Or.inr hb_k), M_fails_110 h0, hl0]
      exact k0 (Or.inl hbt) _ (m_post_top hm hZ hw hB hn hz (1, r.2))
    · skip
      simp (disch := omega) only [t_X8_getOr_0, t_X8_getOr_1, t_X8_getOr_2, t_X8_getOr_3, t_X8_getOr_6, t_X8_getOr_9, t_X8_getOr_10, t_X8_getOr_20, t_X8_isNoKey_0, t_X8_isNoKey_1, t_X8_isNoKey_2, t_X8_isNoKey_5, t_X8_isNoKey_6, t_X8_isNoKey_8, t_X8_isNoKey_11, t_X8_isNoKey_12, t_X8_isNoKey_15, ↓reduceIte, ev_kr_1, ev_isK_y, ev_nb_1, true_and, show ¬ (1 : Int32) = 0 from by decide, M_isNo_y (Or.inl hbt), M_isOut_n (v := nI a_k) (w := 20) (nI_pos (by omega)) (nI_ge (b := 20) ha_k (by omega)), M_fails_100 h0, hl0]
      exact k0 (Or.inl hbt) _ (m_post_top hm hZ hw hB hn hz (1, r.2))
  · skip
    rcases pk_ix k (n := 20) (by omega) with hb_k | hb_k | ⟨a_k, ha_k, rfl⟩
    · skip
      simp (disch := omega) only [t_X8_getOr_0, t_X8_getOr_1, t_X8_getOr_2, t_X8_getOr_3, t_X8_getOr_6, t_X8_getOr_9, t_X8_getOr_10, t_X8_getOr_20, t_X8_isNoKey_0, t_X8_isNoKey_1, t_X8_isNoKey_2, t_X8_isNoKey_5, t_X8_isNoKey_6, t_X8_isNoKey_8, t_X8_isNoKey_11, t_X8_isNoKey_12, t_X8_isNoKey_15, ↓reduceIte, ev_kr_1, ev_isK_y, ev_nb_1, true_and, show ¬ (1 : Int32) = 0 from by decide, M_isNo_y (Or.inr hbt), M_isOut_y (v := k) (w := 20) (Or.inl hb_k), M_fails_110 h0, hl0]
      exact k0 (Or.inr hbt) _ (m_post_top hm hZ hw hB hn hz (1, r.2))
    · skip
      simp (disch := omega) only [t_X8_getOr_0, t_X8_getOr_1, t_X8_getOr_2, t_X8_getOr_3, t_X8_getOr_6, t_X8_getOr_9, t_X8_getOr_10, t_X8_getOr_20, t_X8_isNoKey_0, t_X8_isNoKey_1, t_X8_isNoKey_2, t_X8_isNoKey_5, t_X8_isNoKey_6, t_X8_isNoKey_8, t_X8_isNoKey_11, t_X8_isNoKey_12, t_X8_isNoKey_15, ↓reduceIte, ev_kr_1, ev_isK_y, ev_nb_1, true_and, show ¬ (1 : Int32) = 0 from by decide, M_isNo_y (Or.inr hbt), M_isOut_y (v := k) (w := 20) (Or.inr hb_k), M_fails_110 h0, hl0]
      exact k0 (Or.inr hbt) _ (m_post_top hm hZ hw hB hn hz (1, r.2))
    · skip
      simp (disch := omega) only [t_X8_getOr_0, t_X8_getOr_1, t_X8_getOr_2, t_X8_getOr_3, t_X8_getOr_6, t_X8_getOr_9, t_X8_getOr_10, t_X8_getOr_20, t_X8_isNoKey_0, t_X8_isNoKey_1, t_X8_isNoKey_2, t_X8_isNoKey_5, t_X8_isNoKey_6, t_X8_isNoKey_8, t_X8_isNoKey_11, t_X8_isNoKey_12, t_X8_isNoKey_15, ↓reduceIte, ev_kr_1, ev_isK_y, ev_nb_1, true_and, show ¬ (1 : Int32) = 0 from by decide, M_isNo_y (Or.inr hbt), M_isOut_n (v := nI a_k) (w := 20) (nI_pos (by omega)) (nI_ge (b := 20) ha_k (by omega)), M_fails_100 h0, hl0]
      exact k0 (Or.inr hbt) _ (m_post_top hm hZ hw hB hn hz (1, r.2))
  · skip
    rcases pk_ix k (n := 20) (by omega) with hb_k | hb_k | ⟨a_k, ha_k, rfl⟩
    · skip
      simp (disch := omega) only [t_X8_getOr_0, t_X8_getOr_1, t_X8_getOr_2, t_X8_getOr_3, t_X8_getOr_6, t_X8_getOr_9, t_X8_getOr_10, t_X8_getOr_20, t_X8_isNoKey_0, t_X8_isNoKey_1, t_X8_isNoKey_2, t_X8_isNoKey_5, t_X8_isNoKey_6, t_X8_isNoKey_8, t_X8_isNoKey_11, t_X8_isNoKey_12, t_X8_isNoKey_15, ↓reduceIte, ev_kr_1, ev_isK_y, ev_nb_1, true_and, show ¬ (1 : Int32) = 0 from by decide, M_isNo_n hi, M_isOut_y (v := k) (w := 20) (Or.inl hb_k), M_fails_010 h0, hl0]
      exact k1 i hi rfl (Or.inl hb_k) _ (m_post_top hm hZ hw hB hn hz (2, r.2))
    · skip
      simp (disch := omega) only [t_X8_getOr_0, t_X8_getOr_1, t_X8_getOr_2, t_X8_getOr_3, t_X8_getOr_6, t_X8_getOr_9, t_X8_getOr_10, t_X8_getOr_20, t_X8_isNoKey_0, t_X8_isNoKey_1, t_X8_isNoKey_2, t_X8_isNoKey_5, t_X8_isNoKey_6, t_X8_isNoKey_8, t_X8_isNoKey_11, t_X8_isNoKey_12, t_X8_isNoKey_15, ↓reduceIte, ev_kr_1, ev_isK_y, ev_nb_1, true_and, show ¬ (1 : Int32) = 0 from by decide, M_isNo_n hi, M_isOut_y (v := k) (w := 20) (Or.inr hb_k), M_fails_010 h0, hl0]
      exact k1 i hi rfl (Or.inr hb_k) _ (m_post_top hm hZ hw hB hn hz (2, r.2))
    · skip
      simp (disch := omega) only [t_X8_getOr_0, t_X8_getOr_1, t_X8_getOr_2, t_X8_getOr_3, t_X8_getOr_6, t_X8_getOr_13, t_X8_getOr_14, t_X8_getOr_15, t_X8_getOr_16, t_X8_getOr_17, t_X8_isNoKey_0, t_X8_isNoKey_1, t_X8_isNoKey_2, t_X8_isNoKey_5, t_X8_isNoKey_6, t_X8_isNoKey_8, t_X8_isNoKey_11, t_X8_isNoKey_12, t_X8_isNoKey_15, ↓reduceIte, ev_kr_1, ev_isK_y, ev_nb_0, true_and, M_isNo_n hi, M_isOut_n (v := nI a_k) (w := 20) (nI_pos (by omega)) (nI_ge (b := 20) ha_k (by omega)), M_fails_000 h0, hl0]
      have hm1 := m_aw_top hm hZ hw hB (0, r.2)
      have hx1 := m_cx_top hx (0, r.2)
      have hp0 : m_post X zf y H n q (0, r.2) T As (ev_up H y (m_top y (0, r.2))) n q := m_post_top hm hZ hw hB hn hz (0, r.2)
      have hup := fun (r2 : Int32 × Int32 × Int32) (T2 : Nat → ev_TS) (H2 : ev_M) (n2 q2 : Nat) => @m_post_up X zf y r2 T2 As H H2 n q (0, r.2) n2 q2
      generalize ev_up H y (m_top y (0, r.2)) = H1 at hm1 hx1 hp0 hup ⊢
      obtain ⟨-, hw1, -, -, hz1, -, -⟩ := hx1
      have h10 := m_h0 hm1
      have hl10 := m_lk0 hm1
      have hk13 := m_k13 hm1
      obtain ⟨f, hf1, hf2⟩ := m_lk1 hm1
      have hfi := hf2 i hi
      have hpi := nI_pos' (n := i) (by omega)
      have hci := nI_clamp (n := i) (by omega)
      have hTi := hT i hi
      have hli := okL_len hTi.1
      obtain ⟨qs, hC⟩ := mc_0 (q := q) hm1 hi hz1
      have htk := mc_tk hC
      have hlk := mc_lk hC
      have ht := hC.2.1
      have hkl := mc_kl hC
      have hlen := mc_len hC
      unfold m_tbc at hlk ht
      have hx2 := m_cx_top2 hx hm1 hw1 hz1
      simp (disch := omega) only [ev_isK_y, true_and, hl10]
      refine M_got hm1 hx2 hi fun H2 n2 q2 hp => ?_
      simp (disch := omega) only [t_X8_getOr_20, ev_kr_1]
      exact k2 i a_k hi rfl ha_k rfl H2 _ _ (hup _ _ _ _ _ hp)
theorem MM_remove (hm : m_aw X zf y r T As H n ow) (hx : m_cx X zf y T As H n) {t k : Int32} (k0 : t < 0 ∨ nI 4 ≤ t → ∀ H1, m_post X zf y H n q (1, r.2) T As H1 n q → P (.inl (some (.int 0))) H1 n q)
    (k1 : ∀ i, i < 4 → t = nI i → ((k < 0 ∨ nI 20 ≤ k)) → ∀ H1, m_post X zf y H n q (2, r.2) T As H1 n q → P (.inl (some (.int 0))) H1 n q)
    (k2 : ∀ i a, i < 4 → t = nI i → a < 20 → k = nI a → ∀ H1 n1 q1, m_post X zf y H n q (0, r.2) (mg_T T i (ps_row (T i) (pr_drop (T i).1 k).2 (T i).2.1.1 (T i).2.1.2.1 (T i).2.1.2.2.1 (T i).2.1.2.2.2)) As H1 n1 q1 → P (.inl (some (.int (pr_drop (T i).1 k).1))) H1 n1 q1) : ev_ok (ev_TT X) 239 0 [.ref y, .int t, .int k, ev_J, ev_J] [] H n q P := by
  have hx0 := hx
  obtain ⟨hZ, hw, hB, hn, hz, hT, hW⟩ := hx0
  have h0 := m_h0 hm
  have hl0 := m_lk0 hm
  have hk13 := m_k13 hm
  rcases pk_ix t (n := 4) (by omega) with hbt | hbt | ⟨i, hi, rfl⟩
  · skip
    rcases pk_ix k (n := 20) (by omega) with hb_k | hb_k | ⟨a_k, ha_k, rfl⟩
    · skip
      simp (disch := omega) only [t_X8_remove_0, t_X8_remove_1, t_X8_remove_2, t_X8_remove_3, t_X8_remove_6, t_X8_remove_9, t_X8_remove_10, t_X8_isNoKey_0, t_X8_isNoKey_1, t_X8_isNoKey_2, t_X8_isNoKey_5, t_X8_isNoKey_6, t_X8_isNoKey_8, t_X8_isNoKey_11, t_X8_isNoKey_12, t_X8_isNoKey_15, ↓reduceIte, ev_kr_1, ev_isK_y, ev_nb_1, true_and, show ¬ (1 : Int32) = 0 from by decide, M_isNo_y (Or.inl hbt), M_isOut_y (v := k) (w := 20) (Or.inl hb_k), M_fails_110 h0, hl0]
      exact k0 (Or.inl hbt) _ (m_post_top hm hZ hw hB hn hz (1, r.2))
    · skip
      simp (disch := omega) only [t_X8_remove_0, t_X8_remove_1, t_X8_remove_2, t_X8_remove_3, t_X8_remove_6, t_X8_remove_9, t_X8_remove_10, t_X8_isNoKey_0, t_X8_isNoKey_1, t_X8_isNoKey_2, t_X8_isNoKey_5, t_X8_isNoKey_6, t_X8_isNoKey_8, t_X8_isNoKey_11, t_X8_isNoKey_12, t_X8_isNoKey_15, ↓reduceIte, ev_kr_1, ev_isK_y, ev_nb_1, true_and, show ¬ (1 : Int32) = 0 from by decide, M_isNo_y (Or.inl hbt), M_isOut_y (v := k) (w := 20) (Or.inr hb_k), M_fails_110 h0, hl0]
      exact k0 (Or.inl hbt) _ (m_post_top hm hZ hw hB hn hz (1, r.2))
    · skip
      simp (disch := omega) only [t_X8_remove_0, t_X8_remove_1, t_X8_remove_2, t_X8_remove_3, t_X8_remove_6, t_X8_remove_9, t_X8_remove_10, t_X8_isNoKey_0, t_X8_isNoKey_1, t_X8_isNoKey_2, t_X8_isNoKey_5, t_X8_isNoKey_6, t_X8_isNoKey_8, t_X8_isNoKey_11, t_X8_isNoKey_12, t_X8_isNoKey_15, ↓reduceIte, ev_kr_1, ev_isK_y, ev_nb_1, true_and, show ¬ (1 : Int32) = 0 from by decide, M_isNo_y (Or.inl hbt), M_isOut_n (v := nI a_k) (w := 20) (nI_pos (by omega)) (nI_ge (b := 20) ha_k (by omega)), M_fails_100 h0, hl0]
      exact k0 (Or.inl hbt) _ (m_post_top hm hZ hw hB hn hz (1, r.2))
  · skip
    rcases pk_ix k (n := 20) (by omega) with hb_k | hb_k | ⟨a_k, ha_k, rfl⟩
    · skip
      simp (disch := omega) only [t_X8_remove_0, t_X8_remove_1, t_X8_remove_2, t_X8_remove_3, t_X8_remove_6, t_X8_remove_9, t_X8_remove_10, t_X8_isNoKey_0, t_X8_isNoKey_1, t_X8_isNoKey_2, t_X8_isNoKey_5, t_X8_isNoKey_6, t_X8_isNoKey_8, t_X8_isNoKey_11, t_X8_isNoKey_12, t_X8_isNoKey_15, ↓reduceIte, ev_kr_1, ev_isK_y, ev_nb_1, true_and, show ¬ (1 : Int32) = 0 from by decide, M_isNo_y (Or.inr hbt), M_isOut_y (v := k) (w := 20) (Or.inl hb_k), M_fails_110 h0, hl0]
      exact k0 (Or.inr hbt) _ (m_post_top hm hZ hw hB hn hz (1, r.2))
    · skip
      simp (disch := omega) only [t_X8_remove_0, t_X8_remove_1, t_X8_remove_2, t_X8_remove_3, t_X8_remove_6, t_X8_remove_9, t_X8_remove_10, t_X8_isNoKey_0, t_X8_isNoKey_1, t_X8_isNoKey_2, t_X8_isNoKey_5, t_X8_isNoKey_6, t_X8_isNoKey_8, t_X8_isNoKey_11, t_X8_isNoKey_12, t_X8_isNoKey_15, ↓reduceIte, ev_kr_1, ev_isK_y, ev_nb_1, true_and, show ¬ (1 : Int32) = 0 from by decide, M_isNo_y (Or.inr hbt), M_isOut_y (v := k) (w := 20) (Or.inr hb_k), M_fails_110 h0, hl0]
      exact k0 (Or.inr hbt) _ (m_post_top hm hZ hw hB hn hz (1, r.2))
    · skip
      simp (disch := omega) only [t_X8_remove_0, t_X8_remove_1, t_X8_remove_2, t_X8_remove_3, t_X8_remove_6, t_X8_remove_9, t_X8_remove_10, t_X8_isNoKey_0, t_X8_isNoKey_1, t_X8_isNoKey_2, t_X8_isNoKey_5, t_X8_isNoKey_6, t_X8_isNoKey_8, t_X8_isNoKey_11, t_X8_isNoKey_12, t_X8_isNoKey_15, ↓reduceIte, ev_kr_1, ev_isK_y, ev_nb_1, true_and, show ¬ (1 : Int32) = 0 from by decide, M_isNo_y (Or.inr hbt), M_isOut_n (v := nI a_k) (w := 20) (nI_pos (by omega)) (nI_ge (b := 20) ha_k (by omega)), M_fails_100 h0, hl0]
      exact k0 (Or.inr hbt) _ (m_post_top hm hZ hw hB hn hz (1, r.2))
  · skip
    rcases pk_ix k (n := 20) (by omega) with hb_k | hb_k | ⟨a_k, ha_k, rfl⟩
    · skip
      simp (disch := omega) only [t_X8_remove_0, t_X8_remove_1, t_X8_remove_2, t_X8_remove_3, t_X8_remove_6, t_X8_remove_9, t_X8_remove_10, t_X8_isNoKey_0, t_X8_isNoKey_1, t_X8_isNoKey_2, t_X8_isNoKey_5, t_X8_isNoKey_6, t_X8_isNoKey_8, t_X8_isNoKey_11, t_X8_isNoKey_12, t_X8_isNoKey_15, ↓reduceIte, ev_kr_1, ev_isK_y, ev_nb_1, true_and, show ¬ (1 : Int32) = 0 from by decide, M_isNo_n hi, M_isOut_y (v := k) (w := 20) (Or.inl hb_k), M_fails_010 h0, hl0]
      exact k1 i hi rfl (Or.inl hb_k) _ (m_post_top hm hZ hw hB hn hz (2, r.2))
    · skip
      simp (disch := omega) only [t_X8_remove_0, t_X8_remove_1, t_X8_remove_2, t_X8_remove_3, t_X8_remove_6, t_X8_remove_9, t_X8_remove_10, t_X8_isNoKey_0, t_X8_isNoKey_1, t_X8_isNoKey_2, t_X8_isNoKey_5, t_X8_isNoKey_6, t_X8_isNoKey_8, t_X8_isNoKey_11, t_X8_isNoKey_12, t_X8_isNoKey_15, ↓reduceIte, ev_kr_1, ev_isK_y, ev_nb_1, true_and, show ¬ (1 : Int32) = 0 from by decide, M_isNo_n hi, M_isOut_y (v := k) (w := 20) (Or.inr hb_k), M_fails_010 h0, hl0]
      exact k1 i hi rfl (Or.inr hb_k) _ (m_post_top hm hZ hw hB hn hz (2, r.2))
    · skip
      simp (disch := omega) only [t_X8_remove_0, t_X8_remove_1, t_X8_remove_2, t_X8_remove_3, t_X8_remove_6, t_X8_isNoKey_0, t_X8_isNoKey_1, t_X8_isNoKey_2, t_X8_isNoKey_5, t_X8_isNoKey_6, t_X8_isNoKey_8, t_X8_isNoKey_11, t_X8_isNoKey_12, t_X8_isNoKey_15, ↓reduceIte, ev_kr_1, ev_isK_y, ev_nb_0, true_and, M_isNo_n hi, M_isOut_n (v := nI a_k) (w := 20) (nI_pos (by omega)) (nI_ge (b := 20) ha_k (by omega)), M_fails_000 h0, hl0]
      have hm1 := m_aw_top hm hZ hw hB (0, r.2)
      have hx1 := m_cx_top hx (0, r.2)
      have hp0 : m_post X zf y H n q (0, r.2) T As (ev_up H y (m_top y (0, r.2))) n q := m_post_top hm hZ hw hB hn hz (0, r.2)
      have hup := fun (r2 : Int32 × Int32 × Int32) (T2 : Nat → ev_TS) (H2 : ev_M) (n2 q2 : Nat) => @m_post_up X zf y r2 T2 As H H2 n q (0, r.2) n2 q2
      generalize ev_up H y (m_top y (0, r.2)) = H1 at hm1 hx1 hp0 hup ⊢
      obtain ⟨-, hw1, -, -, hz1, -, -⟩ := hx1
      have h10 := m_h0 hm1
      have hl10 := m_lk0 hm1
      have hk13 := m_k13 hm1
      obtain ⟨f, hf1, hf2⟩ := m_lk1 hm1
      have hfi := hf2 i hi
      have hpi := nI_pos' (n := i) (by omega)
      have hci := nI_clamp (n := i) (by omega)
      have hTi := hT i hi
      have hli := okL_len hTi.1
      obtain ⟨qs, hC⟩ := mc_0 (q := q) hm1 hi hz1
      have htk := mc_tk hC
      have hlk := mc_lk hC
      have ht := hC.2.1
      have hkl := mc_kl hC
      have hlen := mc_len hC
      unfold m_tbc at hlk ht
      have hC1 := mc_fld hB hi hn hC (ps_stale (T i)) rfl
      have hgo : ∀ H2, m_cur X y i H1 n q ow 0 0 (0, r.2) (ps_stale (T i)) H2 n q ow qs → ev_ok (ev_TT X) 239 23 [.ref y, .int (nI i), .int (nI a_k), .ref (y + 2 + 2 * i), ev_J] [] H2 n q P := by
        intro H2 hC1
        have htk := mc_tk hC1
        have hlk := mc_lk hC1
        have ht := hC1.2.1
        have hkl := mc_kl hC1
        have hl0 := ev_lk_s (X := X) hC1.1
        unfold m_tbc at hlk ht
        unfold m_top at hl0
        simp (disch := omega) only [t_X8_remove_23, t_X8_remove_24, t_X8_remove_25, ev_isK_y, true_and, hlk]
        refine M_place hC1 hli ?_
        have hK := k2 i a_k hi rfl ha_k rfl
        rcases e : pf_find (T i).1 (nI a_k) with _ | j
        · have e1 : pf_place (ps_stale (T i)).1 (nI a_k) = -1 := by
            show pf_place (T i).1 (nI a_k) = -1
            unfold pf_place
            rw [e]
          have e2 : pr_drop (T i).1 (nI a_k) = (-1, (T i).1) := by unfold pr_drop; rw [e]
          rw [e2] at hK
          rw [e1]
          simp (disch := omega) only [t_X8_remove_28, t_X8_remove_30, t_X8_remove_32, t_X8_remove_33, t_X8_remove_36, t_X8_remove_37, t_X8_remove_54, ↓reduceIte, ev_k_r, ev_kr_1, not_true_eq_false, not_true_eq_false]
          exact hK _ _ _ (hup _ _ _ _ _ (mc_end hm1 hZ hw1 hB hi hn hC1 (by omega) (by omega)))
        · have hj := (pf_find_s e).1
          have hjq : j < qs.length := by omega
          have e1 : pf_place (ps_stale (T i)).1 (nI a_k) = nI j := by
            show pf_place (T i).1 (nI a_k) = nI j
            unfold pf_place
            rw [e]
          have e2 : pr_drop (T i).1 (nI a_k) = ((pf_at (T i).1 j).2, (T i).1.eraseIdx j) := by unfold pr_drop; rw [e]
          rw [e2] at hK
          rw [e1]
          have hm1j := ev_nm1 (show j < 2 ^ 31 by omega)
          obtain ⟨g, g0, g1, g2⟩ := mc_pair hC1 hjq
          simp (disch := omega) only [t_X8_remove_28, t_X8_remove_30, t_X8_remove_32, t_X8_remove_33, t_X8_remove_40, t_X8_remove_41, t_X8_remove_44, t_X8_remove_46, ↓reduceIte, ev_k_r, ev_kr_1, true_and, not_false_eq_true, ev_fG_0, ev_isO_0, not_false_eq_true, hlk, hkl, hm1j]
          refine mc_remove hC1 hi hn (by omega) hjq fun H3 hC2 hg => ?_
          have hak : ev_isAk (H3 qs[j].1) 0 = True := by rw [hg, g0]; exact ev_isAk_y
          have hg0 : H3 qs[j].1 = some (.inl (0, 2, g)) := hg.trans g0
          simp (disch := omega) only [t_X8_remove_49, t_X8_remove_52, t_X8_remove_53, t_X8_remove_54, ev_kr_1, ev_aG_y, ev_inA_0, and_true, true_and, show (0 : Int32) ≤ 1 from by decide, show (1 : Int32).toNatClampNeg = 1 from rfl, show (1 : Nat) < 2 from by omega, hak, ev_lk_s hg0, show (pf_at (ps_stale (T i)).1 j).2 = (pf_at (T i).1 j).2 from rfl, g2]
          exact hK _ _ _ (hup _ _ _ _ _ (mc_end hm1 hZ hw1 hB hi hn hC2 (by omega) (by omega)))
      simp (disch := omega) only [t_X8_remove_11, t_X8_remove_12, t_X8_remove_15, t_X8_remove_16, t_X8_remove_17, t_X8_remove_18, t_X8_remove_19, t_X8_remove_20, ev_k_i, ev_aG_y, ev_ft_1, and_true, true_and, ev_fG_3, ev_fS_8, ev_isO_3, ev_isO_8, hl10, hf1, hfi, hpi, hci, hi, ev_inA_5, ht]
      exact hgo _ hC1
end M56
end
section
/-! ===== the reference: clear, set, put ===== -/
section M57a
variable {X : ev_E} {y i : Nat} {r r1 : Int32 × Int32 × Int32} {H H0 H1 : ev_M} {n0 q0 cN cQ : Nat} {ow ow0 : Nat → Nat} {s s1 : ev_TS} {qs : m_Q} {n q : Nat} {P : ev_O → ev_M → Nat → Nat → Prop}
theorem mc_clear (hC : m_cur X y i H0 n0 q0 ow0 cN cQ r s H n q ow qs) (hi : i < 4) (hn : y + 12 ≤ n0) (hL : qs.length < 90)
    (k : ∀ H1, m_cur X y i H0 n0 q0 ow0 cN cQ r (ps_L s []) H1 n q ow [] → P (.inl none) H1 n q) : ev_ok (ev_TT X) 21 0 [.ref (y + 3 + 2 * i), ev_J, ev_J, ev_J] [] H n q P := by
  have hC0 := hC
  obtain ⟨c1, c2, c3, c4, c5, c6, c7, c8, c9, c10, c11⟩ := hC0
  exact ML_clear c3 hL fun H1 g1 g2 g4 => k H1 (mc_frame (c2 := cN) (d2 := cQ) hC (fun a a1 a2 a3 a4 a5 => g2 a a1 a4 a5) (fun _ _ => rfl) ((g2 y (by omega) (by omega) (by omega)).trans c1) ((g2 _ (by omega) (by omega) (by omega)).trans c2) g1 rfl (fun a ha => (g4 a ha (by omega)).trans (c7 a ha)) (Nat.le_refl _) (Nat.le_refl _) (Nat.le_refl _) (Nat.le_refl _))
theorem mc_arr (hC : m_cur X y i H0 n0 q0 ow0 cN cQ r s H n q ow qs) (hi : i < 4) (hn : y + 12 ≤ n0) {c : ev_C} (hf : ev_lk X H0 (y + 1) = some c) : ev_lk X H (y + 1) = some c := by
  have e := hC.2.2.2.2.1 (y + 1) (by omega) (by omega) (by omega) (by omega) (fun z => by omega)
  unfold ev_lk at hf ⊢
  rw [e]
  exact hf
theorem mc_remove0 (hC : m_cur X y i H0 n0 q0 ow0 cN cQ r s H n q ow qs) (hi : i < 4) (hn : y + 12 ≤ n0) (hL : qs.length < 90) (hj : 0 < qs.length)
    (k : ∀ H1, m_cur X y i H0 n0 q0 ow0 cN cQ r (ps_L s (s.1.eraseIdx 0)) H1 n q ow (qs.eraseIdx 0) → H1 qs[0].1 = H qs[0].1 → P (.inl (some (.ref qs[0].1))) H1 n q) : ev_ok (ev_TT X) 130 0 [.ref (y + 3 + 2 * i), .int 0, ev_J, ev_J] [] H n q P := by
  have := mc_remove hC hi hn hL hj k
  rw [nI_0] at this
  exact this
end M57a
section M57
variable {X : ev_E} {zf : Nat → Nat} {y : Nat} {r : Int32 × Int32 × Int32} {T : Nat → ev_TS} {As : List Nat} {H : ev_M} {ow : Nat → Nat} {n q : Nat} {P : ev_O → ev_M → Nat → Nat → Prop}
theorem MM_clear (hm : m_aw X zf y r T As H n ow) (hx : m_cx X zf y T As H n) {t : Int32} (k0 : t < 0 ∨ nI 4 ≤ t → ∀ H1, m_post X zf y H n q (1, r.2) T As H1 n q → P (.inl (some (.int 0))) H1 n q)
    (k2 : ∀ i, i < 4 → t = nI i → ∀ H1 n1 q1, m_post X zf y H n q (0, r.2) (mg_T T i (ps_row (T i) [] (T i).2.1.1 (T i).2.1.2.1 (T i).2.1.2.2.1 (T i).2.1.2.2.2)) As H1 n1 q1 → P (.inl (some (.int (nI (T i).1.length)))) H1 n1 q1) : ev_ok (ev_TT X) 163 0 [.ref y, .int t, ev_J] [] H n q P := by
  have hx0 := hx
  obtain ⟨hZ, hw, hB, hn, hz, hT, hW⟩ := hx0
  have h0 := m_h0 hm
  have hl0 := m_lk0 hm
  have hk13 := m_k13 hm
  rcases pk_ix t (n := 4) (by omega) with hbt | hbt | ⟨i, hi, rfl⟩
  · skip
    simp (disch := omega) only [t_X8_clear_0, t_X8_clear_1, t_X8_clear_2, t_X8_clear_5, t_X8_clear_6, t_X8_clear_7, t_X8_clear_10, t_X8_clear_13, t_X8_clear_14, ↓reduceIte, ev_kr_1, ev_isK_y, true_and, show ¬ (1 : Int32) = 0 from by decide, M_isNo_y (Or.inl hbt), M_fails_100 h0, hl0]
    exact k0 (Or.inl hbt) _ (m_post_top hm hZ hw hB hn hz (1, r.2))
  · skip
    simp (disch := omega) only [t_X8_clear_0, t_X8_clear_1, t_X8_clear_2, t_X8_clear_5, t_X8_clear_6, t_X8_clear_7, t_X8_clear_10, t_X8_clear_13, t_X8_clear_14, ↓reduceIte, ev_kr_1, ev_isK_y, true_and, show ¬ (1 : Int32) = 0 from by decide, M_isNo_y (Or.inr hbt), M_fails_100 h0, hl0]
    exact k0 (Or.inr hbt) _ (m_post_top hm hZ hw hB hn hz (1, r.2))
  · skip
    simp (disch := omega) only [t_X8_clear_0, t_X8_clear_1, t_X8_clear_2, t_X8_clear_5, t_X8_clear_6, t_X8_clear_7, t_X8_clear_10, ↓reduceIte, ev_kr_1, ev_isK_y, true_and, M_isNo_n hi, M_fails_000 h0, hl0]
    have hm1 := m_aw_top hm hZ hw hB (0, r.2)
    have hx1 := m_cx_top hx (0, r.2)
    have hp0 : m_post X zf y H n q (0, r.2) T As (ev_up H y (m_top y (0, r.2))) n q := m_post_top hm hZ hw hB hn hz (0, r.2)
    have hup := fun (r2 : Int32 × Int32 × Int32) (T2 : Nat → ev_TS) (H2 : ev_M) (n2 q2 : Nat) => @m_post_up X zf y r2 T2 As H H2 n q (0, r.2) n2 q2
    generalize ev_up H y (m_top y (0, r.2)) = H1 at hm1 hx1 hp0 hup ⊢
    obtain ⟨-, hw1, -, -, hz1, -, -⟩ := hx1
    have h10 := m_h0 hm1
    have hl10 := m_lk0 hm1
    have hk13 := m_k13 hm1
    obtain ⟨f, hf1, hf2⟩ := m_lk1 hm1
    have hfi := hf2 i hi
    have hpi := nI_pos' (n := i) (by omega)
    have hci := nI_clamp (n := i) (by omega)
    have hTi := hT i hi
    have hli := okL_len hTi.1
    obtain ⟨qs, hC⟩ := mc_0 (q := q) hm1 hi hz1
    have htk := mc_tk hC
    have hlk := mc_lk hC
    have ht := hC.2.1
    have hkl := mc_kl hC
    have hlen := mc_len hC
    unfold m_tbc at hlk ht
    have hK := k2 i hi rfl
    simp (disch := omega) only [t_X8_clear_15, t_X8_clear_16, t_X8_clear_19, t_X8_clear_20, t_X8_clear_21, t_X8_clear_24, ev_aG_y, and_true, true_and, ev_fG_0, ev_fG_3, ev_isO_0, ev_isO_3, hl10, hf1, hfi, hpi, hci, hi, ev_inA_5, hlk, hkl]
    refine ML_size hC.2.2.1 ?_
    simp (disch := omega) only [t_X8_clear_27, t_X8_clear_28, t_X8_clear_29, t_X8_clear_32, t_X8_clear_33, t_X8_clear_34, t_X8_clear_37, ev_k_i, ev_kr_1, ev_aG_y, and_true, true_and, ev_fG_0, ev_fG_3, ev_isO_0, ev_isO_3, hl10, hf1, hfi, hpi, hci, hi, ev_inA_5, hlk, hkl]
    refine mc_clear hC hi hn (by omega) fun H2 hC1 => ?_
    have hf1b := mc_arr hC1 hi hn hf1
    have hl0b := ev_lk_s (X := X) hC1.1
    unfold m_top at hl0b
    have ht1 := hC1.2.1
    unfold m_tbc at ht1
    have hE := mc_fld hB hi hn hC1 (ps_row (T i) [] (T i).2.1.1 (T i).2.1.2.1 (T i).2.1.2.2.1 (T i).2.1.2.2.2) rfl
    simp (disch := omega) only [t_X8_clear_40, t_X8_clear_41, t_X8_clear_44, t_X8_clear_45, t_X8_clear_46, t_X8_clear_47, t_X8_clear_50, t_X8_clear_51, ev_kr_0, ev_aG_y, ev_ft_1, and_true, true_and, ev_fG_3, ev_fS_8, ev_isO_3, ev_isO_8, hl0b, hf1b, hfi, hpi, hci, hi, ev_inA_5, ht1]
    rw [← hlen]
    exact hK _ _ _ (hup _ _ _ _ _ (mc_end hm1 hZ hw1 hB hi hn hE (by omega) (by omega)))
theorem MM_set (hm : m_aw X zf y r T As H n ow) (hx : m_cx X zf y T As H n) {t p v : Int32} (k0 : t < 0 ∨ nI 4 ≤ t → ∀ H1, m_post X zf y H n q (1, r.2) T As H1 n q → P (.inl (some (.int 0))) H1 n q)
    (k1 : ∀ i, i < 4 → t = nI i → ((v < 0 ∨ nI 100 ≤ v)) → ∀ H1, m_post X zf y H n q (2, r.2) T As H1 n q → P (.inl (some (.int 0))) H1 n q)
    (kR : ∀ i, i < 4 → t = nI i → ¬ (0 ≤ p ∧ p < nI (T i).1.length) → ∀ H1, m_post X zf y H n q (0, r.2.1 + 1, r.2.2) T As H1 n q → P (.inl (some (.int (-9)))) H1 n q)
    (k2 : ∀ i j a, i < 4 → t = nI i → j < (T i).1.length → p = nI j → a < 100 → v = nI a → ∀ H1 n1 q1, m_post X zf y H n q (0, r.2) (mg_T T i (ps_gen ((T i).1.set j ((pf_at (T i).1 j).1, v)) (T i).2.1.1 (T i).2.1.2.1 (T i).2.1.2.2.1 (T i).2.1.2.2.2 (T i).2.2.1.1 (T i).2.2.1.2.1 (T i).2.2.1.2.2 (T i).2.2.2.1 (T i).2.2.2.2)) As H1 n1 q1 → P (.inl (some (.int (pf_at (T i).1 j).2))) H1 n1 q1) : ev_ok (ev_TT X) 213 0 [.ref y, .int t, .int p, .int v, ev_J] [] H n q P := by
  have hx0 := hx
  obtain ⟨hZ, hw, hB, hn, hz, hT, hW⟩ := hx0
  have h0 := m_h0 hm
  have hl0 := m_lk0 hm
  have hk13 := m_k13 hm
  rcases pk_ix t (n := 4) (by omega) with hbt | hbt | ⟨i, hi, rfl⟩
  · skip
    rcases pk_ix v (n := 100) (by omega) with hb_v | hb_v | ⟨a_v, ha_v, rfl⟩
    · skip
      simp (disch := omega) only [t_X8_set_0, t_X8_set_1, t_X8_set_2, t_X8_set_5, t_X8_set_6, t_X8_set_8, t_X8_set_11, t_X8_set_12, t_X8_set_15, t_X8_set_18, t_X8_set_19, ↓reduceIte, ev_kr_1, ev_isK_y, true_and, show ¬ (1 : Int32) = 0 from by decide, M_isNo_y (Or.inl hbt), M_isOut_y (v := v) (w := 100) (Or.inl hb_v), M_fails_110 h0, hl0]
      exact k0 (Or.inl hbt) _ (m_post_top hm hZ hw hB hn hz (1, r.2))
    · skip
      simp (disch := omega) only [t_X8_set_0, t_X8_set_1, t_X8_set_2, t_X8_set_5, t_X8_set_6, t_X8_set_8, t_X8_set_11, t_X8_set_12, t_X8_set_15, t_X8_set_18, t_X8_set_19, ↓reduceIte, ev_kr_1, ev_isK_y, true_and, show ¬ (1 : Int32) = 0 from by decide, M_isNo_y (Or.inl hbt), M_isOut_y (v := v) (w := 100) (Or.inr hb_v), M_fails_110 h0, hl0]
      exact k0 (Or.inl hbt) _ (m_post_top hm hZ hw hB hn hz (1, r.2))
    · skip
      simp (disch := omega) only [t_X8_set_0, t_X8_set_1, t_X8_set_2, t_X8_set_5, t_X8_set_6, t_X8_set_8, t_X8_set_11, t_X8_set_12, t_X8_set_15, t_X8_set_18, t_X8_set_19, ↓reduceIte, ev_kr_1, ev_isK_y, true_and, show ¬ (1 : Int32) = 0 from by decide, M_isNo_y (Or.inl hbt), M_isOut_n (v := nI a_v) (w := 100) (nI_pos (by omega)) (nI_ge (b := 100) ha_v (by omega)), M_fails_100 h0, hl0]
      exact k0 (Or.inl hbt) _ (m_post_top hm hZ hw hB hn hz (1, r.2))
  · skip
    rcases pk_ix v (n := 100) (by omega) with hb_v | hb_v | ⟨a_v, ha_v, rfl⟩
    · skip
      simp (disch := omega) only [t_X8_set_0, t_X8_set_1, t_X8_set_2, t_X8_set_5, t_X8_set_6, t_X8_set_8, t_X8_set_11, t_X8_set_12, t_X8_set_15, t_X8_set_18, t_X8_set_19, ↓reduceIte, ev_kr_1, ev_isK_y, true_and, show ¬ (1 : Int32) = 0 from by decide, M_isNo_y (Or.inr hbt), M_isOut_y (v := v) (w := 100) (Or.inl hb_v), M_fails_110 h0, hl0]
      exact k0 (Or.inr hbt) _ (m_post_top hm hZ hw hB hn hz (1, r.2))
    · skip
      simp (disch := omega) only [t_X8_set_0, t_X8_set_1, t_X8_set_2, t_X8_set_5, t_X8_set_6, t_X8_set_8, t_X8_set_11, t_X8_set_12, t_X8_set_15, t_X8_set_18, t_X8_set_19, ↓reduceIte, ev_kr_1, ev_isK_y, true_and, show ¬ (1 : Int32) = 0 from by decide, M_isNo_y (Or.inr hbt), M_isOut_y (v := v) (w := 100) (Or.inr hb_v), M_fails_110 h0, hl0]
      exact k0 (Or.inr hbt) _ (m_post_top hm hZ hw hB hn hz (1, r.2))
    · skip
      simp (disch := omega) only [t_X8_set_0, t_X8_set_1, t_X8_set_2, t_X8_set_5, t_X8_set_6, t_X8_set_8, t_X8_set_11, t_X8_set_12, t_X8_set_15, t_X8_set_18, t_X8_set_19, ↓reduceIte, ev_kr_1, ev_isK_y, true_and, show ¬ (1 : Int32) = 0 from by decide, M_isNo_y (Or.inr hbt), M_isOut_n (v := nI a_v) (w := 100) (nI_pos (by omega)) (nI_ge (b := 100) ha_v (by omega)), M_fails_100 h0, hl0]
      exact k0 (Or.inr hbt) _ (m_post_top hm hZ hw hB hn hz (1, r.2))
  · skip
    rcases pk_ix v (n := 100) (by omega) with hb_v | hb_v | ⟨a_v, ha_v, rfl⟩
    · skip
      simp (disch := omega) only [t_X8_set_0, t_X8_set_1, t_X8_set_2, t_X8_set_5, t_X8_set_6, t_X8_set_8, t_X8_set_11, t_X8_set_12, t_X8_set_15, t_X8_set_18, t_X8_set_19, ↓reduceIte, ev_kr_1, ev_isK_y, true_and, show ¬ (1 : Int32) = 0 from by decide, M_isNo_n hi, M_isOut_y (v := v) (w := 100) (Or.inl hb_v), M_fails_010 h0, hl0]
      exact k1 i hi rfl (Or.inl hb_v) _ (m_post_top hm hZ hw hB hn hz (2, r.2))
    · skip
      simp (disch := omega) only [t_X8_set_0, t_X8_set_1, t_X8_set_2, t_X8_set_5, t_X8_set_6, t_X8_set_8, t_X8_set_11, t_X8_set_12, t_X8_set_15, t_X8_set_18, t_X8_set_19, ↓reduceIte, ev_kr_1, ev_isK_y, true_and, show ¬ (1 : Int32) = 0 from by decide, M_isNo_n hi, M_isOut_y (v := v) (w := 100) (Or.inr hb_v), M_fails_010 h0, hl0]
      exact k1 i hi rfl (Or.inr hb_v) _ (m_post_top hm hZ hw hB hn hz (2, r.2))
    · skip
      simp (disch := omega) only [t_X8_set_0, t_X8_set_1, t_X8_set_2, t_X8_set_5, t_X8_set_6, t_X8_set_8, t_X8_set_11, t_X8_set_12, t_X8_set_15, ↓reduceIte, ev_kr_1, ev_isK_y, true_and, M_isNo_n hi, M_isOut_n (v := nI a_v) (w := 100) (nI_pos (by omega)) (nI_ge (b := 100) ha_v (by omega)), M_fails_000 h0, hl0]
      have hm1 := m_aw_top hm hZ hw hB (0, r.2)
      have hx1 := m_cx_top hx (0, r.2)
      have hp0 : m_post X zf y H n q (0, r.2) T As (ev_up H y (m_top y (0, r.2))) n q := m_post_top hm hZ hw hB hn hz (0, r.2)
      have hup := fun (r2 : Int32 × Int32 × Int32) (T2 : Nat → ev_TS) (H2 : ev_M) (n2 q2 : Nat) => @m_post_up X zf y r2 T2 As H H2 n q (0, r.2) n2 q2
      generalize ev_up H y (m_top y (0, r.2)) = H1 at hm1 hx1 hp0 hup ⊢
      obtain ⟨-, hw1, -, -, hz1, -, -⟩ := hx1
      have h10 := m_h0 hm1
      have hl10 := m_lk0 hm1
      have hk13 := m_k13 hm1
      obtain ⟨f, hf1, hf2⟩ := m_lk1 hm1
      have hfi := hf2 i hi
      have hpi := nI_pos' (n := i) (by omega)
      have hci := nI_clamp (n := i) (by omega)
      have hTi := hT i hi
      have hli := okL_len hTi.1
      obtain ⟨qs, hC⟩ := mc_0 (q := q) hm1 hi hz1
      have htk := mc_tk hC
      have hlk := mc_lk hC
      have ht := hC.2.1
      have hkl := mc_kl hC
      have hlen := mc_len hC
      unfold m_tbc at hlk ht
      have hx2 := m_cx_top2 hx hm1 hw1 hz1
      simp (disch := omega) only [t_X8_set_20, t_X8_set_21, t_X8_set_22, t_X8_set_25, t_X8_set_26, t_X8_set_27, t_X8_set_30, ev_aG_y, and_true, true_and, ev_fG_0, ev_fG_3, ev_isO_0, ev_isO_3, hl10, hf1, hfi, hpi, hci, hi, ev_inA_5, hlk, hkl]
      refine ML_size hC.2.2.1 ?_
      rcases pk_ix p (n := qs.length) (by omega) with hb | hb | ⟨j, hj, rfl⟩
      · simp (disch := omega) only [t_X8_set_33, t_X8_set_36, t_X8_set_39, t_X8_set_40, t_X8_set_43, ↓reduceIte, ev_kr_1, ev_isK_y, true_and, show ¬ (1 : Int32) = 0 from by decide, hl10, M_isOut_y (Or.inl hb), M_no h10]
        exact kR i hi rfl (fun z => Int32.not_le.mpr hb z.1) _ (hup _ _ _ _ _ (m_post_top hm1 hZ hw1 hB hn hz1 _))
      · simp (disch := omega) only [t_X8_set_33, t_X8_set_36, t_X8_set_39, t_X8_set_40, t_X8_set_43, ↓reduceIte, ev_kr_1, ev_isK_y, true_and, show ¬ (1 : Int32) = 0 from by decide, hl10, M_isOut_y (Or.inr hb), M_no h10]
        exact kR i hi rfl (fun z => by rw [hlen] at z; exact Int32.not_lt.mpr hb z.2) _ (hup _ _ _ _ _ (m_post_top hm1 hZ hw1 hB hn hz1 _))
      · have hK := k2 i j a_v hi rfl (by omega) rfl ha_v rfl
        obtain ⟨g, g0, g1, g2⟩ := mc_pair hC hj
        have hak : ev_isAk (H1 qs[j].1) 0 = True := by rw [g0]; exact ev_isAk_y
        simp (disch := omega) only [t_X8_set_33, t_X8_set_36, t_X8_set_44, t_X8_set_45, t_X8_set_48, t_X8_set_49, t_X8_set_50, t_X8_set_53, t_X8_set_54, ↓reduceIte, ev_kr_1, ev_aG_y, and_true, true_and, ev_fG_0, ev_fG_3, ev_isO_0, ev_isO_3, hl10, hf1, hfi, hpi, hci, hi, ev_inA_5, hlk, hkl, M_isOut_i hj (by omega)]
        refine ML_get hC.2.2.1 (by omega) hj ?_
        simp (disch := omega) only [t_X8_set_57, t_X8_set_60, t_X8_set_61, t_X8_set_62, t_X8_set_64, t_X8_set_65, t_X8_set_68, t_X8_set_69, t_X8_set_70, t_X8_set_73, t_X8_set_74, ev_k_i, ev_kr_1, ev_aG_y, ev_inA_0, and_true, true_and, ev_fG_0, ev_fG_3, ev_isO_0, ev_isO_3, show (0 : Int32) ≤ 1 from by decide, show (1 : Int32).toNatClampNeg = 1 from rfl, show (1 : Nat) < 2 from by omega, hl10, hf1, hfi, hpi, hci, hi, ev_inA_5, hlk, hkl, hak, ev_lk_s g0, g2]
        refine ML_get hC.2.2.1 (by omega) hj ?_
        simp (disch := omega) only [t_X8_set_77, t_X8_set_80, t_X8_set_81, t_X8_set_82, t_X8_set_83, t_X8_set_85, ev_kr_1, ev_aS_y, ev_inA_0, and_true, true_and, show (0 : Int32) ≤ 1 from by decide, show (1 : Int32).toNatClampNeg = 1 from rfl, show (1 : Nat) < 2 from by omega, ev_isAk_y, g0]
        exact hK _ _ _ (hup _ _ _ _ _ (mc_end hm1 hZ hw1 hB hi hn (mc_setv hB hi hn hC hj g0 (nI a_v)) (by omega) (by omega)))
theorem MM_put (hm : m_aw X zf y r T As H n ow) (hx : m_cx X zf y T As H n) {t k v : Int32} (k0 : t < 0 ∨ nI 4 ≤ t → ∀ H1, m_post X zf y H n q (1, r.2) T As H1 n q → P (.inl (some (.int 0))) H1 n q)
    (k1 : ∀ i, i < 4 → t = nI i → ((k < 0 ∨ nI 20 ≤ k) ∨ (v < 0 ∨ nI 100 ≤ v)) → ∀ H1, m_post X zf y H n q (2, r.2) T As H1 n q → P (.inl (some (.int 0))) H1 n q)
    (k2 : ∀ i a b, i < 4 → t = nI i → a < 20 → k = nI a → b < 100 → v = nI b → ∀ H1 n1 q1, m_post X zf y H n q (0, r.2) (mg_T T i (ps_old (T i) (pr_bring (T i).1 (T i).2.1.1 (T i).2.1.2.1 (T i).2.1.2.2.1 (T i).2.1.2.2.2 k v).2.1 (pr_bring (T i).1 (T i).2.1.1 (T i).2.1.2.1 (T i).2.1.2.2.1 (T i).2.1.2.2.2 k v).2.2.1 (pr_bring (T i).1 (T i).2.1.1 (T i).2.1.2.1 (T i).2.1.2.2.1 (T i).2.1.2.2.2 k v).2.2.2)) As H1 n1 q1 → P (.inl (some (.int (pr_bring (T i).1 (T i).2.1.1 (T i).2.1.2.1 (T i).2.1.2.2.1 (T i).2.1.2.2.2 k v).1))) H1 n1 q1) : ev_ok (ev_TT X) 293 0 [.ref y, .int t, .int k, .int v, ev_J, ev_J, ev_J] [] H n q P := by
  have hx0 := hx
  obtain ⟨hZ, hw, hB, hn, hz, hT, hW⟩ := hx0
  have h0 := m_h0 hm
  have hl0 := m_lk0 hm
  have hk13 := m_k13 hm
  rcases pk_ix t (n := 4) (by omega) with hbt | hbt | ⟨i, hi, rfl⟩
  · skip
    rcases pk_ix k (n := 20) (by omega) with hb_k | hb_k | ⟨a_k, ha_k, rfl⟩
    · skip
      simp (disch := omega) only [t_X8_put_0, t_X8_put_1, t_X8_put_2, t_X8_put_5, t_X8_put_6, t_X8_put_8, t_X8_put_11, t_X8_put_23, t_X8_put_24, t_X8_put_28, t_X8_put_29, t_X8_put_32, t_X8_put_35, t_X8_put_36, ↓reduceIte, ev_kr_1, ev_isK_y, true_and, not_false_eq_true, show ¬ (1 : Int32) = 0 from by decide, not_false_eq_true, M_isNo_y (Or.inl hbt), M_isOut_y (v := k) (w := 20) (Or.inl hb_k), M_fails_110 h0, hl0]
      exact k0 (Or.inl hbt) _ (m_post_top hm hZ hw hB hn hz (1, r.2))
    · skip
      simp (disch := omega) only [t_X8_put_0, t_X8_put_1, t_X8_put_2, t_X8_put_5, t_X8_put_6, t_X8_put_8, t_X8_put_11, t_X8_put_23, t_X8_put_24, t_X8_put_28, t_X8_put_29, t_X8_put_32, t_X8_put_35, t_X8_put_36, ↓reduceIte, ev_kr_1, ev_isK_y, true_and, not_false_eq_true, show ¬ (1 : Int32) = 0 from by decide, not_false_eq_true, M_isNo_y (Or.inl hbt), M_isOut_y (v := k) (w := 20) (Or.inr hb_k), M_fails_110 h0, hl0]
      exact k0 (Or.inl hbt) _ (m_post_top hm hZ hw hB hn hz (1, r.2))
    · skip
      rcases pk_ix v (n := 100) (by omega) with hb_v | hb_v | ⟨a_v, ha_v, rfl⟩
      · skip
        simp (disch := omega) only [t_X8_put_0, t_X8_put_1, t_X8_put_2, t_X8_put_5, t_X8_put_6, t_X8_put_8, t_X8_put_11, t_X8_put_14, t_X8_put_15, t_X8_put_17, t_X8_put_20, t_X8_put_23, t_X8_put_24, t_X8_put_28, t_X8_put_29, t_X8_put_32, t_X8_put_35, t_X8_put_36, ↓reduceIte, ev_kr_1, ev_isK_y, true_and, not_true_eq_false, show ¬ (1 : Int32) = 0 from by decide, not_true_eq_false, M_isNo_y (Or.inl hbt), M_isOut_n (v := nI a_k) (w := 20) (nI_pos (by omega)) (nI_ge (b := 20) ha_k (by omega)), M_isOut_y (v := v) (w := 100) (Or.inl hb_v), M_fails_110 h0, hl0]
        exact k0 (Or.inl hbt) _ (m_post_top hm hZ hw hB hn hz (1, r.2))
      · skip
        simp (disch := omega) only [t_X8_put_0, t_X8_put_1, t_X8_put_2, t_X8_put_5, t_X8_put_6, t_X8_put_8, t_X8_put_11, t_X8_put_14, t_X8_put_15, t_X8_put_17, t_X8_put_20, t_X8_put_23, t_X8_put_24, t_X8_put_28, t_X8_put_29, t_X8_put_32, t_X8_put_35, t_X8_put_36, ↓reduceIte, ev_kr_1, ev_isK_y, true_and, not_true_eq_false, show ¬ (1 : Int32) = 0 from by decide, not_true_eq_false, M_isNo_y (Or.inl hbt), M_isOut_n (v := nI a_k) (w := 20) (nI_pos (by omega)) (nI_ge (b := 20) ha_k (by omega)), M_isOut_y (v := v) (w := 100) (Or.inr hb_v), M_fails_110 h0, hl0]
        exact k0 (Or.inl hbt) _ (m_post_top hm hZ hw hB hn hz (1, r.2))
      · skip
        simp (disch := omega) only [t_X8_put_0, t_X8_put_1, t_X8_put_2, t_X8_put_5, t_X8_put_6, t_X8_put_8, t_X8_put_11, t_X8_put_14, t_X8_put_15, t_X8_put_17, t_X8_put_20, t_X8_put_27, t_X8_put_28, t_X8_put_29, t_X8_put_32, t_X8_put_35, t_X8_put_36, ↓reduceIte, ev_kr_1, ev_isK_y, true_and, not_true_eq_false, show ¬ (1 : Int32) = 0 from by decide, not_true_eq_false, M_isNo_y (Or.inl hbt), M_isOut_n (v := nI a_k) (w := 20) (nI_pos (by omega)) (nI_ge (b := 20) ha_k (by omega)), M_isOut_n (v := nI a_v) (w := 100) (nI_pos (by omega)) (nI_ge (b := 100) ha_v (by omega)), M_fails_100 h0, hl0]
        exact k0 (Or.inl hbt) _ (m_post_top hm hZ hw hB hn hz (1, r.2))
  · skip
    rcases pk_ix k (n := 20) (by omega) with hb_k | hb_k | ⟨a_k, ha_k, rfl⟩
    · skip
      simp (disch := omega) only [t_X8_put_0, t_X8_put_1, t_X8_put_2, t_X8_put_5, t_X8_put_6, t_X8_put_8, t_X8_put_11, t_X8_put_23, t_X8_put_24, t_X8_put_28, t_X8_put_29, t_X8_put_32, t_X8_put_35, t_X8_put_36, ↓reduceIte, ev_kr_1, ev_isK_y, true_and, not_false_eq_true, show ¬ (1 : Int32) = 0 from by decide, not_false_eq_true, M_isNo_y (Or.inr hbt), M_isOut_y (v := k) (w := 20) (Or.inl hb_k), M_fails_110 h0, hl0]
      exact k0 (Or.inr hbt) _ (m_post_top hm hZ hw hB hn hz (1, r.2))
    · skip
      simp (disch := omega) only [t_X8_put_0, t_X8_put_1, t_X8_put_2, t_X8_put_5, t_X8_put_6, t_X8_put_8, t_X8_put_11, t_X8_put_23, t_X8_put_24, t_X8_put_28, t_X8_put_29, t_X8_put_32, t_X8_put_35, t_X8_put_36, ↓reduceIte, ev_kr_1, ev_isK_y, true_and, not_false_eq_true, show ¬ (1 : Int32) = 0 from by decide, not_false_eq_true, M_isNo_y (Or.inr hbt), M_isOut_y (v := k) (w := 20) (Or.inr hb_k), M_fails_110 h0, hl0]
      exact k0 (Or.inr hbt) _ (m_post_top hm hZ hw hB hn hz (1, r.2))
    · skip
      rcases pk_ix v (n := 100) (by omega) with hb_v | hb_v | ⟨a_v, ha_v, rfl⟩
      · skip
        simp (disch := omega) only [t_X8_put_0, t_X8_put_1, t_X8_put_2, t_X8_put_5, t_X8_put_6, t_X8_put_8, t_X8_put_11, t_X8_put_14, t_X8_put_15, t_X8_put_17, t_X8_put_20, t_X8_put_23, t_X8_put_24, t_X8_put_28, t_X8_put_29, t_X8_put_32, t_X8_put_35, t_X8_put_36, ↓reduceIte, ev_kr_1, ev_isK_y, true_and, not_true_eq_false, show ¬ (1 : Int32) = 0 from by decide, not_true_eq_false, M_isNo_y (Or.inr hbt), M_isOut_n (v := nI a_k) (w := 20) (nI_pos (by omega)) (nI_ge (b := 20) ha_k (by omega)), M_isOut_y (v := v) (w := 100) (Or.inl hb_v), M_fails_110 h0, hl0]
        exact k0 (Or.inr hbt) _ (m_post_top hm hZ hw hB hn hz (1, r.2))
      · skip
        simp (disch := omega) only [t_X8_put_0, t_X8_put_1, t_X8_put_2, t_X8_put_5, t_X8_put_6, t_X8_put_8, t_X8_put_11, t_X8_put_14, t_X8_put_15, t_X8_put_17, t_X8_put_20, t_X8_put_23, t_X8_put_24, t_X8_put_28, t_X8_put_29, t_X8_put_32, t_X8_put_35, t_X8_put_36, ↓reduceIte, ev_kr_1, ev_isK_y, true_and, not_true_eq_false, show ¬ (1 : Int32) = 0 from by decide, not_true_eq_false, M_isNo_y (Or.inr hbt), M_isOut_n (v := nI a_k) (w := 20) (nI_pos (by omega)) (nI_ge (b := 20) ha_k (by omega)), M_isOut_y (v := v) (w := 100) (Or.inr hb_v), M_fails_110 h0, hl0]
        exact k0 (Or.inr hbt) _ (m_post_top hm hZ hw hB hn hz (1, r.2))
      · skip
        simp (disch := omega) only [t_X8_put_0, t_X8_put_1, t_X8_put_2, t_X8_put_5, t_X8_put_6, t_X8_put_8, t_X8_put_11, t_X8_put_14, t_X8_put_15, t_X8_put_17, t_X8_put_20, t_X8_put_27, t_X8_put_28, t_X8_put_29, t_X8_put_32, t_X8_put_35, t_X8_put_36, ↓reduceIte, ev_kr_1, ev_isK_y, true_and, not_true_eq_false, show ¬ (1 : Int32) = 0 from by decide, not_true_eq_false, M_isNo_y (Or.inr hbt), M_isOut_n (v := nI a_k) (w := 20) (nI_pos (by omega)) (nI_ge (b := 20) ha_k (by omega)), M_isOut_n (v := nI a_v) (w := 100) (nI_pos (by omega)) (nI_ge (b := 100) ha_v (by omega)), M_fails_100 h0, hl0]
        exact k0 (Or.inr hbt) _ (m_post_top hm hZ hw hB hn hz (1, r.2))
  · skip
    rcases pk_ix k (n := 20) (by omega) with hb_k | hb_k | ⟨a_k, ha_k, rfl⟩
    · skip
      simp (disch := omega) only [t_X8_put_0, t_X8_put_1, t_X8_put_2, t_X8_put_5, t_X8_put_6, t_X8_put_8, t_X8_put_11, t_X8_put_23, t_X8_put_24, t_X8_put_28, t_X8_put_29, t_X8_put_32, t_X8_put_35, t_X8_put_36, ↓reduceIte, ev_kr_1, ev_isK_y, true_and, not_false_eq_true, show ¬ (1 : Int32) = 0 from by decide, not_false_eq_true, M_isNo_n hi, M_isOut_y (v := k) (w := 20) (Or.inl hb_k), M_fails_010 h0, hl0]
      exact k1 i hi rfl (Or.inl (Or.inl hb_k)) _ (m_post_top hm hZ hw hB hn hz (2, r.2))
    · skip
      simp (disch := omega) only [t_X8_put_0, t_X8_put_1, t_X8_put_2, t_X8_put_5, t_X8_put_6, t_X8_put_8, t_X8_put_11, t_X8_put_23, t_X8_put_24, t_X8_put_28, t_X8_put_29, t_X8_put_32, t_X8_put_35, t_X8_put_36, ↓reduceIte, ev_kr_1, ev_isK_y, true_and, not_false_eq_true, show ¬ (1 : Int32) = 0 from by decide, not_false_eq_true, M_isNo_n hi, M_isOut_y (v := k) (w := 20) (Or.inr hb_k), M_fails_010 h0, hl0]
      exact k1 i hi rfl (Or.inl (Or.inr hb_k)) _ (m_post_top hm hZ hw hB hn hz (2, r.2))
    · skip
      rcases pk_ix v (n := 100) (by omega) with hb_v | hb_v | ⟨a_v, ha_v, rfl⟩
      · skip
        simp (disch := omega) only [t_X8_put_0, t_X8_put_1, t_X8_put_2, t_X8_put_5, t_X8_put_6, t_X8_put_8, t_X8_put_11, t_X8_put_14, t_X8_put_15, t_X8_put_17, t_X8_put_20, t_X8_put_23, t_X8_put_24, t_X8_put_28, t_X8_put_29, t_X8_put_32, t_X8_put_35, t_X8_put_36, ↓reduceIte, ev_kr_1, ev_isK_y, true_and, not_true_eq_false, show ¬ (1 : Int32) = 0 from by decide, not_true_eq_false, M_isNo_n hi, M_isOut_n (v := nI a_k) (w := 20) (nI_pos (by omega)) (nI_ge (b := 20) ha_k (by omega)), M_isOut_y (v := v) (w := 100) (Or.inl hb_v), M_fails_010 h0, hl0]
        exact k1 i hi rfl (Or.inr (Or.inl hb_v)) _ (m_post_top hm hZ hw hB hn hz (2, r.2))
      · skip
        simp (disch := omega) only [t_X8_put_0, t_X8_put_1, t_X8_put_2, t_X8_put_5, t_X8_put_6, t_X8_put_8, t_X8_put_11, t_X8_put_14, t_X8_put_15, t_X8_put_17, t_X8_put_20, t_X8_put_23, t_X8_put_24, t_X8_put_28, t_X8_put_29, t_X8_put_32, t_X8_put_35, t_X8_put_36, ↓reduceIte, ev_kr_1, ev_isK_y, true_and, not_true_eq_false, show ¬ (1 : Int32) = 0 from by decide, not_true_eq_false, M_isNo_n hi, M_isOut_n (v := nI a_k) (w := 20) (nI_pos (by omega)) (nI_ge (b := 20) ha_k (by omega)), M_isOut_y (v := v) (w := 100) (Or.inr hb_v), M_fails_010 h0, hl0]
        exact k1 i hi rfl (Or.inr (Or.inr hb_v)) _ (m_post_top hm hZ hw hB hn hz (2, r.2))
      · skip
        simp (disch := omega) only [t_X8_put_0, t_X8_put_1, t_X8_put_2, t_X8_put_5, t_X8_put_6, t_X8_put_8, t_X8_put_11, t_X8_put_14, t_X8_put_15, t_X8_put_17, t_X8_put_20, t_X8_put_27, t_X8_put_28, t_X8_put_29, t_X8_put_32, ↓reduceIte, ev_kr_1, ev_isK_y, true_and, not_true_eq_false, not_true_eq_false, M_isNo_n hi, M_isOut_n (v := nI a_k) (w := 20) (nI_pos (by omega)) (nI_ge (b := 20) ha_k (by omega)), M_isOut_n (v := nI a_v) (w := 100) (nI_pos (by omega)) (nI_ge (b := 100) ha_v (by omega)), M_fails_000 h0, hl0]
        have hm1 := m_aw_top hm hZ hw hB (0, r.2)
        have hx1 := m_cx_top hx (0, r.2)
        have hp0 : m_post X zf y H n q (0, r.2) T As (ev_up H y (m_top y (0, r.2))) n q := m_post_top hm hZ hw hB hn hz (0, r.2)
        have hup := fun (r2 : Int32 × Int32 × Int32) (T2 : Nat → ev_TS) (H2 : ev_M) (n2 q2 : Nat) => @m_post_up X zf y r2 T2 As H H2 n q (0, r.2) n2 q2
        generalize ev_up H y (m_top y (0, r.2)) = H1 at hm1 hx1 hp0 hup ⊢
        obtain ⟨-, hw1, -, -, hz1, -, -⟩ := hx1
        have h10 := m_h0 hm1
        have hl10 := m_lk0 hm1
        have hk13 := m_k13 hm1
        obtain ⟨f, hf1, hf2⟩ := m_lk1 hm1
        have hfi := hf2 i hi
        have hpi := nI_pos' (n := i) (by omega)
        have hci := nI_clamp (n := i) (by omega)
        have hTi := hT i hi
        have hli := okL_len hTi.1
        obtain ⟨qs, hC⟩ := mc_0 (q := q) hm1 hi hz1
        have htk := mc_tk hC
        have hlk := mc_lk hC
        have ht := hC.2.1
        have hkl := mc_kl hC
        have hlen := mc_len hC
        unfold m_tbc at hlk ht
        have hC1 := mc_fld hB hi hn hC (ps_stale (T i)) rfl
        have hgo : ∀ H2, m_cur X y i H1 n q ow 0 0 (0, r.2) (ps_stale (T i)) H2 n q ow qs → ev_ok (ev_TT X) 293 51 [.ref y, .int (nI i), .int (nI a_k), .int (nI a_v), .ref (y + 2 + 2 * i), ev_J, ev_J] [] H2 n q P := by
          intro H2 hC1
          have htk := mc_tk hC1
          have hlk := mc_lk hC1
          have ht := hC1.2.1
          have hkl := mc_kl hC1
          have hl0 := ev_lk_s (X := X) hC1.1
          unfold m_tbc at hlk ht
          unfold m_top at hl0
          simp (disch := omega) only [t_X8_put_51, t_X8_put_53, t_X8_put_54, ev_isK_y, true_and, hlk]
          refine M_place hC1 hli ?_
          have hK := k2 i a_k a_v hi rfl ha_k rfl ha_v rfl
          rcases e : pf_find (T i).1 (nI a_k) with _ | j
          · have e1 : pf_place (ps_stale (T i)).1 (nI a_k) = -1 := by
              show pf_place (T i).1 (nI a_k) = -1
              unfold pf_place
              rw [e]
            have e2 : (pr_bring (T i).1 (T i).2.1.1 (T i).2.1.2.1 (T i).2.1.2.2.1 (T i).2.1.2.2.2 (nI a_k) (nI a_v)) = (-1, pr_take (T i).1 (T i).2.1.2.1 (T i).2.1.2.2.1 (T i).2.1.2.2.2 (nI a_k) (nI a_v)) := by unfold pr_bring; rw [e]
            rw [e2] at hK
            rw [e1]
            have hll : (T i).1.length < 20 := (okL_new hTi.1 (okL_key ha_k) e).2
            simp (disch := omega) only [t_X8_put_57, t_X8_put_59, t_X8_put_61, t_X8_put_62, t_X8_put_108, t_X8_put_110, t_X8_put_113, t_X8_put_114, t_X8_put_116, t_X8_put_117, t_X8_put_118, t_X8_put_119, t_X8_put_120, t_X8_put_121, t_X8_put_122, t_X8_put_123, t_X8_put_124, ↓reduceIte, ev_k_r, ev_kr_1, ev_aS_y, ev_inA_0, and_true, true_and, ev_fG_0, ev_isO_0, ev_z0, ev_z1, show (0 : Int32) ≤ 1 from by decide, show (1 : Int32).toNatClampNeg = 1 from rfl, show (0 : Nat) < 2 from by omega, show (1 : Nat) < 2 from by omega, hlk, hkl, ev_lku_n, ev_up_s, show (0 : Int32) ≤ 2 from by decide, show (2 : Int32).toNatClampNeg = 2 from rfl, show 2 ≤ 100000 from by omega, ev_inA_0, ev_up_up]
            refine mc_addnew hB hC1 hi hn (by omega) (a := nI a_k) (b := nI a_v) rfl rfl fun H3 n3 q3 ow3 qs3 hC3 => ?_
            have htk3 := mc_tk hC3
            have hlk3 := mc_lk hC3
            have ht3 := hC3.2.1
            have hkl3 := mc_kl hC3
            have hlen3 := mc_len hC3
            unfold m_tbc at hlk3 ht3
            dsimp only [ps_L, ps_stale] at hlk3 ht3
            have hlenA : ((T i).1 ++ [(nI a_k, nI a_v)]).length = (T i).1.length + 1 := by rw [List.length_append]; rfl
            have hlen3b : qs3.length = (T i).1.length + 1 := hlen3.symm.trans hlenA
            by_cases hab : pr_above (T i).2.1.2.1 ((T i).1.length + 1)
            · have e3 : pr_take (T i).1 (T i).2.1.2.1 (T i).2.1.2.2.1 (T i).2.1.2.2.2 (nI a_k) (nI a_v) = (((T i).1 ++ [(nI a_k, nI a_v)]).eraseIdx 0, (T i).2.1.2.2.1 + 1, (pf_at ((T i).1 ++ [(nI a_k, nI a_v)]) 0).1) := by unfold pr_take; exact if_pos hab
              rw [e3] at hK
              unfold pr_above at hab
              have h1 : ¬ (T i).2.1.2.1 = -1 := fun z => hab (Or.inl z)
              have h2 : ¬ nI qs3.length ≤ (T i).2.1.2.1 := fun z => hab (Or.inr (by rw [← hlen3b]; exact z))
              have hj0 : 0 < qs3.length := by omega
              obtain ⟨g, g0, g1, g2⟩ := mc_pair hC3 hj0
              have hg3 := fun c => (ev_up_n (h := H3) (a := y + 2 + 2 * i) (b := qs3[0].1) (c := c) (fun z => by have := (mc_in hC3 hj0).1; omega)).trans g0
              have hC4 := mc_fld hB hi hn hC3 ((T i).1 ++ [(nI a_k, nI a_v)], ((T i).2.1.1, (T i).2.1.2.1, (T i).2.1.2.2.1 + 1, (T i).2.1.2.2.2), ((T i).2.2.1.1, true, (T i).2.2.1.2.2), (T i).2.2.2.1, (T i).2.2.2.2) rfl
              simp (disch := omega) only [t_X8_put_127_i, t_X8_put_128, t_X8_put_130, t_X8_put_133, t_X8_put_134, t_X8_put_137, t_X8_put_139, t_X8_put_142, ↓reduceIte, ev_kr_1, true_and, ev_fG_0, ev_fG_2, ev_isO_0, ev_isO_2, hlk3, hkl3, h1]
              refine ML_size hC3.2.2.1 ?_
              simp (disch := omega) only [t_X8_put_145, t_X8_put_147, t_X8_put_150, t_X8_put_153, t_X8_put_155, t_X8_put_156, t_X8_put_159, t_X8_put_160, t_X8_put_161, t_X8_put_164, t_X8_put_166, t_X8_put_168, t_X8_put_171, t_X8_put_172, ↓reduceIte, ev_kr_1, ev_ft_I, and_true, true_and, ev_fG_0, ev_fG_2, ev_fG_3, ev_fS_3, ev_isO_0, ev_isO_2, ev_isO_3, hlk3, ht3, hkl3, ev_lku_s, ev_lku_n, h2]
              refine mc_remove0 hC4 hi hn (by omega) hj0 fun H5 hC5 hg5 => ?_
              have g05 : H5 qs3[0].1 = some (.inl (0, 2, g)) := hg5.trans (hg3 _)
              have hak : ev_isAk (H5 qs3[0].1) 0 = True := by rw [g05]; exact ev_isAk_y
              have ht5 := hC5.2.1
              unfold m_tbc at ht5
              have hC6 := mc_fld hB hi hn hC5 (((T i).1 ++ [(nI a_k, nI a_v)]).eraseIdx 0, ((T i).2.1.1, (T i).2.1.2.1, (T i).2.1.2.2.1 + 1, (pf_at ((T i).1 ++ [(nI a_k, nI a_v)]) 0).1), ((T i).2.2.1.1, true, (T i).2.2.1.2.2), (T i).2.2.2.1, (T i).2.2.2.2) rfl
              have g1b : g 0 = .int (pf_at ((T i).1 ++ [(nI a_k, nI a_v)]) 0).1 := g1
              simp (disch := omega) only [t_X8_put_175, t_X8_put_178, t_X8_put_179, t_X8_put_180, t_X8_put_183, t_X8_put_184, ev_kr_1, ev_aG_y, ev_inA_0, ev_ft_I, and_true, true_and, ev_fS_4, ev_isO_4, ev_z0, ev_z1, show (0 : Nat) < 2 from by omega, ht5, hak, ev_lk_s g05, g1b, ev_inA_0]
              exact hK _ _ _ (hup _ _ _ _ _ (mc_end hm1 hZ hw1 hB hi hn hC6 (by omega) (by omega)))
            · have e3 : pr_take (T i).1 (T i).2.1.2.1 (T i).2.1.2.2.1 (T i).2.1.2.2.2 (nI a_k) (nI a_v) = ((T i).1 ++ [(nI a_k, nI a_v)], (T i).2.1.2.2.1, (T i).2.1.2.2.2) := by unfold pr_take; exact if_neg hab
              rw [e3] at hK
              have hF := hK _ _ _ (hup _ _ _ _ _ (mc_end hm1 hZ hw1 hB hi hn hC3 (by omega) (by omega)))
              by_cases h1 : (T i).2.1.2.1 = -1
              · simp (disch := omega) only [t_X8_put_127_i, t_X8_put_128, t_X8_put_130, t_X8_put_133, t_X8_put_134, t_X8_put_183, t_X8_put_184, ↓reduceIte, ev_kr_1, true_and, ev_fG_2, ev_isO_2, hlk3, h1]
                exact hF
              · have h2 : nI qs3.length ≤ (T i).2.1.2.1 := by
                  rw [hlen3b]
                  exact Classical.byContradiction fun z => hab (fun zz => zz.elim h1 z)
                simp (disch := omega) only [t_X8_put_127_i, t_X8_put_128, t_X8_put_130, t_X8_put_133, t_X8_put_134, t_X8_put_137, t_X8_put_139, t_X8_put_142, ↓reduceIte, ev_kr_1, true_and, ev_fG_0, ev_fG_2, ev_isO_0, ev_isO_2, hlk3, hkl3, h1]
                refine ML_size hC3.2.2.1 ?_
                simp (disch := omega) only [t_X8_put_145, t_X8_put_147, t_X8_put_150, t_X8_put_183, t_X8_put_184, ↓reduceIte, ev_kr_1, true_and, ev_fG_2, ev_isO_2, hlk3, h2]
                exact hF
          · have hj := (pf_find_s e).1
            have hjq : j < qs.length := by omega
            have e1 : pf_place (ps_stale (T i)).1 (nI a_k) = nI j := by
              show pf_place (T i).1 (nI a_k) = nI j
              unfold pf_place
              rw [e]
            have e2 : (pr_bring (T i).1 (T i).2.1.1 (T i).2.1.2.1 (T i).2.1.2.2.1 (T i).2.1.2.2.2 (nI a_k) (nI a_v)) = ((pf_at (T i).1 j).2, pr_ask ((T i).1.set j ((pf_at (T i).1 j).1, nI a_v)) (T i).2.1.1 j, (T i).2.1.2.2.1, (T i).2.1.2.2.2) := by unfold pr_bring; rw [e]
            rw [e2] at hK
            rw [e1]
            have hm1j := ev_nm1 (show j < 2 ^ 31 by omega)
            obtain ⟨g, g0, g1, g2⟩ := mc_pair hC1 hjq
            have hak : ev_isAk (H2 qs[j].1) 0 = True := by rw [g0]; exact ev_isAk_y
            have hC2 := mc_setv hB hi hn hC1 hjq g0 (nI a_v)
            have htk2 := mc_tk hC2
            simp (disch := omega) only [t_X8_put_57, t_X8_put_59, t_X8_put_61, t_X8_put_62, t_X8_put_65, t_X8_put_67, t_X8_put_70, t_X8_put_72, ↓reduceIte, ev_k_r, ev_kr_1, true_and, ev_fG_0, ev_isO_0, hlk, hkl, hm1j]
            refine ML_get hC1.2.2.1 (by omega) hjq ?_
            simp (disch := omega) only [t_X8_put_75, t_X8_put_78, t_X8_put_79, t_X8_put_80, t_X8_put_82, t_X8_put_84, t_X8_put_87, t_X8_put_89, ev_k_i, ev_kr_1, ev_aG_y, ev_inA_0, and_true, true_and, ev_fG_0, ev_isO_0, show (0 : Int32) ≤ 1 from by decide, show (1 : Int32).toNatClampNeg = 1 from rfl, show (1 : Nat) < 2 from by omega, hlk, hkl, hak, ev_lk_s g0, g2, show (pf_at (ps_stale (T i)).1 j).2 = (pf_at (T i).1 j).2 from rfl]
            refine ML_get hC1.2.2.1 (by omega) hjq ?_
            simp (disch := omega) only [t_X8_put_92, t_X8_put_95, t_X8_put_96, t_X8_put_97, t_X8_put_98, t_X8_put_100, t_X8_put_102, ev_kr_1, ev_aS_y, ev_inA_0, and_true, true_and, show (0 : Int32) ≤ 1 from by decide, show (1 : Int32).toNatClampNeg = 1 from rfl, show (1 : Nat) < 2 from by omega, ev_isAk_y, g0, htk2]
            refine M_asked hB hC2 hi hn (by show ((T i).1.set _ _).length ≤ 20; rw [List.length_set]; exact hli) hTi.2.1 (by show j < ((T i).1.set _ _).length; rw [List.length_set]; exact hj) fun H3 n1 q1 ow1 qs1 hC3 => ?_
            simp (disch := omega) only [t_X8_put_105, t_X8_put_107, ev_kr_0]
            exact hK _ _ _ (hup _ _ _ _ _ (mc_end hm1 hZ hw1 hB hi hn hC3 (by omega) (by omega)))
        simp (disch := omega) only [t_X8_put_37, t_X8_put_38, t_X8_put_41, t_X8_put_42, t_X8_put_43, t_X8_put_45, t_X8_put_47, t_X8_put_48, ev_k_i, ev_aG_y, ev_ft_1, and_true, true_and, ev_fG_3, ev_fS_8, ev_isO_3, ev_isO_8, hl10, hf1, hfi, hpi, hci, hi, ev_inA_5, ht]
        exact hgo _ hC1
end M57
end
section
/-! ===== the reference: putIfAbsent, make ===== -/
section M58
variable {X : ev_E} {zf : Nat → Nat} {y : Nat} {r : Int32 × Int32 × Int32} {T : Nat → ev_TS} {As : List Nat} {H : ev_M} {ow : Nat → Nat} {n q : Nat} {P : ev_O → ev_M → Nat → Nat → Prop}
theorem ev_out12 {v : Int32} (h : v < 1 ∨ 12 < v) : v - 1 < 0 ∨ 12 ≤ v - 1 := by
  have e : (v - 1).toInt = (v.toInt - 1).bmod (2 ^ 32) := Int32.toInt_sub v 1
  have b1 := Int32.le_toInt v
  have b2 := Int32.toInt_lt v
  rw [Int.bmod_def] at e
  rw [Int32.lt_iff_toInt_lt, Int32.le_iff_toInt_le]
  have z0 : (0 : Int32).toInt = 0 := rfl
  have z6 : (12 : Int32).toInt = 12 := rfl
  have z1 : (1 : Int32).toInt = 1 := rfl
  rw [Int32.lt_iff_toInt_lt, Int32.lt_iff_toInt_lt] at h
  rw [z0, z6]
  rw [z1, z6] at h
  split at e <;> omega
theorem MM_putIfAbsent (hm : m_aw X zf y r T As H n ow) (hx : m_cx X zf y T As H n) {t k v : Int32} (k0 : t < 0 ∨ nI 4 ≤ t → ∀ H1, m_post X zf y H n q (1, r.2) T As H1 n q → P (.inl (some (.int 0))) H1 n q)
    (k1 : ∀ i, i < 4 → t = nI i → ((k < 0 ∨ nI 20 ≤ k) ∨ (v < 0 ∨ nI 100 ≤ v)) → ∀ H1, m_post X zf y H n q (2, r.2) T As H1 n q → P (.inl (some (.int 0))) H1 n q)
    (k3 : ∀ i a b, i < 4 → t = nI i → a < 20 → k = nI a → b < 100 → v = nI b → ¬ (T i).2.1.2.1 = -1 → ∀ H1, m_post X zf y H n q (3, r.2) T As H1 n q → P (.inl (some (.int 0))) H1 n q)
    (k2 : ∀ i a b, i < 4 → t = nI i → a < 20 → k = nI a → b < 100 → v = nI b → (T i).2.1.2.1 = -1 → ∀ H1 n1 q1, m_post X zf y H n q (0, r.2) (mg_T T i (ps_row (T i) (pr_bia (T i).1 (T i).2.1.1 (T i).2.1.2.1 (T i).2.1.2.2.1 (T i).2.1.2.2.2 k v).2.1 (T i).2.1.1 (T i).2.1.2.1 (pr_bia (T i).1 (T i).2.1.1 (T i).2.1.2.1 (T i).2.1.2.2.1 (T i).2.1.2.2.2 k v).2.2.1 (pr_bia (T i).1 (T i).2.1.1 (T i).2.1.2.1 (T i).2.1.2.2.1 (T i).2.1.2.2.2 k v).2.2.2)) As H1 n1 q1 → P (.inl (some (.int (pr_bia (T i).1 (T i).2.1.1 (T i).2.1.2.1 (T i).2.1.2.2.1 (T i).2.1.2.2.2 k v).1))) H1 n1 q1) : ev_ok (ev_TT X) 294 0 [.ref y, .int t, .int k, .int v, ev_J, ev_J, ev_J] [] H n q P := by
  have hx0 := hx
  obtain ⟨hZ, hw, hB, hn, hz, hT, hW⟩ := hx0
  have h0 := m_h0 hm
  have hl0 := m_lk0 hm
  have hk13 := m_k13 hm
  rcases pk_ix t (n := 4) (by omega) with hbt | hbt | ⟨i, hi, rfl⟩
  · skip
    rcases pk_ix k (n := 20) (by omega) with hb_k | hb_k | ⟨a_k, ha_k, rfl⟩
    · skip
      simp (disch := omega) only [t_X8_putIfAbsent_0, t_X8_putIfAbsent_1, t_X8_putIfAbsent_2, t_X8_putIfAbsent_5, t_X8_putIfAbsent_6, t_X8_putIfAbsent_8, t_X8_putIfAbsent_11, t_X8_putIfAbsent_23, t_X8_putIfAbsent_24, t_X8_putIfAbsent_28, t_X8_putIfAbsent_29, t_X8_putIfAbsent_32, t_X8_putIfAbsent_52, t_X8_putIfAbsent_53, t_X8_putIfAbsent_56, t_X8_putIfAbsent_59, t_X8_putIfAbsent_60, ↓reduceIte, ev_kr_1, ev_isK_y, true_and, not_false_eq_true, show ¬ (1 : Int32) = 0 from by decide, not_false_eq_true, M_isNo_y (Or.inl hbt), M_isOut_y (v := k) (w := 20) (Or.inl hb_k), M_fails_110 h0, hl0]
      exact k0 (Or.inl hbt) _ (m_post_top hm hZ hw hB hn hz (1, r.2))
    · skip
      simp (disch := omega) only [t_X8_putIfAbsent_0, t_X8_putIfAbsent_1, t_X8_putIfAbsent_2, t_X8_putIfAbsent_5, t_X8_putIfAbsent_6, t_X8_putIfAbsent_8, t_X8_putIfAbsent_11, t_X8_putIfAbsent_23, t_X8_putIfAbsent_24, t_X8_putIfAbsent_28, t_X8_putIfAbsent_29, t_X8_putIfAbsent_32, t_X8_putIfAbsent_52, t_X8_putIfAbsent_53, t_X8_putIfAbsent_56, t_X8_putIfAbsent_59, t_X8_putIfAbsent_60, ↓reduceIte, ev_kr_1, ev_isK_y, true_and, not_false_eq_true, show ¬ (1 : Int32) = 0 from by decide, not_false_eq_true, M_isNo_y (Or.inl hbt), M_isOut_y (v := k) (w := 20) (Or.inr hb_k), M_fails_110 h0, hl0]
      exact k0 (Or.inl hbt) _ (m_post_top hm hZ hw hB hn hz (1, r.2))
    · skip
      rcases pk_ix v (n := 100) (by omega) with hb_v | hb_v | ⟨a_v, ha_v, rfl⟩
      · skip
        simp (disch := omega) only [t_X8_putIfAbsent_0, t_X8_putIfAbsent_1, t_X8_putIfAbsent_2, t_X8_putIfAbsent_5, t_X8_putIfAbsent_6, t_X8_putIfAbsent_8, t_X8_putIfAbsent_11, t_X8_putIfAbsent_14, t_X8_putIfAbsent_15, t_X8_putIfAbsent_17, t_X8_putIfAbsent_20, t_X8_putIfAbsent_23, t_X8_putIfAbsent_24, t_X8_putIfAbsent_28, t_X8_putIfAbsent_29, t_X8_putIfAbsent_32, t_X8_putIfAbsent_52, t_X8_putIfAbsent_53, t_X8_putIfAbsent_56, t_X8_putIfAbsent_59, t_X8_putIfAbsent_60, ↓reduceIte, ev_kr_1, ev_isK_y, true_and, not_true_eq_false, not_false_eq_true, show ¬ (1 : Int32) = 0 from by decide, not_true_eq_false, not_false_eq_true, M_isNo_y (Or.inl hbt), M_isOut_n (v := nI a_k) (w := 20) (nI_pos (by omega)) (nI_ge (b := 20) ha_k (by omega)), M_isOut_y (v := v) (w := 100) (Or.inl hb_v), M_fails_110 h0, hl0]
        exact k0 (Or.inl hbt) _ (m_post_top hm hZ hw hB hn hz (1, r.2))
      · skip
        simp (disch := omega) only [t_X8_putIfAbsent_0, t_X8_putIfAbsent_1, t_X8_putIfAbsent_2, t_X8_putIfAbsent_5, t_X8_putIfAbsent_6, t_X8_putIfAbsent_8, t_X8_putIfAbsent_11, t_X8_putIfAbsent_14, t_X8_putIfAbsent_15, t_X8_putIfAbsent_17, t_X8_putIfAbsent_20, t_X8_putIfAbsent_23, t_X8_putIfAbsent_24, t_X8_putIfAbsent_28, t_X8_putIfAbsent_29, t_X8_putIfAbsent_32, t_X8_putIfAbsent_52, t_X8_putIfAbsent_53, t_X8_putIfAbsent_56, t_X8_putIfAbsent_59, t_X8_putIfAbsent_60, ↓reduceIte, ev_kr_1, ev_isK_y, true_and, not_true_eq_false, not_false_eq_true, show ¬ (1 : Int32) = 0 from by decide, not_true_eq_false, not_false_eq_true, M_isNo_y (Or.inl hbt), M_isOut_n (v := nI a_k) (w := 20) (nI_pos (by omega)) (nI_ge (b := 20) ha_k (by omega)), M_isOut_y (v := v) (w := 100) (Or.inr hb_v), M_fails_110 h0, hl0]
        exact k0 (Or.inl hbt) _ (m_post_top hm hZ hw hB hn hz (1, r.2))
      · skip
        simp (disch := omega) only [t_X8_putIfAbsent_0, t_X8_putIfAbsent_1, t_X8_putIfAbsent_2, t_X8_putIfAbsent_5, t_X8_putIfAbsent_6, t_X8_putIfAbsent_8, t_X8_putIfAbsent_11, t_X8_putIfAbsent_14, t_X8_putIfAbsent_15, t_X8_putIfAbsent_17, t_X8_putIfAbsent_20, t_X8_putIfAbsent_27, t_X8_putIfAbsent_28, t_X8_putIfAbsent_29, t_X8_putIfAbsent_32, t_X8_putIfAbsent_52, t_X8_putIfAbsent_53, t_X8_putIfAbsent_56, t_X8_putIfAbsent_59, t_X8_putIfAbsent_60, ↓reduceIte, ev_kr_1, ev_isK_y, true_and, not_true_eq_false, not_false_eq_true, show ¬ (1 : Int32) = 0 from by decide, not_true_eq_false, not_false_eq_true, M_isNo_y (Or.inl hbt), M_isOut_n (v := nI a_k) (w := 20) (nI_pos (by omega)) (nI_ge (b := 20) ha_k (by omega)), M_isOut_n (v := nI a_v) (w := 100) (nI_pos (by omega)) (nI_ge (b := 100) ha_v (by omega)), M_fails_100 h0, hl0]
        exact k0 (Or.inl hbt) _ (m_post_top hm hZ hw hB hn hz (1, r.2))
  · skip
    rcases pk_ix k (n := 20) (by omega) with hb_k | hb_k | ⟨a_k, ha_k, rfl⟩
    · skip
      simp (disch := omega) only [t_X8_putIfAbsent_0, t_X8_putIfAbsent_1, t_X8_putIfAbsent_2, t_X8_putIfAbsent_5, t_X8_putIfAbsent_6, t_X8_putIfAbsent_8, t_X8_putIfAbsent_11, t_X8_putIfAbsent_23, t_X8_putIfAbsent_24, t_X8_putIfAbsent_28, t_X8_putIfAbsent_29, t_X8_putIfAbsent_32, t_X8_putIfAbsent_52, t_X8_putIfAbsent_53, t_X8_putIfAbsent_56, t_X8_putIfAbsent_59, t_X8_putIfAbsent_60, ↓reduceIte, ev_kr_1, ev_isK_y, true_and, not_false_eq_true, show ¬ (1 : Int32) = 0 from by decide, not_false_eq_true, M_isNo_y (Or.inr hbt), M_isOut_y (v := k) (w := 20) (Or.inl hb_k), M_fails_110 h0, hl0]
      exact k0 (Or.inr hbt) _ (m_post_top hm hZ hw hB hn hz (1, r.2))
    · skip
      simp (disch := omega) only [t_X8_putIfAbsent_0, t_X8_putIfAbsent_1, t_X8_putIfAbsent_2, t_X8_putIfAbsent_5, t_X8_putIfAbsent_6, t_X8_putIfAbsent_8, t_X8_putIfAbsent_11, t_X8_putIfAbsent_23, t_X8_putIfAbsent_24, t_X8_putIfAbsent_28, t_X8_putIfAbsent_29, t_X8_putIfAbsent_32, t_X8_putIfAbsent_52, t_X8_putIfAbsent_53, t_X8_putIfAbsent_56, t_X8_putIfAbsent_59, t_X8_putIfAbsent_60, ↓reduceIte, ev_kr_1, ev_isK_y, true_and, not_false_eq_true, show ¬ (1 : Int32) = 0 from by decide, not_false_eq_true, M_isNo_y (Or.inr hbt), M_isOut_y (v := k) (w := 20) (Or.inr hb_k), M_fails_110 h0, hl0]
      exact k0 (Or.inr hbt) _ (m_post_top hm hZ hw hB hn hz (1, r.2))
    · skip
      rcases pk_ix v (n := 100) (by omega) with hb_v | hb_v | ⟨a_v, ha_v, rfl⟩
      · skip
        simp (disch := omega) only [t_X8_putIfAbsent_0, t_X8_putIfAbsent_1, t_X8_putIfAbsent_2, t_X8_putIfAbsent_5, t_X8_putIfAbsent_6, t_X8_putIfAbsent_8, t_X8_putIfAbsent_11, t_X8_putIfAbsent_14, t_X8_putIfAbsent_15, t_X8_putIfAbsent_17, t_X8_putIfAbsent_20, t_X8_putIfAbsent_23, t_X8_putIfAbsent_24, t_X8_putIfAbsent_28, t_X8_putIfAbsent_29, t_X8_putIfAbsent_32, t_X8_putIfAbsent_52, t_X8_putIfAbsent_53, t_X8_putIfAbsent_56, t_X8_putIfAbsent_59, t_X8_putIfAbsent_60, ↓reduceIte, ev_kr_1, ev_isK_y, true_and, not_true_eq_false, not_false_eq_true, show ¬ (1 : Int32) = 0 from by decide, not_true_eq_false, not_false_eq_true, M_isNo_y (Or.inr hbt), M_isOut_n (v := nI a_k) (w := 20) (nI_pos (by omega)) (nI_ge (b := 20) ha_k (by omega)), M_isOut_y (v := v) (w := 100) (Or.inl hb_v), M_fails_110 h0, hl0]
        exact k0 (Or.inr hbt) _ (m_post_top hm hZ hw hB hn hz (1, r.2))
      · skip
        simp (disch := omega) only [t_X8_putIfAbsent_0, t_X8_putIfAbsent_1, t_X8_putIfAbsent_2, t_X8_putIfAbsent_5, t_X8_putIfAbsent_6, t_X8_putIfAbsent_8, t_X8_putIfAbsent_11, t_X8_putIfAbsent_14, t_X8_putIfAbsent_15, t_X8_putIfAbsent_17, t_X8_putIfAbsent_20, t_X8_putIfAbsent_23, t_X8_putIfAbsent_24, t_X8_putIfAbsent_28, t_X8_putIfAbsent_29, t_X8_putIfAbsent_32, t_X8_putIfAbsent_52, t_X8_putIfAbsent_53, t_X8_putIfAbsent_56, t_X8_putIfAbsent_59, t_X8_putIfAbsent_60, ↓reduceIte, ev_kr_1, ev_isK_y, true_and, not_true_eq_false, not_false_eq_true, show ¬ (1 : Int32) = 0 from by decide, not_true_eq_false, not_false_eq_true, M_isNo_y (Or.inr hbt), M_isOut_n (v := nI a_k) (w := 20) (nI_pos (by omega)) (nI_ge (b := 20) ha_k (by omega)), M_isOut_y (v := v) (w := 100) (Or.inr hb_v), M_fails_110 h0, hl0]
        exact k0 (Or.inr hbt) _ (m_post_top hm hZ hw hB hn hz (1, r.2))
      · skip
        simp (disch := omega) only [t_X8_putIfAbsent_0, t_X8_putIfAbsent_1, t_X8_putIfAbsent_2, t_X8_putIfAbsent_5, t_X8_putIfAbsent_6, t_X8_putIfAbsent_8, t_X8_putIfAbsent_11, t_X8_putIfAbsent_14, t_X8_putIfAbsent_15, t_X8_putIfAbsent_17, t_X8_putIfAbsent_20, t_X8_putIfAbsent_27, t_X8_putIfAbsent_28, t_X8_putIfAbsent_29, t_X8_putIfAbsent_32, t_X8_putIfAbsent_52, t_X8_putIfAbsent_53, t_X8_putIfAbsent_56, t_X8_putIfAbsent_59, t_X8_putIfAbsent_60, ↓reduceIte, ev_kr_1, ev_isK_y, true_and, not_true_eq_false, not_false_eq_true, show ¬ (1 : Int32) = 0 from by decide, not_true_eq_false, not_false_eq_true, M_isNo_y (Or.inr hbt), M_isOut_n (v := nI a_k) (w := 20) (nI_pos (by omega)) (nI_ge (b := 20) ha_k (by omega)), M_isOut_n (v := nI a_v) (w := 100) (nI_pos (by omega)) (nI_ge (b := 100) ha_v (by omega)), M_fails_100 h0, hl0]
        exact k0 (Or.inr hbt) _ (m_post_top hm hZ hw hB hn hz (1, r.2))
  · skip
    obtain ⟨f0, hf10, hf20⟩ := m_lk1 hm
    have hfi0 := hf20 i hi
    have hpi0 := nI_pos' (n := i) (by omega)
    have hci0 := nI_clamp (n := i) (by omega)
    have ht0 := (hm.2.2.1 i hi).1
    unfold m_tbc at ht0
    rcases pk_ix k (n := 20) (by omega) with hb_k | hb_k | ⟨a_k, ha_k, rfl⟩
    · skip
      by_cases hms : (T i).2.1.2.1 = -1
      · simp (disch := omega) only [t_X8_putIfAbsent_0, t_X8_putIfAbsent_1, t_X8_putIfAbsent_2, t_X8_putIfAbsent_5, t_X8_putIfAbsent_6, t_X8_putIfAbsent_8, t_X8_putIfAbsent_11, t_X8_putIfAbsent_23, t_X8_putIfAbsent_24, t_X8_putIfAbsent_28, t_X8_putIfAbsent_29, t_X8_putIfAbsent_32, t_X8_putIfAbsent_35, t_X8_putIfAbsent_36, t_X8_putIfAbsent_39, t_X8_putIfAbsent_40, t_X8_putIfAbsent_41, t_X8_putIfAbsent_44, t_X8_putIfAbsent_45, t_X8_putIfAbsent_52, t_X8_putIfAbsent_53, t_X8_putIfAbsent_56, t_X8_putIfAbsent_59, t_X8_putIfAbsent_60, ↓reduceIte, ev_kr_1, ev_isK_y, ev_aG_y, and_true, true_and, not_true_eq_false, not_false_eq_true, ev_fG_2, ev_fG_3, ev_isO_2, ev_isO_3, show ¬ (1 : Int32) = 0 from by decide, not_true_eq_false, not_false_eq_true, M_isNo_n hi, M_isOut_y (v := k) (w := 20) (Or.inl hb_k), M_fails_010 h0, hl0, hms, hf10, hfi0, hpi0, hci0, hi, ev_inA_5, ev_lk_s ht0]
        exact k1 i hi rfl (Or.inl (Or.inl hb_k)) _ (m_post_top hm hZ hw hB hn hz (2, r.2))
      · simp (disch := omega) only [t_X8_putIfAbsent_0, t_X8_putIfAbsent_1, t_X8_putIfAbsent_2, t_X8_putIfAbsent_5, t_X8_putIfAbsent_6, t_X8_putIfAbsent_8, t_X8_putIfAbsent_11, t_X8_putIfAbsent_23, t_X8_putIfAbsent_24, t_X8_putIfAbsent_28, t_X8_putIfAbsent_29, t_X8_putIfAbsent_32, t_X8_putIfAbsent_35, t_X8_putIfAbsent_36, t_X8_putIfAbsent_39, t_X8_putIfAbsent_40, t_X8_putIfAbsent_41, t_X8_putIfAbsent_44, t_X8_putIfAbsent_45, t_X8_putIfAbsent_48, t_X8_putIfAbsent_49, t_X8_putIfAbsent_53, t_X8_putIfAbsent_56, t_X8_putIfAbsent_59, t_X8_putIfAbsent_60, ↓reduceIte, ev_kr_1, ev_isK_y, ev_aG_y, and_true, true_and, not_true_eq_false, not_false_eq_true, ev_fG_2, ev_fG_3, ev_isO_2, ev_isO_3, show ¬ (1 : Int32) = 0 from by decide, not_true_eq_false, not_false_eq_true, M_isNo_n hi, M_isOut_y (v := k) (w := 20) (Or.inl hb_k), M_fails_011 h0, hl0, hms, hf10, hfi0, hpi0, hci0, hi, ev_inA_5, ev_lk_s ht0]
        exact k1 i hi rfl (Or.inl (Or.inl hb_k)) _ (m_post_top hm hZ hw hB hn hz (2, r.2))
    · skip
      by_cases hms : (T i).2.1.2.1 = -1
      · simp (disch := omega) only [t_X8_putIfAbsent_0, t_X8_putIfAbsent_1, t_X8_putIfAbsent_2, t_X8_putIfAbsent_5, t_X8_putIfAbsent_6, t_X8_putIfAbsent_8, t_X8_putIfAbsent_11, t_X8_putIfAbsent_23, t_X8_putIfAbsent_24, t_X8_putIfAbsent_28, t_X8_putIfAbsent_29, t_X8_putIfAbsent_32, t_X8_putIfAbsent_35, t_X8_putIfAbsent_36, t_X8_putIfAbsent_39, t_X8_putIfAbsent_40, t_X8_putIfAbsent_41, t_X8_putIfAbsent_44, t_X8_putIfAbsent_45, t_X8_putIfAbsent_52, t_X8_putIfAbsent_53, t_X8_putIfAbsent_56, t_X8_putIfAbsent_59, t_X8_putIfAbsent_60, ↓reduceIte, ev_kr_1, ev_isK_y, ev_aG_y, and_true, true_and, not_true_eq_false, not_false_eq_true, ev_fG_2, ev_fG_3, ev_isO_2, ev_isO_3, show ¬ (1 : Int32) = 0 from by decide, not_true_eq_false, not_false_eq_true, M_isNo_n hi, M_isOut_y (v := k) (w := 20) (Or.inr hb_k), M_fails_010 h0, hl0, hms, hf10, hfi0, hpi0, hci0, hi, ev_inA_5, ev_lk_s ht0]
        exact k1 i hi rfl (Or.inl (Or.inr hb_k)) _ (m_post_top hm hZ hw hB hn hz (2, r.2))
      · simp (disch := omega) only [t_X8_putIfAbsent_0, t_X8_putIfAbsent_1, t_X8_putIfAbsent_2, t_X8_putIfAbsent_5, t_X8_putIfAbsent_6, t_X8_putIfAbsent_8, t_X8_putIfAbsent_11, t_X8_putIfAbsent_23, t_X8_putIfAbsent_24, t_X8_putIfAbsent_28, t_X8_putIfAbsent_29, t_X8_putIfAbsent_32, t_X8_putIfAbsent_35, t_X8_putIfAbsent_36, t_X8_putIfAbsent_39, t_X8_putIfAbsent_40, t_X8_putIfAbsent_41, t_X8_putIfAbsent_44, t_X8_putIfAbsent_45, t_X8_putIfAbsent_48, t_X8_putIfAbsent_49, t_X8_putIfAbsent_53, t_X8_putIfAbsent_56, t_X8_putIfAbsent_59, t_X8_putIfAbsent_60, ↓reduceIte, ev_kr_1, ev_isK_y, ev_aG_y, and_true, true_and, not_true_eq_false, not_false_eq_true, ev_fG_2, ev_fG_3, ev_isO_2, ev_isO_3, show ¬ (1 : Int32) = 0 from by decide, not_true_eq_false, not_false_eq_true, M_isNo_n hi, M_isOut_y (v := k) (w := 20) (Or.inr hb_k), M_fails_011 h0, hl0, hms, hf10, hfi0, hpi0, hci0, hi, ev_inA_5, ev_lk_s ht0]
        exact k1 i hi rfl (Or.inl (Or.inr hb_k)) _ (m_post_top hm hZ hw hB hn hz (2, r.2))
    · skip
      rcases pk_ix v (n := 100) (by omega) with hb_v | hb_v | ⟨a_v, ha_v, rfl⟩
      · skip
        by_cases hms : (T i).2.1.2.1 = -1
        · simp (disch := omega) only [t_X8_putIfAbsent_0, t_X8_putIfAbsent_1, t_X8_putIfAbsent_2, t_X8_putIfAbsent_5, t_X8_putIfAbsent_6, t_X8_putIfAbsent_8, t_X8_putIfAbsent_11, t_X8_putIfAbsent_14, t_X8_putIfAbsent_15, t_X8_putIfAbsent_17, t_X8_putIfAbsent_20, t_X8_putIfAbsent_23, t_X8_putIfAbsent_24, t_X8_putIfAbsent_28, t_X8_putIfAbsent_29, t_X8_putIfAbsent_32, t_X8_putIfAbsent_35, t_X8_putIfAbsent_36, t_X8_putIfAbsent_39, t_X8_putIfAbsent_40, t_X8_putIfAbsent_41, t_X8_putIfAbsent_44, t_X8_putIfAbsent_45, t_X8_putIfAbsent_52, t_X8_putIfAbsent_53, t_X8_putIfAbsent_56, t_X8_putIfAbsent_59, t_X8_putIfAbsent_60, ↓reduceIte, ev_kr_1, ev_isK_y, ev_aG_y, and_true, true_and, not_true_eq_false, ev_fG_2, ev_fG_3, ev_isO_2, ev_isO_3, show ¬ (1 : Int32) = 0 from by decide, not_true_eq_false, M_isNo_n hi, M_isOut_n (v := nI a_k) (w := 20) (nI_pos (by omega)) (nI_ge (b := 20) ha_k (by omega)), M_isOut_y (v := v) (w := 100) (Or.inl hb_v), M_fails_010 h0, hl0, hms, hf10, hfi0, hpi0, hci0, hi, ev_inA_5, ev_lk_s ht0]
          exact k1 i hi rfl (Or.inr (Or.inl hb_v)) _ (m_post_top hm hZ hw hB hn hz (2, r.2))
        · simp (disch := omega) only [t_X8_putIfAbsent_0, t_X8_putIfAbsent_1, t_X8_putIfAbsent_2, t_X8_putIfAbsent_5, t_X8_putIfAbsent_6, t_X8_putIfAbsent_8, t_X8_putIfAbsent_11, t_X8_putIfAbsent_14, t_X8_putIfAbsent_15, t_X8_putIfAbsent_17, t_X8_putIfAbsent_20, t_X8_putIfAbsent_23, t_X8_putIfAbsent_24, t_X8_putIfAbsent_28, t_X8_putIfAbsent_29, t_X8_putIfAbsent_32, t_X8_putIfAbsent_35, t_X8_putIfAbsent_36, t_X8_putIfAbsent_39, t_X8_putIfAbsent_40, t_X8_putIfAbsent_41, t_X8_putIfAbsent_44, t_X8_putIfAbsent_45, t_X8_putIfAbsent_48, t_X8_putIfAbsent_49, t_X8_putIfAbsent_53, t_X8_putIfAbsent_56, t_X8_putIfAbsent_59, t_X8_putIfAbsent_60, ↓reduceIte, ev_kr_1, ev_isK_y, ev_aG_y, and_true, true_and, not_true_eq_false, ev_fG_2, ev_fG_3, ev_isO_2, ev_isO_3, show ¬ (1 : Int32) = 0 from by decide, not_true_eq_false, M_isNo_n hi, M_isOut_n (v := nI a_k) (w := 20) (nI_pos (by omega)) (nI_ge (b := 20) ha_k (by omega)), M_isOut_y (v := v) (w := 100) (Or.inl hb_v), M_fails_011 h0, hl0, hms, hf10, hfi0, hpi0, hci0, hi, ev_inA_5, ev_lk_s ht0]
          exact k1 i hi rfl (Or.inr (Or.inl hb_v)) _ (m_post_top hm hZ hw hB hn hz (2, r.2))
      · skip
        by_cases hms : (T i).2.1.2.1 = -1
        · simp (disch := omega) only [t_X8_putIfAbsent_0, t_X8_putIfAbsent_1, t_X8_putIfAbsent_2, t_X8_putIfAbsent_5, t_X8_putIfAbsent_6, t_X8_putIfAbsent_8, t_X8_putIfAbsent_11, t_X8_putIfAbsent_14, t_X8_putIfAbsent_15, t_X8_putIfAbsent_17, t_X8_putIfAbsent_20, t_X8_putIfAbsent_23, t_X8_putIfAbsent_24, t_X8_putIfAbsent_28, t_X8_putIfAbsent_29, t_X8_putIfAbsent_32, t_X8_putIfAbsent_35, t_X8_putIfAbsent_36, t_X8_putIfAbsent_39, t_X8_putIfAbsent_40, t_X8_putIfAbsent_41, t_X8_putIfAbsent_44, t_X8_putIfAbsent_45, t_X8_putIfAbsent_52, t_X8_putIfAbsent_53, t_X8_putIfAbsent_56, t_X8_putIfAbsent_59, t_X8_putIfAbsent_60, ↓reduceIte, ev_kr_1, ev_isK_y, ev_aG_y, and_true, true_and, not_true_eq_false, ev_fG_2, ev_fG_3, ev_isO_2, ev_isO_3, show ¬ (1 : Int32) = 0 from by decide, not_true_eq_false, M_isNo_n hi, M_isOut_n (v := nI a_k) (w := 20) (nI_pos (by omega)) (nI_ge (b := 20) ha_k (by omega)), M_isOut_y (v := v) (w := 100) (Or.inr hb_v), M_fails_010 h0, hl0, hms, hf10, hfi0, hpi0, hci0, hi, ev_inA_5, ev_lk_s ht0]
          exact k1 i hi rfl (Or.inr (Or.inr hb_v)) _ (m_post_top hm hZ hw hB hn hz (2, r.2))
        · simp (disch := omega) only [t_X8_putIfAbsent_0, t_X8_putIfAbsent_1, t_X8_putIfAbsent_2, t_X8_putIfAbsent_5, t_X8_putIfAbsent_6, t_X8_putIfAbsent_8, t_X8_putIfAbsent_11, t_X8_putIfAbsent_14, t_X8_putIfAbsent_15, t_X8_putIfAbsent_17, t_X8_putIfAbsent_20, t_X8_putIfAbsent_23, t_X8_putIfAbsent_24, t_X8_putIfAbsent_28, t_X8_putIfAbsent_29, t_X8_putIfAbsent_32, t_X8_putIfAbsent_35, t_X8_putIfAbsent_36, t_X8_putIfAbsent_39, t_X8_putIfAbsent_40, t_X8_putIfAbsent_41, t_X8_putIfAbsent_44, t_X8_putIfAbsent_45, t_X8_putIfAbsent_48, t_X8_putIfAbsent_49, t_X8_putIfAbsent_53, t_X8_putIfAbsent_56, t_X8_putIfAbsent_59, t_X8_putIfAbsent_60, ↓reduceIte, ev_kr_1, ev_isK_y, ev_aG_y, and_true, true_and, not_true_eq_false, ev_fG_2, ev_fG_3, ev_isO_2, ev_isO_3, show ¬ (1 : Int32) = 0 from by decide, not_true_eq_false, M_isNo_n hi, M_isOut_n (v := nI a_k) (w := 20) (nI_pos (by omega)) (nI_ge (b := 20) ha_k (by omega)), M_isOut_y (v := v) (w := 100) (Or.inr hb_v), M_fails_011 h0, hl0, hms, hf10, hfi0, hpi0, hci0, hi, ev_inA_5, ev_lk_s ht0]
          exact k1 i hi rfl (Or.inr (Or.inr hb_v)) _ (m_post_top hm hZ hw hB hn hz (2, r.2))
      · skip
        by_cases hms : (T i).2.1.2.1 = -1
        · simp (disch := omega) only [t_X8_putIfAbsent_0, t_X8_putIfAbsent_1, t_X8_putIfAbsent_2, t_X8_putIfAbsent_5, t_X8_putIfAbsent_6, t_X8_putIfAbsent_8, t_X8_putIfAbsent_11, t_X8_putIfAbsent_14, t_X8_putIfAbsent_15, t_X8_putIfAbsent_17, t_X8_putIfAbsent_20, t_X8_putIfAbsent_27, t_X8_putIfAbsent_28, t_X8_putIfAbsent_29, t_X8_putIfAbsent_32, t_X8_putIfAbsent_35, t_X8_putIfAbsent_36, t_X8_putIfAbsent_39, t_X8_putIfAbsent_40, t_X8_putIfAbsent_41, t_X8_putIfAbsent_44, t_X8_putIfAbsent_45, t_X8_putIfAbsent_52, t_X8_putIfAbsent_53, t_X8_putIfAbsent_56, ↓reduceIte, ev_kr_1, ev_isK_y, ev_aG_y, and_true, true_and, not_true_eq_false, ev_fG_2, ev_fG_3, ev_isO_2, ev_isO_3, not_true_eq_false, M_isNo_n hi, M_isOut_n (v := nI a_k) (w := 20) (nI_pos (by omega)) (nI_ge (b := 20) ha_k (by omega)), M_isOut_n (v := nI a_v) (w := 100) (nI_pos (by omega)) (nI_ge (b := 100) ha_v (by omega)), M_fails_000 h0, hl0, hms, hf10, hfi0, hpi0, hci0, hi, ev_inA_5, ev_lk_s ht0]
          have hm1 := m_aw_top hm hZ hw hB (0, r.2)
          have hx1 := m_cx_top hx (0, r.2)
          have hp0 : m_post X zf y H n q (0, r.2) T As (ev_up H y (m_top y (0, r.2))) n q := m_post_top hm hZ hw hB hn hz (0, r.2)
          have hup := fun (r2 : Int32 × Int32 × Int32) (T2 : Nat → ev_TS) (H2 : ev_M) (n2 q2 : Nat) => @m_post_up X zf y r2 T2 As H H2 n q (0, r.2) n2 q2
          generalize ev_up H y (m_top y (0, r.2)) = H1 at hm1 hx1 hp0 hup ⊢
          obtain ⟨-, hw1, -, -, hz1, -, -⟩ := hx1
          have h10 := m_h0 hm1
          have hl10 := m_lk0 hm1
          have hk13 := m_k13 hm1
          obtain ⟨f, hf1, hf2⟩ := m_lk1 hm1
          have hfi := hf2 i hi
          have hpi := nI_pos' (n := i) (by omega)
          have hci := nI_clamp (n := i) (by omega)
          have hTi := hT i hi
          have hli := okL_len hTi.1
          obtain ⟨qs, hC⟩ := mc_0 (q := q) hm1 hi hz1
          have htk := mc_tk hC
          have hlk := mc_lk hC
          have ht := hC.2.1
          have hkl := mc_kl hC
          have hlen := mc_len hC
          unfold m_tbc at hlk ht
          have hC1 := mc_fld hB hi hn hC (ps_stale (T i)) rfl
          have hgo : ∀ H2, m_cur X y i H1 n q ow 0 0 (0, r.2) (ps_stale (T i)) H2 n q ow qs → ev_ok (ev_TT X) 294 75 [.ref y, .int (nI i), .int (nI a_k), .int (nI a_v), .ref (y + 2 + 2 * i), ev_J, ev_J] [] H2 n q P := by
            intro H2 hC1
            have htk := mc_tk hC1
            have hlk := mc_lk hC1
            have ht := hC1.2.1
            have hkl := mc_kl hC1
            have hl0 := ev_lk_s (X := X) hC1.1
            unfold m_tbc at hlk ht
            unfold m_top at hl0
            simp (disch := omega) only [t_X8_putIfAbsent_75, t_X8_putIfAbsent_77, t_X8_putIfAbsent_78, ev_isK_y, true_and, hlk]
            refine M_place hC1 hli ?_
            have hK := k2 i a_k a_v hi rfl ha_k rfl ha_v rfl hms
            rcases e : pf_find (T i).1 (nI a_k) with _ | j
            · have e1 : pf_place (ps_stale (T i)).1 (nI a_k) = -1 := by
                show pf_place (T i).1 (nI a_k) = -1
                unfold pf_place
                rw [e]
              have e2 : (pr_bia (T i).1 (T i).2.1.1 (T i).2.1.2.1 (T i).2.1.2.2.1 (T i).2.1.2.2.2 (nI a_k) (nI a_v)) = (-1, pr_take (T i).1 (T i).2.1.2.1 (T i).2.1.2.2.1 (T i).2.1.2.2.2 (nI a_k) (nI a_v)) := by unfold pr_bia; rw [e]
              have hab : ¬ pr_above (T i).2.1.2.1 ((T i).1.length + 1) := fun z => z (Or.inl hms)
              have e3 : pr_take (T i).1 (T i).2.1.2.1 (T i).2.1.2.2.1 (T i).2.1.2.2.2 (nI a_k) (nI a_v) = ((T i).1 ++ [(nI a_k, nI a_v)], (T i).2.1.2.2.1, (T i).2.1.2.2.2) := by unfold pr_take; exact if_neg hab
              rw [e2, e3] at hK
              rw [e1]
              have hll : (T i).1.length < 20 := (okL_new hTi.1 (okL_key ha_k) e).2
              simp (disch := omega) only [t_X8_putIfAbsent_81, t_X8_putIfAbsent_83, t_X8_putIfAbsent_85, t_X8_putIfAbsent_86, t_X8_putIfAbsent_89, t_X8_putIfAbsent_91, t_X8_putIfAbsent_94, t_X8_putIfAbsent_95, t_X8_putIfAbsent_97, t_X8_putIfAbsent_98, t_X8_putIfAbsent_99, t_X8_putIfAbsent_100, t_X8_putIfAbsent_101, t_X8_putIfAbsent_102, t_X8_putIfAbsent_103, t_X8_putIfAbsent_104, t_X8_putIfAbsent_105, ↓reduceIte, ev_k_r, ev_kr_1, ev_aS_y, ev_inA_0, and_true, true_and, not_true_eq_false, ev_fG_0, ev_isO_0, ev_z0, ev_z1, show (0 : Int32) ≤ 1 from by decide, show (1 : Int32).toNatClampNeg = 1 from rfl, show (0 : Nat) < 2 from by omega, show (1 : Nat) < 2 from by omega, not_true_eq_false, hlk, hkl, ev_lku_n, ev_up_s, show (0 : Int32) ≤ 2 from by decide, show (2 : Int32).toNatClampNeg = 2 from rfl, show 2 ≤ 100000 from by omega, ev_inA_0, ev_up_up]
              refine mc_addnew hB hC1 hi hn (by omega) (a := nI a_k) (b := nI a_v) rfl rfl fun H3 n3 q3 ow3 qs3 hC3 => ?_
              simp (disch := omega) only [t_X8_putIfAbsent_108_i, t_X8_putIfAbsent_109, t_X8_putIfAbsent_110, ev_kr_1]
              exact hK _ _ _ (hup _ _ _ _ _ (mc_end hm1 hZ hw1 hB hi hn hC3 (by omega) (by omega)))
            · have hj := (pf_find_s e).1
              have hjq : j < qs.length := by omega
              have e1 : pf_place (ps_stale (T i)).1 (nI a_k) = nI j := by
                show pf_place (T i).1 (nI a_k) = nI j
                unfold pf_place
                rw [e]
              have e2 : (pr_bia (T i).1 (T i).2.1.1 (T i).2.1.2.1 (T i).2.1.2.2.1 (T i).2.1.2.2.2 (nI a_k) (nI a_v)) = ((pf_at (T i).1 j).2, pr_ask (T i).1 (T i).2.1.1 j, (T i).2.1.2.2.1, (T i).2.1.2.2.2) := by unfold pr_bia; rw [e]
              rw [e2] at hK
              rw [e1]
              have hm1j := ev_nm1 (show j < 2 ^ 31 by omega)
              obtain ⟨g, g0, g1, g2⟩ := mc_pair hC1 hjq
              have hak : ev_isAk (H2 qs[j].1) 0 = True := by rw [g0]; exact ev_isAk_y
              simp (disch := omega) only [t_X8_putIfAbsent_81, t_X8_putIfAbsent_83, t_X8_putIfAbsent_85, t_X8_putIfAbsent_86, t_X8_putIfAbsent_111, t_X8_putIfAbsent_113, t_X8_putIfAbsent_116, t_X8_putIfAbsent_118, ↓reduceIte, ev_k_r, ev_kr_1, true_and, not_false_eq_true, ev_fG_0, ev_isO_0, not_false_eq_true, hlk, hkl, hm1j]
              refine ML_get hC1.2.2.1 (by omega) hjq ?_
              simp (disch := omega) only [t_X8_putIfAbsent_121, t_X8_putIfAbsent_124, t_X8_putIfAbsent_125, t_X8_putIfAbsent_126, t_X8_putIfAbsent_128, t_X8_putIfAbsent_130, t_X8_putIfAbsent_132, ev_k_i, ev_kr_1, ev_isK_y, ev_aG_y, ev_inA_0, and_true, true_and, show (0 : Int32) ≤ 1 from by decide, show (1 : Int32).toNatClampNeg = 1 from rfl, show (1 : Nat) < 2 from by omega, hlk, hak, ev_lk_s g0, g2, show (pf_at (ps_stale (T i)).1 j).2 = (pf_at (T i).1 j).2 from rfl]
              refine M_asked hB hC1 hi hn hli hTi.2.1 hj fun H3 n1 q1 ow1 qs1 hC3 => ?_
              simp (disch := omega) only [t_X8_putIfAbsent_135, t_X8_putIfAbsent_137, ev_kr_0]
              exact hK _ _ _ (hup _ _ _ _ _ (mc_end hm1 hZ hw1 hB hi hn hC3 (by omega) (by omega)))
          simp (disch := omega) only [t_X8_putIfAbsent_61, t_X8_putIfAbsent_62, t_X8_putIfAbsent_65, t_X8_putIfAbsent_66, t_X8_putIfAbsent_67, t_X8_putIfAbsent_69, t_X8_putIfAbsent_71, t_X8_putIfAbsent_72, ev_k_i, ev_aG_y, ev_ft_1, and_true, true_and, ev_fG_3, ev_fS_8, ev_isO_3, ev_isO_8, hl10, hf1, hfi, hpi, hci, hi, ev_inA_5, ht]
          exact hgo _ hC1
        · simp (disch := omega) only [t_X8_putIfAbsent_0, t_X8_putIfAbsent_1, t_X8_putIfAbsent_2, t_X8_putIfAbsent_5, t_X8_putIfAbsent_6, t_X8_putIfAbsent_8, t_X8_putIfAbsent_11, t_X8_putIfAbsent_14, t_X8_putIfAbsent_15, t_X8_putIfAbsent_17, t_X8_putIfAbsent_20, t_X8_putIfAbsent_27, t_X8_putIfAbsent_28, t_X8_putIfAbsent_29, t_X8_putIfAbsent_32, t_X8_putIfAbsent_35, t_X8_putIfAbsent_36, t_X8_putIfAbsent_39, t_X8_putIfAbsent_40, t_X8_putIfAbsent_41, t_X8_putIfAbsent_44, t_X8_putIfAbsent_45, t_X8_putIfAbsent_48, t_X8_putIfAbsent_49, t_X8_putIfAbsent_53, t_X8_putIfAbsent_56, t_X8_putIfAbsent_59, t_X8_putIfAbsent_60, ↓reduceIte, ev_kr_1, ev_isK_y, ev_aG_y, and_true, true_and, not_true_eq_false, ev_fG_2, ev_fG_3, ev_isO_2, ev_isO_3, show ¬ (1 : Int32) = 0 from by decide, not_true_eq_false, M_isNo_n hi, M_isOut_n (v := nI a_k) (w := 20) (nI_pos (by omega)) (nI_ge (b := 20) ha_k (by omega)), M_isOut_n (v := nI a_v) (w := 100) (nI_pos (by omega)) (nI_ge (b := 100) ha_v (by omega)), M_fails_001 h0, hl0, hms, hf10, hfi0, hpi0, hci0, hi, ev_inA_5, ev_lk_s ht0]
          exact k3 i a_k a_v hi rfl ha_k rfl ha_v rfl hms _ (m_post_top hm hZ hw hB hn hz (3, r.2))
theorem MM_make (hm : m_aw X zf y r T As H n ow) (hx : m_cx X zf y T As H n) {t b1 m1 : Int32} (hb : ev_isB b1) (k0 : t < 0 ∨ nI 4 ≤ t → ∀ H1, m_post X zf y H n q (1, r.2) T As H1 n q → P (.inl (some (.int 0))) H1 n q)
    (k1 : ∀ i, i < 4 → t = nI i → ¬ m1 = -1 → (m1 < 1 ∨ 12 < m1) → ∀ H1, m_post X zf y H n q (2, r.2) T As H1 n q → P (.inl (some (.int 0))) H1 n q)
    (k2 : ∀ i, i < 4 → t = nI i → (m1 = -1 ∨ (1 ≤ m1 ∧ m1 ≤ 12)) → ∀ H1 n1 q1, m_post X zf y H n q (0, r.2) (mg_T T i (ps_row (T i) [] b1 m1 0 (-1))) As H1 n1 q1 → P (.inl (some (.int (nI (T i).1.length)))) H1 n1 q1) : ev_ok (ev_TT X) 167 0 [.ref y, .int t, .int b1, .int m1, ev_J, ev_J] [] H n q P := by
  have hx0 := hx
  obtain ⟨hZ, hw, hB, hn, hz, hT, hW⟩ := hx0
  have h0 := m_h0 hm
  have hl0 := m_lk0 hm
  have hk13 := m_k13 hm
  have good : ∀ i, i < 4 → t = nI i → (m1 = -1 ∨ (1 ≤ m1 ∧ m1 ≤ 12)) → ev_ok (ev_TT X) 167 35 [.ref y, .int t, .int b1, .int m1, ev_J, ev_J] [] (ev_up H y (m_top y (0, r.2))) n q P := by
    rintro i hi rfl hmm
    have hm1 := m_aw_top hm hZ hw hB (0, r.2)
    have hx1 := m_cx_top hx (0, r.2)
    have hp0 : m_post X zf y H n q (0, r.2) T As (ev_up H y (m_top y (0, r.2))) n q := m_post_top hm hZ hw hB hn hz (0, r.2)
    have hup := fun (r2 : Int32 × Int32 × Int32) (T2 : Nat → ev_TS) (H2 : ev_M) (n2 q2 : Nat) => @m_post_up X zf y r2 T2 As H H2 n q (0, r.2) n2 q2
    generalize ev_up H y (m_top y (0, r.2)) = H1 at hm1 hx1 hp0 hup ⊢
    obtain ⟨-, hw1, -, -, hz1, -, -⟩ := hx1
    have h10 := m_h0 hm1
    have hl10 := m_lk0 hm1
    have hk13 := m_k13 hm1
    obtain ⟨f, hf1, hf2⟩ := m_lk1 hm1
    have hfi := hf2 i hi
    have hpi := nI_pos' (n := i) (by omega)
    have hci := nI_clamp (n := i) (by omega)
    have hTi := hT i hi
    have hli := okL_len hTi.1
    obtain ⟨qs, hC⟩ := mc_0 (q := q) hm1 hi hz1
    have htk := mc_tk hC
    have hlk := mc_lk hC
    have ht := hC.2.1
    have hkl := mc_kl hC
    have hlen := mc_len hC
    unfold m_tbc at hlk ht
    have hK := k2 i hi rfl hmm
    simp (disch := omega) only [t_X8_make_35, t_X8_make_36, t_X8_make_39, t_X8_make_40, t_X8_make_41, t_X8_make_43, t_X8_make_45, t_X8_make_48, ev_k_i, ev_aG_y, and_true, true_and, ev_fG_0, ev_fG_3, ev_isO_0, ev_isO_3, hl10, hf1, hfi, hpi, hci, hi, ev_inA_5, hlk, hkl]
    refine ML_size hC.2.2.1 ?_
    simp (disch := omega) only [t_X8_make_51, t_X8_make_53, t_X8_make_55, t_X8_make_58, ev_k_r, ev_kr_1, true_and, ev_fG_0, ev_isO_0, hlk, hkl]
    refine mc_clear hC hi hn (by omega) fun H2 hC1 => ?_
    have htk1 := mc_tk hC1
    simp (disch := omega) only [t_X8_make_61, t_X8_make_63, t_X8_make_64, t_X8_make_65, ev_kr_0, true_and, htk1]
    refine M_anew hB hC1 hi hn hb fun H3 hC2 => ?_
    have ht2 := hC2.2.1
    unfold m_tbc at ht2
    have hC3 := mc_fld hB hi hn hC2 (ps_row (T i) [] b1 m1 0 (-1)) rfl
    simp (disch := omega) only [t_X8_make_68, t_X8_make_70, t_X8_make_71, t_X8_make_74, t_X8_make_76, ev_kr_0, ev_ft_1, and_true, true_and, ev_fS_8, ev_isO_8, ht2]
    rw [← hlen]
    exact hK _ _ _ (hup _ _ _ _ _ (mc_end hm1 hZ hw1 hB hi hn hC3 (by omega) (by omega)))
  rcases pk_ix t (n := 4) (by omega) with hbt | hbt | ⟨i, hi, rfl⟩
  · by_cases hm0 : m1 = -1
    · simp (disch := omega) only [t_X8_make_0, t_X8_make_1, t_X8_make_2, t_X8_make_5, t_X8_make_6, t_X8_make_7, t_X8_make_25, t_X8_make_26, t_X8_make_27, t_X8_make_30, t_X8_make_33, t_X8_make_34, ↓reduceIte, ev_kr_1, ev_isK_y, true_and, show ¬ (1 : Int32) = 0 from by decide, M_isNo_y (Or.inl hbt), hm0, M_fails_100 h0, hl0]
      exact k0 (Or.inl hbt) _ (m_post_top hm hZ hw hB hn hz (1, r.2))
    · rcases ev_mn m1 with hmb | ⟨j, hj, rfl⟩
      · simp (disch := omega) only [t_X8_make_0, t_X8_make_1, t_X8_make_2, t_X8_make_5, t_X8_make_6, t_X8_make_7, t_X8_make_10, t_X8_make_11, t_X8_make_12, t_X8_make_13, t_X8_make_15, t_X8_make_18, t_X8_make_21, t_X8_make_22, t_X8_make_26, t_X8_make_27, t_X8_make_30, t_X8_make_33, t_X8_make_34, ↓reduceIte, ev_kr_1, ev_isK_y, true_and, show ¬ (1 : Int32) = 0 from by decide, M_isNo_y (Or.inl hbt), hm0, M_isOut_y (v := m1 - 1) (w := 12) (ev_out12 hmb), M_fails_110 h0, hl0]
        exact k0 (Or.inl hbt) _ (m_post_top hm hZ hw hB hn hz (1, r.2))
      · simp (disch := omega) only [t_X8_make_0, t_X8_make_1, t_X8_make_2, t_X8_make_5, t_X8_make_6, t_X8_make_7, t_X8_make_10, t_X8_make_11, t_X8_make_12, t_X8_make_13, t_X8_make_15, t_X8_make_18, t_X8_make_25, t_X8_make_26, t_X8_make_27, t_X8_make_30, t_X8_make_33, t_X8_make_34, ↓reduceIte, ev_kr_1, ev_isK_y, true_and, show ¬ (1 : Int32) = 0 from by decide, M_isNo_y (Or.inl hbt), hm0, nI_pred, M_isOut_n (v := nI j) (w := 12) (nI_pos (by omega)) (nI_ge (b := 12) hj (by omega)), M_fails_100 h0, hl0]
        exact k0 (Or.inl hbt) _ (m_post_top hm hZ hw hB hn hz (1, r.2))
  · by_cases hm0 : m1 = -1
    · simp (disch := omega) only [t_X8_make_0, t_X8_make_1, t_X8_make_2, t_X8_make_5, t_X8_make_6, t_X8_make_7, t_X8_make_25, t_X8_make_26, t_X8_make_27, t_X8_make_30, t_X8_make_33, t_X8_make_34, ↓reduceIte, ev_kr_1, ev_isK_y, true_and, show ¬ (1 : Int32) = 0 from by decide, M_isNo_y (Or.inr hbt), hm0, M_fails_100 h0, hl0]
      exact k0 (Or.inr hbt) _ (m_post_top hm hZ hw hB hn hz (1, r.2))
    · rcases ev_mn m1 with hmb | ⟨j, hj, rfl⟩
      · simp (disch := omega) only [t_X8_make_0, t_X8_make_1, t_X8_make_2, t_X8_make_5, t_X8_make_6, t_X8_make_7, t_X8_make_10, t_X8_make_11, t_X8_make_12, t_X8_make_13, t_X8_make_15, t_X8_make_18, t_X8_make_21, t_X8_make_22, t_X8_make_26, t_X8_make_27, t_X8_make_30, t_X8_make_33, t_X8_make_34, ↓reduceIte, ev_kr_1, ev_isK_y, true_and, show ¬ (1 : Int32) = 0 from by decide, M_isNo_y (Or.inr hbt), hm0, M_isOut_y (v := m1 - 1) (w := 12) (ev_out12 hmb), M_fails_110 h0, hl0]
        exact k0 (Or.inr hbt) _ (m_post_top hm hZ hw hB hn hz (1, r.2))
      · simp (disch := omega) only [t_X8_make_0, t_X8_make_1, t_X8_make_2, t_X8_make_5, t_X8_make_6, t_X8_make_7, t_X8_make_10, t_X8_make_11, t_X8_make_12, t_X8_make_13, t_X8_make_15, t_X8_make_18, t_X8_make_25, t_X8_make_26, t_X8_make_27, t_X8_make_30, t_X8_make_33, t_X8_make_34, ↓reduceIte, ev_kr_1, ev_isK_y, true_and, show ¬ (1 : Int32) = 0 from by decide, M_isNo_y (Or.inr hbt), hm0, nI_pred, M_isOut_n (v := nI j) (w := 12) (nI_pos (by omega)) (nI_ge (b := 12) hj (by omega)), M_fails_100 h0, hl0]
        exact k0 (Or.inr hbt) _ (m_post_top hm hZ hw hB hn hz (1, r.2))
  · by_cases hm0 : m1 = -1
    · have hg := good i hi rfl (Or.inl hm0)
      simp (disch := omega) only [t_X8_make_0, t_X8_make_1, t_X8_make_2, t_X8_make_5, t_X8_make_6, t_X8_make_7, t_X8_make_25, t_X8_make_26, t_X8_make_27, t_X8_make_30, ↓reduceIte, ev_kr_1, ev_isK_y, true_and, M_isNo_n hi, hm0, M_fails_000 h0, hl0]
      rw [hm0] at hg
      exact hg
    · rcases ev_mn m1 with hmb | ⟨j, hj, rfl⟩
      · simp (disch := omega) only [t_X8_make_0, t_X8_make_1, t_X8_make_2, t_X8_make_5, t_X8_make_6, t_X8_make_7, t_X8_make_10, t_X8_make_11, t_X8_make_12, t_X8_make_13, t_X8_make_15, t_X8_make_18, t_X8_make_21, t_X8_make_22, t_X8_make_26, t_X8_make_27, t_X8_make_30, t_X8_make_33, t_X8_make_34, ↓reduceIte, ev_kr_1, ev_isK_y, true_and, show ¬ (1 : Int32) = 0 from by decide, M_isNo_n hi, hm0, M_isOut_y (v := m1 - 1) (w := 12) (ev_out12 hmb), M_fails_010 h0, hl0]
        exact k1 i hi rfl hm0 hmb _ (m_post_top hm hZ hw hB hn hz (2, r.2))
      · have hg := good i hi rfl (Or.inr ⟨nI_le (a := 1) (by omega) (by omega), nI_le (b := 12) (by omega) (by omega)⟩)
        simp (disch := omega) only [t_X8_make_0, t_X8_make_1, t_X8_make_2, t_X8_make_5, t_X8_make_6, t_X8_make_7, t_X8_make_10, t_X8_make_11, t_X8_make_12, t_X8_make_13, t_X8_make_15, t_X8_make_18, t_X8_make_25, t_X8_make_26, t_X8_make_27, t_X8_make_30, ↓reduceIte, ev_kr_1, ev_isK_y, true_and, M_isNo_n hi, hm0, nI_pred, M_isOut_n (v := nI j) (w := 12) (nI_pos (by omega)) (nI_ge (b := 12) hj (by omega)), M_fails_000 h0, hl0]
        exact hg
end M58
end
section
/-! ===== the reference: walks ===== -/
section M59
variable {X : ev_E} {zf : Nat → Nat} {y : Nat} {r : Int32 × Int32 × Int32} {T : Nat → ev_TS} {As : List Nat} {H : ev_M} {ow : Nat → Nat} {n q : Nat} {P : ev_O → ev_M → Nat → Nat → Prop}
theorem MM_walk (hm : m_aw X zf y r T As H n ow) (hx : m_cx X zf y T As H n) {t w : Int32} (k0 : t < 0 ∨ nI 4 ≤ t → ∀ H1, m_post X zf y H n q (1, r.2) T As H1 n q → P (.inl (some (.int 0))) H1 n q)
    (k1 : ∀ i, i < 4 → t = nI i → ((w < 0 ∨ nI 3 ≤ w)) → ∀ H1, m_post X zf y H n q (2, r.2) T As H1 n q → P (.inl (some (.int 0))) H1 n q)
    (k2 : ∀ i a, i < 4 → t = nI i → a < 3 → w = nI a → ∀ H1 n1 q1, m_post X zf y H n q (0, r.2) (mg_T T i (ps_gen (T i).1 (T i).2.1.1 (T i).2.1.2.1 (T i).2.1.2.2.1 (T i).2.1.2.2.2 true false false w 0)) As H1 n1 q1 → P (.inl (some (.int (nI (T i).1.length)))) H1 n1 q1) : ev_ok (ev_TT X) 170 0 [.ref y, .int t, .int w, ev_J] [] H n q P := by
  have hx0 := hx
  obtain ⟨hZ, hw, hB, hn, hz, hT, hW⟩ := hx0
  have h0 := m_h0 hm
  have hl0 := m_lk0 hm
  have hk13 := m_k13 hm
  rcases pk_ix t (n := 4) (by omega) with hbt | hbt | ⟨i, hi, rfl⟩
  · skip
    rcases pk_ix w (n := 3) (by omega) with hb_w | hb_w | ⟨a_w, ha_w, rfl⟩
    · skip
      simp (disch := omega) only [t_X8_walk_0, t_X8_walk_1, t_X8_walk_2, t_X8_walk_5, t_X8_walk_6, t_X8_walk_7, t_X8_walk_10, t_X8_walk_11, t_X8_walk_14, t_X8_walk_17, t_X8_walk_18, ↓reduceIte, ev_kr_1, ev_isK_y, true_and, show ¬ (1 : Int32) = 0 from by decide, M_isNo_y (Or.inl hbt), M_isOut_y (v := w) (w := 3) (Or.inl hb_w), M_fails_110 h0, hl0]
      exact k0 (Or.inl hbt) _ (m_post_top hm hZ hw hB hn hz (1, r.2))
    · skip
      simp (disch := omega) only [t_X8_walk_0, t_X8_walk_1, t_X8_walk_2, t_X8_walk_5, t_X8_walk_6, t_X8_walk_7, t_X8_walk_10, t_X8_walk_11, t_X8_walk_14, t_X8_walk_17, t_X8_walk_18, ↓reduceIte, ev_kr_1, ev_isK_y, true_and, show ¬ (1 : Int32) = 0 from by decide, M_isNo_y (Or.inl hbt), M_isOut_y (v := w) (w := 3) (Or.inr hb_w), M_fails_110 h0, hl0]
      exact k0 (Or.inl hbt) _ (m_post_top hm hZ hw hB hn hz (1, r.2))
    · skip
      simp (disch := omega) only [t_X8_walk_0, t_X8_walk_1, t_X8_walk_2, t_X8_walk_5, t_X8_walk_6, t_X8_walk_7, t_X8_walk_10, t_X8_walk_11, t_X8_walk_14, t_X8_walk_17, t_X8_walk_18, ↓reduceIte, ev_kr_1, ev_isK_y, true_and, show ¬ (1 : Int32) = 0 from by decide, M_isNo_y (Or.inl hbt), M_isOut_n (v := nI a_w) (w := 3) (nI_pos (by omega)) (nI_ge (b := 3) ha_w (by omega)), M_fails_100 h0, hl0]
      exact k0 (Or.inl hbt) _ (m_post_top hm hZ hw hB hn hz (1, r.2))
  · skip
    rcases pk_ix w (n := 3) (by omega) with hb_w | hb_w | ⟨a_w, ha_w, rfl⟩
    · skip
      simp (disch := omega) only [t_X8_walk_0, t_X8_walk_1, t_X8_walk_2, t_X8_walk_5, t_X8_walk_6, t_X8_walk_7, t_X8_walk_10, t_X8_walk_11, t_X8_walk_14, t_X8_walk_17, t_X8_walk_18, ↓reduceIte, ev_kr_1, ev_isK_y, true_and, show ¬ (1 : Int32) = 0 from by decide, M_isNo_y (Or.inr hbt), M_isOut_y (v := w) (w := 3) (Or.inl hb_w), M_fails_110 h0, hl0]
      exact k0 (Or.inr hbt) _ (m_post_top hm hZ hw hB hn hz (1, r.2))
    · skip
      simp (disch := omega) only [t_X8_walk_0, t_X8_walk_1, t_X8_walk_2, t_X8_walk_5, t_X8_walk_6, t_X8_walk_7, t_X8_walk_10, t_X8_walk_11, t_X8_walk_14, t_X8_walk_17, t_X8_walk_18, ↓reduceIte, ev_kr_1, ev_isK_y, true_and, show ¬ (1 : Int32) = 0 from by decide, M_isNo_y (Or.inr hbt), M_isOut_y (v := w) (w := 3) (Or.inr hb_w), M_fails_110 h0, hl0]
      exact k0 (Or.inr hbt) _ (m_post_top hm hZ hw hB hn hz (1, r.2))
    · skip
      simp (disch := omega) only [t_X8_walk_0, t_X8_walk_1, t_X8_walk_2, t_X8_walk_5, t_X8_walk_6, t_X8_walk_7, t_X8_walk_10, t_X8_walk_11, t_X8_walk_14, t_X8_walk_17, t_X8_walk_18, ↓reduceIte, ev_kr_1, ev_isK_y, true_and, show ¬ (1 : Int32) = 0 from by decide, M_isNo_y (Or.inr hbt), M_isOut_n (v := nI a_w) (w := 3) (nI_pos (by omega)) (nI_ge (b := 3) ha_w (by omega)), M_fails_100 h0, hl0]
      exact k0 (Or.inr hbt) _ (m_post_top hm hZ hw hB hn hz (1, r.2))
  · skip
    rcases pk_ix w (n := 3) (by omega) with hb_w | hb_w | ⟨a_w, ha_w, rfl⟩
    · skip
      simp (disch := omega) only [t_X8_walk_0, t_X8_walk_1, t_X8_walk_2, t_X8_walk_5, t_X8_walk_6, t_X8_walk_7, t_X8_walk_10, t_X8_walk_11, t_X8_walk_14, t_X8_walk_17, t_X8_walk_18, ↓reduceIte, ev_kr_1, ev_isK_y, true_and, show ¬ (1 : Int32) = 0 from by decide, M_isNo_n hi, M_isOut_y (v := w) (w := 3) (Or.inl hb_w), M_fails_010 h0, hl0]
      exact k1 i hi rfl (Or.inl hb_w) _ (m_post_top hm hZ hw hB hn hz (2, r.2))
    · skip
      simp (disch := omega) only [t_X8_walk_0, t_X8_walk_1, t_X8_walk_2, t_X8_walk_5, t_X8_walk_6, t_X8_walk_7, t_X8_walk_10, t_X8_walk_11, t_X8_walk_14, t_X8_walk_17, t_X8_walk_18, ↓reduceIte, ev_kr_1, ev_isK_y, true_and, show ¬ (1 : Int32) = 0 from by decide, M_isNo_n hi, M_isOut_y (v := w) (w := 3) (Or.inr hb_w), M_fails_010 h0, hl0]
      exact k1 i hi rfl (Or.inr hb_w) _ (m_post_top hm hZ hw hB hn hz (2, r.2))
    · skip
      simp (disch := omega) only [t_X8_walk_0, t_X8_walk_1, t_X8_walk_2, t_X8_walk_5, t_X8_walk_6, t_X8_walk_7, t_X8_walk_10, t_X8_walk_11, t_X8_walk_14, ↓reduceIte, ev_kr_1, ev_isK_y, true_and, M_isNo_n hi, M_isOut_n (v := nI a_w) (w := 3) (nI_pos (by omega)) (nI_ge (b := 3) ha_w (by omega)), M_fails_000 h0, hl0]
      have hm1 := m_aw_top hm hZ hw hB (0, r.2)
      have hx1 := m_cx_top hx (0, r.2)
      have hp0 : m_post X zf y H n q (0, r.2) T As (ev_up H y (m_top y (0, r.2))) n q := m_post_top hm hZ hw hB hn hz (0, r.2)
      have hup := fun (r2 : Int32 × Int32 × Int32) (T2 : Nat → ev_TS) (H2 : ev_M) (n2 q2 : Nat) => @m_post_up X zf y r2 T2 As H H2 n q (0, r.2) n2 q2
      generalize ev_up H y (m_top y (0, r.2)) = H1 at hm1 hx1 hp0 hup ⊢
      obtain ⟨-, hw1, -, -, hz1, -, -⟩ := hx1
      have h10 := m_h0 hm1
      have hl10 := m_lk0 hm1
      have hk13 := m_k13 hm1
      obtain ⟨f, hf1, hf2⟩ := m_lk1 hm1
      have hfi := hf2 i hi
      have hpi := nI_pos' (n := i) (by omega)
      have hci := nI_clamp (n := i) (by omega)
      have hTi := hT i hi
      have hli := okL_len hTi.1
      obtain ⟨qs, hC⟩ := mc_0 (q := q) hm1 hi hz1
      have htk := mc_tk hC
      have hlk := mc_lk hC
      have ht := hC.2.1
      have hkl := mc_kl hC
      have hlen := mc_len hC
      unfold m_tbc at hlk ht
      have hK := k2 i a_w hi rfl ha_w rfl
      have hE := mc_fld hB hi hn hC (ps_gen (T i).1 (T i).2.1.1 (T i).2.1.2.1 (T i).2.1.2.2.1 (T i).2.1.2.2.2 true false false (nI a_w) 0) rfl
      have hkl2 := mc_kl hE
      have hgo : ∀ H2, m_cur X y i H1 n q ow 0 0 (0, r.2) (ps_gen (T i).1 (T i).2.1.1 (T i).2.1.2.1 (T i).2.1.2.2.1 (T i).2.1.2.2.2 true false false (nI a_w) 0) H2 n q ow qs → ev_ok (ev_TT X) 170 46 [.ref y, .int (nI i), .int (nI a_w), .ref (y + 2 + 2 * i)] [] H2 n q P := by
        intro H2 hC1
        have htk := mc_tk hC1
        have hlk := mc_lk hC1
        have ht := hC1.2.1
        have hkl := mc_kl hC1
        have hl0 := ev_lk_s (X := X) hC1.1
        unfold m_tbc at hlk ht
        unfold m_top at hl0
        simp (disch := omega) only [t_X8_walk_46, t_X8_walk_47, t_X8_walk_50, true_and, ev_fG_0, ev_isO_0, hlk, hkl]
        refine ML_size hC1.2.2.1 ?_
        simp (disch := omega) only [t_X8_walk_53, ev_kr_1]
        rw [← hlen]
        exact hK _ _ _ (hup _ _ _ _ _ (mc_end hm1 hZ hw1 hB hi hn hC1 (by omega) (by omega)))
      simp (disch := omega) only [t_X8_walk_19, t_X8_walk_20, t_X8_walk_23, t_X8_walk_24, t_X8_walk_25, t_X8_walk_26, t_X8_walk_27, t_X8_walk_28, t_X8_walk_31, t_X8_walk_32, t_X8_walk_33, t_X8_walk_36, t_X8_walk_37, t_X8_walk_38, t_X8_walk_41, t_X8_walk_42, t_X8_walk_43, ev_k_i, ev_aG_y, ev_ft_I, ev_ft_0, and_true, true_and, ev_fG_3, ev_fS_5, ev_fS_6, ev_fS_7, ev_fS_8, ev_isO_3, ev_isO_5, ev_isO_6, ev_isO_7, ev_isO_8, hl10, hf1, hfi, hpi, hci, hi, ev_inA_5, ev_up_s, ht, ev_up_up]
      exact hgo _ hE
theorem MM_step (hm : m_aw X zf y r T As H n ow) (hx : m_cx X zf y T As H n) {t : Int32} (k0 : t < 0 ∨ nI 4 ≤ t → ∀ H1, m_post X zf y H n q (1, r.2) T As H1 n q → P (.inl (some (.int 0))) H1 n q)
    (kR : ∀ i, i < 4 → t = nI i → ((T i).2.2.1.1 && !(T i).2.2.1.2.1) = false → ∀ H1, m_post X zf y H n q (0, r.2.1 + 1, r.2.2) T As H1 n q → P (.inl (some (.int (-9)))) H1 n q)
    (kN : ∀ i, i < 4 → t = nI i → ((T i).2.2.1.1 && !(T i).2.2.1.2.1) = true → ¬ (T i).2.2.2.2 < (T i).1.length → ∀ H1, m_post X zf y H n q (0, r.2) T As H1 n q → P (.inl (some (.int (-8)))) H1 n q)
    (kA : ∀ i, i < 4 → t = nI i → ((T i).2.2.1.1 && !(T i).2.2.1.2.1) = true → (T i).2.2.2.2 < (T i).1.length → ∀ H1 n1 q1, m_post X zf y H n q (0, r.2) (mg_T T i (ps_gen (T i).1 (T i).2.1.1 (T i).2.1.2.1 (T i).2.1.2.2.1 (T i).2.1.2.2.2 (T i).2.2.1.1 (T i).2.2.1.2.1 true (T i).2.2.2.1 ((T i).2.2.2.2 + 1))) As H1 n1 q1 → P (.inl (some (.int (pr_told (T i).1 (nI (T i).2.2.2.2) (T i).2.2.2.1)))) H1 n1 q1) : ev_ok (ev_TT X) 241 0 [.ref y, .int t, ev_J] [] H n q P := by
  have hx0 := hx
  obtain ⟨hZ, hw, hB, hn, hz, hT, hW⟩ := hx0
  have h0 := m_h0 hm
  have hl0 := m_lk0 hm
  have hk13 := m_k13 hm
  rcases pk_ix t (n := 4) (by omega) with hbt | hbt | ⟨i, hi, rfl⟩
  · skip
    simp (disch := omega) only [t_X8_step_0, t_X8_step_1, t_X8_step_2, t_X8_step_5, t_X8_step_6, t_X8_step_7, t_X8_step_10, t_X8_step_13, t_X8_step_14, ↓reduceIte, ev_kr_1, ev_isK_y, true_and, show ¬ (1 : Int32) = 0 from by decide, M_isNo_y (Or.inl hbt), M_fails_100 h0, hl0]
    exact k0 (Or.inl hbt) _ (m_post_top hm hZ hw hB hn hz (1, r.2))
  · skip
    simp (disch := omega) only [t_X8_step_0, t_X8_step_1, t_X8_step_2, t_X8_step_5, t_X8_step_6, t_X8_step_7, t_X8_step_10, t_X8_step_13, t_X8_step_14, ↓reduceIte, ev_kr_1, ev_isK_y, true_and, show ¬ (1 : Int32) = 0 from by decide, M_isNo_y (Or.inr hbt), M_fails_100 h0, hl0]
    exact k0 (Or.inr hbt) _ (m_post_top hm hZ hw hB hn hz (1, r.2))
  · skip
    simp (disch := omega) only [t_X8_step_0, t_X8_step_1, t_X8_step_2, t_X8_step_5, t_X8_step_6, t_X8_step_7, t_X8_step_10, ↓reduceIte, ev_kr_1, ev_isK_y, true_and, M_isNo_n hi, M_fails_000 h0, hl0]
    have hm1 := m_aw_top hm hZ hw hB (0, r.2)
    have hx1 := m_cx_top hx (0, r.2)
    have hp0 : m_post X zf y H n q (0, r.2) T As (ev_up H y (m_top y (0, r.2))) n q := m_post_top hm hZ hw hB hn hz (0, r.2)
    have hup := fun (r2 : Int32 × Int32 × Int32) (T2 : Nat → ev_TS) (H2 : ev_M) (n2 q2 : Nat) => @m_post_up X zf y r2 T2 As H H2 n q (0, r.2) n2 q2
    generalize ev_up H y (m_top y (0, r.2)) = H1 at hm1 hx1 hp0 hup ⊢
    obtain ⟨-, hw1, -, -, hz1, -, -⟩ := hx1
    have h10 := m_h0 hm1
    have hl10 := m_lk0 hm1
    have hk13 := m_k13 hm1
    obtain ⟨f, hf1, hf2⟩ := m_lk1 hm1
    have hfi := hf2 i hi
    have hpi := nI_pos' (n := i) (by omega)
    have hci := nI_clamp (n := i) (by omega)
    have hTi := hT i hi
    have hli := okL_len hTi.1
    obtain ⟨qs, hC⟩ := mc_0 (q := q) hm1 hi hz1
    have htk := mc_tk hC
    have hlk := mc_lk hC
    have ht := hC.2.1
    have hkl := mc_kl hC
    have hlen := mc_len hC
    unfold m_tbc at hlk ht
    have hlkM := mc_lk hC
    have hkd := m_kd (hW i hi)
    have hkn : (T i).2.2.2.2 < 2 ^ 31 := by have := hTi.2.2.1; omega
    simp (disch := omega) only [t_X8_step_15, t_X8_step_16, t_X8_step_19, t_X8_step_20, t_X8_step_21, t_X8_step_22, t_X8_step_23, ev_k_i, ev_isK_y, ev_aG_y, and_true, true_and, ev_fG_3, ev_isO_3, hl10, hf1, hfi, hpi, hci, hi, ev_inA_5, hlk]
    refine M_isOn hlkM hkd ?_
    rcases hu : ((T i).2.2.1.1 && !(T i).2.2.1.2.1) with _ | _
    · simp (disch := omega) only [t_X8_step_26, t_X8_step_29, t_X8_step_30, t_X8_step_33, ↓reduceIte, ev_kr_1, ev_isK_y, true_and, not_true_eq_false, not_true_eq_false, hl10, ev_bb_f, M_no h10]
      exact kR i hi rfl hu _ (hup _ _ _ _ _ (m_post_top hm1 hZ hw1 hB hn hz1 _))
    · skip
      have hub := Bool.and_eq_true_iff.mp hu
      have hbg : (T i).2.2.1.1 = true := hub.1
      have hol : (T i).2.2.1.2.1 = false := by have := hub.2; rcases ho : (T i).2.2.1.2.1 with _ | _ <;> simp_all
      simp (disch := omega) only [t_X8_step_26, t_X8_step_34, t_X8_step_35, ↓reduceIte, ev_kr_1, ev_isK_y, true_and, not_false_eq_true, show ¬ (1 : Int32) = 0 from by decide, not_false_eq_true, hlk, ev_bb_t]
      refine M_hasMoreT hC hli hkn hkd ?_
      rw [hu]
      by_cases hv : (T i).2.2.2.2 < (T i).1.length
      · rw [decide_eq_true hv]
        simp (disch := omega) only [t_X8_step_38, t_X8_step_41, t_X8_step_42, ↓reduceIte, ev_kr_1, ev_isK_y, true_and, show ¬ (1 : Int32) = 0 from by decide, hlk, Bool.true_and, ev_bb_t]
        refine M_step hB hC hi hn hli hbg hv (hW i hi) fun H2 hC1 _ => ?_
        simp (disch := omega) only [t_X8_step_45, t_X8_step_50, ev_kr_1]
        exact kA i hi rfl hu hv _ _ _ (hup _ _ _ _ _ (mc_end hm1 hZ hw1 hB hi hn hC1 (by omega) (by omega)))
      · rw [decide_eq_false hv]
        simp (disch := omega) only [t_X8_step_38, t_X8_step_48, t_X8_step_50, ↓reduceIte, ev_kr_1, Bool.and_false, ev_bb_f]
        exact kN i hi rfl hu hv _ hp0
theorem MM_rest (hm : m_aw X zf y r T As H n ow) (hx : m_cx X zf y T As H n) {t : Int32} (k0 : t < 0 ∨ nI 4 ≤ t → ∀ H1, m_post X zf y H n q (1, r.2) T As H1 n q → P (.inl (some (.int 0))) H1 n q)
    (kR : ∀ i, i < 4 → t = nI i → ((T i).2.2.1.1 && !(T i).2.2.1.2.1) = false → ∀ H1, m_post X zf y H n q (0, r.2.1 + 1, r.2.2) T As H1 n q → P (.inl (some (.int (-9)))) H1 n q)
    (kA : ∀ i, i < 4 → t = nI i → ((T i).2.2.1.1 && !(T i).2.2.1.2.1) = true → ∀ H1 n1 q1, m_post X zf y H n q (0, r.2) (mg_T T i (ps_gen (T i).1 (T i).2.1.1 (T i).2.1.2.1 (T i).2.1.2.2.1 (T i).2.1.2.2.2 (T i).2.2.1.1 (T i).2.2.1.2.1 ((T i).2.2.1.2.2 || decide (0 < (T i).1.length - (T i).2.2.2.2)) (T i).2.2.2.1 (T i).1.length)) As H1 n1 q1 → P (.inl (some (.int (pr_acc (T i).1 (T i).2.2.2.1 ((T i).1.length - (T i).2.2.2.2) (T i).2.2.2.2 0)))) H1 n1 q1) : ev_ok (ev_TT X) 240 0 [.ref y, .int t, ev_J, ev_J] [] H n q P := by
  have hx0 := hx
  obtain ⟨hZ, hw, hB, hn, hz, hT, hW⟩ := hx0
  have h0 := m_h0 hm
  have hl0 := m_lk0 hm
  have hk13 := m_k13 hm
  rcases pk_ix t (n := 4) (by omega) with hbt | hbt | ⟨i, hi, rfl⟩
  · skip
    simp (disch := omega) only [t_X8_rest_0, t_X8_rest_1, t_X8_rest_2, t_X8_rest_5, t_X8_rest_6, t_X8_rest_7, t_X8_rest_10, t_X8_rest_13, t_X8_rest_14, ↓reduceIte, ev_kr_1, ev_isK_y, true_and, show ¬ (1 : Int32) = 0 from by decide, M_isNo_y (Or.inl hbt), M_fails_100 h0, hl0]
    exact k0 (Or.inl hbt) _ (m_post_top hm hZ hw hB hn hz (1, r.2))
  · skip
    simp (disch := omega) only [t_X8_rest_0, t_X8_rest_1, t_X8_rest_2, t_X8_rest_5, t_X8_rest_6, t_X8_rest_7, t_X8_rest_10, t_X8_rest_13, t_X8_rest_14, ↓reduceIte, ev_kr_1, ev_isK_y, true_and, show ¬ (1 : Int32) = 0 from by decide, M_isNo_y (Or.inr hbt), M_fails_100 h0, hl0]
    exact k0 (Or.inr hbt) _ (m_post_top hm hZ hw hB hn hz (1, r.2))
  · skip
    simp (disch := omega) only [t_X8_rest_0, t_X8_rest_1, t_X8_rest_2, t_X8_rest_5, t_X8_rest_6, t_X8_rest_7, t_X8_rest_10, ↓reduceIte, ev_kr_1, ev_isK_y, true_and, M_isNo_n hi, M_fails_000 h0, hl0]
    have hm1 := m_aw_top hm hZ hw hB (0, r.2)
    have hx1 := m_cx_top hx (0, r.2)
    have hp0 : m_post X zf y H n q (0, r.2) T As (ev_up H y (m_top y (0, r.2))) n q := m_post_top hm hZ hw hB hn hz (0, r.2)
    have hup := fun (r2 : Int32 × Int32 × Int32) (T2 : Nat → ev_TS) (H2 : ev_M) (n2 q2 : Nat) => @m_post_up X zf y r2 T2 As H H2 n q (0, r.2) n2 q2
    generalize ev_up H y (m_top y (0, r.2)) = H1 at hm1 hx1 hp0 hup ⊢
    obtain ⟨-, hw1, -, -, hz1, -, -⟩ := hx1
    have h10 := m_h0 hm1
    have hl10 := m_lk0 hm1
    have hk13 := m_k13 hm1
    obtain ⟨f, hf1, hf2⟩ := m_lk1 hm1
    have hfi := hf2 i hi
    have hpi := nI_pos' (n := i) (by omega)
    have hci := nI_clamp (n := i) (by omega)
    have hTi := hT i hi
    have hli := okL_len hTi.1
    obtain ⟨qs, hC⟩ := mc_0 (q := q) hm1 hi hz1
    have htk := mc_tk hC
    have hlk := mc_lk hC
    have ht := hC.2.1
    have hkl := mc_kl hC
    have hlen := mc_len hC
    unfold m_tbc at hlk ht
    have hlkM := mc_lk hC
    have hkd := m_kd (hW i hi)
    have hkn : (T i).2.2.2.2 < 2 ^ 31 := by have := hTi.2.2.1; omega
    simp (disch := omega) only [t_X8_rest_15, t_X8_rest_16, t_X8_rest_19, t_X8_rest_20, t_X8_rest_21, t_X8_rest_22, t_X8_rest_23, ev_k_i, ev_isK_y, ev_aG_y, and_true, true_and, ev_fG_3, ev_isO_3, hl10, hf1, hfi, hpi, hci, hi, ev_inA_5, hlk]
    refine M_isOn hlkM hkd ?_
    rcases hu : ((T i).2.2.1.1 && !(T i).2.2.1.2.1) with _ | _
    · simp (disch := omega) only [t_X8_rest_26, t_X8_rest_29, t_X8_rest_30, t_X8_rest_33, ↓reduceIte, ev_kr_1, ev_isK_y, true_and, not_true_eq_false, not_true_eq_false, hl10, ev_bb_f, M_no h10]
      exact kR i hi rfl hu _ (hup _ _ _ _ _ (m_post_top hm1 hZ hw1 hB hn hz1 _))
    · skip
      have hub := Bool.and_eq_true_iff.mp hu
      have hbg : (T i).2.2.1.1 = true := hub.1
      have hol : (T i).2.2.1.2.1 = false := by have := hub.2; rcases ho : (T i).2.2.1.2.1 with _ | _ <;> simp_all
      have hkl0 := (hTi.2.2.2 hbg hol).1
      have key : ∀ d cd k sum H2, k + d = (T i).1.length → m_cur X y i H1 n q ow 0 0 (0, r.2) (ps_gen (T i).1 (T i).2.1.1 (T i).2.1.2.1 (T i).2.1.2.2.1 (T i).2.1.2.2.2 (T i).2.2.1.1 (T i).2.2.1.2.1 cd (T i).2.2.2.1 k) H2 n q ow qs → (∀ H3, m_cur X y i H1 n q ow 0 0 (0, r.2) (ps_gen (T i).1 (T i).2.1.1 (T i).2.1.2.1 (T i).2.1.2.2.1 (T i).2.1.2.2.2 (T i).2.2.1.1 (T i).2.2.1.2.1 (cd || decide (0 < d)) (T i).2.2.2.1 (k + d)) H3 n q ow qs → P (.inl (some (.int (pr_acc (T i).1 (T i).2.2.2.1 d k sum)))) H3 n q) → ev_ok (ev_TT X) 240 36 [.ref y, .int (nI i), .ref (y + 2 + 2 * i), .int sum] [] H2 n q P := by
        intro d
        induction d with
        | zero =>
          intro cd k sum H2 hk hC1 c
          have htk1 := mc_tk hC1
          simp (disch := omega) only [t_X8_rest_36, t_X8_rest_37, true_and, htk1]
          refine M_hasMoreT hC1 hli (by show k < 2 ^ 31; omega) hkd ?_
          have e1 : (((ps_gen (T i).1 (T i).2.1.1 (T i).2.1.2.1 (T i).2.1.2.2.1 (T i).2.1.2.2.2 (T i).2.2.1.1 (T i).2.2.1.2.1 cd (T i).2.2.2.1 k)).2.2.1.1 && !((ps_gen (T i).1 (T i).2.1.1 (T i).2.1.2.1 (T i).2.1.2.2.1 (T i).2.1.2.2.2 (T i).2.2.1.1 (T i).2.2.1.2.1 cd (T i).2.2.2.1 k)).2.2.1.2.1 && decide (((ps_gen (T i).1 (T i).2.1.1 (T i).2.1.2.1 (T i).2.1.2.2.1 (T i).2.1.2.2.2 (T i).2.2.1.1 (T i).2.2.1.2.1 cd (T i).2.2.2.1 k)).2.2.2.2 < ((ps_gen (T i).1 (T i).2.1.1 (T i).2.1.2.1 (T i).2.1.2.2.1 (T i).2.1.2.2.2 (T i).2.2.1.1 (T i).2.2.1.2.1 cd (T i).2.2.2.1 k)).1.length)) = false := by
            show (((T i).2.2.1.1 && !(T i).2.2.1.2.1) && decide (k < (T i).1.length)) = false
            rw [decide_eq_false (by omega), Bool.and_false]
          rw [e1]
          have h9 := c H2 (by
            rw [show decide (0 < 0) = false from rfl, Bool.or_false, Nat.add_zero]
            exact hC1)
          simp (disch := omega) only [t_X8_rest_40, t_X8_rest_53, t_X8_rest_54, ↓reduceIte, ev_kr_1, ev_bb_f]
          exact h9
        | succ d ih =>
          intro cd k sum H2 hk hC1 c
          have htk1 := mc_tk hC1
          rw [t_X8_rest_36]
          simp (disch := omega) only [t_X8_rest_37, true_and, htk1]
          refine M_hasMoreT hC1 hli (by show k < 2 ^ 31; omega) hkd ?_
          have e1 : (((ps_gen (T i).1 (T i).2.1.1 (T i).2.1.2.1 (T i).2.1.2.2.1 (T i).2.1.2.2.2 (T i).2.2.1.1 (T i).2.2.1.2.1 cd (T i).2.2.2.1 k)).2.2.1.1 && !((ps_gen (T i).1 (T i).2.1.1 (T i).2.1.2.1 (T i).2.1.2.2.1 (T i).2.1.2.2.2 (T i).2.2.1.1 (T i).2.2.1.2.1 cd (T i).2.2.2.1 k)).2.2.1.2.1 && decide (((ps_gen (T i).1 (T i).2.1.1 (T i).2.1.2.1 (T i).2.1.2.2.1 (T i).2.1.2.2.2 (T i).2.2.1.1 (T i).2.2.1.2.1 cd (T i).2.2.2.1 k)).2.2.2.2 < ((ps_gen (T i).1 (T i).2.1.1 (T i).2.1.2.1 (T i).2.1.2.2.1 (T i).2.1.2.2.2 (T i).2.2.1.1 (T i).2.2.1.2.1 cd (T i).2.2.2.1 k)).1.length)) = true := by
            show (((T i).2.2.1.1 && !(T i).2.2.1.2.1) && decide (k < (T i).1.length)) = true
            rw [hu, decide_eq_true (by omega), Bool.true_and]
          rw [e1]
          simp (disch := omega) only [t_X8_rest_40, t_X8_rest_43, t_X8_rest_44, t_X8_rest_45, ↓reduceIte, ev_kr_1, true_and, show ¬ (1 : Int32) = 0 from by decide, ev_bb_t, htk1]
          refine M_step hB hC1 hi hn hli hbg (by show k < (T i).1.length; omega) (hW i hi) fun H3 hC2 _ => ?_
          have hI := ih true (k + 1) (sum + pr_told (T i).1 (nI k) (T i).2.2.2.1) H3 (by omega) hC2 (fun H4 h4 => c H4 (by
            rw [show (cd || decide (0 < d + 1)) = (true || decide (0 < d)) from by rw [decide_eq_true (show 0 < d + 1 from Nat.succ_pos d), Bool.or_true, Bool.true_or], show k + (d + 1) = k + 1 + d from by omega]
            exact h4))
          simp (disch := omega) only [t_X8_rest_48, t_X8_rest_49, t_X8_rest_50, ev_k_r, ev_kr_1]
          exact hI
      simp (disch := omega) only [t_X8_rest_26, t_X8_rest_34, t_X8_rest_35, ↓reduceIte, ev_k_r, ev_kr_1, not_false_eq_true, show ¬ (1 : Int32) = 0 from by decide, not_false_eq_true, ev_bb_t]
      refine key ((T i).1.length - (T i).2.2.2.2) (T i).2.2.1.2.2 (T i).2.2.2.2 0 H1 (by omega) hC (fun H3 h3 => ?_)
      rw [show (T i).2.2.2.2 + ((T i).1.length - (T i).2.2.2.2) = (T i).1.length from by omega] at h3
      exact kA i hi rfl hu _ _ _ (hup _ _ _ _ _ (mc_end hm1 hZ hw1 hB hi hn h3 (by omega) (by omega)))
theorem MM_cut (hm : m_aw X zf y r T As H n ow) (hx : m_cx X zf y T As H n) {t : Int32} (k0 : t < 0 ∨ nI 4 ≤ t → ∀ H1, m_post X zf y H n q (1, r.2) T As H1 n q → P (.inl (some (.int 0))) H1 n q)
    (kR : ∀ i, i < 4 → t = nI i → (((T i).2.2.1.1 && !(T i).2.2.1.2.1) && (T i).2.2.1.2.2) = false → ∀ H1, m_post X zf y H n q (0, r.2.1 + 1, r.2.2) T As H1 n q → P (.inl (some (.int (-9)))) H1 n q)
    (kA : ∀ i k, i < 4 → t = nI i → (((T i).2.2.1.1 && !(T i).2.2.1.2.1) && (T i).2.2.1.2.2) = true → (T i).2.2.2.2 = k + 1 → k < (T i).1.length → ∀ H1 n1 q1, m_post X zf y H n q (0, r.2) (mg_T T i (ps_gen ((T i).1.eraseIdx k) (T i).2.1.1 (T i).2.1.2.1 (T i).2.1.2.2.1 (T i).2.1.2.2.2 (T i).2.2.1.1 (T i).2.2.1.2.1 false (T i).2.2.2.1 k)) As H1 n1 q1 → P (.inl (some (.int (nI ((T i).1.eraseIdx k).length)))) H1 n1 q1) : ev_ok (ev_TT X) 211 0 [.ref y, .int t, ev_J] [] H n q P := by
  have hx0 := hx
  obtain ⟨hZ, hw, hB, hn, hz, hT, hW⟩ := hx0
  have h0 := m_h0 hm
  have hl0 := m_lk0 hm
  have hk13 := m_k13 hm
  rcases pk_ix t (n := 4) (by omega) with hbt | hbt | ⟨i, hi, rfl⟩
  · skip
    simp (disch := omega) only [t_X8_cut_0, t_X8_cut_1, t_X8_cut_2, t_X8_cut_5, t_X8_cut_6, t_X8_cut_7, t_X8_cut_10, t_X8_cut_13, t_X8_cut_14, ↓reduceIte, ev_kr_1, ev_isK_y, true_and, show ¬ (1 : Int32) = 0 from by decide, M_isNo_y (Or.inl hbt), M_fails_100 h0, hl0]
    exact k0 (Or.inl hbt) _ (m_post_top hm hZ hw hB hn hz (1, r.2))
  · skip
    simp (disch := omega) only [t_X8_cut_0, t_X8_cut_1, t_X8_cut_2, t_X8_cut_5, t_X8_cut_6, t_X8_cut_7, t_X8_cut_10, t_X8_cut_13, t_X8_cut_14, ↓reduceIte, ev_kr_1, ev_isK_y, true_and, show ¬ (1 : Int32) = 0 from by decide, M_isNo_y (Or.inr hbt), M_fails_100 h0, hl0]
    exact k0 (Or.inr hbt) _ (m_post_top hm hZ hw hB hn hz (1, r.2))
  · skip
    simp (disch := omega) only [t_X8_cut_0, t_X8_cut_1, t_X8_cut_2, t_X8_cut_5, t_X8_cut_6, t_X8_cut_7, t_X8_cut_10, ↓reduceIte, ev_kr_1, ev_isK_y, true_and, M_isNo_n hi, M_fails_000 h0, hl0]
    have hm1 := m_aw_top hm hZ hw hB (0, r.2)
    have hx1 := m_cx_top hx (0, r.2)
    have hp0 : m_post X zf y H n q (0, r.2) T As (ev_up H y (m_top y (0, r.2))) n q := m_post_top hm hZ hw hB hn hz (0, r.2)
    have hup := fun (r2 : Int32 × Int32 × Int32) (T2 : Nat → ev_TS) (H2 : ev_M) (n2 q2 : Nat) => @m_post_up X zf y r2 T2 As H H2 n q (0, r.2) n2 q2
    generalize ev_up H y (m_top y (0, r.2)) = H1 at hm1 hx1 hp0 hup ⊢
    obtain ⟨-, hw1, -, -, hz1, -, -⟩ := hx1
    have h10 := m_h0 hm1
    have hl10 := m_lk0 hm1
    have hk13 := m_k13 hm1
    obtain ⟨f, hf1, hf2⟩ := m_lk1 hm1
    have hfi := hf2 i hi
    have hpi := nI_pos' (n := i) (by omega)
    have hci := nI_clamp (n := i) (by omega)
    have hTi := hT i hi
    have hli := okL_len hTi.1
    obtain ⟨qs, hC⟩ := mc_0 (q := q) hm1 hi hz1
    have htk := mc_tk hC
    have hlk := mc_lk hC
    have ht := hC.2.1
    have hkl := mc_kl hC
    have hlen := mc_len hC
    unfold m_tbc at hlk ht
    have hkd := m_kd (hW i hi)
    have hlkM := mc_lk hC
    simp (disch := omega) only [t_X8_cut_15, t_X8_cut_16, t_X8_cut_19, t_X8_cut_20, t_X8_cut_21, t_X8_cut_22, t_X8_cut_23, ev_k_i, ev_isK_y, ev_aG_y, and_true, true_and, ev_fG_3, ev_isO_3, hl10, hf1, hfi, hpi, hci, hi, ev_inA_5, hlk]
    refine M_isOn hlkM hkd ?_
    rcases hu : ((T i).2.2.1.1 && !(T i).2.2.1.2.1) with _ | _
    · have hR := kR i hi rfl (by rw [hu]; rfl) _ (hup _ _ _ _ _ (m_post_top hm1 hZ hw1 hB hn hz1 (0, r.2.1 + 1, r.2.2)))
      simp (disch := omega) only [t_X8_cut_26, t_X8_cut_36, t_X8_cut_37, t_X8_cut_40, ↓reduceIte, ev_kr_1, ev_isK_y, true_and, hl10, ev_bb_f, M_no h10]
      exact hR
    · rcases hcd : (T i).2.2.1.2.2 with _ | _
      · have hR := kR i hi rfl (by rw [hu, hcd]; rfl) _ (hup _ _ _ _ _ (m_post_top hm1 hZ hw1 hB hn hz1 (0, r.2.1 + 1, r.2.2)))
        rw [hcd] at hlk
        simp (disch := omega) only [t_X8_cut_26, t_X8_cut_29, t_X8_cut_30, t_X8_cut_33, t_X8_cut_36, t_X8_cut_37, t_X8_cut_40, ↓reduceIte, ev_kr_1, ev_isK_y, true_and, not_true_eq_false, ev_fG_7, ev_isO_7, show ¬ (1 : Int32) = 0 from by decide, not_true_eq_false, hl10, hlk, ev_bb_t, ev_bb_f, M_no h10]
        exact hR
      · skip
        have hub := Bool.and_eq_true_iff.mp hu
        have hbg : (T i).2.2.1.1 = true := hub.1
        have hol : (T i).2.2.1.2.1 = false := by have := hub.2; rcases ho : (T i).2.2.1.2.1 with _ | _ <;> simp_all
        have hbo := hTi.2.2.2 hbg hol
        have h1k := hbo.2 hcd
        obtain ⟨k, hk⟩ : ∃ k, (T i).2.2.2.2 = k + 1 := ⟨(T i).2.2.2.2 - 1, by omega⟩
        have hkq : k < qs.length := by omega
        have hK := kA i k hi rfl (by rw [hu, hcd]; rfl) hk (by omega)
        have hE := mc_fld hB hi hn hC (ps_gen (T i).1 (T i).2.1.1 (T i).2.1.2.1 (T i).2.1.2.2.1 (T i).2.1.2.2.2 (T i).2.2.1.1 (T i).2.2.1.2.1 false (T i).2.2.2.1 k) rfl
        have hgo : ∀ H2, m_cur X y i H1 n q ow 0 0 (0, r.2) (ps_gen (T i).1 (T i).2.1.1 (T i).2.1.2.1 (T i).2.1.2.2.1 (T i).2.1.2.2.2 (T i).2.2.1.1 (T i).2.2.1.2.1 false (T i).2.2.2.1 k) H2 n q ow qs → ev_ok (ev_TT X) 211 56 [.ref y, .int (nI i), .ref (y + 2 + 2 * i)] [] H2 n q P := by
          intro H2 hC1
          have htk := mc_tk hC1
          have hlk := mc_lk hC1
          have ht := hC1.2.1
          have hkl := mc_kl hC1
          have hl0 := ev_lk_s (X := X) hC1.1
          unfold m_tbc at hlk ht
          unfold m_top at hl0
          dsimp only [ps_gen] at hlk ht
          simp (disch := omega) only [t_X8_cut_56, t_X8_cut_57, t_X8_cut_60, t_X8_cut_61, t_X8_cut_64, true_and, ev_fG_0, ev_fG_6, ev_isO_0, ev_isO_6, hlk, hkl]
          refine mc_remove hC1 hi hn (by omega) hkq fun H3 hC2 _ => ?_
          have hlk3 := mc_lk hC2
          unfold m_tbc at hlk3
          have hkl3 := mc_kl hC2
          have hlen3 := mc_len hC2
          simp (disch := omega) only [t_X8_cut_67, t_X8_cut_68, t_X8_cut_69, t_X8_cut_72, ev_kr_1, true_and, ev_fG_0, ev_isO_0, hlk3, hkl3]
          refine ML_size hC2.2.2.1 ?_
          rw [← hlen3]
          simp (disch := omega) only [t_X8_cut_75, ev_kr_1]
          exact hK _ _ _ (hup _ _ _ _ _ (mc_end hm1 hZ hw1 hB hi hn hC2 (by omega) (by omega)))
        rw [hcd] at hlk
        rw [hk] at hlk ht
        simp (disch := omega) only [t_X8_cut_26, t_X8_cut_29, t_X8_cut_30, t_X8_cut_33, t_X8_cut_41, t_X8_cut_42, t_X8_cut_43, t_X8_cut_46, t_X8_cut_47, t_X8_cut_48, t_X8_cut_51, t_X8_cut_52, t_X8_cut_53, ↓reduceIte, ev_kr_1, ev_ft_I, ev_ft_0, and_true, true_and, not_false_eq_true, ev_fG_6, ev_fG_7, ev_fS_6, ev_fS_7, ev_isO_6, ev_isO_7, show ¬ (1 : Int32) = 0 from by decide, not_false_eq_true, hlk, ev_lku_s, ev_up_s, ev_bb_t, ht, ev_up_up, nI_pred]
        exact hgo _ hE
end M59
end
section
/-! ===== the reference: copy ===== -/
section M60a
variable {X : ev_E} {H H1 : ev_M} {l D N N1 w w' l' : Nat} {ow ow1 : Nat → Nat} {qs qs' : m_Q} {n q : Nat} {P : ev_O → ev_M → Nat → Nat → Prop}
theorem ML_addF (hM : m_lst X H l D n ow w qs) (hL : qs.length ≤ 60) {z : Nat × Int32 × Int32} (hz : D ≤ z.1 ∧ z.1 < n ∧ ow z.1 = w ∧ m_pc z.2 (H z.1)) (hq : z.1 ∉ qs.map Prod.fst) (hf : ∀ a, n ≤ a → H a = none) (hB : ev_bs X D) (hlD : l < D) (hDn : D ≤ n)
    (k : ∀ H1 n1 q1, m_lst X H1 l D n1 (m_ow ow n w) w (qs ++ [z]) → m_fr H H1 l D n ow w → (∀ a, n1 ≤ a → H1 a = none) → n ≤ n1 → n1 ≤ n + 1 → q ≤ q1 → q1 ≤ q + 90 → (∀ a, a < n → ¬ a = l → (∀ M F, ¬ H a = some (.inl (2, M, F))) → H1 a = H a) → P (.inl (some (.int 1))) H1 n1 q1) : ev_ok (ev_TT X) 261 0 [.ref l, .ref z.1] [] H n q P := by
  obtain ⟨e, h1, h2, h3, h4⟩ := hM
  have hB2 := hB.2.2
  have hB1 := hB.1
  have hne : ∀ z : Nat × Int32 × Int32, m_pc z.2 (H z.1) → ¬ z.1 = l ∧ ¬ z.1 = e := fun z h3 => by
    obtain ⟨g, hg, -⟩ := h3
    obtain ⟨mc, g1, g2, g3⟩ := h1
    refine ⟨fun zz => ?_, fun zz => ?_⟩
    · rw [zz, g1] at hg; cases hg
    · rcases g3 with ⟨g3, -⟩ | ⟨M, F, g3, -⟩
      · rw [zz, g3] at hg; cases hg
      · rw [zz, g3] at hg; cases hg
  refine L_add h1 (by rw [m_len]; exact hL) (m_pc_el hz.2.2.2) (by omega) (hf n (Nat.le_refl n)) (hB.2.1 n (by omega)) (by omega) fun H1 e1 n1 q1 g1 g2 g3 => ?_
  have hn1 : n ≤ n1 ∧ n1 ≤ n + 1 ∧ q ≤ q1 ∧ q1 ≤ q + 90 ∧ (e1 = e ∨ (e1 = n ∧ n1 = n + 1)) := by
    rcases g3 with ⟨a, b, c, -⟩ | ⟨a, b, c, d⟩
    · exact ⟨by omega, by omega, by omega, by omega, Or.inl a⟩
    · exact ⟨by omega, by omega, c, d, Or.inr ⟨a, b⟩⟩
  have hpair : ∀ z : Nat × Int32 × Int32, D ≤ z.1 ∧ z.1 < n ∧ ow z.1 = w ∧ m_pc z.2 (H z.1) → D ≤ z.1 ∧ z.1 < n1 ∧ m_ow ow n w z.1 = w ∧ m_pc z.2 (H1 z.1) := fun z hz => by
    obtain ⟨a, b, c, d⟩ := hz
    refine ⟨a, by omega, (m_ow_l b).trans c, ?_⟩
    rw [g2 _ (hne z d).1 (Or.inl (hne z d).2) (Or.inl (by omega))]
    exact d
  have hzz := hpair z hz
  refine k H1 n1 q1 ⟨e1, ?_, ?_, fun z' hz' => ?_, ?_⟩ (fun a ha hal haw => ?_) (fun a ha => ?_) hn1.1 hn1.2.1 hn1.2.2.1 hn1.2.2.2.1 (fun a ha hal hac => ?_)
  · rw [List.map_append]
    exact g1
  · rw [List.map_append]
    refine List.nodup_append.mpr ⟨h2, List.nodup_cons.mpr ⟨List.not_mem_nil, List.nodup_nil⟩, fun a ha b hb hab => ?_⟩
    rw [List.mem_singleton.mp hb] at hab
    exact hq (hab ▸ ha)
  · rcases List.mem_append.mp hz' with h | h
    · exact hpair z' (h3 z' h)
    · rw [List.mem_singleton.mp h]
      exact hzz
  · rcases g3 with ⟨a, b, c, ⟨d, hd⟩⟩ | ⟨a, b, c, d⟩
    · right
      rcases h4 with ⟨-, -, h4⟩ | h4
      · rw [h4] at hd; cases hd
      · rw [a]
        exact ⟨h4.1, by omega, (m_ow_l h4.2.1).trans h4.2.2⟩
    · right
      exact ⟨by omega, by omega, m_ow_g (by omega)⟩
  · refine g2 a hal ?_ (Or.inl (by omega))
    rcases h4 with ⟨-, -, h4⟩ | h4
    · exact Or.inr h4
    · exact Or.inl fun z => haw (z ▸ ⟨h4.1, h4.2.2⟩)
  · refine (g2 a (by omega) ?_ (by omega)).trans (hf a (by omega))
    rcases h4 with ⟨-, -, h4⟩ | h4
    · exact Or.inr h4
    · exact Or.inl (by omega)
  · refine g2 a hal ?_ (Or.inl (by omega))
    rcases h4 with ⟨-, -, h4⟩ | h4
    · exact Or.inr h4
    · refine Or.inl fun z => ?_
      obtain ⟨mc, g1', g2', g3'⟩ := h1
      rcases g3' with ⟨-, g3', -⟩ | ⟨M, F, g3', -⟩
      · have := h4.1
        omega
      · exact hac M F (z ▸ g3')
end M60a
section M60b
variable {X : ev_E} {y i : Nat} {r r1 : Int32 × Int32 × Int32} {H H0 H1 : ev_M} {n0 q0 cN cQ : Nat} {ow ow0 : Nat → Nat} {s s1 : ev_TS} {qs : m_Q} {n q : Nat} {P : ev_O → ev_M → Nat → Nat → Prop}
theorem mc_addF (hB : ev_bs X y) (hC : m_cur X y i H0 n0 q0 ow0 cN cQ r s H n q ow qs) (hi : i < 4) (hn : y + 12 ≤ n0) (hL : qs.length ≤ 60) {z : Nat × Int32 × Int32} (hz : y + 12 ≤ z.1 ∧ z.1 < n ∧ ow z.1 = i ∧ m_pc z.2 (H z.1)) (hq : z.1 ∉ qs.map Prod.fst)
    (k : ∀ H1 n1 q1 ow1, m_cur X y i H0 n0 q0 ow0 (cN + 1) (cQ + 90) r (ps_L s (s.1 ++ [z.2])) H1 n1 q1 ow1 (qs ++ [z]) → (∀ a, a < n → ¬ a = y + 3 + 2 * i → (∀ M F, ¬ H a = some (.inl (2, M, F))) → H1 a = H a) → (∀ a, a < n → ow1 a = ow a) → n ≤ n1 → P (.inl (some (.int 1))) H1 n1 q1) : ev_ok (ev_TT X) 261 0 [.ref (y + 3 + 2 * i), .ref z.1] [] H n q P := by
  have hC0 := hC
  obtain ⟨c1, c2, c3, c4, c5, c6, c7, c8, c9, c10, c11⟩ := hC0
  have hB1 : ev_bs X (y + 12) := ⟨by have := hB.1; omega, hB.2⟩
  refine ML_addF c3 hL hz hq c7 hB1 (by omega) (by omega) fun H1 n1 q1 g1 g2 g3 g4 g5 g6 g7 g8 => k H1 n1 q1 _ (mc_frame (c2 := cN + 1) (d2 := cQ + 90) hC (fun a a1 a2 a3 a4 a5 => g2 a a1 a4 a5) (fun a ha => m_ow_l ha) ((g2 y (by omega) (by omega) (by omega)).trans c1) ((g2 _ (by omega) (by omega) (by omega)).trans c2) g1 ?_ g3 g4 (by omega) g6 (by omega)) g8 (fun a ha => m_ow_l ha) g4
  rw [List.map_append, c4]; rfl
/-- another thing made at n -/
theorem mc_newC (hB : ev_bs X y) (hi : i < 4) (hn : y + 12 ≤ n0) (hC : m_cur X y i H0 n0 q0 ow0 cN cQ r s H n q ow qs) (c : ev_C) (w d : Nat) : m_cur X y i H0 n0 q0 ow0 (cN + 1) (cQ + d) r s (ev_up H n c) (n + 1) (q + d) (m_ow ow n w) qs := by
  have hC0 := hC
  obtain ⟨c1, c2, c3, c4, c5, c6, c7, c8, c9, c10, c11⟩ := hC0
  have hB1 := hB.1
  have hB2 := hB.2.2
  refine mc_frame (c2 := cN + 1) (d2 := cQ + d) hC (fun a a1 a2 a3 a4 a5 => ev_up_n (by omega)) (fun a ha => m_ow_l ha) ((ev_up_n (by omega)).trans c1) ((ev_up_n (by omega)).trans c2) (m_lst_cg c3 (by omega) (fun a ha => ev_up_n ?_) (fun a a1 a2 a3 => (m_ow_l a2).trans a3)) c4 (fun a ha => (ev_up_n (by omega)).trans (c7 a (by omega))) (by omega) (by omega) (by omega) (by omega)
  rcases ha with rfl | ⟨a1, a2, a3⟩ | ⟨a1, a2⟩ <;> omega
/-- a thing of another owner is written, made since the beginning -/
theorem mc_oth (hB : ev_bs X y) (hi : i < 4) (hn : y + 12 ≤ n0) (hC : m_cur X y i H0 n0 q0 ow0 cN cQ r s H n q ow qs) {p : Nat} (hp : n0 ≤ p) (hpn : p < n) (ho : ¬ ow p = i) (c : ev_C) : m_cur X y i H0 n0 q0 ow0 cN cQ r s (ev_up H p c) n q ow qs := by
  have hC0 := hC
  obtain ⟨c1, c2, c3, c4, c5, c6, c7, c8, c9, c10, c11⟩ := hC0
  have hB1 := hB.1
  have hB2 := hB.2.2
  refine ⟨(ev_up_n (by omega)).trans c1, (ev_up_n (by omega)).trans c2, m_lst_cg c3 (Nat.le_refl _) (fun a ha => ev_up_n ?_) (fun a a1 a2 a3 => a3), c4, fun a a1 a2 a3 a4 a5 => (ev_up_n (by omega)).trans (c5 a a1 a2 a3 a4 a5), c6, fun a ha => (ev_up_n (by omega)).trans (c7 a ha), c8, c9, c10, c11⟩
  rcases ha with rfl | ⟨a1, a2, a3⟩ | ⟨a1, a2⟩
  · omega
  · exact fun z => ho (z ▸ a3)
  · omega
end M60b
/-- a list under whatever comes above n -/
theorem ML_old {X : ev_E} {H : ev_M} {l D N w n : Nat} {ow : Nat → Nat} {qs : m_Q} (hM : m_lst X H l D N ow w qs) (hN : N ≤ n) (hlD : l < D) (hDN : D ≤ N) : ∃ mc e, ∀ H', (∀ a, a < n → H' a = H a) → H' l = some (ev_alc mc e (qs.map fun z => Value.ref z.1).length) ∧ ev_AE X H' e (qs.map fun z => .ref z.1) := by
  obtain ⟨e, ⟨mc, h1, h2⟩, h3, h4, h5⟩ := hM
  refine ⟨mc, e, fun H' he => ⟨(he _ (by omega)).trans h1, fun v hv => ?_, ?_⟩⟩
  · obtain ⟨z, hz, rfl⟩ := List.mem_map.mp hv
    obtain ⟨a1, a2, a3, g, a4, -⟩ := h4 z hz
    exact Or.inr ⟨z.1, rfl, Or.inl ⟨2, g, (he _ (by omega)).trans a4⟩⟩
  · rw [he e (by rcases h5 with ⟨a, -⟩ | ⟨-, a, -⟩ <;> omega)]
    exact h2.2
theorem m_aw_ow {X : ev_E} {zf : Nat → Nat} {y : Nat} {r : Int32 × Int32 × Int32} {T : Nat → ev_TS} {As : List Nat} {H : ev_M} {ow ow1 : Nat → Nat} {n n2 : Nat} (hm : m_aw X zf y r T As H n ow) (hx : m_cx X zf y T As H n) {H2 : ev_M} (e : ∀ a, a < n → H2 a = H a) (h1 : n ≤ n2) (eo : ∀ a, a < n → ow1 a = ow a) : m_aw X zf y r T As H2 n2 ow1 := by
  obtain ⟨g1, ⟨f, g2, g2b⟩, g3, g4⟩ := hm
  obtain ⟨hZ, hw, hB, hn, hz, hT, hW⟩ := hx
  have hB1 := hB.1
  have hB2 := hB.2.2
  refine ⟨(e _ (by omega)).trans g1, ⟨f, (e _ (by omega)).trans g2, g2b⟩, fun j hj => ?_, ?_⟩
  · obtain ⟨a1, qs', a2, a3⟩ := g3 j hj
    refine ⟨(e _ (by omega)).trans a1, qs', m_lst_cg a2 h1 (fun a ha => e a ?_) (fun a a1 a2 a3 => (eo a a2).trans a3), a3⟩
    rcases ha with rfl | ⟨a1, a2, a3⟩ | ⟨a1, a2⟩ <;> omega
  · refine m_ask_cg g4 h1 (fun a ha => e a ?_) (fun a a1 a2 a3 => (eo a a2).trans a3) (fun v hv _ => m_zel hZ (fun a ha => (e a (by omega)).trans (hw a ha)) v hv)
    rcases ha with rfl | ⟨a1, a2, a3⟩ | ⟨a1, a2⟩ <;> omega
section M60
variable {X : ev_E} {zf : Nat → Nat} {y : Nat} {r : Int32 × Int32 × Int32} {T : Nat → ev_TS} {As : List Nat} {H : ev_M} {ow : Nat → Nat} {n q : Nat} {P : ev_O → ev_M → Nat → Nat → Prop}
theorem M_cp1 {l : Nat} {mc : Int32} {e0 : Nat} {t u : Int32} {qs : m_Q} {L : ev_PL} (hB : ev_bs X n) (hq : qs.map Prod.snd = L) (hl : L.length ≤ 20) (hpc : ∀ z ∈ qs, z.1 < n ∧ m_pc z.2 (H z.1))
    (hO : ∀ H', (∀ a, a < n → H' a = H a) → H' l = some (ev_alc mc e0 (qs.map fun z => Value.ref z.1).length) ∧ ev_AE X H' e0 (qs.map fun z => .ref z.1))
    (c : ∀ H' n' q' zs w, (∀ a, a < n → H' a = H a) → m_lst X H' n (n + 2) n' (fun _ => 7) 7 zs → zs.map Prod.snd = L → (∀ a, n' ≤ a → H' a = none) → n + 2 ≤ n' → n' ≤ n + 42 → q ≤ q' → q' ≤ q + 1847 → ev_ok (ev_TT X) 279 99 [.ref y, .int t, .int u, .ref n, .ref (n + 1), w, ev_J] [] H' n' q' P) :
    ∀ (d k : Nat) (zs : m_Q) (H' : ev_M) (n' q' : Nat) (last : Int32) (w : Value), k + d = L.length → (∀ a, a < n → H' a = H a) → m_lst X H' n (n + 2) n' (fun _ => 7) 7 zs → zs.map Prod.snd = L.take k → H' (n + 1) = some (ev_itc l k last mc) → (∀ a, n' ≤ a → H' a = none) → n + 2 ≤ n' → n' ≤ n + 2 + 2 * k → q ≤ q' → q' ≤ q + 7 + 92 * k → ev_ok (ev_TT X) 279 52 [.ref y, .int t, .int u, .ref n, .ref (n + 1), w, ev_J] [] H' n' q' P := by
  have hlen : L.length = qs.length := m_ln hq
  have hB1 := hB.1
  have hB3 := hB.2.2
  have hB2 : ev_bs X (n + 2) := ⟨by omega, hB.2⟩
  intro d
  induction d with
  | zero =>
    intro k zs H' n' q' last w hk h1 h2 h3 h4 h5 h6 h7 h8 h9
    have ek : k = qs.length := by omega
    have hik : ev_isK (ev_lk X H' (n + 1)) 3 = True := by rw [ev_lk_s h4]; exact ev_isK_y
    rw [ek] at h4
    simp (disch := omega) only [t_X8_copy_52, t_X8_copy_54, true_and, hik]
    refine I_has_n h4 (mc' := mc) (e := e0) (k := qs.length) (by rw [← m_len]; exact (hO H' h1).1) ?_
    have hc := c H' n' q' zs w h1 h2 (by rw [h3]; exact List.take_of_length_le (by omega)) h5 h6 (by omega) h8 (by omega)
    simp (disch := omega) only [t_X8_copy_59, ↓reduceIte, ev_kr_1]
    exact hc
  | succ d ih =>
    intro k zs H' n' q' last w hk h1 h2 h3 h4 h5 h6 h7 h8 h9
    have hkq : k < qs.length := by omega
    have hik : ev_isK (ev_lk X H' (n + 1)) 3 = True := by rw [ev_lk_s h4]; exact ev_isK_y
    obtain ⟨hqn, g, g0, g1, g2⟩ := hpc qs[k] (List.getElem_mem hkq)
    have g0' : H' qs[k].1 = some (.inl (0, 2, g)) := (h1 _ hqn).trans g0
    have gi : ∀ c1 c2, ev_lk X (ev_up (ev_up H' (n + 1) c1) n' c2) qs[k].1 = some (.inl (0, 2, g)) := fun c1 c2 => by
      rw [ev_lku_n (by omega), ev_lku_n (by omega)]
      exact ev_lk_s g0'
    have hak : ∀ c1, ev_isAk (ev_up H' (n + 1) c1 qs[k].1) 0 = True := fun c1 => by rw [ev_up_n (by omega), g0']; exact ev_isAk_y
    have hlk := ML_k h2
    rw [t_X8_copy_52]
    simp (disch := omega) only [t_X8_copy_54, true_and, hik]
    refine I_has_y h4 (mc' := mc) (e := e0) (k := qs.length) (by rw [← m_len]; exact (hO H' h1).1) (by omega) hkq ?_
    simp (disch := omega) only [t_X8_copy_59, t_X8_copy_62, t_X8_copy_64, ↓reduceIte, ev_kr_1, true_and, show ¬ (1 : Int32) = 0 from by decide, hik]
    refine I_next h4 (hO H' h1).1 (hO H' h1).2 (by rw [m_len]; omega) (m_nth hkq) ?_
    have h1b : ∀ a, a < n → ev_up H' (n + 1) (ev_itc l (k + 1) (nI k) mc) a = H a := fun a ha => (ev_up_n (by omega)).trans (h1 a ha)
    have h2b : m_lst X (ev_up H' (n + 1) (ev_itc l (k + 1) (nI k) mc)) n (n + 2) n' (fun _ => 7) 7 zs := m_lst_cg h2 (Nat.le_refl _) (fun a ha => ev_up_n (by rcases ha with rfl | ⟨a1, a2, a3⟩ | ⟨a1, a2⟩ <;> omega)) (fun _ _ _ _ => rfl)
    have h4b : ev_up H' (n + 1) (ev_itc l (k + 1) (nI k) mc) (n + 1) = some (ev_itc l (k + 1) (nI k) mc) := ev_up_s
    have h5b : ∀ a, n' ≤ a → ev_up H' (n + 1) (ev_itc l (k + 1) (nI k) mc) a = none := fun a ha => (ev_up_n (by omega)).trans (h5 a ha)
    have hakb := hak (ev_itc l (k + 1) (nI k) mc)
    have gib := gi (ev_itc l (k + 1) (nI k) mc)
    generalize ev_up H' (n + 1) (ev_itc l (k + 1) (nI k) mc) = Hb at h1b h2b h4b h5b hakb gib ⊢
    have hkb := ML_k h2b
    have hkc : ∀ c, ev_isK (ev_lk X (ev_up Hb n' c) n) 4 = True := fun c => by rw [ev_lku_n (by omega)]; exact hkb
    have h2c : ∀ g', m_lst X (ev_up Hb n' (.inl (0, 2, g'))) n (n + 2) (n' + 1) (fun _ => 7) 7 zs := fun g' => m_lst_cg h2b (by omega) (fun a ha => ev_up_n (by rcases ha with rfl | ⟨a1, a2, a3⟩ | ⟨a1, a2⟩ <;> omega)) (fun _ _ _ _ => rfl)
    have hat := m_at hq hkq
    have hzl : zs.length ≤ 60 := by
      have := congrArg List.length h3
      rw [List.length_map, List.length_take] at this
      omega
    have hzn : n' ∉ zs.map Prod.fst := fun hm => by
      obtain ⟨z, hz, ez⟩ := List.mem_map.mp hm
      obtain ⟨ee, -, -, hz3, -⟩ := h2b
      have := (hz3 z hz).2.1
      omega
    simp (disch := omega) only [t_X8_copy_69, t_X8_copy_72, t_X8_copy_74, t_X8_copy_75, t_X8_copy_76, t_X8_copy_78, t_X8_copy_79, t_X8_copy_80, t_X8_copy_82, t_X8_copy_83, t_X8_copy_84, t_X8_copy_85, t_X8_copy_86, t_X8_copy_87, t_X8_copy_89, t_X8_copy_90, t_X8_copy_91, t_X8_copy_92, ev_k_r, ev_kr_1, ev_aG_y, ev_aS_y, ev_inA_0, and_true, true_and, ev_z0, ev_z1, show (0 : Int32) ≤ 1 from by decide, show (1 : Int32).toNatClampNeg = 1 from rfl, show (0 : Nat) < 2 from by omega, show (1 : Nat) < 2 from by omega, ev_lku_n, ev_up_s, hakb, gib, hkb, g1, g2, show (0 : Int32) ≤ 2 from by decide, show (2 : Int32).toNatClampNeg = 2 from rfl, show 2 ≤ 100000 from by omega, ev_inA_0, ev_up_up]
    refine ML_add (h2c _) hzl (z := (n', qs[k].2)) ⟨by dsimp only; omega, by dsimp only; omega, rfl, _, ev_up_s, ?_, ?_⟩ hzn (fun a ha => (ev_up_n (by omega)).trans (h5b a (by omega))) hB2 (by omega) (by omega) fun H3 n3 q3 e1 e2 e3 e4 e5 e6 e7 => ?_
    · rw [updV_n (by decide), updV_s]
    · rw [updV_s]
    · have e2' : ∀ a, a < n' → ¬ a = n → ¬ n + 2 ≤ a → H3 a = Hb a := fun a ha hal han => (e2 a (by omega) hal (fun z => han z.1)).trans (ev_up_n (by omega))
      have hI := ih (k + 1) (zs ++ [(n', qs[k].2)]) H3 n3 q3 (nI k) (.ref qs[k].1) (by omega) (fun a ha => (e2' a (by omega) (by omega) (by omega)).trans (h1b a ha)) (m_lst_cg e1 (Nat.le_refl _) (fun _ _ => rfl) (fun _ _ _ _ => rfl)) ?_ ((e2' _ (by omega) (by omega) (by omega)).trans h4b) e3 (by omega) (by omega) (by omega) (by omega)
      · simp (disch := omega) only [t_X8_copy_95_i, t_X8_copy_96, ev_kr_1]
        exact hI
      · rw [List.map_append, h3, List.take_succ, List.getElem?_eq_getElem (by omega), ← pf_at_get (by omega), hat]
        rfl
end M60
end
section
/-! ===== the reference: copy, second half ===== -/
section M61
variable {X : ev_E} {zf : Nat → Nat} {y : Nat} {r : Int32 × Int32 × Int32} {T : Nat → ev_TS} {As : List Nat} {H : ev_M} {ow : Nat → Nat} {n q : Nat} {P : ev_O → ev_M → Nat → Nat → Prop}
theorem M_cp2 {j A eA : Nat} {mc : Int32} {t u : Int32} {zs : m_Q} {L : ev_PL} {s : ev_TS} (hB : ev_bs X y) (hj : j < 4) (hyn : y + 12 ≤ n) (hq : zs.map Prod.snd = L) (hl : L.length ≤ 20) (hzs : ∀ z ∈ zs, y + 12 ≤ z.1 ∧ z.1 < n ∧ ow z.1 = j ∧ m_pc z.2 (H z.1)) (hnd : (zs.map Prod.fst).Nodup)
    (hO : ∀ H' n' q' s' ow' qs', m_cur X y j H n q ow 30 2000 r s' H' n' q' ow' qs' → (∀ z ∈ zs, H' z.1 = H z.1) → H' A = some (ev_alc mc eA (zs.map fun z => Value.ref z.1).length) ∧ ev_AE X H' eA (zs.map fun z => .ref z.1))
    (c : ∀ H' n' q' ow' w, m_cur X y j H n q ow 30 2000 r (ps_L s L) H' n' q' ow' zs → (∀ z ∈ zs, H' z.1 = H z.1) → ev_ok (ev_TT X) 279 157 [.ref y, .int t, .int u, .ref A, .ref (y + 2 + 2 * j), .ref n, w] [] H' n' q' P) :
    ∀ (d k : Nat) (H' : ev_M) (n' q' : Nat) (ow' : Nat → Nat) (last : Int32) (w : Value), k + d = L.length → m_cur X y j H n q ow (1 + k) (4 + 90 * k) r (ps_L s (L.take k)) H' n' q' ow' (zs.take k) → (∀ z ∈ zs, H' z.1 = H z.1) → H' n = some (ev_itc A k last mc) → ¬ ow' n = j → n < n' → ev_ok (ev_TT X) 279 121 [.ref y, .int t, .int u, .ref A, .ref (y + 2 + 2 * j), .ref n, w] [] H' n' q' P := by
  have hlen : L.length = zs.length := m_ln hq
  intro d
  induction d with
  | zero =>
    intro k H' n' q' ow' last w hk hC h3 h4 h5 h6
    have ek : k = zs.length := by omega
    have hik : ev_isK (ev_lk X H' n) 3 = True := by rw [ev_lk_s h4]; exact ev_isK_y
    have hCw : ∀ a b, 1 + k ≤ a → 4 + 90 * k ≤ b → m_cur X y j H n q ow a b r (ps_L s (L.take k)) H' n' q' ow' (zs.take k) := fun a b ha hb => by
      obtain ⟨c1, c2, c3, c4, c5, c6, c7, c8, c9, c10, c11⟩ := hC
      exact ⟨c1, c2, c3, c4, c5, c6, c7, c8, by omega, c10, by omega⟩
    have hCe := hCw 30 2000 (by omega) (by omega)
    rw [List.take_of_length_le (by omega), List.take_of_length_le (by omega)] at hCe
    rw [ek] at h4
    simp (disch := omega) only [t_X8_copy_121, t_X8_copy_123, true_and, hik]
    refine I_has_n h4 (mc' := mc) (e := eA) (k := zs.length) (by rw [← m_len]; exact (hO H' n' q' _ ow' _ (hCw 30 2000 (by omega) (by omega)) h3).1) ?_
    have hc := c H' n' q' ow' w hCe h3
    simp (disch := omega) only [t_X8_copy_128, ↓reduceIte, ev_kr_1]
    exact hc
  | succ d ih =>
    intro k H' n' q' ow' last w hk hC h3 h4 h5 h6
    have hkq : k < zs.length := by omega
    have hik : ev_isK (ev_lk X H' n) 3 = True := by rw [ev_lk_s h4]; exact ev_isK_y
    have hCw : m_cur X y j H n q ow 30 2000 r (ps_L s (L.take k)) H' n' q' ow' (zs.take k) := by
      obtain ⟨c1, c2, c3, c4, c5, c6, c7, c8, c9, c10, c11⟩ := hC
      exact ⟨c1, c2, c3, c4, c5, c6, c7, c8, by omega, c10, by omega⟩
    have hOk := hO H' n' q' _ ow' _ hCw h3
    have hge := hC.2.2.2.2.2.2.2.1
    obtain ⟨hz1, hz2, hz3, g, g0, g1, g2⟩ := hzs zs[k] (List.getElem_mem hkq)
    have g0' : H' zs[k].1 = some (.inl (0, 2, g)) := (h3 _ (List.getElem_mem hkq)).trans g0
    rw [t_X8_copy_121]
    simp (disch := omega) only [t_X8_copy_123, true_and, hik]
    refine I_has_y h4 (mc' := mc) (e := eA) (k := zs.length) (by rw [← m_len]; exact hOk.1) (by omega) hkq ?_
    simp (disch := omega) only [t_X8_copy_128, t_X8_copy_131, t_X8_copy_133, ↓reduceIte, ev_kr_1, true_and, show ¬ (1 : Int32) = 0 from by decide, hik]
    refine I_next h4 hOk.1 hOk.2 (by rw [m_len]; omega) (m_nth hkq) ?_
    have hC2 := mc_oth hB hj hyn hC (Nat.le_refl n) h6 h5 (ev_itc A (k + 1) (nI k) mc)
    have h3b : ∀ z ∈ zs, ev_up H' n (ev_itc A (k + 1) (nI k) mc) z.1 = H z.1 := fun z hz => (ev_up_n (by have := (hzs z hz).2.1; omega)).trans (h3 z hz)
    have h4b : ev_up H' n (ev_itc A (k + 1) (nI k) mc) n = some (ev_itc A (k + 1) (nI k) mc) := ev_up_s
    generalize ev_up H' n (ev_itc A (k + 1) (nI k) mc) = Hb at hC2 h3b h4b ⊢
    have hlk := mc_lk hC2
    unfold m_tbc at hlk
    have hkl := mc_kl hC2
    have g0b : Hb zs[k].1 = some (.inl (0, 2, g)) := (h3b _ (List.getElem_mem hkq)).trans g0
    have hakb : ev_isAk (Hb zs[k].1) 0 = True := by rw [g0b]; exact ev_isAk_y
    have how : ow' zs[k].1 = j := (hC.2.2.2.2.2.1 _ hz2).trans hz3
    have hzn : zs[k].1 ∉ (zs.take k).map Prod.fst := fun hm => by
      obtain ⟨z, hz, ez⟩ := List.mem_map.mp hm
      obtain ⟨a, ha, rfl⟩ := List.getElem_of_mem hz
      rw [List.length_take] at ha
      rw [List.getElem_take] at ez
      have hm2 : (zs.map Prod.fst)[a]? = (zs.map Prod.fst)[k]? := by
        rw [List.getElem?_map, List.getElem?_map, List.getElem?_eq_getElem (by omega), List.getElem?_eq_getElem hkq]
        exact congrArg some ez
      have := (List.getElem?_inj (by rw [List.length_map]; omega) hnd).mp hm2
      omega
    have ht1 : (zs.take k ++ [zs[k]]) = zs.take (k + 1) := by rw [List.take_succ, List.getElem?_eq_getElem hkq]; rfl
    have ht2 : (L.take k ++ [zs[k].2]) = L.take (k + 1) := by
      rw [List.take_succ, List.getElem?_eq_getElem (by omega), ← pf_at_get (by omega), m_at hq hkq]; rfl
    simp (disch := omega) only [t_X8_copy_138, t_X8_copy_141, t_X8_copy_143, t_X8_copy_145, t_X8_copy_148, t_X8_copy_150, ev_k_r, ev_kr_1, true_and, ev_fG_0, ev_isO_0, hakb, hlk, hkl]
    refine mc_addF hB hC2 hj hyn (by rw [List.length_take]; omega) (z := zs[k]) ⟨hz1, by omega, how, g, g0b, g1, g2⟩ hzn fun H3 n3 q3 ow3 hC3 hF hoF hn3 => ?_
    have hC3' : m_cur X y j H n q ow (1 + (k + 1)) (4 + 90 * (k + 1)) r (ps_L s (L.take (k + 1))) H3 n3 q3 ow3 (zs.take (k + 1)) := by
      rw [← ht1, ← ht2]
      obtain ⟨c1, c2, c3, c4, c5, c6, c7, c8, c9, c10, c11⟩ := hC3
      exact ⟨c1, c2, c3, c4, c5, c6, c7, c8, by omega, c10, by omega⟩
    have hI := ih (k + 1) H3 n3 q3 ow3 (nI k) (.ref zs[k].1) (by omega) hC3' (fun z hz => ?_) ?_ ?_ (by omega)
    · simp (disch := omega) only [t_X8_copy_153_i, t_X8_copy_154, ev_kr_1]
      exact hI
    · obtain ⟨a1, a2, a3, gz, a4, -⟩ := hzs z hz
      refine (hF z.1 (by omega) (by omega) (fun M F e => ?_)).trans (h3b z hz)
      rw [h3b z hz, a4] at e
      cases e
    · refine (hF n h6 (by omega) (fun M F e => ?_)).trans h4b
      rw [h4b] at e
      cases e
    · rw [hoF n h6]
      exact h5
end M61
end
