/-! ===== reading and writing cells: rows for simp ===== -/
theorem ev_k_i {v : Int32} : ev_k (.int v) = .int v := rfl
theorem ev_k_r {v : Nat} : ev_k (.ref v) = .ref v := rfl
theorem ev_k_l {v : Int64} : ev_k (.long v) = ev_J := rfl
theorem ev_k_J : ev_k ev_J = ev_J := rfl
theorem ev_k_n : ev_k .null = .null := rfl
theorem ev_lk_s {X : ev_E} {h : ev_M} {a : Nat} {c : ev_C} (e : h a = some c) : ev_lk X h a = some c := by
  unfold ev_lk
  rw [e]
theorem ev_lk_o {X : ev_E} {h : ev_M} {a : Nat} {c : ev_C} (e : h a = none) (e2 : X.2.2.2.2.1 a = some c) : ev_lk X h a = some c := by
  unfold ev_lk
  rw [e]
  exact e2
theorem ev_up_s {h : ev_M} {a : Nat} {c : ev_C} : ev_up h a c a = some c := if_pos rfl
theorem ev_up_n {h : ev_M} {a b : Nat} {c : ev_C} (e : ¬ b = a) : ev_up h a c b = h b := if_neg e
theorem ev_up_up {h : ev_M} {a : Nat} {c d : ev_C} : ev_up (ev_up h a c) a d = ev_up h a d := by
  funext x
  unfold ev_up
  split <;> rfl
theorem ev_up_c {h : ev_M} {a b : Nat} {c d : ev_C} (e : ¬ b = a) : ev_up (ev_up h a c) b d = ev_up (ev_up h b d) a c := by
  funext x
  unfold ev_up
  by_cases h1 : x = b
  · rw [if_pos h1, if_neg (h1 ▸ e), if_pos h1]
  · rw [if_neg h1]
    split <;> rfl
theorem ev_up_t {h : ev_M} {a : Nat} {c : ev_C} (e : h a = some c) : ev_up h a c = h := by
  funext x
  unfold ev_up
  split
  · rename_i hx
    rw [hx, e]
  · rfl
theorem ev_isK_y {ci : Nat} {fs : List Value} : ev_isK (some (.inr (ci, fs))) ci = True := eq_true ⟨fs, rfl⟩
theorem ev_isAk_y {kd n : Nat} {f : Nat → Value} : ev_isAk (some (.inl (kd, n, f))) kd = True := eq_true ⟨n, f, rfl⟩
theorem ev_aN_y {kd n : Nat} {f : Nat → Value} : ev_aN (some (.inl (kd, n, f))) = n := rfl
theorem ev_aG_y {kd n : Nat} {f : Nat → Value} {i : Int32} : ev_aG (some (.inl (kd, n, f))) i = f i.toNatClampNeg := rfl
theorem ev_aS_y {kd n : Nat} {f : Nat → Value} {i : Int32} {v : Value} : ev_aS (some (.inl (kd, n, f))) i v = .inl (kd, n, updV f i.toNatClampNeg v) := rfl
theorem ev_updI {f : Nat → Int32} {j : Nat} {v : Int32} : updV (fun i => .int (f i)) j (.int v) = fun i => .int (if i = j then v else f i) := by
  funext i
  unfold updV
  split <;> rfl
theorem ev_updR {f : Nat → Nat} {j : Nat} {v : Nat} : updV (fun i => .ref (f i)) j (.ref v) = fun i => .ref (if i = j then v else f i) := by
  funext i
  unfold updV
  split <;> rfl
theorem ev_nIn {i : Int32} {n : Nat} : ¬ (i < 0 ∨ n ≤ i.toNatClampNeg) ↔ 0 ≤ i ∧ i.toNatClampNeg < n := by
  rw [not_or, Int32.not_lt, Nat.not_le]
theorem ev_isA_0 {n : Nat} {f : Nat → Value} : ev_isA (some (.inl (0, n, f))) = True := eq_true ⟨0, n, f, rfl, by decide⟩
theorem ev_inA_0 {n : Nat} {f : Nat → Value} {i : Int32} : ev_inA (some (.inl (0, n, f))) i ev_tI = (0 ≤ i ∧ i.toNatClampNeg < n) := propext ⟨fun ⟨_, _, _, e, _, _, h⟩ => by cases e; exact ev_nIn.mp h, fun h => ⟨0, n, f, rfl, by decide, by decide, ev_nIn.mpr h⟩⟩
theorem ev_isA_6 {n : Nat} {f : Nat → Value} : ev_isA (some (.inl (6, n, f))) = True := eq_true ⟨6, n, f, rfl, by decide⟩
theorem ev_inA_6 {n : Nat} {f : Nat → Value} {i : Int32} : ev_inA (some (.inl (6, n, f))) i ev_tI = (0 ≤ i ∧ i.toNatClampNeg < n) := propext ⟨fun ⟨_, _, _, e, _, _, h⟩ => by cases e; exact ev_nIn.mp h, fun h => ⟨6, n, f, rfl, by decide, by decide, ev_nIn.mpr h⟩⟩
theorem ev_isA_1 {n : Nat} {f : Nat → Value} : ev_isA (some (.inl (1, n, f))) = True := eq_true ⟨1, n, f, rfl, by decide⟩
theorem ev_inA_1 {n : Nat} {f : Nat → Value} {i : Int32} : ev_inA (some (.inl (1, n, f))) i ev_tB = (0 ≤ i ∧ i.toNatClampNeg < n) := propext ⟨fun ⟨_, _, _, e, _, _, h⟩ => by cases e; exact ev_nIn.mp h, fun h => ⟨1, n, f, rfl, by decide, by decide, ev_nIn.mpr h⟩⟩
theorem ev_isA_7 {n : Nat} {f : Nat → Value} : ev_isA (some (.inl (7, n, f))) = True := eq_true ⟨7, n, f, rfl, by decide⟩
theorem ev_inA_7 {n : Nat} {f : Nat → Value} {i : Int32} : ev_inA (some (.inl (7, n, f))) i ev_tB = (0 ≤ i ∧ i.toNatClampNeg < n) := propext ⟨fun ⟨_, _, _, e, _, _, h⟩ => by cases e; exact ev_nIn.mp h, fun h => ⟨7, n, f, rfl, by decide, by decide, ev_nIn.mpr h⟩⟩
theorem ev_isA_8 {n : Nat} {f : Nat → Value} : ev_isA (some (.inl (8, n, f))) = True := eq_true ⟨8, n, f, rfl, by decide⟩
theorem ev_inA_8 {n : Nat} {f : Nat → Value} {i : Int32} : ev_inA (some (.inl (8, n, f))) i ev_tB = (0 ≤ i ∧ i.toNatClampNeg < n) := propext ⟨fun ⟨_, _, _, e, _, _, h⟩ => by cases e; exact ev_nIn.mp h, fun h => ⟨8, n, f, rfl, by decide, by decide, ev_nIn.mpr h⟩⟩
theorem ev_isA_2 {n : Nat} {f : Nat → Value} : ev_isA (some (.inl (2, n, f))) = True := eq_true ⟨2, n, f, rfl, by decide⟩
theorem ev_inA_2 {n : Nat} {f : Nat → Value} {i : Int32} : ev_inA (some (.inl (2, n, f))) i FieldType.isReference = (0 ≤ i ∧ i.toNatClampNeg < n) := propext ⟨fun ⟨_, _, _, e, _, _, h⟩ => by cases e; exact ev_nIn.mp h, fun h => ⟨2, n, f, rfl, by decide, by decide, ev_nIn.mpr h⟩⟩
theorem ev_isA_3 {n : Nat} {f : Nat → Value} : ev_isA (some (.inl (3, n, f))) = True := eq_true ⟨3, n, f, rfl, by decide⟩
theorem ev_inA_3 {n : Nat} {f : Nat → Value} {i : Int32} : ev_inA (some (.inl (3, n, f))) i FieldType.isReference = (0 ≤ i ∧ i.toNatClampNeg < n) := propext ⟨fun ⟨_, _, _, e, _, _, h⟩ => by cases e; exact ev_nIn.mp h, fun h => ⟨3, n, f, rfl, by decide, by decide, ev_nIn.mpr h⟩⟩
theorem ev_isA_4 {n : Nat} {f : Nat → Value} : ev_isA (some (.inl (4, n, f))) = True := eq_true ⟨4, n, f, rfl, by decide⟩
theorem ev_inA_4 {n : Nat} {f : Nat → Value} {i : Int32} : ev_inA (some (.inl (4, n, f))) i FieldType.isReference = (0 ≤ i ∧ i.toNatClampNeg < n) := propext ⟨fun ⟨_, _, _, e, _, _, h⟩ => by cases e; exact ev_nIn.mp h, fun h => ⟨4, n, f, rfl, by decide, by decide, ev_nIn.mpr h⟩⟩
theorem ev_isA_5 {n : Nat} {f : Nat → Value} : ev_isA (some (.inl (5, n, f))) = True := eq_true ⟨5, n, f, rfl, by decide⟩
theorem ev_inA_5 {n : Nat} {f : Nat → Value} {i : Int32} : ev_inA (some (.inl (5, n, f))) i FieldType.isReference = (0 ≤ i ∧ i.toNatClampNeg < n) := propext ⟨fun ⟨_, _, _, e, _, _, h⟩ => by cases e; exact ev_nIn.mp h, fun h => ⟨5, n, f, rfl, by decide, by decide, ev_nIn.mpr h⟩⟩
theorem ev_isA_9 {n : Nat} {f : Nat → Value} : ev_isA (some (.inl (9, n, f))) = True := eq_true ⟨9, n, f, rfl, by decide⟩
theorem ev_inA_9 {n : Nat} {f : Nat → Value} {i : Int32} : ev_inA (some (.inl (9, n, f))) i FieldType.isReference = (0 ≤ i ∧ i.toNatClampNeg < n) := propext ⟨fun ⟨_, _, _, e, _, _, h⟩ => by cases e; exact ev_nIn.mp h, fun h => ⟨9, n, f, rfl, by decide, by decide, ev_nIn.mpr h⟩⟩
theorem ev_isA_10 {n : Nat} {f : Nat → Value} : ev_isA (some (.inl (10, n, f))) = True := eq_true ⟨10, n, f, rfl, by decide⟩
theorem ev_inA_10 {n : Nat} {f : Nat → Value} {i : Int32} : ev_inA (some (.inl (10, n, f))) i FieldType.isReference = (0 ≤ i ∧ i.toNatClampNeg < n) := propext ⟨fun ⟨_, _, _, e, _, _, h⟩ => by cases e; exact ev_nIn.mp h, fun h => ⟨10, n, f, rfl, by decide, by decide, ev_nIn.mpr h⟩⟩
theorem ev_fG_0 {ci : Nat} {a0 : Value} {r : List Value} : ev_fG (some (.inr (ci, a0 :: r))) 0 = a0 := rfl
theorem ev_fS_0 {ci : Nat} {a0 : Value} {r : List Value} {v : Value} : ev_fS (some (.inr (ci, a0 :: r))) 0 v = .inr (ci, v :: r) := rfl
theorem ev_isO_0 {ci : Nat} {a0 : Value} {r : List Value} : ev_isO (some (.inr (ci, a0 :: r))) ci 0 = True := eq_true ⟨_, rfl, by simp only [List.length_cons]; omega⟩
theorem ev_fG_1 {ci : Nat} {a0 a1 : Value} {r : List Value} : ev_fG (some (.inr (ci, a0 :: a1 :: r))) 1 = a1 := rfl
theorem ev_fS_1 {ci : Nat} {a0 a1 : Value} {r : List Value} {v : Value} : ev_fS (some (.inr (ci, a0 :: a1 :: r))) 1 v = .inr (ci, a0 :: v :: r) := rfl
theorem ev_isO_1 {ci : Nat} {a0 a1 : Value} {r : List Value} : ev_isO (some (.inr (ci, a0 :: a1 :: r))) ci 1 = True := eq_true ⟨_, rfl, by simp only [List.length_cons]; omega⟩
theorem ev_fG_2 {ci : Nat} {a0 a1 a2 : Value} {r : List Value} : ev_fG (some (.inr (ci, a0 :: a1 :: a2 :: r))) 2 = a2 := rfl
theorem ev_fS_2 {ci : Nat} {a0 a1 a2 : Value} {r : List Value} {v : Value} : ev_fS (some (.inr (ci, a0 :: a1 :: a2 :: r))) 2 v = .inr (ci, a0 :: a1 :: v :: r) := rfl
theorem ev_isO_2 {ci : Nat} {a0 a1 a2 : Value} {r : List Value} : ev_isO (some (.inr (ci, a0 :: a1 :: a2 :: r))) ci 2 = True := eq_true ⟨_, rfl, by simp only [List.length_cons]; omega⟩
theorem ev_fG_3 {ci : Nat} {a0 a1 a2 a3 : Value} {r : List Value} : ev_fG (some (.inr (ci, a0 :: a1 :: a2 :: a3 :: r))) 3 = a3 := rfl
theorem ev_fS_3 {ci : Nat} {a0 a1 a2 a3 : Value} {r : List Value} {v : Value} : ev_fS (some (.inr (ci, a0 :: a1 :: a2 :: a3 :: r))) 3 v = .inr (ci, a0 :: a1 :: a2 :: v :: r) := rfl
theorem ev_isO_3 {ci : Nat} {a0 a1 a2 a3 : Value} {r : List Value} : ev_isO (some (.inr (ci, a0 :: a1 :: a2 :: a3 :: r))) ci 3 = True := eq_true ⟨_, rfl, by simp only [List.length_cons]; omega⟩
theorem ev_fG_4 {ci : Nat} {a0 a1 a2 a3 a4 : Value} {r : List Value} : ev_fG (some (.inr (ci, a0 :: a1 :: a2 :: a3 :: a4 :: r))) 4 = a4 := rfl
theorem ev_fS_4 {ci : Nat} {a0 a1 a2 a3 a4 : Value} {r : List Value} {v : Value} : ev_fS (some (.inr (ci, a0 :: a1 :: a2 :: a3 :: a4 :: r))) 4 v = .inr (ci, a0 :: a1 :: a2 :: a3 :: v :: r) := rfl
theorem ev_isO_4 {ci : Nat} {a0 a1 a2 a3 a4 : Value} {r : List Value} : ev_isO (some (.inr (ci, a0 :: a1 :: a2 :: a3 :: a4 :: r))) ci 4 = True := eq_true ⟨_, rfl, by simp only [List.length_cons]; omega⟩
theorem ev_fG_5 {ci : Nat} {a0 a1 a2 a3 a4 a5 : Value} {r : List Value} : ev_fG (some (.inr (ci, a0 :: a1 :: a2 :: a3 :: a4 :: a5 :: r))) 5 = a5 := rfl
theorem ev_fS_5 {ci : Nat} {a0 a1 a2 a3 a4 a5 : Value} {r : List Value} {v : Value} : ev_fS (some (.inr (ci, a0 :: a1 :: a2 :: a3 :: a4 :: a5 :: r))) 5 v = .inr (ci, a0 :: a1 :: a2 :: a3 :: a4 :: v :: r) := rfl
theorem ev_isO_5 {ci : Nat} {a0 a1 a2 a3 a4 a5 : Value} {r : List Value} : ev_isO (some (.inr (ci, a0 :: a1 :: a2 :: a3 :: a4 :: a5 :: r))) ci 5 = True := eq_true ⟨_, rfl, by simp only [List.length_cons]; omega⟩
theorem ev_fG_6 {ci : Nat} {a0 a1 a2 a3 a4 a5 a6 : Value} {r : List Value} : ev_fG (some (.inr (ci, a0 :: a1 :: a2 :: a3 :: a4 :: a5 :: a6 :: r))) 6 = a6 := rfl
theorem ev_fS_6 {ci : Nat} {a0 a1 a2 a3 a4 a5 a6 : Value} {r : List Value} {v : Value} : ev_fS (some (.inr (ci, a0 :: a1 :: a2 :: a3 :: a4 :: a5 :: a6 :: r))) 6 v = .inr (ci, a0 :: a1 :: a2 :: a3 :: a4 :: a5 :: v :: r) := rfl
theorem ev_isO_6 {ci : Nat} {a0 a1 a2 a3 a4 a5 a6 : Value} {r : List Value} : ev_isO (some (.inr (ci, a0 :: a1 :: a2 :: a3 :: a4 :: a5 :: a6 :: r))) ci 6 = True := eq_true ⟨_, rfl, by simp only [List.length_cons]; omega⟩
theorem ev_fG_7 {ci : Nat} {a0 a1 a2 a3 a4 a5 a6 a7 : Value} {r : List Value} : ev_fG (some (.inr (ci, a0 :: a1 :: a2 :: a3 :: a4 :: a5 :: a6 :: a7 :: r))) 7 = a7 := rfl
theorem ev_fS_7 {ci : Nat} {a0 a1 a2 a3 a4 a5 a6 a7 : Value} {r : List Value} {v : Value} : ev_fS (some (.inr (ci, a0 :: a1 :: a2 :: a3 :: a4 :: a5 :: a6 :: a7 :: r))) 7 v = .inr (ci, a0 :: a1 :: a2 :: a3 :: a4 :: a5 :: a6 :: v :: r) := rfl
theorem ev_isO_7 {ci : Nat} {a0 a1 a2 a3 a4 a5 a6 a7 : Value} {r : List Value} : ev_isO (some (.inr (ci, a0 :: a1 :: a2 :: a3 :: a4 :: a5 :: a6 :: a7 :: r))) ci 7 = True := eq_true ⟨_, rfl, by simp only [List.length_cons]; omega⟩
theorem ev_fG_8 {ci : Nat} {a0 a1 a2 a3 a4 a5 a6 a7 a8 : Value} {r : List Value} : ev_fG (some (.inr (ci, a0 :: a1 :: a2 :: a3 :: a4 :: a5 :: a6 :: a7 :: a8 :: r))) 8 = a8 := rfl
theorem ev_fS_8 {ci : Nat} {a0 a1 a2 a3 a4 a5 a6 a7 a8 : Value} {r : List Value} {v : Value} : ev_fS (some (.inr (ci, a0 :: a1 :: a2 :: a3 :: a4 :: a5 :: a6 :: a7 :: a8 :: r))) 8 v = .inr (ci, a0 :: a1 :: a2 :: a3 :: a4 :: a5 :: a6 :: a7 :: v :: r) := rfl
theorem ev_isO_8 {ci : Nat} {a0 a1 a2 a3 a4 a5 a6 a7 a8 : Value} {r : List Value} : ev_isO (some (.inr (ci, a0 :: a1 :: a2 :: a3 :: a4 :: a5 :: a6 :: a7 :: a8 :: r))) ci 8 = True := eq_true ⟨_, rfl, by simp only [List.length_cons]; omega⟩
theorem ev_ft_I {v : Int32} : ev_fit .int (.int v) = True := eq_true ⟨rfl, rfl⟩
theorem ev_ft_J {v : Int64} : ev_fit .long (.long v) = True := eq_true ⟨rfl, rfl⟩
theorem ev_ft_0 : ev_fit .boolean (.int 0) = True := eq_true ⟨rfl, rfl⟩
theorem ev_ft_1 : ev_fit .boolean (.int 1) = True := eq_true ⟨rfl, rfl⟩
theorem ev_ft_b0 : ev_fit .byte (.int 0) = True := eq_true ⟨rfl, rfl⟩
theorem ev_ft_b1 : ev_fit .byte (.int 1) = True := eq_true ⟨rfl, rfl⟩
theorem ev_ft_o {s : String} {v : Nat} : ev_fit (.object s) (.ref v) = True := eq_true ⟨rfl, rfl⟩
theorem ev_ft_a {t : FieldType} {v : Nat} : ev_fit (.array t) (.ref v) = True := eq_true ⟨rfl, rfl⟩
theorem ev_ft_on {s : String} : ev_fit (.object s) .null = True := eq_true ⟨rfl, rfl⟩
theorem ev_ft_an {t : FieldType} : ev_fit (.array t) .null = True := eq_true ⟨rfl, rfl⟩
/-- a truth as the machine has it -/
def ev_b (p : Prop) [Decidable p] : Int32 := if p then 1 else 0
theorem ev_nb_0 : (narrow .boolean (.int 0) = .int 0) = True := eq_true rfl
theorem ev_nb_1 : (narrow .boolean (.int 1) = .int 1) = True := eq_true rfl
def ev_isB (x : Int32) : Prop := x = 0 ∨ x = 1
theorem ev_nb {x : Int32} (h : ev_isB x) : narrow .boolean (.int x) = .int x := by
  rcases h with rfl | rfl <;> rfl
theorem ev_ft_B {x : Int32} (h : ev_isB x) : ev_fit .boolean (.int x) := by
  rcases h with rfl | rfl <;> exact ⟨rfl, rfl⟩
theorem ev_isB_0 : ev_isB 0 := Or.inl rfl
theorem ev_isB_1 : ev_isB 1 := Or.inr rfl
theorem ev_isB_b (p : Prop) [Decidable p] : ev_isB (ev_b p) := by
  unfold ev_b
  split
  · exact ev_isB_1
  · exact ev_isB_0
theorem ev_kr_T {T : ev_T} {mi pc pc' : Nat} {lo st : List Value} {P : ev_O → ev_M → Nat → Nat → Prop} {h : ev_M} {n q : Nat} {v : Option Value} {H : ev_M} {N Q : Nat} (e : H = h ∧ N = n ∧ Q = q) : ev_kr T mi pc pc' lo st P (.inl v) H N Q ↔ ev_ok T mi pc' lo (v.toList ++ st) h n q P := by
  rw [e.1, e.2.1, e.2.2]
  rfl
theorem nI_20 : (20 : Int32) = nI 20 := rfl
theorem ev_nm1 {j : Nat} (h : j < 2 ^ 31) : ¬ nI j = -1 := by
  intro e
  have h1 := nI_toInt h
  rw [e] at h1
  have h2 : (-1 : Int32).toInt = -1 := by decide
  rw [h2] at h1
  omega
theorem ev_nm1' {j : Nat} (h : j < 2 ^ 31) : ¬ (-1 : Int32) = nI j := fun e => ev_nm1 h e.symm
/-- a place is one below the count, or it is none -/
theorem ev_pl {x : Int32} {c : Nat} (hc : c < 2 ^ 31) : (0 ≤ x ∧ x < nI c) ↔ ∃ j : Nat, j < c ∧ x = nI j := by
  constructor
  · rintro ⟨h0, h1⟩
    obtain ⟨j, hj, rfl⟩ := nI_of (Int32.not_lt.mpr h0)
    exact ⟨j, (nI_ltI hj hc).mp h1, rfl⟩
  · rintro ⟨j, hj, rfl⟩
    exact ⟨nI_pos' (by omega), nI_lt hj hc⟩
