/-! ===== the reference: its askings are read ===== -/
def mb (As : List Nat) (a : Nat) : Nat → Option Nat
  | 0 => none
  | p + 1 => if As.getD p 0 = a then some p else mb As a p
def nb : Option Nat → Int32
  | none => -1
  | some j => nI j
theorem mb_lt {As : List Nat} {a : Nat} : ∀ {p j : Nat}, mb As a p = some j → j < p := by
  intro p
  induction p with
  | zero => intro j h; cases h
  | succ p ih =>
    intro j h
    unfold mb at h
    split at h
    · cases h; omega
    · have := ih h; omega
def mu_c (As : List Nat) (fr k : Nat) : Nat := match mb As (As.getD k 0) k with
  | none => 1
  | some j => if j < fr then 1 else 0
def mu (As : List Nat) (fr : Nat) : Nat → Nat → Nat
  | 0, _ => 0
  | d + 1, k => mu_c As fr k + mu As fr d (k + 1)
theorem mu_c_le {As : List Nat} {fr k : Nat} : mu_c As fr k ≤ 1 := by
  unfold mu_c
  split
  · omega
  · split <;> omega
theorem mu_le {As : List Nat} {fr : Nat} : ∀ d k, mu As fr d k ≤ d := by
  intro d
  induction d with
  | zero => intro k; exact Nat.le_refl 0
  | succ d ih =>
    intro k
    unfold mu
    have := ih (k + 1)
    have := mu_c_le (As := As) (fr := fr) (k := k)
    omega
def md (As : List Nat) (a p : Nat) : Nat := match mb As a p with
  | none => 0
  | some l => 1 + mu As (l + 1) (p - (l + 1)) (l + 1)
theorem md_le {As : List Nat} {a p : Nat} : md As a p ≤ 1 + p := by
  unfold md
  split
  · omega
  · have := mu_le (As := As) (fr := ‹Nat› + 1) (p - (‹Nat› + 1)) (‹Nat› + 1)
    omega
def mh (As : List Nat) (c k : Nat) : Bool := decide (0 < md As (As.getD k 0) k) && decide (md As (As.getD k 0) k ≤ c)
def mkw (As : List Nat) (d p : Nat) : Nat → Nat → Option Nat
  | 0, _ => none
  | e + 1, a => if md As a p = d then some a else mkw As d p e (a + 1)
theorem mkw_lt {As : List Nat} {d p : Nat} : ∀ {e a j : Nat}, mkw As d p e a = some j → j < a + e := by
  intro e
  induction e with
  | zero => intro a j h; cases h
  | succ e ih =>
    intro a j h
    unfold mkw at h
    split at h
    · cases h; omega
    · have := ih h; omega
def m_ac (X : ev_E) (zf : Nat → Nat) (y : Nat) (As : List Nat) (H : ev_M) : Prop := (∃ a b c : Value, ev_lk X H y = some (.inr (13, [a, b, c, .ref (y + 1), .ref (y + 10)]))) ∧
  (∃ mc e, H (y + 10) = some (ev_alc mc e (As.map fun k => Value.ref (zf k)).length) ∧ ev_AE X H e (As.map fun k => .ref (zf k))) ∧ ev_IC X zf ∧ ev_low X H ∧ (∀ k ∈ As, k < 20) ∧ As.length ≤ 60
section M64
variable {X : ev_E} {zf : Nat → Nat} {y : Nat} {As : List Nat} {H : ev_M} {n q : Nat} {P : ev_O → ev_M → Nat → Nat → Prop}
theorem ac_k (ha : m_ac X zf y As H) : ev_isK (ev_lk X H y) 13 = True := by
  obtain ⟨⟨a, b, c, h⟩, -⟩ := ha
  rw [h]; exact ev_isK_y
theorem ac_kl (ha : m_ac X zf y As H) : ev_isK (ev_lk X H (y + 10)) 4 = True := by
  obtain ⟨-, ⟨mc, e, h, -⟩, -⟩ := ha
  rw [ev_lk_s h]; exact ev_isK_y
theorem ac_f (ha : m_ac X zf y As H) : ev_isO (ev_lk X H y) 13 4 = True ∧ ev_fG (ev_lk X H y) 4 = .ref (y + 10) := by
  obtain ⟨⟨a, b, c, h⟩, -⟩ := ha
  rw [h]
  exact ⟨ev_isO_4, rfl⟩
theorem ac_size (ha : m_ac X zf y As H) (c : P (.inl (some (.int (nI As.length)))) H n q) : ev_ok (ev_TT X) 24 0 [.ref (y + 10)] [] H n q P := by
  obtain ⟨-, ⟨mc, e, h, -⟩, -⟩ := ha
  refine L_size h ?_
  rw [List.length_map]
  exact c
theorem ac_lt (ha : m_ac X zf y As H) {k : Nat} (hk : k < As.length) : As.getD k 0 < 20 := by
  rw [List.getD_eq_getElem?_getD, List.getElem?_eq_getElem hk]
  exact ha.2.2.2.2.1 _ (List.getElem_mem hk)
theorem ac_get (ha : m_ac X zf y As H) {k : Nat} (hk : k < As.length) (c : P (.inl (some (.ref (zf (As.getD k 0))))) H n q) : ev_ok (ev_TT X) 128 0 [.ref (y + 10), .int (nI k)] [] H n q P := by
  obtain ⟨-, ⟨mc, e, h, h2⟩, -, -, -, hl⟩ := ha
  refine L_get h h2 (by rw [List.length_map]; omega) ?_ c
  rw [List.getElem?_map, List.getD_eq_getElem?_getD, List.getElem?_eq_getElem hk]; rfl
theorem ac_ik (ha : m_ac X zf y As H) {k : Nat} (hk : k < As.length) : ev_isK (ev_lk X H (zf (As.getD k 0))) 2 = True := by
  have h20 := ac_lt ha hk
  obtain ⟨-, -, ⟨N, cf, i1, i2, i3, i4, i5⟩, hw, -⟩ := ha
  obtain ⟨j1, j2, j3⟩ := i5 (As.getD k 0) (by omega)
  rw [ev_lk_o (hw _ j3) j2]
  exact ev_isK_y
theorem ac_int (ha : m_ac X zf y As H) {k : Nat} (hk : k < As.length) (c : P (.inl (some (.int (nI (As.getD k 0))))) H n q) : ev_ok (ev_TT X) 12 0 [.ref (zf (As.getD k 0))] [] H n q P :=
  I_int ha.2.2.1 ha.2.2.2.1 (by have := ac_lt ha hk; omega) c
theorem M_before (ha : m_ac X zf y As H) {a p : Nat} (ha20 : a < 1000) (hp : p ≤ As.length) (c : P (.inl (some (.int (nb (mb As a p))))) H n q) : ev_ok (ev_TT X) 210 0 [.ref y, .int (nI a), .int (nI p), ev_J] [] H n q P := by
  have hl60 := ha.2.2.2.2.2
  have hf := ac_f ha
  have hkl := ac_kl ha
  have key : ∀ k, k ≤ p → P (.inl (some (.int (nb (mb As a k))))) H n q → ev_ok (ev_TT X) 210 4 [.ref y, .int (nI a), .int (nI p), .int (nI k - 1)] [] H n q P := by
    intro k
    induction k with
    | zero =>
      intro hk c
      have hneg : nI 0 - 1 < 0 := by decide
      simp (disch := omega) only [t_X8_before_0, t_X8_before_1, t_X8_before_2, t_X8_before_3, t_X8_before_4, t_X8_before_5, t_X8_before_8, t_X8_before_9, t_X8_before_12, t_X8_before_13, t_X8_before_16, t_X8_before_19, t_X8_before_22, t_X8_before_23, t_X8_before_26, t_X8_before_27, t_X8_before_28, t_X8_before_31, t_X8_before_34, t_X8_before_35, x_X8_before_13, x_X8_before_19, ↓reduceIte, ev_k_i, ev_k_r, ev_k_l, ev_k_J, ev_k_n, ev_kr_1, ev_kr_0, ev_isK_y, ev_aG_y, ev_aS_y, ev_aN_y, ev_inA_0, ev_isA_0, ev_ft_I, ev_ft_0, ev_ft_1, ev_ft_o, ev_ft_a, ev_nb_0, ev_nb_1, and_true, true_and, if_true, if_false, not_true_eq_false, not_false_eq_true, nI_1, ev_fG_0, ev_fG_1, ev_fG_2, ev_fG_3, ev_fG_4, ev_fG_5, ev_fG_6, ev_fG_7, ev_fG_8, ev_fS_0, ev_fS_1, ev_fS_2, ev_fS_3, ev_fS_4, ev_fS_5, ev_fS_6, ev_fS_7, ev_fS_8, ev_isO_0, ev_isO_1, ev_isO_2, ev_isO_3, ev_isO_4, ev_isO_5, ev_isO_6, ev_isO_7, ev_isO_8, ev_z0, ev_z1, ev_z2, eq_self, ev_ofN, show ¬ (1 : Int32) = 0 from by decide, show ¬ (2 : Int32) = 0 from by decide, show ¬ (2 : Int32) = 1 from by decide, show ¬ (0 : Int32) = 1 from by decide, show ¬ (0 : Int32) = 2 from by decide, show ¬ (1 : Int32) = 2 from by decide, show ¬ (0 : Int32) = -1 from by decide, show (0 : Int32) ≤ 1 from by decide, show (1 : Int32).toNatClampNeg = 1 from rfl, show (0 : Nat) < 2 from by omega, show (1 : Nat) < 2 from by omega, not_true_eq_false, ne_eq, not_false_eq_true, hneg]
      exact c
    | succ k ih =>
      intro hk c
      have hkl' : k < As.length := by omega
      have hpos := nI_pos (n := k) (by omega)
      have hik := ac_ik ha hkl'
      rw [nI_pred, t_X8_before_4]
      simp (disch := omega) only [t_X8_before_0, t_X8_before_1, t_X8_before_2, t_X8_before_3, t_X8_before_5, t_X8_before_8, t_X8_before_9, t_X8_before_12, t_X8_before_13, t_X8_before_16, t_X8_before_19, t_X8_before_22, t_X8_before_23, t_X8_before_26, t_X8_before_27, t_X8_before_28, t_X8_before_31, t_X8_before_34, t_X8_before_35, x_X8_before_13, x_X8_before_19, ↓reduceIte, ev_k_i, ev_k_r, ev_k_l, ev_k_J, ev_k_n, ev_kr_1, ev_kr_0, ev_isK_y, ev_aG_y, ev_aS_y, ev_aN_y, ev_inA_0, ev_isA_0, ev_ft_I, ev_ft_0, ev_ft_1, ev_ft_o, ev_ft_a, ev_nb_0, ev_nb_1, and_true, true_and, if_true, if_false, not_true_eq_false, not_false_eq_true, nI_1, ev_fG_0, ev_fG_1, ev_fG_2, ev_fG_3, ev_fG_4, ev_fG_5, ev_fG_6, ev_fG_7, ev_fG_8, ev_fS_0, ev_fS_1, ev_fS_2, ev_fS_3, ev_fS_4, ev_fS_5, ev_fS_6, ev_fS_7, ev_fS_8, ev_isO_0, ev_isO_1, ev_isO_2, ev_isO_3, ev_isO_4, ev_isO_5, ev_isO_6, ev_isO_7, ev_isO_8, ev_z0, ev_z1, ev_z2, eq_self, ev_ofN, show ¬ (1 : Int32) = 0 from by decide, show ¬ (2 : Int32) = 0 from by decide, show ¬ (2 : Int32) = 1 from by decide, show ¬ (0 : Int32) = 1 from by decide, show ¬ (0 : Int32) = 2 from by decide, show ¬ (1 : Int32) = 2 from by decide, show ¬ (0 : Int32) = -1 from by decide, show (0 : Int32) ≤ 1 from by decide, show (1 : Int32).toNatClampNeg = 1 from rfl, show (0 : Nat) < 2 from by omega, show (1 : Nat) < 2 from by omega, not_true_eq_false, ne_eq, not_false_eq_true, hpos, hf.1, hf.2, hkl]
      refine ac_get ha hkl' ?_
      simp (disch := omega) only [t_X8_before_0, t_X8_before_1, t_X8_before_2, t_X8_before_3, t_X8_before_5, t_X8_before_8, t_X8_before_9, t_X8_before_12, t_X8_before_13, t_X8_before_16, t_X8_before_19, t_X8_before_22, t_X8_before_23, t_X8_before_26, t_X8_before_27, t_X8_before_28, t_X8_before_31, t_X8_before_34, t_X8_before_35, x_X8_before_13, x_X8_before_19, ↓reduceIte, ev_k_i, ev_k_r, ev_k_l, ev_k_J, ev_k_n, ev_kr_1, ev_kr_0, ev_isK_y, ev_aG_y, ev_aS_y, ev_aN_y, ev_inA_0, ev_isA_0, ev_ft_I, ev_ft_0, ev_ft_1, ev_ft_o, ev_ft_a, ev_nb_0, ev_nb_1, and_true, true_and, if_true, if_false, not_true_eq_false, not_false_eq_true, nI_1, ev_fG_0, ev_fG_1, ev_fG_2, ev_fG_3, ev_fG_4, ev_fG_5, ev_fG_6, ev_fG_7, ev_fG_8, ev_fS_0, ev_fS_1, ev_fS_2, ev_fS_3, ev_fS_4, ev_fS_5, ev_fS_6, ev_fS_7, ev_fS_8, ev_isO_0, ev_isO_1, ev_isO_2, ev_isO_3, ev_isO_4, ev_isO_5, ev_isO_6, ev_isO_7, ev_isO_8, ev_z0, ev_z1, ev_z2, eq_self, ev_ofN, show ¬ (1 : Int32) = 0 from by decide, show ¬ (2 : Int32) = 0 from by decide, show ¬ (2 : Int32) = 1 from by decide, show ¬ (0 : Int32) = 1 from by decide, show ¬ (0 : Int32) = 2 from by decide, show ¬ (1 : Int32) = 2 from by decide, show ¬ (0 : Int32) = -1 from by decide, show (0 : Int32) ≤ 1 from by decide, show (1 : Int32).toNatClampNeg = 1 from rfl, show (0 : Nat) < 2 from by omega, show (1 : Nat) < 2 from by omega, not_true_eq_false, ne_eq, not_false_eq_true, hik]
      refine ac_int ha hkl' ?_
      unfold mb at c
      have hlt := ac_lt ha hkl'
      by_cases e : As.getD k 0 = a
      · rw [if_pos e] at c
        simp (disch := omega) only [t_X8_before_0, t_X8_before_1, t_X8_before_2, t_X8_before_3, t_X8_before_5, t_X8_before_8, t_X8_before_9, t_X8_before_12, t_X8_before_13, t_X8_before_16, t_X8_before_19, t_X8_before_22, t_X8_before_23, t_X8_before_26, t_X8_before_27, t_X8_before_28, t_X8_before_31, t_X8_before_34, t_X8_before_35, x_X8_before_13, x_X8_before_19, ↓reduceIte, ev_k_i, ev_k_r, ev_k_l, ev_k_J, ev_k_n, ev_kr_1, ev_kr_0, ev_isK_y, ev_aG_y, ev_aS_y, ev_aN_y, ev_inA_0, ev_isA_0, ev_ft_I, ev_ft_0, ev_ft_1, ev_ft_o, ev_ft_a, ev_nb_0, ev_nb_1, and_true, true_and, if_true, if_false, not_true_eq_false, not_false_eq_true, nI_1, ev_fG_0, ev_fG_1, ev_fG_2, ev_fG_3, ev_fG_4, ev_fG_5, ev_fG_6, ev_fG_7, ev_fG_8, ev_fS_0, ev_fS_1, ev_fS_2, ev_fS_3, ev_fS_4, ev_fS_5, ev_fS_6, ev_fS_7, ev_fS_8, ev_isO_0, ev_isO_1, ev_isO_2, ev_isO_3, ev_isO_4, ev_isO_5, ev_isO_6, ev_isO_7, ev_isO_8, ev_z0, ev_z1, ev_z2, eq_self, ev_ofN, show ¬ (1 : Int32) = 0 from by decide, show ¬ (2 : Int32) = 0 from by decide, show ¬ (2 : Int32) = 1 from by decide, show ¬ (0 : Int32) = 1 from by decide, show ¬ (0 : Int32) = 2 from by decide, show ¬ (1 : Int32) = 2 from by decide, show ¬ (0 : Int32) = -1 from by decide, show (0 : Int32) ≤ 1 from by decide, show (1 : Int32).toNatClampNeg = 1 from rfl, show (0 : Nat) < 2 from by omega, show (1 : Nat) < 2 from by omega, not_true_eq_false, ne_eq, not_false_eq_true, e]
        exact c
      · rw [if_neg e] at c
        have e2 : ¬ nI (As.getD k 0) = nI a := fun z => e (nI_inj (by omega) (by omega) z)
        have hI := ih (by omega) c
        simp (disch := omega) only [t_X8_before_0, t_X8_before_1, t_X8_before_2, t_X8_before_3, t_X8_before_5, t_X8_before_8, t_X8_before_9, t_X8_before_12, t_X8_before_13, t_X8_before_16, t_X8_before_19, t_X8_before_22, t_X8_before_23, t_X8_before_26, t_X8_before_27, t_X8_before_28, t_X8_before_31, t_X8_before_34, t_X8_before_35, x_X8_before_13, x_X8_before_19, ↓reduceIte, ev_k_i, ev_k_r, ev_k_l, ev_k_J, ev_k_n, ev_kr_1, ev_kr_0, ev_isK_y, ev_aG_y, ev_aS_y, ev_aN_y, ev_inA_0, ev_isA_0, ev_ft_I, ev_ft_0, ev_ft_1, ev_ft_o, ev_ft_a, ev_nb_0, ev_nb_1, and_true, true_and, if_true, if_false, not_true_eq_false, not_false_eq_true, nI_1, ev_fG_0, ev_fG_1, ev_fG_2, ev_fG_3, ev_fG_4, ev_fG_5, ev_fG_6, ev_fG_7, ev_fG_8, ev_fS_0, ev_fS_1, ev_fS_2, ev_fS_3, ev_fS_4, ev_fS_5, ev_fS_6, ev_fS_7, ev_fS_8, ev_isO_0, ev_isO_1, ev_isO_2, ev_isO_3, ev_isO_4, ev_isO_5, ev_isO_6, ev_isO_7, ev_isO_8, ev_z0, ev_z1, ev_z2, eq_self, ev_ofN, show ¬ (1 : Int32) = 0 from by decide, show ¬ (2 : Int32) = 0 from by decide, show ¬ (2 : Int32) = 1 from by decide, show ¬ (0 : Int32) = 1 from by decide, show ¬ (0 : Int32) = 2 from by decide, show ¬ (1 : Int32) = 2 from by decide, show ¬ (0 : Int32) = -1 from by decide, show (0 : Int32) ≤ 1 from by decide, show (1 : Int32).toNatClampNeg = 1 from rfl, show (0 : Nat) < 2 from by omega, show (1 : Nat) < 2 from by omega, not_true_eq_false, ne_eq, not_false_eq_true, e2, ev_sub1]
        exact hI
  have h9 := key p (Nat.le_refl p) c
  simp (disch := omega) only [t_X8_before_0, t_X8_before_1, t_X8_before_2, t_X8_before_3, t_X8_before_5, t_X8_before_8, t_X8_before_9, t_X8_before_12, t_X8_before_13, t_X8_before_16, t_X8_before_19, t_X8_before_22, t_X8_before_23, t_X8_before_26, t_X8_before_27, t_X8_before_28, t_X8_before_31, t_X8_before_34, t_X8_before_35, x_X8_before_13, x_X8_before_19, ↓reduceIte, ev_k_i, ev_k_r, ev_k_l, ev_k_J, ev_k_n, ev_kr_1, ev_kr_0, ev_isK_y, ev_aG_y, ev_aS_y, ev_aN_y, ev_inA_0, ev_isA_0, ev_ft_I, ev_ft_0, ev_ft_1, ev_ft_o, ev_ft_a, ev_nb_0, ev_nb_1, and_true, true_and, if_true, if_false, not_true_eq_false, not_false_eq_true, nI_1, ev_fG_0, ev_fG_1, ev_fG_2, ev_fG_3, ev_fG_4, ev_fG_5, ev_fG_6, ev_fG_7, ev_fG_8, ev_fS_0, ev_fS_1, ev_fS_2, ev_fS_3, ev_fS_4, ev_fS_5, ev_fS_6, ev_fS_7, ev_fS_8, ev_isO_0, ev_isO_1, ev_isO_2, ev_isO_3, ev_isO_4, ev_isO_5, ev_isO_6, ev_isO_7, ev_isO_8, ev_z0, ev_z1, ev_z2, eq_self, ev_ofN, show ¬ (1 : Int32) = 0 from by decide, show ¬ (2 : Int32) = 0 from by decide, show ¬ (2 : Int32) = 1 from by decide, show ¬ (0 : Int32) = 1 from by decide, show ¬ (0 : Int32) = 2 from by decide, show ¬ (1 : Int32) = 2 from by decide, show ¬ (0 : Int32) = -1 from by decide, show (0 : Int32) ≤ 1 from by decide, show (1 : Int32).toNatClampNeg = 1 from rfl, show (0 : Nat) < 2 from by omega, show (1 : Nat) < 2 from by omega, not_true_eq_false, ne_eq, not_false_eq_true]
  exact h9
theorem nb_lt_n {fr : Nat} (hfr : fr < 1000) : (nI fr ≤ nb none) = False := by
  refine eq_false (fun z => ?_)
  have z2 := Int32.le_iff_toInt_le.mp z
  rw [nI_toInt (by omega), show (nb none).toInt = -1 from rfl] at z2
  omega
theorem nb_lt_s {fr j : Nat} (hfr : fr < 1000) (hj : j < 1000) : (nI fr ≤ nb (some j)) = (fr ≤ j) := propext (nI_leI (by omega) (by omega))
theorem M_unlike (ha : m_ac X zf y As H) {fr t : Nat} (hfr : fr ≤ 100) (ht : t ≤ As.length) (c : P (.inl (some (.int (nI (mu As fr (t - fr) fr))))) H n q) : ev_ok (ev_TT X) 242 0 [.ref y, .int (nI fr), .int (nI t), ev_J, ev_J] [] H n q P := by
  have hl60 := ha.2.2.2.2.2
  have hf := ac_f ha
  have hkl := ac_kl ha
  have hk13 := ac_k ha
  have key : ∀ d k s, (k + d = t ∨ (d = 0 ∧ t ≤ k)) → k ≤ 200 → P (.inl (some (.int (nI (s + mu As fr d k))))) H n q → ev_ok (ev_TT X) 242 5 [.ref y, .int (nI fr), .int (nI t), .int (nI s), .int (nI k)] [] H n q P := by
    intro d
    induction d with
    | zero =>
      intro k s hk hk2 c
      have hi2 : t ≤ k := by omega
      simp (disch := omega) only [t_X8_unlike_0, t_X8_unlike_1, t_X8_unlike_2, t_X8_unlike_3, t_X8_unlike_5, t_X8_unlike_7, t_X8_unlike_8, t_X8_unlike_11, t_X8_unlike_12, t_X8_unlike_13, t_X8_unlike_14, t_X8_unlike_17, t_X8_unlike_19, t_X8_unlike_22, t_X8_unlike_25, t_X8_unlike_28, t_X8_unlike_30, t_X8_unlike_33, t_X8_unlike_34, t_X8_unlike_37, t_X8_unlike_38, t_X8_unlike_41, t_X8_unlike_42, t_X8_unlike_45, t_X8_unlike_46, t_X8_unlike_47, t_X8_unlike_50, t_X8_unlike_53, t_X8_unlike_54, x_X8_unlike_19, x_X8_unlike_25, x_X8_unlike_30, x_X8_unlike_42, ↓reduceIte, ev_k_i, ev_k_r, ev_k_l, ev_k_J, ev_k_n, ev_kr_1, ev_kr_0, ev_isK_y, ev_aG_y, ev_aS_y, ev_aN_y, ev_inA_0, ev_isA_0, ev_ft_I, ev_ft_0, ev_ft_1, ev_ft_o, ev_ft_a, ev_nb_0, ev_nb_1, and_true, true_and, if_true, if_false, not_true_eq_false, not_false_eq_true, nI_1, ev_fG_0, ev_fG_1, ev_fG_2, ev_fG_3, ev_fG_4, ev_fG_5, ev_fG_6, ev_fG_7, ev_fG_8, ev_fS_0, ev_fS_1, ev_fS_2, ev_fS_3, ev_fS_4, ev_fS_5, ev_fS_6, ev_fS_7, ev_fS_8, ev_isO_0, ev_isO_1, ev_isO_2, ev_isO_3, ev_isO_4, ev_isO_5, ev_isO_6, ev_isO_7, ev_isO_8, ev_z0, ev_z1, ev_z2, eq_self, ev_ofN, show ¬ (1 : Int32) = 0 from by decide, show ¬ (2 : Int32) = 0 from by decide, show ¬ (2 : Int32) = 1 from by decide, show ¬ (0 : Int32) = 1 from by decide, show ¬ (0 : Int32) = 2 from by decide, show ¬ (1 : Int32) = 2 from by decide, show ¬ (0 : Int32) = -1 from by decide, show (0 : Int32) ≤ 1 from by decide, show (1 : Int32).toNatClampNeg = 1 from rfl, show (0 : Nat) < 2 from by omega, show (1 : Nat) < 2 from by omega, not_true_eq_false, ne_eq, not_false_eq_true, nI_leI, hi2]
      exact c
    | succ d ih =>
      intro k s hk hk2 c
      have hi2 : ¬ t ≤ k := by omega
      have hkl' : k < As.length := by omega
      have hik := ac_ik ha hkl'
      have hlt := ac_lt ha hkl'
      rw [t_X8_unlike_5]
      simp (disch := omega) only [t_X8_unlike_0, t_X8_unlike_1, t_X8_unlike_2, t_X8_unlike_3, t_X8_unlike_7, t_X8_unlike_8, t_X8_unlike_11, t_X8_unlike_12, t_X8_unlike_13, t_X8_unlike_14, t_X8_unlike_17, t_X8_unlike_19, t_X8_unlike_22, t_X8_unlike_25, t_X8_unlike_28, t_X8_unlike_30, t_X8_unlike_33, t_X8_unlike_34, t_X8_unlike_37, t_X8_unlike_38, t_X8_unlike_41, t_X8_unlike_42, t_X8_unlike_45, t_X8_unlike_46, t_X8_unlike_47, t_X8_unlike_50, t_X8_unlike_53, t_X8_unlike_54, x_X8_unlike_19, x_X8_unlike_25, x_X8_unlike_30, x_X8_unlike_42, ↓reduceIte, ev_k_i, ev_k_r, ev_k_l, ev_k_J, ev_k_n, ev_kr_1, ev_kr_0, ev_isK_y, ev_aG_y, ev_aS_y, ev_aN_y, ev_inA_0, ev_isA_0, ev_ft_I, ev_ft_0, ev_ft_1, ev_ft_o, ev_ft_a, ev_nb_0, ev_nb_1, and_true, true_and, if_true, if_false, not_true_eq_false, not_false_eq_true, nI_1, ev_fG_0, ev_fG_1, ev_fG_2, ev_fG_3, ev_fG_4, ev_fG_5, ev_fG_6, ev_fG_7, ev_fG_8, ev_fS_0, ev_fS_1, ev_fS_2, ev_fS_3, ev_fS_4, ev_fS_5, ev_fS_6, ev_fS_7, ev_fS_8, ev_isO_0, ev_isO_1, ev_isO_2, ev_isO_3, ev_isO_4, ev_isO_5, ev_isO_6, ev_isO_7, ev_isO_8, ev_z0, ev_z1, ev_z2, eq_self, ev_ofN, show ¬ (1 : Int32) = 0 from by decide, show ¬ (2 : Int32) = 0 from by decide, show ¬ (2 : Int32) = 1 from by decide, show ¬ (0 : Int32) = 1 from by decide, show ¬ (0 : Int32) = 2 from by decide, show ¬ (1 : Int32) = 2 from by decide, show ¬ (0 : Int32) = -1 from by decide, show (0 : Int32) ≤ 1 from by decide, show (1 : Int32).toNatClampNeg = 1 from rfl, show (0 : Nat) < 2 from by omega, show (1 : Nat) < 2 from by omega, not_true_eq_false, ne_eq, not_false_eq_true, nI_leI, hi2, hf.1, hf.2, hkl, hk13]
      refine ac_get ha hkl' ?_
      simp (disch := omega) only [t_X8_unlike_0, t_X8_unlike_1, t_X8_unlike_2, t_X8_unlike_3, t_X8_unlike_7, t_X8_unlike_8, t_X8_unlike_11, t_X8_unlike_12, t_X8_unlike_13, t_X8_unlike_14, t_X8_unlike_17, t_X8_unlike_19, t_X8_unlike_22, t_X8_unlike_25, t_X8_unlike_28, t_X8_unlike_30, t_X8_unlike_33, t_X8_unlike_34, t_X8_unlike_37, t_X8_unlike_38, t_X8_unlike_41, t_X8_unlike_42, t_X8_unlike_45, t_X8_unlike_46, t_X8_unlike_47, t_X8_unlike_50, t_X8_unlike_53, t_X8_unlike_54, x_X8_unlike_19, x_X8_unlike_25, x_X8_unlike_30, x_X8_unlike_42, ↓reduceIte, ev_k_i, ev_k_r, ev_k_l, ev_k_J, ev_k_n, ev_kr_1, ev_kr_0, ev_isK_y, ev_aG_y, ev_aS_y, ev_aN_y, ev_inA_0, ev_isA_0, ev_ft_I, ev_ft_0, ev_ft_1, ev_ft_o, ev_ft_a, ev_nb_0, ev_nb_1, and_true, true_and, if_true, if_false, not_true_eq_false, not_false_eq_true, nI_1, ev_fG_0, ev_fG_1, ev_fG_2, ev_fG_3, ev_fG_4, ev_fG_5, ev_fG_6, ev_fG_7, ev_fG_8, ev_fS_0, ev_fS_1, ev_fS_2, ev_fS_3, ev_fS_4, ev_fS_5, ev_fS_6, ev_fS_7, ev_fS_8, ev_isO_0, ev_isO_1, ev_isO_2, ev_isO_3, ev_isO_4, ev_isO_5, ev_isO_6, ev_isO_7, ev_isO_8, ev_z0, ev_z1, ev_z2, eq_self, ev_ofN, show ¬ (1 : Int32) = 0 from by decide, show ¬ (2 : Int32) = 0 from by decide, show ¬ (2 : Int32) = 1 from by decide, show ¬ (0 : Int32) = 1 from by decide, show ¬ (0 : Int32) = 2 from by decide, show ¬ (1 : Int32) = 2 from by decide, show ¬ (0 : Int32) = -1 from by decide, show (0 : Int32) ≤ 1 from by decide, show (1 : Int32).toNatClampNeg = 1 from rfl, show (0 : Nat) < 2 from by omega, show (1 : Nat) < 2 from by omega, not_true_eq_false, ne_eq, not_false_eq_true, hik, hk13]
      refine ac_int ha hkl' ?_
      simp (disch := omega) only [t_X8_unlike_0, t_X8_unlike_1, t_X8_unlike_2, t_X8_unlike_3, t_X8_unlike_7, t_X8_unlike_8, t_X8_unlike_11, t_X8_unlike_12, t_X8_unlike_13, t_X8_unlike_14, t_X8_unlike_17, t_X8_unlike_19, t_X8_unlike_22, t_X8_unlike_25, t_X8_unlike_28, t_X8_unlike_30, t_X8_unlike_33, t_X8_unlike_34, t_X8_unlike_37, t_X8_unlike_38, t_X8_unlike_41, t_X8_unlike_42, t_X8_unlike_45, t_X8_unlike_46, t_X8_unlike_47, t_X8_unlike_50, t_X8_unlike_53, t_X8_unlike_54, x_X8_unlike_19, x_X8_unlike_25, x_X8_unlike_30, x_X8_unlike_42, ↓reduceIte, ev_k_i, ev_k_r, ev_k_l, ev_k_J, ev_k_n, ev_kr_1, ev_kr_0, ev_isK_y, ev_aG_y, ev_aS_y, ev_aN_y, ev_inA_0, ev_isA_0, ev_ft_I, ev_ft_0, ev_ft_1, ev_ft_o, ev_ft_a, ev_nb_0, ev_nb_1, and_true, true_and, if_true, if_false, not_true_eq_false, not_false_eq_true, nI_1, ev_fG_0, ev_fG_1, ev_fG_2, ev_fG_3, ev_fG_4, ev_fG_5, ev_fG_6, ev_fG_7, ev_fG_8, ev_fS_0, ev_fS_1, ev_fS_2, ev_fS_3, ev_fS_4, ev_fS_5, ev_fS_6, ev_fS_7, ev_fS_8, ev_isO_0, ev_isO_1, ev_isO_2, ev_isO_3, ev_isO_4, ev_isO_5, ev_isO_6, ev_isO_7, ev_isO_8, ev_z0, ev_z1, ev_z2, eq_self, ev_ofN, show ¬ (1 : Int32) = 0 from by decide, show ¬ (2 : Int32) = 0 from by decide, show ¬ (2 : Int32) = 1 from by decide, show ¬ (0 : Int32) = 1 from by decide, show ¬ (0 : Int32) = 2 from by decide, show ¬ (1 : Int32) = 2 from by decide, show ¬ (0 : Int32) = -1 from by decide, show (0 : Int32) ≤ 1 from by decide, show (1 : Int32).toNatClampNeg = 1 from rfl, show (0 : Nat) < 2 from by omega, show (1 : Nat) < 2 from by omega, not_true_eq_false, ne_eq, not_false_eq_true, hk13]
      refine M_before ha (by omega) (by omega) ?_
      unfold mu mu_c at c
      rcases e : mb As (As.getD k 0) k with _ | j
      · rw [e] at c
        have hle := nb_lt_n (fr := fr) (by omega)
        have hI := ih (k + 1) (s + 1) (by omega) (by omega) (by rw [show s + 1 + mu As fr d (k + 1) = s + (1 + mu As fr d (k + 1)) from by omega]; exact c)
        simp (disch := omega) only [t_X8_unlike_0, t_X8_unlike_1, t_X8_unlike_2, t_X8_unlike_3, t_X8_unlike_7, t_X8_unlike_8, t_X8_unlike_11, t_X8_unlike_12, t_X8_unlike_13, t_X8_unlike_14, t_X8_unlike_17, t_X8_unlike_19, t_X8_unlike_22, t_X8_unlike_25, t_X8_unlike_28, t_X8_unlike_30, t_X8_unlike_33, t_X8_unlike_34, t_X8_unlike_37, t_X8_unlike_38, t_X8_unlike_41, t_X8_unlike_42, t_X8_unlike_45, t_X8_unlike_46, t_X8_unlike_47, t_X8_unlike_50, t_X8_unlike_53, t_X8_unlike_54, x_X8_unlike_19, x_X8_unlike_25, x_X8_unlike_30, x_X8_unlike_42, t_X8_one_0, t_X8_one_1, t_X8_one_4, t_X8_one_5, t_X8_one_8, t_X8_one_9, ↓reduceIte, ev_k_i, ev_k_r, ev_k_l, ev_k_J, ev_k_n, ev_kr_1, ev_kr_0, ev_isK_y, ev_aG_y, ev_aS_y, ev_aN_y, ev_inA_0, ev_isA_0, ev_ft_I, ev_ft_0, ev_ft_1, ev_ft_o, ev_ft_a, ev_nb_0, ev_nb_1, and_true, true_and, if_true, if_false, not_true_eq_false, not_false_eq_true, nI_1, ev_fG_0, ev_fG_1, ev_fG_2, ev_fG_3, ev_fG_4, ev_fG_5, ev_fG_6, ev_fG_7, ev_fG_8, ev_fS_0, ev_fS_1, ev_fS_2, ev_fS_3, ev_fS_4, ev_fS_5, ev_fS_6, ev_fS_7, ev_fS_8, ev_isO_0, ev_isO_1, ev_isO_2, ev_isO_3, ev_isO_4, ev_isO_5, ev_isO_6, ev_isO_7, ev_isO_8, ev_z0, ev_z1, ev_z2, eq_self, ev_ofN, show ¬ (1 : Int32) = 0 from by decide, show ¬ (2 : Int32) = 0 from by decide, show ¬ (2 : Int32) = 1 from by decide, show ¬ (0 : Int32) = 1 from by decide, show ¬ (0 : Int32) = 2 from by decide, show ¬ (1 : Int32) = 2 from by decide, show ¬ (0 : Int32) = -1 from by decide, show (0 : Int32) ≤ 1 from by decide, show (1 : Int32).toNatClampNeg = 1 from rfl, show (0 : Nat) < 2 from by omega, show (1 : Nat) < 2 from by omega, not_true_eq_false, ne_eq, not_false_eq_true, hle]
        exact hI
      · rw [e] at c
        have hjk := mb_lt e
        have hle := nb_lt_s (fr := fr) (j := j) (by omega) (by omega)
        by_cases e2 : j < fr
        · dsimp only at c
          rw [if_pos e2] at c
          have e3 : ¬ fr ≤ j := by omega
          have hI := ih (k + 1) (s + 1) (by omega) (by omega) (by rw [show s + 1 + mu As fr d (k + 1) = s + (1 + mu As fr d (k + 1)) from by omega]; exact c)
          simp (disch := omega) only [t_X8_unlike_0, t_X8_unlike_1, t_X8_unlike_2, t_X8_unlike_3, t_X8_unlike_7, t_X8_unlike_8, t_X8_unlike_11, t_X8_unlike_12, t_X8_unlike_13, t_X8_unlike_14, t_X8_unlike_17, t_X8_unlike_19, t_X8_unlike_22, t_X8_unlike_25, t_X8_unlike_28, t_X8_unlike_30, t_X8_unlike_33, t_X8_unlike_34, t_X8_unlike_37, t_X8_unlike_38, t_X8_unlike_41, t_X8_unlike_42, t_X8_unlike_45, t_X8_unlike_46, t_X8_unlike_47, t_X8_unlike_50, t_X8_unlike_53, t_X8_unlike_54, x_X8_unlike_19, x_X8_unlike_25, x_X8_unlike_30, x_X8_unlike_42, t_X8_one_0, t_X8_one_1, t_X8_one_4, t_X8_one_5, t_X8_one_8, t_X8_one_9, ↓reduceIte, ev_k_i, ev_k_r, ev_k_l, ev_k_J, ev_k_n, ev_kr_1, ev_kr_0, ev_isK_y, ev_aG_y, ev_aS_y, ev_aN_y, ev_inA_0, ev_isA_0, ev_ft_I, ev_ft_0, ev_ft_1, ev_ft_o, ev_ft_a, ev_nb_0, ev_nb_1, and_true, true_and, if_true, if_false, not_true_eq_false, not_false_eq_true, nI_1, ev_fG_0, ev_fG_1, ev_fG_2, ev_fG_3, ev_fG_4, ev_fG_5, ev_fG_6, ev_fG_7, ev_fG_8, ev_fS_0, ev_fS_1, ev_fS_2, ev_fS_3, ev_fS_4, ev_fS_5, ev_fS_6, ev_fS_7, ev_fS_8, ev_isO_0, ev_isO_1, ev_isO_2, ev_isO_3, ev_isO_4, ev_isO_5, ev_isO_6, ev_isO_7, ev_isO_8, ev_z0, ev_z1, ev_z2, eq_self, ev_ofN, show ¬ (1 : Int32) = 0 from by decide, show ¬ (2 : Int32) = 0 from by decide, show ¬ (2 : Int32) = 1 from by decide, show ¬ (0 : Int32) = 1 from by decide, show ¬ (0 : Int32) = 2 from by decide, show ¬ (1 : Int32) = 2 from by decide, show ¬ (0 : Int32) = -1 from by decide, show (0 : Int32) ≤ 1 from by decide, show (1 : Int32).toNatClampNeg = 1 from rfl, show (0 : Nat) < 2 from by omega, show (1 : Nat) < 2 from by omega, not_true_eq_false, ne_eq, not_false_eq_true, hle, e3]
          exact hI
        · dsimp only at c
          rw [if_neg e2, Nat.zero_add] at c
          have e3 : fr ≤ j := by omega
          have hI := ih (k + 1) s (by omega) (by omega) c
          simp (disch := omega) only [t_X8_unlike_0, t_X8_unlike_1, t_X8_unlike_2, t_X8_unlike_3, t_X8_unlike_7, t_X8_unlike_8, t_X8_unlike_11, t_X8_unlike_12, t_X8_unlike_13, t_X8_unlike_14, t_X8_unlike_17, t_X8_unlike_19, t_X8_unlike_22, t_X8_unlike_25, t_X8_unlike_28, t_X8_unlike_30, t_X8_unlike_33, t_X8_unlike_34, t_X8_unlike_37, t_X8_unlike_38, t_X8_unlike_41, t_X8_unlike_42, t_X8_unlike_45, t_X8_unlike_46, t_X8_unlike_47, t_X8_unlike_50, t_X8_unlike_53, t_X8_unlike_54, x_X8_unlike_19, x_X8_unlike_25, x_X8_unlike_30, x_X8_unlike_42, t_X8_one_0, t_X8_one_1, t_X8_one_4, t_X8_one_5, t_X8_one_8, t_X8_one_9, ↓reduceIte, ev_k_i, ev_k_r, ev_k_l, ev_k_J, ev_k_n, ev_kr_1, ev_kr_0, ev_isK_y, ev_aG_y, ev_aS_y, ev_aN_y, ev_inA_0, ev_isA_0, ev_ft_I, ev_ft_0, ev_ft_1, ev_ft_o, ev_ft_a, ev_nb_0, ev_nb_1, and_true, true_and, if_true, if_false, not_true_eq_false, not_false_eq_true, nI_1, ev_fG_0, ev_fG_1, ev_fG_2, ev_fG_3, ev_fG_4, ev_fG_5, ev_fG_6, ev_fG_7, ev_fG_8, ev_fS_0, ev_fS_1, ev_fS_2, ev_fS_3, ev_fS_4, ev_fS_5, ev_fS_6, ev_fS_7, ev_fS_8, ev_isO_0, ev_isO_1, ev_isO_2, ev_isO_3, ev_isO_4, ev_isO_5, ev_isO_6, ev_isO_7, ev_isO_8, ev_z0, ev_z1, ev_z2, eq_self, ev_ofN, show ¬ (1 : Int32) = 0 from by decide, show ¬ (2 : Int32) = 0 from by decide, show ¬ (2 : Int32) = 1 from by decide, show ¬ (0 : Int32) = 1 from by decide, show ¬ (0 : Int32) = 2 from by decide, show ¬ (1 : Int32) = 2 from by decide, show ¬ (0 : Int32) = -1 from by decide, show (0 : Int32) ≤ 1 from by decide, show (1 : Int32).toNatClampNeg = 1 from rfl, show (0 : Nat) < 2 from by omega, show (1 : Nat) < 2 from by omega, not_true_eq_false, ne_eq, not_false_eq_true, hle, e3, Int32.add_zero]
          exact hI
  have h9 := key (t - fr) fr 0 (by omega) (by omega) (by rw [Nat.zero_add]; exact c)
  rw [nI_0] at h9
  simp (disch := omega) only [t_X8_unlike_0, t_X8_unlike_1, t_X8_unlike_2, t_X8_unlike_3, t_X8_unlike_7, t_X8_unlike_8, t_X8_unlike_11, t_X8_unlike_12, t_X8_unlike_13, t_X8_unlike_14, t_X8_unlike_17, t_X8_unlike_19, t_X8_unlike_22, t_X8_unlike_25, t_X8_unlike_28, t_X8_unlike_30, t_X8_unlike_33, t_X8_unlike_34, t_X8_unlike_37, t_X8_unlike_38, t_X8_unlike_41, t_X8_unlike_42, t_X8_unlike_45, t_X8_unlike_46, t_X8_unlike_47, t_X8_unlike_50, t_X8_unlike_53, t_X8_unlike_54, x_X8_unlike_19, x_X8_unlike_25, x_X8_unlike_30, x_X8_unlike_42, ↓reduceIte, ev_k_i, ev_k_r, ev_k_l, ev_k_J, ev_k_n, ev_kr_1, ev_kr_0, ev_isK_y, ev_aG_y, ev_aS_y, ev_aN_y, ev_inA_0, ev_isA_0, ev_ft_I, ev_ft_0, ev_ft_1, ev_ft_o, ev_ft_a, ev_nb_0, ev_nb_1, and_true, true_and, if_true, if_false, not_true_eq_false, not_false_eq_true, nI_1, ev_fG_0, ev_fG_1, ev_fG_2, ev_fG_3, ev_fG_4, ev_fG_5, ev_fG_6, ev_fG_7, ev_fG_8, ev_fS_0, ev_fS_1, ev_fS_2, ev_fS_3, ev_fS_4, ev_fS_5, ev_fS_6, ev_fS_7, ev_fS_8, ev_isO_0, ev_isO_1, ev_isO_2, ev_isO_3, ev_isO_4, ev_isO_5, ev_isO_6, ev_isO_7, ev_isO_8, ev_z0, ev_z1, ev_z2, eq_self, ev_ofN, show ¬ (1 : Int32) = 0 from by decide, show ¬ (2 : Int32) = 0 from by decide, show ¬ (2 : Int32) = 1 from by decide, show ¬ (0 : Int32) = 1 from by decide, show ¬ (0 : Int32) = 2 from by decide, show ¬ (1 : Int32) = 2 from by decide, show ¬ (0 : Int32) = -1 from by decide, show (0 : Int32) ≤ 1 from by decide, show (1 : Int32).toNatClampNeg = 1 from rfl, show (0 : Nat) < 2 from by omega, show (1 : Nat) < 2 from by omega, not_true_eq_false, ne_eq, not_false_eq_true]
  exact h9
theorem M_depthOf (ha : m_ac X zf y As H) {a p : Nat} (ha20 : a < 1000) (hp : p ≤ As.length) (c : P (.inl (some (.int (nI (md As a p))))) H n q) : ev_ok (ev_TT X) 256 0 [.ref y, .int (nI a), .int (nI p), ev_J] [] H n q P := by
  have hl60 := ha.2.2.2.2.2
  have hk13 := ac_k ha
  simp (disch := omega) only [t_X8_depthOf_0, t_X8_depthOf_1, t_X8_depthOf_2, t_X8_depthOf_3, t_X8_depthOf_6, t_X8_depthOf_7, t_X8_depthOf_8, t_X8_depthOf_9, t_X8_depthOf_12, t_X8_depthOf_13, t_X8_depthOf_16, t_X8_depthOf_17, t_X8_depthOf_18, t_X8_depthOf_19, t_X8_depthOf_20, t_X8_depthOf_21, t_X8_depthOf_22, t_X8_depthOf_25, t_X8_depthOf_26, x_X8_depthOf_3, x_X8_depthOf_22, ↓reduceIte, ev_k_i, ev_k_r, ev_k_l, ev_k_J, ev_k_n, ev_kr_1, ev_kr_0, ev_isK_y, ev_aG_y, ev_aS_y, ev_aN_y, ev_inA_0, ev_isA_0, ev_ft_I, ev_ft_0, ev_ft_1, ev_ft_o, ev_ft_a, ev_nb_0, ev_nb_1, and_true, true_and, if_true, if_false, not_true_eq_false, not_false_eq_true, nI_1, ev_fG_0, ev_fG_1, ev_fG_2, ev_fG_3, ev_fG_4, ev_fG_5, ev_fG_6, ev_fG_7, ev_fG_8, ev_fS_0, ev_fS_1, ev_fS_2, ev_fS_3, ev_fS_4, ev_fS_5, ev_fS_6, ev_fS_7, ev_fS_8, ev_isO_0, ev_isO_1, ev_isO_2, ev_isO_3, ev_isO_4, ev_isO_5, ev_isO_6, ev_isO_7, ev_isO_8, ev_z0, ev_z1, ev_z2, eq_self, ev_ofN, show ¬ (1 : Int32) = 0 from by decide, show ¬ (2 : Int32) = 0 from by decide, show ¬ (2 : Int32) = 1 from by decide, show ¬ (0 : Int32) = 1 from by decide, show ¬ (0 : Int32) = 2 from by decide, show ¬ (1 : Int32) = 2 from by decide, show ¬ (0 : Int32) = -1 from by decide, show (0 : Int32) ≤ 1 from by decide, show (1 : Int32).toNatClampNeg = 1 from rfl, show (0 : Nat) < 2 from by omega, show (1 : Nat) < 2 from by omega, not_true_eq_false, ne_eq, not_false_eq_true, hk13]
  refine M_before ha ha20 hp ?_
  unfold md at c
  rcases e : mb As a p with _ | l
  · rw [e] at c
    unfold nb
    simp (disch := omega) only [t_X8_depthOf_0, t_X8_depthOf_1, t_X8_depthOf_2, t_X8_depthOf_3, t_X8_depthOf_6, t_X8_depthOf_7, t_X8_depthOf_8, t_X8_depthOf_9, t_X8_depthOf_12, t_X8_depthOf_13, t_X8_depthOf_16, t_X8_depthOf_17, t_X8_depthOf_18, t_X8_depthOf_19, t_X8_depthOf_20, t_X8_depthOf_21, t_X8_depthOf_22, t_X8_depthOf_25, t_X8_depthOf_26, x_X8_depthOf_3, x_X8_depthOf_22, ↓reduceIte, ev_k_i, ev_k_r, ev_k_l, ev_k_J, ev_k_n, ev_kr_1, ev_kr_0, ev_isK_y, ev_aG_y, ev_aS_y, ev_aN_y, ev_inA_0, ev_isA_0, ev_ft_I, ev_ft_0, ev_ft_1, ev_ft_o, ev_ft_a, ev_nb_0, ev_nb_1, and_true, true_and, if_true, if_false, not_true_eq_false, not_false_eq_true, nI_1, ev_fG_0, ev_fG_1, ev_fG_2, ev_fG_3, ev_fG_4, ev_fG_5, ev_fG_6, ev_fG_7, ev_fG_8, ev_fS_0, ev_fS_1, ev_fS_2, ev_fS_3, ev_fS_4, ev_fS_5, ev_fS_6, ev_fS_7, ev_fS_8, ev_isO_0, ev_isO_1, ev_isO_2, ev_isO_3, ev_isO_4, ev_isO_5, ev_isO_6, ev_isO_7, ev_isO_8, ev_z0, ev_z1, ev_z2, eq_self, ev_ofN, show ¬ (1 : Int32) = 0 from by decide, show ¬ (2 : Int32) = 0 from by decide, show ¬ (2 : Int32) = 1 from by decide, show ¬ (0 : Int32) = 1 from by decide, show ¬ (0 : Int32) = 2 from by decide, show ¬ (1 : Int32) = 2 from by decide, show ¬ (0 : Int32) = -1 from by decide, show (0 : Int32) ≤ 1 from by decide, show (1 : Int32).toNatClampNeg = 1 from rfl, show (0 : Nat) < 2 from by omega, show (1 : Nat) < 2 from by omega, not_true_eq_false, ne_eq, not_false_eq_true, hk13]
    exact c
  · rw [e] at c
    have hlt := mb_lt e
    have hm1 := ev_nm1 (show l < 2 ^ 31 by omega)
    unfold nb
    simp (disch := omega) only [t_X8_depthOf_0, t_X8_depthOf_1, t_X8_depthOf_2, t_X8_depthOf_3, t_X8_depthOf_6, t_X8_depthOf_7, t_X8_depthOf_8, t_X8_depthOf_9, t_X8_depthOf_12, t_X8_depthOf_13, t_X8_depthOf_16, t_X8_depthOf_17, t_X8_depthOf_18, t_X8_depthOf_19, t_X8_depthOf_20, t_X8_depthOf_21, t_X8_depthOf_22, t_X8_depthOf_25, t_X8_depthOf_26, x_X8_depthOf_3, x_X8_depthOf_22, ↓reduceIte, ev_k_i, ev_k_r, ev_k_l, ev_k_J, ev_k_n, ev_kr_1, ev_kr_0, ev_isK_y, ev_aG_y, ev_aS_y, ev_aN_y, ev_inA_0, ev_isA_0, ev_ft_I, ev_ft_0, ev_ft_1, ev_ft_o, ev_ft_a, ev_nb_0, ev_nb_1, and_true, true_and, if_true, if_false, not_true_eq_false, not_false_eq_true, nI_1, ev_fG_0, ev_fG_1, ev_fG_2, ev_fG_3, ev_fG_4, ev_fG_5, ev_fG_6, ev_fG_7, ev_fG_8, ev_fS_0, ev_fS_1, ev_fS_2, ev_fS_3, ev_fS_4, ev_fS_5, ev_fS_6, ev_fS_7, ev_fS_8, ev_isO_0, ev_isO_1, ev_isO_2, ev_isO_3, ev_isO_4, ev_isO_5, ev_isO_6, ev_isO_7, ev_isO_8, ev_z0, ev_z1, ev_z2, eq_self, ev_ofN, show ¬ (1 : Int32) = 0 from by decide, show ¬ (2 : Int32) = 0 from by decide, show ¬ (2 : Int32) = 1 from by decide, show ¬ (0 : Int32) = 1 from by decide, show ¬ (0 : Int32) = 2 from by decide, show ¬ (1 : Int32) = 2 from by decide, show ¬ (0 : Int32) = -1 from by decide, show (0 : Int32) ≤ 1 from by decide, show (1 : Int32).toNatClampNeg = 1 from rfl, show (0 : Nat) < 2 from by omega, show (1 : Nat) < 2 from by omega, not_true_eq_false, ne_eq, not_false_eq_true, hk13, hm1]
    refine M_unlike ha (by omega) hp ?_
    have h1a : (1 : Int32) + nI (mu As (l + 1) (p - (l + 1)) (l + 1)) = nI (1 + mu As (l + 1) (p - (l + 1)) (l + 1)) := nI_add 1 _
    simp (disch := omega) only [t_X8_depthOf_0, t_X8_depthOf_1, t_X8_depthOf_2, t_X8_depthOf_3, t_X8_depthOf_6, t_X8_depthOf_7, t_X8_depthOf_8, t_X8_depthOf_9, t_X8_depthOf_12, t_X8_depthOf_13, t_X8_depthOf_16, t_X8_depthOf_17, t_X8_depthOf_18, t_X8_depthOf_19, t_X8_depthOf_20, t_X8_depthOf_21, t_X8_depthOf_22, t_X8_depthOf_25, t_X8_depthOf_26, x_X8_depthOf_3, x_X8_depthOf_22, ↓reduceIte, ev_k_i, ev_k_r, ev_k_l, ev_k_J, ev_k_n, ev_kr_1, ev_kr_0, ev_isK_y, ev_aG_y, ev_aS_y, ev_aN_y, ev_inA_0, ev_isA_0, ev_ft_I, ev_ft_0, ev_ft_1, ev_ft_o, ev_ft_a, ev_nb_0, ev_nb_1, and_true, true_and, if_true, if_false, not_true_eq_false, not_false_eq_true, nI_1, ev_fG_0, ev_fG_1, ev_fG_2, ev_fG_3, ev_fG_4, ev_fG_5, ev_fG_6, ev_fG_7, ev_fG_8, ev_fS_0, ev_fS_1, ev_fS_2, ev_fS_3, ev_fS_4, ev_fS_5, ev_fS_6, ev_fS_7, ev_fS_8, ev_isO_0, ev_isO_1, ev_isO_2, ev_isO_3, ev_isO_4, ev_isO_5, ev_isO_6, ev_isO_7, ev_isO_8, ev_z0, ev_z1, ev_z2, eq_self, ev_ofN, show ¬ (1 : Int32) = 0 from by decide, show ¬ (2 : Int32) = 0 from by decide, show ¬ (2 : Int32) = 1 from by decide, show ¬ (0 : Int32) = 1 from by decide, show ¬ (0 : Int32) = 2 from by decide, show ¬ (1 : Int32) = 2 from by decide, show ¬ (0 : Int32) = -1 from by decide, show (0 : Int32) ≤ 1 from by decide, show (1 : Int32).toNatClampNeg = 1 from rfl, show (0 : Nat) < 2 from by omega, show (1 : Nat) < 2 from by omega, not_true_eq_false, ne_eq, not_false_eq_true, h1a]
    exact c
theorem M_isHit (ha : m_ac X zf y As H) {s k : Nat} (hs : s ≤ 1000) (hk : k < As.length) (c : P (.inl (some (.int (ev_bb (mh As s k))))) H n q) : ev_ok (ev_TT X) 268 0 [.ref y, .int (nI s), .int (nI k), ev_J] [] H n q P := by
  have hl60 := ha.2.2.2.2.2
  have hf := ac_f ha
  have hkl := ac_kl ha
  have hk13 := ac_k ha
  have hik := ac_ik ha hk
  have hlt := ac_lt ha hk
  simp (disch := omega) only [t_X8_isHit_0, t_X8_isHit_1, t_X8_isHit_2, t_X8_isHit_5, t_X8_isHit_6, t_X8_isHit_9, t_X8_isHit_12, t_X8_isHit_15, t_X8_isHit_16, t_X8_isHit_19, t_X8_isHit_20, t_X8_isHit_21, t_X8_isHit_24, t_X8_isHit_25, t_X8_isHit_26, t_X8_isHit_29, t_X8_isHit_30, t_X8_isHit_33, t_X8_isHit_34, x_X8_isHit_6, x_X8_isHit_12, x_X8_isHit_16, ↓reduceIte, ev_k_i, ev_k_r, ev_k_l, ev_k_J, ev_k_n, ev_kr_1, ev_kr_0, ev_isK_y, ev_aG_y, ev_aS_y, ev_aN_y, ev_inA_0, ev_isA_0, ev_ft_I, ev_ft_0, ev_ft_1, ev_ft_o, ev_ft_a, ev_nb_0, ev_nb_1, and_true, true_and, if_true, if_false, not_true_eq_false, not_false_eq_true, nI_1, ev_fG_0, ev_fG_1, ev_fG_2, ev_fG_3, ev_fG_4, ev_fG_5, ev_fG_6, ev_fG_7, ev_fG_8, ev_fS_0, ev_fS_1, ev_fS_2, ev_fS_3, ev_fS_4, ev_fS_5, ev_fS_6, ev_fS_7, ev_fS_8, ev_isO_0, ev_isO_1, ev_isO_2, ev_isO_3, ev_isO_4, ev_isO_5, ev_isO_6, ev_isO_7, ev_isO_8, ev_z0, ev_z1, ev_z2, eq_self, ev_ofN, show ¬ (1 : Int32) = 0 from by decide, show ¬ (2 : Int32) = 0 from by decide, show ¬ (2 : Int32) = 1 from by decide, show ¬ (0 : Int32) = 1 from by decide, show ¬ (0 : Int32) = 2 from by decide, show ¬ (1 : Int32) = 2 from by decide, show ¬ (0 : Int32) = -1 from by decide, show (0 : Int32) ≤ 1 from by decide, show (1 : Int32).toNatClampNeg = 1 from rfl, show (0 : Nat) < 2 from by omega, show (1 : Nat) < 2 from by omega, not_true_eq_false, ne_eq, not_false_eq_true, hf.1, hf.2, hkl]
  refine ac_get ha hk ?_
  simp (disch := omega) only [t_X8_isHit_0, t_X8_isHit_1, t_X8_isHit_2, t_X8_isHit_5, t_X8_isHit_6, t_X8_isHit_9, t_X8_isHit_12, t_X8_isHit_15, t_X8_isHit_16, t_X8_isHit_19, t_X8_isHit_20, t_X8_isHit_21, t_X8_isHit_24, t_X8_isHit_25, t_X8_isHit_26, t_X8_isHit_29, t_X8_isHit_30, t_X8_isHit_33, t_X8_isHit_34, x_X8_isHit_6, x_X8_isHit_12, x_X8_isHit_16, ↓reduceIte, ev_k_i, ev_k_r, ev_k_l, ev_k_J, ev_k_n, ev_kr_1, ev_kr_0, ev_isK_y, ev_aG_y, ev_aS_y, ev_aN_y, ev_inA_0, ev_isA_0, ev_ft_I, ev_ft_0, ev_ft_1, ev_ft_o, ev_ft_a, ev_nb_0, ev_nb_1, and_true, true_and, if_true, if_false, not_true_eq_false, not_false_eq_true, nI_1, ev_fG_0, ev_fG_1, ev_fG_2, ev_fG_3, ev_fG_4, ev_fG_5, ev_fG_6, ev_fG_7, ev_fG_8, ev_fS_0, ev_fS_1, ev_fS_2, ev_fS_3, ev_fS_4, ev_fS_5, ev_fS_6, ev_fS_7, ev_fS_8, ev_isO_0, ev_isO_1, ev_isO_2, ev_isO_3, ev_isO_4, ev_isO_5, ev_isO_6, ev_isO_7, ev_isO_8, ev_z0, ev_z1, ev_z2, eq_self, ev_ofN, show ¬ (1 : Int32) = 0 from by decide, show ¬ (2 : Int32) = 0 from by decide, show ¬ (2 : Int32) = 1 from by decide, show ¬ (0 : Int32) = 1 from by decide, show ¬ (0 : Int32) = 2 from by decide, show ¬ (1 : Int32) = 2 from by decide, show ¬ (0 : Int32) = -1 from by decide, show (0 : Int32) ≤ 1 from by decide, show (1 : Int32).toNatClampNeg = 1 from rfl, show (0 : Nat) < 2 from by omega, show (1 : Nat) < 2 from by omega, not_true_eq_false, ne_eq, not_false_eq_true, hik]
  refine ac_int ha hk ?_
  simp (disch := omega) only [t_X8_isHit_0, t_X8_isHit_1, t_X8_isHit_2, t_X8_isHit_5, t_X8_isHit_6, t_X8_isHit_9, t_X8_isHit_12, t_X8_isHit_15, t_X8_isHit_16, t_X8_isHit_19, t_X8_isHit_20, t_X8_isHit_21, t_X8_isHit_24, t_X8_isHit_25, t_X8_isHit_26, t_X8_isHit_29, t_X8_isHit_30, t_X8_isHit_33, t_X8_isHit_34, x_X8_isHit_6, x_X8_isHit_12, x_X8_isHit_16, ↓reduceIte, ev_k_i, ev_k_r, ev_k_l, ev_k_J, ev_k_n, ev_kr_1, ev_kr_0, ev_isK_y, ev_aG_y, ev_aS_y, ev_aN_y, ev_inA_0, ev_isA_0, ev_ft_I, ev_ft_0, ev_ft_1, ev_ft_o, ev_ft_a, ev_nb_0, ev_nb_1, and_true, true_and, if_true, if_false, not_true_eq_false, not_false_eq_true, nI_1, ev_fG_0, ev_fG_1, ev_fG_2, ev_fG_3, ev_fG_4, ev_fG_5, ev_fG_6, ev_fG_7, ev_fG_8, ev_fS_0, ev_fS_1, ev_fS_2, ev_fS_3, ev_fS_4, ev_fS_5, ev_fS_6, ev_fS_7, ev_fS_8, ev_isO_0, ev_isO_1, ev_isO_2, ev_isO_3, ev_isO_4, ev_isO_5, ev_isO_6, ev_isO_7, ev_isO_8, ev_z0, ev_z1, ev_z2, eq_self, ev_ofN, show ¬ (1 : Int32) = 0 from by decide, show ¬ (2 : Int32) = 0 from by decide, show ¬ (2 : Int32) = 1 from by decide, show ¬ (0 : Int32) = 1 from by decide, show ¬ (0 : Int32) = 2 from by decide, show ¬ (1 : Int32) = 2 from by decide, show ¬ (0 : Int32) = -1 from by decide, show (0 : Int32) ≤ 1 from by decide, show (1 : Int32).toNatClampNeg = 1 from rfl, show (0 : Nat) < 2 from by omega, show (1 : Nat) < 2 from by omega, not_true_eq_false, ne_eq, not_false_eq_true, hk13]
  refine M_depthOf ha (by omega) (by omega) ?_
  have hml := md_le (As := As) (a := As.getD k 0) (p := k)
  unfold mh at c
  by_cases e : 0 < md As (As.getD k 0) k
  · have e' : ¬ nI (md As (As.getD k 0) k) ≤ 0 := nI_nle e (by omega)
    rw [decide_eq_true e] at c
    by_cases e2 : md As (As.getD k 0) k ≤ s
    · rw [decide_eq_true e2] at c
      have e3 : ¬ s < md As (As.getD k 0) k := by omega
      simp (disch := omega) only [t_X8_isHit_0, t_X8_isHit_1, t_X8_isHit_2, t_X8_isHit_5, t_X8_isHit_6, t_X8_isHit_9, t_X8_isHit_12, t_X8_isHit_15, t_X8_isHit_16, t_X8_isHit_19, t_X8_isHit_20, t_X8_isHit_21, t_X8_isHit_24, t_X8_isHit_25, t_X8_isHit_26, t_X8_isHit_29, t_X8_isHit_30, t_X8_isHit_33, t_X8_isHit_34, x_X8_isHit_6, x_X8_isHit_12, x_X8_isHit_16, ↓reduceIte, ev_k_i, ev_k_r, ev_k_l, ev_k_J, ev_k_n, ev_kr_1, ev_kr_0, ev_isK_y, ev_aG_y, ev_aS_y, ev_aN_y, ev_inA_0, ev_isA_0, ev_ft_I, ev_ft_0, ev_ft_1, ev_ft_o, ev_ft_a, ev_nb_0, ev_nb_1, and_true, true_and, if_true, if_false, not_true_eq_false, not_false_eq_true, nI_1, ev_fG_0, ev_fG_1, ev_fG_2, ev_fG_3, ev_fG_4, ev_fG_5, ev_fG_6, ev_fG_7, ev_fG_8, ev_fS_0, ev_fS_1, ev_fS_2, ev_fS_3, ev_fS_4, ev_fS_5, ev_fS_6, ev_fS_7, ev_fS_8, ev_isO_0, ev_isO_1, ev_isO_2, ev_isO_3, ev_isO_4, ev_isO_5, ev_isO_6, ev_isO_7, ev_isO_8, ev_z0, ev_z1, ev_z2, eq_self, ev_ofN, show ¬ (1 : Int32) = 0 from by decide, show ¬ (2 : Int32) = 0 from by decide, show ¬ (2 : Int32) = 1 from by decide, show ¬ (0 : Int32) = 1 from by decide, show ¬ (0 : Int32) = 2 from by decide, show ¬ (1 : Int32) = 2 from by decide, show ¬ (0 : Int32) = -1 from by decide, show (0 : Int32) ≤ 1 from by decide, show (1 : Int32).toNatClampNeg = 1 from rfl, show (0 : Nat) < 2 from by omega, show (1 : Nat) < 2 from by omega, not_true_eq_false, ne_eq, not_false_eq_true, e', nI_ltI, e3]
      exact c
    · rw [decide_eq_false e2] at c
      have e3 : s < md As (As.getD k 0) k := by omega
      simp (disch := omega) only [t_X8_isHit_0, t_X8_isHit_1, t_X8_isHit_2, t_X8_isHit_5, t_X8_isHit_6, t_X8_isHit_9, t_X8_isHit_12, t_X8_isHit_15, t_X8_isHit_16, t_X8_isHit_19, t_X8_isHit_20, t_X8_isHit_21, t_X8_isHit_24, t_X8_isHit_25, t_X8_isHit_26, t_X8_isHit_29, t_X8_isHit_30, t_X8_isHit_33, t_X8_isHit_34, x_X8_isHit_6, x_X8_isHit_12, x_X8_isHit_16, ↓reduceIte, ev_k_i, ev_k_r, ev_k_l, ev_k_J, ev_k_n, ev_kr_1, ev_kr_0, ev_isK_y, ev_aG_y, ev_aS_y, ev_aN_y, ev_inA_0, ev_isA_0, ev_ft_I, ev_ft_0, ev_ft_1, ev_ft_o, ev_ft_a, ev_nb_0, ev_nb_1, and_true, true_and, if_true, if_false, not_true_eq_false, not_false_eq_true, nI_1, ev_fG_0, ev_fG_1, ev_fG_2, ev_fG_3, ev_fG_4, ev_fG_5, ev_fG_6, ev_fG_7, ev_fG_8, ev_fS_0, ev_fS_1, ev_fS_2, ev_fS_3, ev_fS_4, ev_fS_5, ev_fS_6, ev_fS_7, ev_fS_8, ev_isO_0, ev_isO_1, ev_isO_2, ev_isO_3, ev_isO_4, ev_isO_5, ev_isO_6, ev_isO_7, ev_isO_8, ev_z0, ev_z1, ev_z2, eq_self, ev_ofN, show ¬ (1 : Int32) = 0 from by decide, show ¬ (2 : Int32) = 0 from by decide, show ¬ (2 : Int32) = 1 from by decide, show ¬ (0 : Int32) = 1 from by decide, show ¬ (0 : Int32) = 2 from by decide, show ¬ (1 : Int32) = 2 from by decide, show ¬ (0 : Int32) = -1 from by decide, show (0 : Int32) ≤ 1 from by decide, show (1 : Int32).toNatClampNeg = 1 from rfl, show (0 : Nat) < 2 from by omega, show (1 : Nat) < 2 from by omega, not_true_eq_false, ne_eq, not_false_eq_true, e', nI_ltI, e3]
      exact c
  · have e' : nI (md As (As.getD k 0) k) ≤ 0 := by rw [show md As (As.getD k 0) k = 0 from by omega]; decide
    rw [decide_eq_false e] at c
    simp (disch := omega) only [t_X8_isHit_0, t_X8_isHit_1, t_X8_isHit_2, t_X8_isHit_5, t_X8_isHit_6, t_X8_isHit_9, t_X8_isHit_12, t_X8_isHit_15, t_X8_isHit_16, t_X8_isHit_19, t_X8_isHit_20, t_X8_isHit_21, t_X8_isHit_24, t_X8_isHit_25, t_X8_isHit_26, t_X8_isHit_29, t_X8_isHit_30, t_X8_isHit_33, t_X8_isHit_34, x_X8_isHit_6, x_X8_isHit_12, x_X8_isHit_16, ↓reduceIte, ev_k_i, ev_k_r, ev_k_l, ev_k_J, ev_k_n, ev_kr_1, ev_kr_0, ev_isK_y, ev_aG_y, ev_aS_y, ev_aN_y, ev_inA_0, ev_isA_0, ev_ft_I, ev_ft_0, ev_ft_1, ev_ft_o, ev_ft_a, ev_nb_0, ev_nb_1, and_true, true_and, if_true, if_false, not_true_eq_false, not_false_eq_true, nI_1, ev_fG_0, ev_fG_1, ev_fG_2, ev_fG_3, ev_fG_4, ev_fG_5, ev_fG_6, ev_fG_7, ev_fG_8, ev_fS_0, ev_fS_1, ev_fS_2, ev_fS_3, ev_fS_4, ev_fS_5, ev_fS_6, ev_fS_7, ev_fS_8, ev_isO_0, ev_isO_1, ev_isO_2, ev_isO_3, ev_isO_4, ev_isO_5, ev_isO_6, ev_isO_7, ev_isO_8, ev_z0, ev_z1, ev_z2, eq_self, ev_ofN, show ¬ (1 : Int32) = 0 from by decide, show ¬ (2 : Int32) = 0 from by decide, show ¬ (2 : Int32) = 1 from by decide, show ¬ (0 : Int32) = 1 from by decide, show ¬ (0 : Int32) = 2 from by decide, show ¬ (1 : Int32) = 2 from by decide, show ¬ (0 : Int32) = -1 from by decide, show (0 : Int32) ≤ 1 from by decide, show (1 : Int32).toNatClampNeg = 1 from rfl, show (0 : Nat) < 2 from by omega, show (1 : Nat) < 2 from by omega, not_true_eq_false, ne_eq, not_false_eq_true, e']
    exact c
theorem M_keyWith (ha : m_ac X zf y As H) {d p : Nat} (hd : d ≤ 1000) (hp : p ≤ As.length) (c : P (.inl (some (.int (nb (mkw As d p 20 0))))) H n q) : ev_ok (ev_TT X) 270 0 [.ref y, .int (nI d), .int (nI p), ev_J] [] H n q P := by
  have hl60 := ha.2.2.2.2.2
  have hk13 := ac_k ha
  have h20 : (20 : Int32) = nI 20 := rfl
  have key : ∀ e a, a + e = 20 → P (.inl (some (.int (nb (mkw As d p e a))))) H n q → ev_ok (ev_TT X) 270 2 [.ref y, .int (nI d), .int (nI p), .int (nI a)] [] H n q P := by
    intro e
    induction e with
    | zero =>
      intro a hae c
      have hi2 : 20 ≤ a := by omega
      simp (disch := omega) only [t_X8_keyWith_0, t_X8_keyWith_1, t_X8_keyWith_2, t_X8_keyWith_3, t_X8_keyWith_5, t_X8_keyWith_8, t_X8_keyWith_9, t_X8_keyWith_10, t_X8_keyWith_11, t_X8_keyWith_14, t_X8_keyWith_15, t_X8_keyWith_18, t_X8_keyWith_19, t_X8_keyWith_20, t_X8_keyWith_23, t_X8_keyWith_26, t_X8_keyWith_27, x_X8_keyWith_11, ↓reduceIte, ev_k_i, ev_k_r, ev_k_l, ev_k_J, ev_k_n, ev_kr_1, ev_kr_0, ev_isK_y, ev_aG_y, ev_aS_y, ev_aN_y, ev_inA_0, ev_isA_0, ev_ft_I, ev_ft_0, ev_ft_1, ev_ft_o, ev_ft_a, ev_nb_0, ev_nb_1, and_true, true_and, if_true, if_false, not_true_eq_false, not_false_eq_true, nI_1, ev_fG_0, ev_fG_1, ev_fG_2, ev_fG_3, ev_fG_4, ev_fG_5, ev_fG_6, ev_fG_7, ev_fG_8, ev_fS_0, ev_fS_1, ev_fS_2, ev_fS_3, ev_fS_4, ev_fS_5, ev_fS_6, ev_fS_7, ev_fS_8, ev_isO_0, ev_isO_1, ev_isO_2, ev_isO_3, ev_isO_4, ev_isO_5, ev_isO_6, ev_isO_7, ev_isO_8, ev_z0, ev_z1, ev_z2, eq_self, ev_ofN, show ¬ (1 : Int32) = 0 from by decide, show ¬ (2 : Int32) = 0 from by decide, show ¬ (2 : Int32) = 1 from by decide, show ¬ (0 : Int32) = 1 from by decide, show ¬ (0 : Int32) = 2 from by decide, show ¬ (1 : Int32) = 2 from by decide, show ¬ (0 : Int32) = -1 from by decide, show (0 : Int32) ≤ 1 from by decide, show (1 : Int32).toNatClampNeg = 1 from rfl, show (0 : Nat) < 2 from by omega, show (1 : Nat) < 2 from by omega, not_true_eq_false, ne_eq, not_false_eq_true, h20, nI_leI, hi2]
      exact c
    | succ e ih =>
      intro a hae c
      have hi2 : ¬ 20 ≤ a := by omega
      rw [t_X8_keyWith_2]
      simp (disch := omega) only [t_X8_keyWith_0, t_X8_keyWith_1, t_X8_keyWith_3, t_X8_keyWith_5, t_X8_keyWith_8, t_X8_keyWith_9, t_X8_keyWith_10, t_X8_keyWith_11, t_X8_keyWith_14, t_X8_keyWith_15, t_X8_keyWith_18, t_X8_keyWith_19, t_X8_keyWith_20, t_X8_keyWith_23, t_X8_keyWith_26, t_X8_keyWith_27, x_X8_keyWith_11, ↓reduceIte, ev_k_i, ev_k_r, ev_k_l, ev_k_J, ev_k_n, ev_kr_1, ev_kr_0, ev_isK_y, ev_aG_y, ev_aS_y, ev_aN_y, ev_inA_0, ev_isA_0, ev_ft_I, ev_ft_0, ev_ft_1, ev_ft_o, ev_ft_a, ev_nb_0, ev_nb_1, and_true, true_and, if_true, if_false, not_true_eq_false, not_false_eq_true, nI_1, ev_fG_0, ev_fG_1, ev_fG_2, ev_fG_3, ev_fG_4, ev_fG_5, ev_fG_6, ev_fG_7, ev_fG_8, ev_fS_0, ev_fS_1, ev_fS_2, ev_fS_3, ev_fS_4, ev_fS_5, ev_fS_6, ev_fS_7, ev_fS_8, ev_isO_0, ev_isO_1, ev_isO_2, ev_isO_3, ev_isO_4, ev_isO_5, ev_isO_6, ev_isO_7, ev_isO_8, ev_z0, ev_z1, ev_z2, eq_self, ev_ofN, show ¬ (1 : Int32) = 0 from by decide, show ¬ (2 : Int32) = 0 from by decide, show ¬ (2 : Int32) = 1 from by decide, show ¬ (0 : Int32) = 1 from by decide, show ¬ (0 : Int32) = 2 from by decide, show ¬ (1 : Int32) = 2 from by decide, show ¬ (0 : Int32) = -1 from by decide, show (0 : Int32) ≤ 1 from by decide, show (1 : Int32).toNatClampNeg = 1 from rfl, show (0 : Nat) < 2 from by omega, show (1 : Nat) < 2 from by omega, not_true_eq_false, ne_eq, not_false_eq_true, h20, nI_leI, hi2, hk13]
      refine M_depthOf ha (by omega) hp ?_
      have hml := md_le (As := As) (a := a) (p := p)
      unfold mkw at c
      by_cases e2 : md As a p = d
      · rw [if_pos e2] at c
        rw [e2]
        simp (disch := omega) only [t_X8_keyWith_0, t_X8_keyWith_1, t_X8_keyWith_3, t_X8_keyWith_5, t_X8_keyWith_8, t_X8_keyWith_9, t_X8_keyWith_10, t_X8_keyWith_11, t_X8_keyWith_14, t_X8_keyWith_15, t_X8_keyWith_18, t_X8_keyWith_19, t_X8_keyWith_20, t_X8_keyWith_23, t_X8_keyWith_26, t_X8_keyWith_27, x_X8_keyWith_11, ↓reduceIte, ev_k_i, ev_k_r, ev_k_l, ev_k_J, ev_k_n, ev_kr_1, ev_kr_0, ev_isK_y, ev_aG_y, ev_aS_y, ev_aN_y, ev_inA_0, ev_isA_0, ev_ft_I, ev_ft_0, ev_ft_1, ev_ft_o, ev_ft_a, ev_nb_0, ev_nb_1, and_true, true_and, if_true, if_false, not_true_eq_false, not_false_eq_true, nI_1, ev_fG_0, ev_fG_1, ev_fG_2, ev_fG_3, ev_fG_4, ev_fG_5, ev_fG_6, ev_fG_7, ev_fG_8, ev_fS_0, ev_fS_1, ev_fS_2, ev_fS_3, ev_fS_4, ev_fS_5, ev_fS_6, ev_fS_7, ev_fS_8, ev_isO_0, ev_isO_1, ev_isO_2, ev_isO_3, ev_isO_4, ev_isO_5, ev_isO_6, ev_isO_7, ev_isO_8, ev_z0, ev_z1, ev_z2, eq_self, ev_ofN, show ¬ (1 : Int32) = 0 from by decide, show ¬ (2 : Int32) = 0 from by decide, show ¬ (2 : Int32) = 1 from by decide, show ¬ (0 : Int32) = 1 from by decide, show ¬ (0 : Int32) = 2 from by decide, show ¬ (1 : Int32) = 2 from by decide, show ¬ (0 : Int32) = -1 from by decide, show (0 : Int32) ≤ 1 from by decide, show (1 : Int32).toNatClampNeg = 1 from rfl, show (0 : Nat) < 2 from by omega, show (1 : Nat) < 2 from by omega, not_true_eq_false, ne_eq, not_false_eq_true]
        exact c
      · rw [if_neg e2] at c
        have e3 : ¬ nI (md As a p) = nI d := fun z => e2 (nI_inj (by omega) (by omega) z)
        have hI := ih (a + 1) (by omega) c
        simp (disch := omega) only [t_X8_keyWith_0, t_X8_keyWith_1, t_X8_keyWith_3, t_X8_keyWith_5, t_X8_keyWith_8, t_X8_keyWith_9, t_X8_keyWith_10, t_X8_keyWith_11, t_X8_keyWith_14, t_X8_keyWith_15, t_X8_keyWith_18, t_X8_keyWith_19, t_X8_keyWith_20, t_X8_keyWith_23, t_X8_keyWith_26, t_X8_keyWith_27, x_X8_keyWith_11, ↓reduceIte, ev_k_i, ev_k_r, ev_k_l, ev_k_J, ev_k_n, ev_kr_1, ev_kr_0, ev_isK_y, ev_aG_y, ev_aS_y, ev_aN_y, ev_inA_0, ev_isA_0, ev_ft_I, ev_ft_0, ev_ft_1, ev_ft_o, ev_ft_a, ev_nb_0, ev_nb_1, and_true, true_and, if_true, if_false, not_true_eq_false, not_false_eq_true, nI_1, ev_fG_0, ev_fG_1, ev_fG_2, ev_fG_3, ev_fG_4, ev_fG_5, ev_fG_6, ev_fG_7, ev_fG_8, ev_fS_0, ev_fS_1, ev_fS_2, ev_fS_3, ev_fS_4, ev_fS_5, ev_fS_6, ev_fS_7, ev_fS_8, ev_isO_0, ev_isO_1, ev_isO_2, ev_isO_3, ev_isO_4, ev_isO_5, ev_isO_6, ev_isO_7, ev_isO_8, ev_z0, ev_z1, ev_z2, eq_self, ev_ofN, show ¬ (1 : Int32) = 0 from by decide, show ¬ (2 : Int32) = 0 from by decide, show ¬ (2 : Int32) = 1 from by decide, show ¬ (0 : Int32) = 1 from by decide, show ¬ (0 : Int32) = 2 from by decide, show ¬ (1 : Int32) = 2 from by decide, show ¬ (0 : Int32) = -1 from by decide, show (0 : Int32) ≤ 1 from by decide, show (1 : Int32).toNatClampNeg = 1 from rfl, show (0 : Nat) < 2 from by omega, show (1 : Nat) < 2 from by omega, not_true_eq_false, ne_eq, not_false_eq_true, e3]
        exact hI
  have h9 := key 20 0 (by omega) c
  rw [nI_0] at h9
  simp (disch := omega) only [t_X8_keyWith_0, t_X8_keyWith_1, t_X8_keyWith_3, t_X8_keyWith_5, t_X8_keyWith_8, t_X8_keyWith_9, t_X8_keyWith_10, t_X8_keyWith_11, t_X8_keyWith_14, t_X8_keyWith_15, t_X8_keyWith_18, t_X8_keyWith_19, t_X8_keyWith_20, t_X8_keyWith_23, t_X8_keyWith_26, t_X8_keyWith_27, x_X8_keyWith_11, ↓reduceIte, ev_k_i, ev_k_r, ev_k_l, ev_k_J, ev_k_n, ev_kr_1, ev_kr_0, ev_isK_y, ev_aG_y, ev_aS_y, ev_aN_y, ev_inA_0, ev_isA_0, ev_ft_I, ev_ft_0, ev_ft_1, ev_ft_o, ev_ft_a, ev_nb_0, ev_nb_1, and_true, true_and, if_true, if_false, not_true_eq_false, not_false_eq_true, nI_1, ev_fG_0, ev_fG_1, ev_fG_2, ev_fG_3, ev_fG_4, ev_fG_5, ev_fG_6, ev_fG_7, ev_fG_8, ev_fS_0, ev_fS_1, ev_fS_2, ev_fS_3, ev_fS_4, ev_fS_5, ev_fS_6, ev_fS_7, ev_fS_8, ev_isO_0, ev_isO_1, ev_isO_2, ev_isO_3, ev_isO_4, ev_isO_5, ev_isO_6, ev_isO_7, ev_isO_8, ev_z0, ev_z1, ev_z2, eq_self, ev_ofN, show ¬ (1 : Int32) = 0 from by decide, show ¬ (2 : Int32) = 0 from by decide, show ¬ (2 : Int32) = 1 from by decide, show ¬ (0 : Int32) = 1 from by decide, show ¬ (0 : Int32) = 2 from by decide, show ¬ (1 : Int32) = 2 from by decide, show ¬ (0 : Int32) = -1 from by decide, show (0 : Int32) ≤ 1 from by decide, show (1 : Int32).toNatClampNeg = 1 from rfl, show (0 : Nat) < 2 from by omega, show (1 : Nat) < 2 from by omega, not_true_eq_false, ne_eq, not_false_eq_true]
  exact h9
end M64
