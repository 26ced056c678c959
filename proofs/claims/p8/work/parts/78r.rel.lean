/-! ===== the askings: depths by place; the row of those asked last; a keeper's row ===== -/
def dp (As : List Nat) : Nat → Nat → Nat
  | 0, _ => 0
  | p + 1, a => if As.getD p 0 = a then 1 else if dp As p a = 0 then 0 else if ¬ dp As p (As.getD p 0) = 0 ∧ dp As p (As.getD p 0) < dp As p a then dp As p a else dp As p a + 1
theorem dp_s (As : List Nat) (p a : Nat) : dp As (p + 1) a = if As.getD p 0 = a then 1 else if dp As p a = 0 then 0 else if ¬ dp As p (As.getD p 0) = 0 ∧ dp As p (As.getD p 0) < dp As p a then dp As p a else dp As p a + 1 := rfl
theorem mb_s (As : List Nat) (a p : Nat) : mb As a (p + 1) = if As.getD p 0 = a then some p else mb As a p := rfl
theorem dp_ne {As : List Nat} : ∀ {p a b : Nat}, ¬ a = b → ¬ dp As p a = 0 → ¬ dp As p b = 0 → ¬ dp As p a = dp As p b := by
  intro p
  induction p with
  | zero => intro a b _ h; exact absurd rfl h
  | succ p ih =>
    intro a b hab
    have h1 := @ih a b hab
    have h2 := @ih (As.getD p 0) a
    have h3 := @ih (As.getD p 0) b
    rw [dp_s, dp_s]
    by_cases ea : As.getD p 0 = a
    · by_cases eb : As.getD p 0 = b
      · exact absurd (ea.symm.trans eb) hab
      · have h3 := h3 eb
        rw [if_pos ea, if_neg eb]
        (repeat' split) <;> omega
    · have h2 := h2 ea
      by_cases eb : As.getD p 0 = b
      · rw [if_neg ea, if_pos eb]
        (repeat' split) <;> omega
      · have h3 := h3 eb
        rw [if_neg ea, if_neg eb]
        (repeat' split) <;> omega
theorem dp_mb {As : List Nat} {a : Nat} : ∀ {p : Nat}, (mb As a p = none → dp As p a = 0) ∧ ∀ l, mb As a p = some l → ¬ dp As p a = 0 := by
  intro p
  induction p with
  | zero => exact ⟨fun _ => rfl, fun l h => by cases h⟩
  | succ p ih =>
    rw [dp_s, mb_s]
    by_cases ea : As.getD p 0 = a
    · rw [if_pos ea, if_pos ea]
      exact ⟨fun h => (by cases h), fun l _ => by omega⟩
    · rw [if_neg ea, if_neg ea]
      refine ⟨fun h => by rw [if_pos (ih.1 h)], fun l h => ?_⟩
      have := ih.2 l h
      rw [if_neg this]
      split <;> omega
theorem dp_sort {As : List Nat} : ∀ {p a b la lb : Nat}, mb As a p = some la → mb As b p = some lb → lb < la → dp As p a < dp As p b := by
  intro p
  induction p with
  | zero => intro a b la lb h; cases h
  | succ p ih =>
    intro a b la lb ha hb hlt
    have na := (dp_mb (As := As) (a := a) (p := p)).2
    have nb := (dp_mb (As := As) (a := b) (p := p)).2
    rw [mb_s] at ha hb
    rw [dp_s, dp_s]
    by_cases ea : As.getD p 0 = a
    · rw [if_pos ea] at ha
      cases ha
      by_cases eb : As.getD p 0 = b
      · rw [if_pos eb] at hb
        cases hb
        omega
      · rw [if_neg eb] at hb
        have h2 := nb lb hb
        have h3 := dp_ne (As := As) (p := p) eb
        rw [if_pos ea, if_neg eb, if_neg h2]
        split <;> omega
    · rw [if_neg ea] at ha
      by_cases eb : As.getD p 0 = b
      · rw [if_pos eb] at hb
        cases hb
        have := mb_lt ha
        omega
      · rw [if_neg eb] at hb
        have h1 := ih ha hb hlt
        have h2 := na la ha
        have h3 := nb lb hb
        have h4 := dp_ne (As := As) (p := p) ea
        have h5 := dp_ne (As := As) (p := p) eb
        rw [if_neg ea, if_neg eb, if_neg h2, if_neg h3]
        (repeat' split) <;> omega
theorem mu_s {As : List Nat} {fr : Nat} : ∀ d k, mu As fr (d + 1) k = mu As fr d k + mu_c As fr (k + d) := by
  intro d
  induction d with
  | zero => intro k; show mu_c As fr k + 0 = 0 + mu_c As fr k; omega
  | succ d ih =>
    intro k
    show mu_c As fr k + mu As fr (d + 1) (k + 1) = mu_c As fr k + mu As fr d (k + 1) + mu_c As fr (k + (d + 1))
    rw [ih (k + 1), show k + 1 + d = k + (d + 1) from by omega]
    omega
theorem md_dp {As : List Nat} {a : Nat} : ∀ {p : Nat}, md As a p = dp As p a := by
  intro p
  induction p with
  | zero => rfl
  | succ p ih =>
    rw [dp_s]
    unfold md at ih ⊢
    rw [mb_s]
    by_cases ea : As.getD p 0 = a
    · rw [if_pos ea, if_pos ea]
      show 1 + mu As (p + 1) (p + 1 - (p + 1)) (p + 1) = 1
      rw [Nat.sub_self]
      rfl
    · rw [if_neg ea, if_neg ea]
      rcases hm : mb As a p with _ | l
      · rw [if_pos (dp_mb.1 hm)]
      · rw [hm] at ih
        dsimp only at ih ⊢
        have hl := mb_lt hm
        have h0 : ¬ dp As p a = 0 := dp_mb.2 l hm
        have hc : mu_c As (l + 1) p = if ¬ dp As p (As.getD p 0) = 0 ∧ dp As p (As.getD p 0) < dp As p a then 0 else 1 := by
          unfold mu_c
          rcases hc : mb As (As.getD p 0) p with _ | j
          · rw [if_neg (fun z => z.1 (dp_mb.1 hc))]
          · have hj := mb_lt hc
            have hjl : ¬ j = l := fun z => by
              subst z
              exact ea ((mb_at hc).symm.trans (mb_at hm))
            dsimp only
            by_cases hjl2 : j < l + 1
            · have h1 := dp_sort hm hc (by omega)
              rw [if_pos hjl2, if_neg (fun z => by omega)]
            · rw [if_neg hjl2, if_pos ⟨dp_mb.2 j hc, dp_sort hc hm (by omega)⟩]
        rw [if_neg h0, show p + 1 - (l + 1) = (p - (l + 1)) + 1 from by omega, mu_s, show l + 1 + (p - (l + 1)) = p from by omega, hc]
        split <;> omega
theorem getD_app {As : List Nat} {x p : Nat} (h : p < As.length) : (As ++ [x]).getD p 0 = As.getD p 0 := by
  rw [List.getD_eq_getElem?_getD, List.getD_eq_getElem?_getD, List.getElem?_append_left h]
theorem getD_new {As : List Nat} {x : Nat} : (As ++ [x]).getD As.length 0 = x := by
  rw [List.getD_eq_getElem?_getD, List.getElem?_append_right (Nat.le_refl _), Nat.sub_self]
  rfl
theorem dp_app {As : List Nat} {x : Nat} : ∀ {p a : Nat}, p ≤ As.length → dp (As ++ [x]) p a = dp As p a := by
  intro p
  induction p with
  | zero => intro a _; rfl
  | succ p ih =>
    intro a hp
    rw [dp_s, dp_s, getD_app (by omega), ih (by omega), ih (by omega)]
/-- where a keeper of size c took a, if it holds it -/
def tk (As : List Nat) (c : Nat) : Nat → Nat → Nat
  | 0, _ => 0
  | p + 1, a => if As.getD p 0 = a ∧ ¬ (¬ dp As p a = 0 ∧ dp As p a ≤ c) then p else tk As c p a
theorem tk_s (As : List Nat) (c p a : Nat) : tk As c (p + 1) a = if As.getD p 0 = a ∧ ¬ (¬ dp As p a = 0 ∧ dp As p a ≤ c) then p else tk As c p a := rfl
theorem tk_app {As : List Nat} {x c : Nat} : ∀ {p a : Nat}, p ≤ As.length → tk (As ++ [x]) c p a = tk As c p a := by
  intro p
  induction p with
  | zero => intro a _; rfl
  | succ p ih =>
    intro a hp
    rw [tk_s, tk_s, getD_app (by omega), ih (by omega), dp_app (by omega)]
def kI (As : List Nat) (p c : Nat) (L : ev_PL) : Prop := L.length ≤ c ∧ (∀ i, i < L.length → ∃ a, a < 20 ∧ L[i]? = some (nI a, nI (tk As c p a)) ∧ dp As p a = L.length - i) ∧ ∀ a, a < 20 → ¬ dp As p a = 0 → dp As p a ≤ c → dp As p a ≤ L.length
theorem kI_app {As : List Nat} {x c : Nat} {L : ev_PL} (h : kI As As.length c L) : kI (As ++ [x]) As.length c L := by
  refine ⟨h.1, fun i hi => ?_, fun a ha => ?_⟩
  · obtain ⟨a, ha, e1, e2⟩ := h.2.1 i hi
    exact ⟨a, ha, by rw [tk_app (Nat.le_refl _)]; exact e1, by rw [dp_app (Nat.le_refl _)]; exact e2⟩
  · rw [dp_app (Nat.le_refl _)]
    exact h.2.2 a ha
section KI
variable {As : List Nat} {p c : Nat} {L : ev_PL}
theorem pf_at_of {j : Nat} {z : Int32 × Int32} (h : L[j]? = some z) : pf_at L j = z := by
  unfold pf_at
  rw [List.getD_eq_getElem?_getD, h]
  rfl
theorem kI_find (h : kI As p c L) {a : Nat} (ha : a < 20) : pf_find L (nI a) = if ¬ dp As p a = 0 ∧ dp As p a ≤ c then some (L.length - dp As p a) else none := by
  obtain ⟨h1, h2, h3⟩ := h
  have key : ∀ j, j < L.length → (pf_at L j).1 = nI a → dp As p a = L.length - j := fun j hj e => by
    obtain ⟨b, hb, e1, e2⟩ := h2 j hj
    rw [pf_at_of e1] at e
    have : b = a := nI_inj (by omega) (by omega) e
    rw [← this]
    exact e2
  split
  · rename_i hd
    have h4 := h3 a ha hd.1 hd.2
    have hi : L.length - dp As p a < L.length := by omega
    obtain ⟨b, hb, e1, e2⟩ := h2 _ hi
    have eb : dp As p b = dp As p a := by omega
    have : b = a := Classical.byContradiction fun hn => dp_ne hn (by omega) hd.1 eb
    subst this
    refine pf_some hi (by rw [pf_at_of e1]) fun j hj e => ?_
    have := key j (by omega) e
    omega
  · rename_i hd
    refine pf_none fun j hj e => hd ?_
    have := key j hj e
    omega
theorem dp_n {a b : Nat} (e : As.getD p 0 = a) (hb : ¬ b = a) : dp As (p + 1) b = if dp As p b = 0 then 0 else if ¬ dp As p a = 0 ∧ dp As p a < dp As p b then dp As p b else dp As p b + 1 := by
  rw [dp_s, if_neg (fun z => hb (z.symm.trans e)), e]
theorem dp_1 {a : Nat} (e : As.getD p 0 = a) : dp As (p + 1) a = 1 := by rw [dp_s, if_pos e]
theorem tk_n {a b : Nat} (e : As.getD p 0 = a) (hb : ¬ b = a) : tk As c (p + 1) b = tk As c p b := by
  rw [tk_s, if_neg (fun z => hb (z.1.symm.trans e))]
theorem tk_h {a : Nat} (hd : ¬ dp As p a = 0 ∧ dp As p a ≤ c) : tk As c (p + 1) a = tk As c p a := by
  rw [tk_s, if_neg (fun z => z.2 hd)]
theorem tk_m {a : Nat} (e : As.getD p 0 = a) (hd : ¬ (¬ dp As p a = 0 ∧ dp As p a ≤ c)) : tk As c (p + 1) a = p := by
  rw [tk_s, if_pos ⟨e, hd⟩]
theorem kI_hit (h : kI As p c L) {a : Nat} (ha : a < 20) (e : As.getD p 0 = a) (hd : ¬ dp As p a = 0 ∧ dp As p a ≤ c) : kI As (p + 1) c (L.eraseIdx (L.length - dp As p a) ++ [pf_at L (L.length - dp As p a)]) := by
  obtain ⟨h1, h2, h3⟩ := h
  have h4 := h3 a ha hd.1 hd.2
  have hd1 := hd.1
  generalize hj : L.length - dp As p a = j
  have hjl : j < L.length := by omega
  have hle : (L.eraseIdx j).length = L.length - 1 := by rw [List.length_eraseIdx, if_pos hjl]
  have hlen : (L.eraseIdx j ++ [pf_at L j]).length = L.length := by
    rw [List.length_append, hle, List.length_singleton]; omega
  refine ⟨by rw [hlen]; exact h1, fun i hi => ?_, fun b hb b1 b2 => ?_⟩
  · rw [hlen] at hi ⊢
    by_cases hi2 : i < L.length - 1
    · rw [List.getElem?_append_left (by omega), List.getElem?_eraseIdx]
      by_cases hij : i < j
      · rw [if_pos hij]
        obtain ⟨b, hb, e1, e2⟩ := h2 i hi
        have hba : ¬ b = a := fun z => by rw [z] at e2; omega
        refine ⟨b, hb, by rw [tk_n e hba]; exact e1, ?_⟩
        rw [dp_n e hba]
        (repeat' split) <;> omega
      · rw [if_neg hij]
        obtain ⟨b, hb, e1, e2⟩ := h2 (i + 1) (by omega)
        have hba : ¬ b = a := fun z => by rw [z] at e2; omega
        refine ⟨b, hb, by rw [tk_n e hba]; exact e1, ?_⟩
        rw [dp_n e hba]
        (repeat' split) <;> omega
    · obtain ⟨b, hb, e1, e2⟩ := h2 j hjl
      have eb : dp As p b = dp As p a := by omega
      have : b = a := Classical.byContradiction fun hn => dp_ne hn (by omega) hd.1 eb
      subst this
      refine ⟨b, hb, ?_, by rw [dp_1 e]; omega⟩
      rw [List.getElem?_append_right (by omega), hle, show i - (L.length - 1) = 0 from by omega, tk_h hd, pf_at_of e1]
      rfl
  · rw [hlen]
    by_cases hba : b = a
    · rw [hba, dp_1 e]; omega
    · have h6 := h3 b hb
      have h7 := fun z => dp_ne (As := As) (p := p) hba z hd1
      rw [dp_n e hba] at b1 b2 ⊢
      (repeat' split at b1) <;> (repeat' split at b2) <;> (repeat' split) <;> omega
theorem kI_miss (h : kI As p c L) {a : Nat} (ha : a < 20) (e : As.getD p 0 = a) (hc : 1 ≤ c) (hd : ¬ (¬ dp As p a = 0 ∧ dp As p a ≤ c)) :
    (L.length < c → kI As (p + 1) c (L ++ [(nI a, nI p)])) ∧ (L.length = c → kI As (p + 1) c ((L ++ [(nI a, nI p)]).eraseIdx 0)) := by
  obtain ⟨h1, h2, h3⟩ := h
  have old : ∀ i, i < L.length → ∃ b, b < 20 ∧ L[i]? = some (nI b, nI (tk As c (p + 1) b)) ∧ dp As (p + 1) b = L.length + 1 - i := fun i hi => by
    obtain ⟨b, hb, e1, e2⟩ := h2 i hi
    have hba : ¬ b = a := fun z => by
      rw [z] at e2
      exact hd ⟨by omega, by omega⟩
    refine ⟨b, hb, by rw [tk_n e hba]; exact e1, ?_⟩
    rw [dp_n e hba]
    have hq : dp As p a = 0 ∨ c < dp As p a := by omega
    (repeat' split) <;> omega
  have bnd : ∀ b, b < 20 → ¬ b = a → ¬ dp As (p + 1) b = 0 → dp As (p + 1) b ≤ c → dp As (p + 1) b ≤ L.length + 1 := fun b hb hba b1 b2 => by
    have h6 := h3 b hb
    rw [dp_n e hba] at b1 b2 ⊢
    (repeat' split at b1) <;> (repeat' split at b2) <;> (repeat' split) <;> omega
  have hl1 : (L ++ [(nI a, nI p)]).length = L.length + 1 := by rw [List.length_append, List.length_singleton]
  refine ⟨fun hlt => ⟨by omega, fun i hi => ?_, fun b hb b1 b2 => ?_⟩, fun heq => ?_⟩
  · rw [hl1] at hi ⊢
    by_cases hi2 : i < L.length
    · rw [List.getElem?_append_left hi2]
      exact old i hi2
    · refine ⟨a, ha, ?_, by rw [dp_1 e]; omega⟩
      rw [List.getElem?_append_right (by omega), show i - L.length = 0 from by omega, tk_m e hd]
      rfl
  · rw [hl1]
    by_cases hba : b = a
    · rw [hba, dp_1 e]; omega
    · exact bnd b hb hba b1 b2
  · have hl2 : ((L ++ [(nI a, nI p)]).eraseIdx 0).length = L.length := by rw [List.length_eraseIdx, if_pos (by omega), hl1]; omega
    refine ⟨by omega, fun i hi => ?_, fun b hb b1 b2 => by omega⟩
    rw [hl2] at hi ⊢
    rw [List.getElem?_eraseIdx, if_neg (by omega)]
    by_cases hi2 : i + 1 < L.length
    · rw [List.getElem?_append_left hi2]
      obtain ⟨b, hb, e1, e2⟩ := old (i + 1) hi2
      exact ⟨b, hb, e1, by omega⟩
    · refine ⟨a, ha, ?_, by rw [dp_1 e]; omega⟩
      rw [List.getElem?_append_right (by omega), show i + 1 - L.length = 0 from by omega, tk_m e hd]
      rfl
/-- the row takes in an asking -/
theorem kI_step (h : kI As p c L) {a : Nat} (ha : a < 20) (e : As.getD p 0 = a) (hc : 1 ≤ c) {m lm ll : Int32} (hm : pr_above m (L.length + 1) ↔ c < L.length + 1) :
    kI As (p + 1) c (pr_fetchIn L 1 m lm ll (nI a) (nI p)).2.1 ∧ (pr_fetchIn L 1 m lm ll (nI a) (nI p)).1 = (if ¬ dp As p a = 0 ∧ dp As p a ≤ c then 1 else 0) ∧
    (pr_fetchIn L 1 m lm ll (nI a) (nI p)).2.2.2 = (if ¬ dp As p a = 0 ∧ dp As p a ≤ c then ll else if L.length = c then (pf_at L 0).1 else ll) ∧
    (pr_fetchIn L 1 m lm ll (nI a) (nI p)).2.1.length = (if ¬ dp As p a = 0 ∧ dp As p a ≤ c then L.length else if L.length = c then L.length else L.length + 1) := by
  have hf := kI_find h ha
  by_cases hd : ¬ dp As p a = 0 ∧ dp As p a ≤ c
  · have h4 := h.2.2 a ha hd.1 hd.2
    have hd1 := hd.1
    have hjl : L.length - dp As p a < L.length := by omega
    rw [if_pos hd] at hf ⊢
    unfold pr_fetchIn
    rw [hf]
    dsimp only
    have ea : pr_ask L 1 (L.length - dp As p a) = L.eraseIdx (L.length - dp As p a) ++ [pf_at L (L.length - dp As p a)] := by
      unfold pr_ask
      rw [if_neg (by decide)]
    rw [ea]
    refine ⟨kI_hit h ha e hd, rfl, by rw [if_pos hd], ?_⟩
    rw [if_pos hd, List.length_append, List.length_eraseIdx, if_pos hjl, List.length_singleton]
    omega
  · obtain ⟨k1, k2⟩ := kI_miss h ha e hc hd
    have hlc := h.1
    rw [if_neg hd] at hf ⊢
    unfold pr_fetchIn
    rw [hf]
    dsimp only
    rw [if_neg hd, if_neg hd]
    unfold pr_take
    by_cases hab : pr_above m (L.length + 1)
    · have hcl := hm.mp hab
      have heq : L.length = c := by omega
      rw [if_pos hab, if_pos heq, if_pos heq]
      dsimp only
      refine ⟨k2 heq, rfl, ?_, ?_⟩
      · unfold pf_at
        rw [List.getD_eq_getElem?_getD, List.getD_eq_getElem?_getD, List.getElem?_append_left (by omega)]
      · rw [List.length_eraseIdx, List.length_append, List.length_singleton, if_pos (by omega)]
        omega
    · have hlt : L.length < c := by
        have h9 : ¬ c < L.length + 1 := fun z => hab (hm.mpr z)
        omega
      rw [if_neg hab, if_neg (by omega), if_neg (by omega)]
      dsimp only
      exact ⟨k1 hlt, rfl, rfl, by rw [List.length_append, List.length_singleton]⟩
end KI
theorem dp_le {As : List Nat} : ∀ {p a : Nat}, dp As p a ≤ p := by
  intro p
  induction p with
  | zero => intro a; exact Nat.le_refl 0
  | succ p ih =>
    intro a
    have h1 := @ih a
    rw [dp_s]
    (repeat' split) <;> omega
theorem mh_dp {As : List Nat} {c k : Nat} : mh As c k = true ↔ (¬ dp As k (As.getD k 0) = 0 ∧ dp As k (As.getD k 0) ≤ c) := by
  unfold mh
  rw [md_dp, Bool.and_eq_true, decide_eq_true_iff, decide_eq_true_iff]
  omega
theorem mh_app {As : List Nat} {x c k : Nat} (h : k < As.length) : mh (As ++ [x]) c k = mh As c k := by
  unfold mh
  rw [md_dp, md_dp, getD_app h, dp_app (by omega)]
theorem mm_s {As : List Nat} {c : Nat} : ∀ d k, mm As c (d + 1) k = mm As c d k + (if mh As c (k + d) = true then 0 else 1) := by
  intro d
  induction d with
  | zero => intro k; show (if mh As c k = true then 0 else 1) + 0 = 0 + (if mh As c (k + 0) = true then 0 else 1); simp only [Nat.add_zero, Nat.zero_add]
  | succ d ih =>
    intro k
    show (if mh As c k = true then 0 else 1) + mm As c (d + 1) (k + 1) = (if mh As c k = true then 0 else 1) + mm As c d (k + 1) + (if mh As c (k + (d + 1)) = true then 0 else 1)
    rw [ih (k + 1), show k + 1 + d = k + (d + 1) from by omega]
    omega
theorem mm_app {As : List Nat} {x c : Nat} : ∀ d k, k + d ≤ As.length → mm (As ++ [x]) c d k = mm As c d k := by
  intro d
  induction d with
  | zero => intro k _; rfl
  | succ d ih =>
    intro k h
    show (if mh (As ++ [x]) c k = true then 0 else 1) + mm (As ++ [x]) c d (k + 1) = (if mh As c k = true then 0 else 1) + mm As c d (k + 1)
    rw [ih (k + 1) (by omega), mh_app (by omega)]
theorem mm_le {As : List Nat} {c : Nat} : ∀ d k, mm As c d k ≤ d := by
  intro d
  induction d with
  | zero => intro k; exact Nat.le_refl 0
  | succ d ih =>
    intro k
    have := ih k
    rw [mm_s]
    split <;> omega
theorem mb_app {As : List Nat} {x a : Nat} : ∀ {p : Nat}, p ≤ As.length → mb (As ++ [x]) a p = mb As a p := by
  intro p
  induction p with
  | zero => intro _; rfl
  | succ p ih =>
    intro hp
    rw [mb_s, mb_s, getD_app (by omega), ih (by omega)]
theorem mkw_s (As : List Nat) (d p e a : Nat) : mkw As d p (e + 1) a = if md As a p = d then some a else mkw As d p e (a + 1) := rfl
theorem mkw_app {As : List Nat} {x d p : Nat} (h : p ≤ As.length) : ∀ e a, mkw (As ++ [x]) d p e a = mkw As d p e a := by
  intro e
  induction e with
  | zero => intro a; rfl
  | succ e ih =>
    intro a
    rw [mkw_s, mkw_s, ih, md_dp, md_dp, dp_app h]
theorem mkw_none {As : List Nat} {d p : Nat} : ∀ e a, (∀ b, a ≤ b → b < a + e → ¬ dp As p b = d) → mkw As d p e a = none := by
  intro e
  induction e with
  | zero => intro a _; rfl
  | succ e ih =>
    intro a h
    rw [mkw_s, md_dp, if_neg (h a (Nat.le_refl a) (by omega))]
    exact ih (a + 1) (fun b h1 h2 => h b (by omega) (by omega))
theorem mkw_some {As : List Nat} {d p b : Nat} (hd : ¬ d = 0) (hb : dp As p b = d) : ∀ e a, a ≤ b → b < a + e → mkw As d p e a = some b := by
  intro e
  induction e with
  | zero => intro a h1 h2; omega
  | succ e ih =>
    intro a h1 h2
    rw [mkw_s, md_dp]
    by_cases e1 : dp As p a = d
    · have : a = b := Classical.byContradiction fun hn => dp_ne (As := As) (p := p) hn (by omega) (by omega) (by omega)
      rw [if_pos e1, this]
    · rw [if_neg e1]
      exact ih (a + 1) (by
        have : ¬ a = b := fun z => e1 (z ▸ hb)
        omega) (by omega)
theorem ml_s (As : List Nat) (c k : Nat) : ml_n As c (k + 1) = if mh As c k = true then ml_n As c k else (match mkw As c k 20 0 with
  | none => ml_n As c k
  | some a => some a) := rfl
theorem ml_app {As : List Nat} {x c : Nat} : ∀ {p : Nat}, p ≤ As.length → ml_n (As ++ [x]) c p = ml_n As c p := by
  intro p
  induction p with
  | zero => intro _; rfl
  | succ p ih =>
    intro h
    rw [ml_s, ml_s, ih (by omega), mh_app (by omega), mkw_app (by omega)]
theorem mu_app {As : List Nat} {x fr : Nat} : ∀ d k, k + d ≤ As.length → mu (As ++ [x]) fr d k = mu As fr d k := by
  intro d
  induction d with
  | zero => intro k _; rfl
  | succ d ih =>
    intro k h
    show mu_c (As ++ [x]) fr k + mu (As ++ [x]) fr d (k + 1) = mu_c As fr k + mu As fr d (k + 1)
    rw [ih (k + 1) (by omega)]
    unfold mu_c
    rw [getD_app (by omega), mb_app (by omega)]
section KI2
variable {As : List Nat} {p c : Nat} {L : ev_PL}
/-- which key the keeper let go last -/
theorem ml_step (h : kI As p c L) {a : Nat} (e : As.getD p 0 = a) (hc : 1 ≤ c) : nb (ml_n As c (p + 1)) = if ¬ dp As p a = 0 ∧ dp As p a ≤ c then nb (ml_n As c p) else if L.length = c then (pf_at L 0).1 else nb (ml_n As c p) := by
  rw [ml_s]
  by_cases hd : ¬ dp As p a = 0 ∧ dp As p a ≤ c
  · rw [if_pos hd, if_pos (mh_dp.mpr (by rw [e]; exact hd))]
  · rw [if_neg hd, if_neg (fun z => hd (by have := mh_dp.mp z; rw [e] at this; exact this))]
    by_cases hl : L.length = c
    · obtain ⟨b, hb, e1, e2⟩ := h.2.1 0 (by omega)
      rw [if_pos hl, mkw_some (by omega) (show dp As p b = c by omega) 20 0 (by omega) (by omega), pf_at_of e1]
      rfl
    · rw [if_neg hl, mkw_none 20 0 (fun b _ hb e2 => by
        have h1 := h.2.2 b (by omega) (by omega) (by omega)
        have h2 := h.1
        omega)]
end KI2
def jK (As : List Nat) (j : Nat) (s : ev_KS) : Prop := kI As As.length (j + 1) s.1 ∧ s.2.1 = nI (j + 1) ∧ s.2.2.2.1 = nb (ml_n As (j + 1) As.length) ∧ s.2.2.2.2.1 = nI (mm As (j + 1) As.length 0) ∧ s.2.2.2.2.2 = nI (As.length - mm As (j + 1) As.length 0)
/-- what the class' askings, stack and keepers are, told of the keys asked -/
def jR (G : ev_CS) (As : List Nat) : Prop := As.length = G.2.2.2.1.2.2 ∧ (∀ j, j < As.length → G.2.2.2.1.1 j = nI (As.getD j 0) ∧ G.2.2.2.1.2.1 j = nI (dp As j (As.getD j 0))) ∧
  (kI As As.length 100 G.2.1.1 ∧ G.2.1.1.length = mu As 0 As.length 0) ∧ ∀ j, j < 6 → jK As j (G.2.2.1 j)
theorem jK_fi {As : List Nat} {j a : Nat} {s : ev_KS} (h : jK As j s) (hj : j < 6) (ha : a < 20) :
    (pr_fetchIn s.1 1 s.2.1 s.2.2.1 s.2.2.2.1 (nI a) (nI As.length)).1 = (if ¬ dp As As.length a = 0 ∧ dp As As.length a ≤ j + 1 then 1 else 0) ∧ jK (As ++ [a]) j (pk_meet s (nI a) (nI As.length)) := by
  obtain ⟨h1, h2, h3, h4, h5⟩ := h
  have h1' := kI_app (x := a) h1
  have hlc := h1.1
  have hm : pr_above s.2.1 (s.1.length + 1) ↔ j + 1 < s.1.length + 1 := by
    unfold pr_above
    rw [h2, nI_leI (by omega) (by omega)]
    have := ev_nm1 (j := j + 1) (by omega)
    constructor
    · intro z
      have := fun w => z (Or.inr w)
      omega
    · intro z w
      rcases w with w | w
      · exact this w
      · omega
  obtain ⟨g1, g2, g3, -⟩ := kI_step h1' ha getD_new (by omega) (lm := s.2.2.1) (ll := s.2.2.2.1) hm
  have hl := ml_step h1' (a := a) getD_new (by omega)
  rw [dp_app (Nat.le_refl _)] at g2 g3 hl
  have hlen : (As ++ [a]).length = As.length + 1 := by rw [List.length_append, List.length_singleton]
  have hmh : (mh (As ++ [a]) (j + 1) As.length = true) = (¬ dp As As.length a = 0 ∧ dp As As.length a ≤ j + 1) := propext (by rw [mh_dp, getD_new, dp_app (Nat.le_refl _)])
  have hmm : mm (As ++ [a]) (j + 1) (As.length + 1) 0 = mm As (j + 1) As.length 0 + (if ¬ dp As As.length a = 0 ∧ dp As As.length a ≤ j + 1 then 0 else 1) := by
    rw [mm_s, mm_app _ _ (by omega), Nat.zero_add]
    simp only [hmh]
  have hle := mm_le (As := As) (c := j + 1) As.length 0
  refine ⟨g2, ?_⟩
  unfold jK pk_meet
  rw [hlen, hmm]
  refine ⟨g1, h2, ?_, ?_, ?_⟩
  · show (pr_fetchIn s.1 1 s.2.1 s.2.2.1 s.2.2.2.1 (nI a) (nI As.length)).2.2.2 = _
    rw [g3, hl, ml_app (Nat.le_refl _), h3]
  · show (if (pr_fetchIn s.1 1 s.2.1 s.2.2.1 s.2.2.2.1 (nI a) (nI As.length)).1 = 0 then s.2.2.2.2.1 + 1 else s.2.2.2.2.1) = _
    rw [g2, h4]
    by_cases hd : ¬ dp As As.length a = 0 ∧ dp As As.length a ≤ j + 1
    · rw [if_pos hd, if_pos hd, if_neg (by decide)]
      rfl
    · rw [if_neg hd, if_neg hd, if_pos rfl, nI_1]
  · show (if (pr_fetchIn s.1 1 s.2.1 s.2.2.1 s.2.2.2.1 (nI a) (nI As.length)).1 = 0 then s.2.2.2.2.2 else s.2.2.2.2.2 + 1) = _
    rw [g2, h5]
    by_cases hd : ¬ dp As As.length a = 0 ∧ dp As As.length a ≤ j + 1
    · rw [if_pos hd, if_pos hd, if_neg (by decide), nI_1]
      exact congrArg nI (by omega)
    · rw [if_neg hd, if_neg hd, if_pos rfl]
      exact congrArg nI (by omega)
theorem jR_depth {As : List Nat} {G : ev_CS} (h : jR G As) (hA : As.length ≤ 60) {a : Nat} (ha : a < 20) : pd_depth G.2.1.1 (nI a) = nI (dp As As.length a) := by
  obtain ⟨h0, h1, ⟨h2, h3⟩, h5⟩ := h
  have hl := dp_le (As := As) (p := As.length) (a := a)
  unfold pd_depth
  rw [kI_find h2 ha]
  by_cases hd : ¬ dp As As.length a = 0 ∧ dp As As.length a ≤ 100
  · have h6 := h2.2.2 a ha hd.1 hd.2
    rw [if_pos hd]
    exact congrArg nI (by omega)
  · rw [if_neg hd, show dp As As.length a = 0 by omega]
    rfl
theorem jR_ask {As : List Nat} {G : ev_CS} (h : jR G As) (hG : okG G) {a : Nat} (ha : a < 20) (hA : As.length < 60) : jR (pg_ask G (nI a)) (As ++ [a]) := by
  have hdep := jR_depth h (by omega) ha
  obtain ⟨h0, h1, ⟨h2, h3⟩, h5⟩ := h
  have h4 := okL_len hG.2.1
  have hlen : (As ++ [a]).length = As.length + 1 := by rw [List.length_append, List.length_singleton]
  have h2' := kI_app (x := a) h2
  have hm : pr_above (-1) (G.2.1.1.length + 1) ↔ 100 < G.2.1.1.length + 1 := by
    unfold pr_above
    constructor
    · intro z; exact absurd (Or.inl rfl) z
    · intro z; omega
  obtain ⟨g1, -, -, g4⟩ := kI_step h2' ha getD_new (by omega) (lm := G.2.1.2.1) (ll := G.2.1.2.2) hm
  rw [dp_app (Nat.le_refl _)] at g4
  have hmu : mu (As ++ [a]) 0 (As.length + 1) 0 = mu As 0 As.length 0 + (if dp As As.length a = 0 then 1 else 0) := by
    rw [mu_s, mu_app _ _ (by omega), Nat.zero_add]
    unfold mu_c
    rw [getD_new, mb_app (Nat.le_refl _)]
    rcases hb : mb As a As.length with _ | j
    · rw [if_pos (dp_mb.1 hb)]
    · rw [if_neg (dp_mb.2 j hb)]
      show mu As 0 As.length 0 + (if j < 0 then 1 else 0) = _
      rw [if_neg (Nat.not_lt_zero j)]
  have hdl := dp_le (As := As) (p := As.length) (a := a)
  have hq : (pr_fetchIn G.2.1.1 1 (-1) G.2.1.2.1 G.2.1.2.2 (nI a) (nI As.length)).2.1.length = G.2.1.1.length + (if dp As As.length a = 0 then 1 else 0) := by
    rw [g4]
    by_cases hz : dp As As.length a = 0
    · rw [if_neg (fun z => z.1 hz), if_neg (by omega), if_pos hz]
    · rw [if_pos ⟨hz, by omega⟩, if_neg hz]
      rfl
  unfold jR
  rw [hlen]
  refine ⟨by rw [h0]; rfl, fun j hj => ?_, ⟨?_, ?_⟩, fun j hj => ?_⟩
  · show ev_fu G.2.2.2.1.1 G.2.2.2.1.2.2 (nI a) j = _ ∧ ev_fu G.2.2.2.1.2.1 G.2.2.2.1.2.2 (pd_depth G.2.1.1 (nI a)) j = _
    unfold ev_fu
    by_cases hj2 : j = As.length
    · rw [if_pos (by omega), if_pos (by omega), hj2, getD_new, dp_app (Nat.le_refl _)]
      exact ⟨rfl, hdep⟩
    · rw [if_neg (by omega), if_neg (by omega), getD_app (by omega), dp_app (by omega)]
      exact h1 j (by omega)
  · show kI (As ++ [a]) (As.length + 1) 100 (pr_fetchIn G.2.1.1 1 (-1) G.2.1.2.1 G.2.1.2.2 (nI a) (nI G.2.2.2.1.2.2)).2.1
    rw [← h0]
    exact g1
  · show (pr_fetchIn G.2.1.1 1 (-1) G.2.1.2.1 G.2.1.2.2 (nI a) (nI G.2.2.2.1.2.2)).2.1.length = _
    rw [← h0, hq, hmu, h3]
  · show jK (As ++ [a]) j (if j < 6 then pk_meet (G.2.2.1 j) (nI a) (nI G.2.2.2.1.2.2) else G.2.2.1 j)
    rw [if_pos hj, ← h0]
    exact (jK_fi (h5 j hj) hj ha).2
theorem jR_same {As : List Nat} {G G1 : ev_CS} (h : jR G As) (e1 : G1.2.1 = G.2.1) (e2 : G1.2.2.1 = G.2.2.1) (e3 : G1.2.2.2.1 = G.2.2.2.1) : jR G1 As := by
  unfold jR at h ⊢
  rw [e1, e2, e3]
  exact h
theorem jR_rowd {a st : Nat} : ∀ (d i : Nat) (G : ev_CS) (As : List Nat), jR G As → okG G → As.length + d ≤ 60 → jR (pg_rowd a st d i G) (ms_row a st d i As) := by
  intro d
  induction d with
  | zero => intro i G As h _ _; exact h
  | succ d ih =>
    intro i G As h hG hl
    have hk : (a + i * st) % 20 < 20 := Nat.mod_lt _ (by omega)
    exact ih (i + 1) _ _ (jR_ask h hG hk (by omega)) (okG_ask hG (okL_key hk) (by have := h.1; omega)) (by rw [List.length_append, List.length_singleton]; omega)
theorem kI_nil {c : Nat} : kI [] 0 c [] := ⟨Nat.zero_le c, fun i hi => absurd hi (Nat.not_lt_zero i), fun a _ h => absurd rfl h⟩
theorem jR_F {As : List Nat} {G : ev_CS} (h : jR G As) : jR (pg_F (pg_F0 G) 6) [] := by
  refine ⟨rfl, fun j hj => absurd hj (Nat.not_lt_zero j), ⟨kI_nil, rfl⟩, fun j hj => ?_⟩
  show jK [] j (if j < 6 then pk_anew (G.2.2.1 j) else G.2.2.1 j)
  rw [if_pos hj]
  exact ⟨kI_nil, (h.2.2.2 j hj).2.1, rfl, rfl, rfl⟩
theorem jR_0 : jR g_0 [] := ⟨rfl, fun j hj => absurd hj (Nat.not_lt_zero j), ⟨kI_nil, rfl⟩, fun j hj => ⟨kI_nil, rfl, rfl, rfl, rfl⟩⟩
/-! what each call answers -/
theorem nI_sub' {a b : Nat} (h : b ≤ a) : nI a - nI b = nI (a - b) := by
  have : nI a = nI (a - b) + nI b := by rw [nI_add, Nat.sub_add_cancel h]
  rw [this, Int32.add_sub_cancel]
theorem jV_hits {As : List Nat} {G : ev_CS} (h : jR G As) {j : Nat} (hj : j < 6) : (G.2.2.1 j).2.2.2.2.2 = nI As.length - nI (mm As (j + 1) As.length 0) := by
  rw [nI_sub' (mm_le _ _)]
  exact (h.2.2.2 j hj).2.2.2.2
theorem mkp_dp {As : List Nat} {c a : Nat} : mkp As c a = decide (¬ dp As As.length a = 0 ∧ dp As As.length a ≤ c) := by
  unfold mkp
  rw [md_dp, ← Bool.decide_and]
  exact decide_eq_decide.mpr (by omega)
theorem jV_keeps {As : List Nat} {G : ev_CS} (h : jR G As) {j a : Nat} (hj : j < 6) (ha : a < 20) : (pf_find (G.2.2.1 j).1 (nI a)).isSome = mkp As (j + 1) a := by
  rw [kI_find (h.2.2.2 j hj).1 ha, mkp_dp]
  by_cases hd : ¬ dp As As.length a = 0 ∧ dp As As.length a ≤ j + 1
  · rw [if_pos hd]; exact (decide_eq_true hd).symm
  · rw [if_neg hd]; exact (decide_eq_false hd).symm
theorem tk_mb {As : List Nat} {c a k : Nat} : ∀ {p : Nat}, mb As a p = some k → tk As c p a = tk As c (k + 1) a := by
  intro p
  induction p with
  | zero => intro h; cases h
  | succ p ih =>
    intro h
    rw [mb_s] at h
    by_cases ea : As.getD p 0 = a
    · rw [if_pos ea] at h
      cases h
      rfl
    · rw [if_neg ea] at h
      rw [tk_s, if_neg (fun z => ea z.1)]
      exact ih h
theorem mt_l_tk {As : List Nat} {c a : Nat} : ∀ {f p k : Nat}, mb As a p = some k → k < f → mt_l As c a f k = tk As c p a := by
  intro f
  induction f with
  | zero => intro p k _ h; exact absurd h (Nat.not_lt_zero k)
  | succ f ih =>
    intro p k h hk
    have ea := mb_at h
    rw [tk_mb h, tk_s]
    show (if mh As c k = true then (match mb As a k with
      | none => k
      | some j => mt_l As c a f j) else k) = _
    by_cases hd : ¬ dp As k a = 0 ∧ dp As k a ≤ c
    · rw [if_pos (mh_dp.mpr (by rw [ea]; exact hd)), if_neg (fun z => z.2 hd)]
      rcases hb : mb As a k with _ | j
      · exact absurd (dp_mb.1 hb) hd.1
      · have := mb_lt hb
        exact ih hb (by omega)
    · rw [if_neg (fun z => hd (by have := mh_dp.mp z; rw [ea] at this; exact this)), if_pos ⟨ea, hd⟩]
theorem jV_taken {As : List Nat} {G : ev_CS} (h : jR G As) {j a : Nat} (hj : j < 6) (ha : a < 20) : pr_told (G.2.2.1 j).1 (pf_place (G.2.2.1 j).1 (nI a)) 1 = mt_n As (j + 1) a := by
  have h1 := (h.2.2.2 j hj).1
  have hlc := h1.1
  unfold pf_place mt_n
  rw [kI_find h1 ha, mkp_dp]
  by_cases hd : ¬ dp As As.length a = 0 ∧ dp As As.length a ≤ j + 1
  · have h4 := h1.2.2 a ha hd.1 hd.2
    have hi : (G.2.2.1 j).1.length - dp As As.length a < (G.2.2.1 j).1.length := by have := hd.1; omega
    rw [if_pos hd, if_pos (decide_eq_true hd)]
    dsimp only
    rw [pr_told_y hi (by omega), if_neg (by decide), if_pos rfl]
    obtain ⟨b, hb, e1, e2⟩ := h1.2.1 _ hi
    have eb : b = a := Classical.byContradiction fun hn => dp_ne (As := As) (p := As.length) hn (by omega) hd.1 (by omega)
    rw [pf_at_of e1, eb]
    rcases hm : mb As a As.length with _ | k
    · exact absurd (dp_mb.1 hm) hd.1
    · exact congrArg nI (mt_l_tk hm (by omega)).symm
  · rw [if_neg hd, if_neg (fun z => hd (of_decide_eq_true z))]
    dsimp only
    unfold pr_told
    rw [if_neg (fun z => absurd z.1 (by decide))]
theorem jV_with {As : List Nat} {G : ev_CS} (h : jR G As) {d : Int32} : pr_cnt G.2.2.2.1.2.1 (fun y => decide (y = d)) G.2.2.2.1.2.2 0 0 = nI (mwd As d As.length 0) := by
  have key : ∀ e k s, k + e ≤ As.length → pr_cnt G.2.2.2.1.2.1 (fun y => decide (y = d)) e k (nI s) = nI (s + mwd As d e k) := by
    intro e
    induction e with
    | zero => intro k s _; rfl
    | succ e ih =>
      intro k s hk
      show pr_cnt G.2.2.2.1.2.1 (fun y => decide (y = d)) e (k + 1) (if decide (G.2.2.2.1.2.1 k = d) = true then nI s + 1 else nI s) = nI (s + ((if nI (md As (As.getD k 0) k) = d then 1 else 0) + mwd As d e (k + 1)))
      rw [(h.2.1 k (by omega)).2, md_dp]
      by_cases hd : nI (dp As k (As.getD k 0)) = d
      · rw [if_pos (decide_eq_true hd), if_pos hd, nI_1, ih (k + 1) (s + 1) (by omega)]
        exact congrArg nI (by omega)
      · rw [if_neg (fun z => hd (of_decide_eq_true z)), if_neg hd, ih (k + 1) s (by omega)]
        exact congrArg nI (by omega)
  rw [← h.1]
  have := key As.length 0 0 (by omega)
  rw [Nat.zero_add] at this
  exact this
theorem jV_ask {As : List Nat} {G : ev_CS} (h : jR G As) {a : Nat} (ha : a < 20) : pk_hits G.2.2.1 (nI a) (nI G.2.2.2.1.2.2) 6 0 0 = mhits (md As a As.length) := by
  have f := fun j (hj : j < 6) => (jK_fi (h.2.2.2 j hj) hj ha).1
  rw [← h.1, md_dp]
  show pk_hits G.2.2.1 (nI a) (nI As.length) 6 0 0 = _
  unfold mhits
  simp only [pk_hits, f 0 (by omega), f 1 (by omega), f 2 (by omega), f 3 (by omega), f 4 (by omega), f 5 (by omega)]
  have hD : dp As As.length a = 0 ∨ dp As As.length a = 1 ∨ dp As As.length a = 2 ∨ dp As As.length a = 3 ∨ dp As As.length a = 4 ∨ dp As As.length a = 5 ∨ dp As As.length a = 6 ∨ 6 < dp As As.length a := by omega
  generalize dp As As.length a = D at hD ⊢
  rcases hD with rfl | rfl | rfl | rfl | rfl | rfl | rfl | hD
  · decide
  · decide
  · decide
  · decide
  · decide
  · decide
  · decide
  · rw [if_neg (show ¬ D = 0 by omega), if_neg (show ¬ D ≤ 6 by omega)]
    have z : ∀ j, j < 6 → (if ¬ D = 0 ∧ D ≤ j + 1 then (1 : Int32) else 0) = 0 := fun j hj => if_neg (fun w => by omega)
    rw [if_pos (z 5 (by omega)), if_pos (z 4 (by omega)), if_pos (z 3 (by omega)), if_pos (z 2 (by omega)), if_pos (z 1 (by omega)), if_pos (z 0 (by omega))]
theorem jV_rowd {a st : Nat} : ∀ (d i : Nat) (G : ev_CS) (As : List Nat) (s : Int32), jR G As → okG G → As.length + d ≤ 60 → pk_rowh a st d i G s = mh_row a st d i As s := by
  intro d
  induction d with
  | zero => intro i G As s _ _ _; rfl
  | succ d ih =>
    intro i G As s h hG hl
    have hk : (a + i * st) % 20 < 20 := Nat.mod_lt _ (by omega)
    show pk_rowh a st d (i + 1) (pg_ask G (nI ((a + i * st) % 20))) (s + pk_hits G.2.2.1 (nI ((a + i * st) % 20)) (nI G.2.2.2.1.2.2) 6 0 0) = _
    rw [jV_ask h hk]
    exact ih (i + 1) _ _ _ (jR_ask h hG hk (by omega)) (okG_ask hG (okL_key hk) (by have := h.1; omega)) (by rw [List.length_append, List.length_singleton]; omega)
