/-! ===== no cache of a size misses less than the one that lets go the farthest ===== -/
def kc (p : Nat → Bool) : Nat → Nat
  | 0 => 0
  | a + 1 => kc p a + (if p a = true then 1 else 0)
theorem kc_mono {p q : Nat → Bool} : ∀ n, (∀ a, a < n → p a = true → q a = true) → kc p n ≤ kc q n := by
  intro n
  induction n with
  | zero => intro _; exact Nat.le_refl 0
  | succ n ih =>
    intro h
    show kc p n + (if p n = true then 1 else 0) ≤ kc q n + (if q n = true then 1 else 0)
    have h1 := ih (fun a ha => h a (by omega))
    by_cases hp : p n = true
    · rw [if_pos hp, if_pos (h n (Nat.lt_succ_self n) hp)]; omega
    · rw [if_neg hp]; omega
theorem kc_ext {p q : Nat → Bool} (n : Nat) (h : ∀ a, a < n → (p a = true ↔ q a = true)) : kc p n = kc q n :=
  Nat.le_antisymm (kc_mono n fun a ha => (h a ha).mp) (kc_mono n fun a ha => (h a ha).mpr)
theorem kc_zero {p : Nat → Bool} : ∀ n, (∀ a, a < n → ¬ p a = true) → kc p n = 0 := by
  intro n
  induction n with
  | zero => intro _; rfl
  | succ n ih =>
    intro h
    show kc p n + (if p n = true then 1 else 0) = 0
    rw [ih (fun a ha => h a (by omega)), if_neg (h n (Nat.lt_succ_self n))]
/-- all but x -/
def kx (p : Nat → Bool) (x a : Nat) : Bool := p a && !decide (a = x)
theorem kx_iff {p : Nat → Bool} {x a : Nat} : kx p x a = true ↔ p a = true ∧ ¬ a = x := by
  unfold kx
  rw [Bool.and_eq_true, Bool.not_eq_true', decide_eq_false_iff_not]
theorem kc_split {p : Nat → Bool} {x : Nat} : ∀ n, x < n → kc p n = kc (kx p x) n + (if p x = true then 1 else 0) := by
  intro n
  induction n with
  | zero => intro h; omega
  | succ n ih =>
    intro h
    show kc p n + (if p n = true then 1 else 0) = kc (kx p x) n + (if kx p x n = true then 1 else 0) + (if p x = true then 1 else 0)
    by_cases hx : x = n
    · subst hx
      rw [if_neg (show ¬ kx p x x = true from fun z => (kx_iff.mp z).2 rfl)]
      have : kc p x = kc (kx p x) x := kc_ext x (fun a ha => by
        rw [kx_iff]
        exact ⟨fun z => ⟨z, by omega⟩, fun z => z.1⟩)
      omega
    · have h1 := ih (by omega)
      have h2 : (kx p x n = true) ↔ p n = true := by
        rw [kx_iff]
        exact ⟨fun z => z.1, fun z => ⟨z, fun w => hx w.symm⟩⟩
      by_cases hp : p n = true
      · rw [if_pos hp, if_pos (h2.mpr hp)]; omega
      · rw [if_neg hp, if_neg (fun z => hp (h2.mp z))]; omega
/-- the next asking of a key, from an asking on; 60 -/
def nw (As : List Nat) (a : Nat) : Nat → Nat → Nat
  | 0, _ => 60
  | d + 1, i => if As.getD i 0 = a then i else nw As a d (i + 1)
def nxt (As : List Nat) (i a : Nat) : Nat := nw As a (As.length - i) i
section NW
variable {As : List Nat} {i a : Nat}
theorem nxt_hit (hi : i < As.length) (e : As.getD i 0 = a) : nxt As i a = i := by
  unfold nxt
  rw [show As.length - i = (As.length - (i + 1)) + 1 from by omega]
  exact if_pos e
theorem nxt_miss (hi : i < As.length) (e : ¬ As.getD i 0 = a) : nxt As i a = nxt As (i + 1) a := by
  unfold nxt
  rw [show As.length - i = (As.length - (i + 1)) + 1 from by omega]
  exact if_neg e
theorem nxt_spec : ∀ (d i : Nat), As.length - i = d → (i ≤ nxt As i a ∧ nxt As i a < As.length ∧ As.getD (nxt As i a) 0 = a ∧ ∀ z, i ≤ z → z < nxt As i a → ¬ As.getD z 0 = a) ∨ (nxt As i a = 60 ∧ ∀ z, i ≤ z → z < As.length → ¬ As.getD z 0 = a) := by
  intro d
  induction d with
  | zero =>
    intro i h
    refine Or.inr ⟨?_, fun z h1 h2 => by omega⟩
    unfold nxt
    rw [h]
    rfl
  | succ d ih =>
    intro i h
    by_cases e : As.getD i 0 = a
    · rw [nxt_hit (by omega) e]
      exact Or.inl ⟨Nat.le_refl i, by omega, e, fun z h1 h2 => by omega⟩
    · rw [nxt_miss (by omega) e]
      rcases ih (i + 1) (by omega) with ⟨h1, h2, h3, h4⟩ | ⟨h1, h2⟩
      · refine Or.inl ⟨by omega, h2, h3, fun z z1 z2 => ?_⟩
        by_cases hz : z = i
        · rw [hz]; exact e
        · exact h4 z (by omega) z2
      · refine Or.inr ⟨h1, fun z z1 z2 => ?_⟩
        by_cases hz : z = i
        · rw [hz]; exact e
        · exact h2 z (by omega) z2
theorem nxt_ge (hA : As.length ≤ 60) (hi : i ≤ As.length) : i ≤ nxt As i a := by
  rcases nxt_spec (As := As) (a := a) _ i rfl with ⟨h1, -⟩ | ⟨h1, -⟩ <;> omega
theorem nxt_X (hi : i < As.length) : nX As i (nxt As (i + 1) (As.getD i 0)) := by
  rcases nxt_spec (As := As) (a := As.getD i 0) _ (i + 1) rfl with ⟨h1, h2, h3, h4⟩ | ⟨h1, h2⟩
  · exact Or.inl ⟨by omega, h2, h3, fun z z1 z2 => h4 z (by omega) z2⟩
  · exact Or.inr ⟨h1, fun z z1 z2 => h2 z (by omega) z2⟩
theorem bJ_nk {m e : Nat} {xk lk nk : Nat → Nat} (h : bJ As m i e xk lk nk) (hA : As.length ≤ 60) {j : Nat} (hj : j < e) : nk j = nxt As i (xk j) := by
  have hJ := h
  obtain ⟨h1, h2⟩ := h.2.1 j hj
  have hl := mb_lt h1
  have ha := mb_at h1
  rcases h2 with ⟨a1, a2, a3, a4⟩ | ⟨a1, a2⟩
  · obtain ⟨-, b2, -, -⟩ := bJ_nge hJ hA hj a2
    rcases nxt_spec (As := As) (a := xk j) _ i rfl with ⟨c1, c2, c3, c4⟩ | ⟨c1, c2⟩
    · rcases Nat.lt_trichotomy (nk j) (nxt As i (xk j)) with z | z | z
      · exact absurd (a3.trans ha) (c4 _ b2 z)
      · exact z
      · exact absurd (c3.trans ha.symm) (a4 _ (by omega) z)
    · exact absurd (a3.trans ha) (c2 _ b2 a2)
  · rcases nxt_spec (As := As) (a := xk j) _ i rfl with ⟨c1, c2, c3, c4⟩ | ⟨c1, c2⟩
    · exact absurd (c3.trans ha.symm) (a2 _ (by omega) c2)
    · omega
end NW
/-- where a key is held, and which one is asked next the farthest -/
def fs (xk : Nat → Nat) (x : Nat) : Nat → Option Nat
  | 0 => none
  | j + 1 => match fs xk x j with
    | some f => some f
    | none => if xk j = x then some j else none
theorem fs_s {xk : Nat → Nat} {x f : Nat} : ∀ {e}, fs xk x e = some f → f < e ∧ xk f = x := by
  intro e
  induction e with
  | zero => intro h; cases h
  | succ e ih =>
    intro h
    unfold fs at h
    rcases hf : fs xk x e with _ | g
    · rw [hf] at h
      dsimp only at h
      split at h
      · rename_i hx
        cases h
        exact ⟨Nat.lt_succ_self _, hx⟩
      · cases h
    · rw [hf] at h
      cases h
      have := ih hf
      exact ⟨by omega, this.2⟩
theorem fs_n {xk : Nat → Nat} {x : Nat} : ∀ {e}, fs xk x e = none → ∀ j, j < e → ¬ xk j = x := by
  intro e
  induction e with
  | zero => intro _ j hj; omega
  | succ e ih =>
    intro h j hj
    unfold fs at h
    rcases hf : fs xk x e with _ | g
    · rw [hf] at h
      dsimp only at h
      split at h
      · cases h
      · by_cases hje : j = e
        · rw [hje]; assumption
        · exact ih hf j (by omega)
    · rw [hf] at h
      cases h
def fa (nk : Nat → Nat) : Nat → Nat
  | 0 => 0
  | j + 1 => if nk (fa nk j) < nk j then j else fa nk j
theorem fa_s {nk : Nat → Nat} : ∀ e, fa nk (e + 1) < e + 1 ∧ ∀ j, j < e + 1 → nk j ≤ nk (fa nk (e + 1)) := by
  intro e
  induction e with
  | zero =>
    have : fa nk 1 = 0 := by
      show (if nk 0 < nk 0 then 0 else 0) = 0
      split <;> rfl
    rw [this]
    exact ⟨by omega, fun j hj => by rw [show j = 0 from by omega]; exact Nat.le_refl _⟩
  | succ e ih =>
    have h0 : fa nk (e + 1 + 1) = if nk (fa nk (e + 1)) < nk (e + 1) then e + 1 else fa nk (e + 1) := rfl
    rw [h0]
    split
    · rename_i h
      refine ⟨by omega, fun j hj => ?_⟩
      by_cases hje : j = e + 1
      · rw [hje]; exact Nat.le_refl _
      · have := ih.2 j (by omega)
        omega
    · rename_i h
      refine ⟨by omega, fun j hj => ?_⟩
      by_cases hje : j = e + 1
      · rw [hje]; omega
      · exact ih.2 j (by omega)
/-- the run: how many are held, keys, last askings, next ones -/
def br (As : List Nat) (m : Nat) : Nat → Nat × (Nat → Nat) × (Nat → Nat) × (Nat → Nat)
  | 0 => (0, fun _ => 0, fun _ => 0, fun _ => 0)
  | i + 1 => match fs (br As m i).2.1 (As.getD i 0) (br As m i).1 with
    | some f => ((br As m i).1, (br As m i).2.1, gu (br As m i).2.2.1 f i, gu (br As m i).2.2.2 f (nxt As (i + 1) (As.getD i 0)))
    | none => if (br As m i).1 < m then ((br As m i).1 + 1, gu (br As m i).2.1 (br As m i).1 (As.getD i 0), gu (br As m i).2.2.1 (br As m i).1 i, gu (br As m i).2.2.2 (br As m i).1 (nxt As (i + 1) (As.getD i 0)))
      else (m, gu (br As m i).2.1 (fa (br As m i).2.2.2 m) (As.getD i 0), gu (br As m i).2.2.1 (fa (br As m i).2.2.2 m) i, gu (br As m i).2.2.2 (fa (br As m i).2.2.2 m) (nxt As (i + 1) (As.getD i 0)))
def bh (As : List Nat) (m i : Nat) : Prop := bJ As m i (br As m i).1 (br As m i).2.1 (br As m i).2.2.1 (br As m i).2.2.2
/-- is it held? -/
def bk (xk : Nat → Nat) (a : Nat) : Nat → Bool
  | 0 => false
  | j + 1 => bk xk a j || decide (xk j = a)
theorem bk_iff {xk : Nat → Nat} {a : Nat} : ∀ {e}, bk xk a e = true ↔ ∃ j, j < e ∧ xk j = a := by
  intro e
  induction e with
  | zero => exact ⟨fun h => (by cases h), fun ⟨j, hj, _⟩ => absurd hj (Nat.not_lt_zero j)⟩
  | succ e ih =>
    show (bk xk a e || decide (xk e = a)) = true ↔ _
    rw [Bool.or_eq_true, ih, decide_eq_true_iff]
    constructor
    · rintro (⟨j, hj, h⟩ | h)
      · exact ⟨j, by omega, h⟩
      · exact ⟨e, Nat.lt_succ_self e, h⟩
    · rintro ⟨j, hj, h⟩
      by_cases hje : j = e
      · exact Or.inr (hje ▸ h)
      · exact Or.inl ⟨j, by omega, h⟩
theorem kc_bk {xk : Nat → Nat} : ∀ e, (∀ j, j < e → xk j < 20) → (∀ j j', j < e → j' < e → xk j = xk j' → j = j') → kc (fun a => bk xk a e) 20 = e := by
  intro e
  induction e with
  | zero =>
    intro _ _
    exact kc_zero 20 (fun a _ h => by cases h)
  | succ e ih =>
    intro h1 h2
    have h3 := ih (fun j hj => h1 j (by omega)) (fun j j' hj hj' => h2 j j' (by omega) (by omega))
    have hx := h1 e (Nat.lt_succ_self e)
    have hn : ¬ bk xk (xk e) e = true := fun z => by
      obtain ⟨j, hj, e1⟩ := bk_iff.mp z
      have := h2 j e (by omega) (by omega) e1
      omega
    rw [kc_split 20 hx] at h3 ⊢
    rw [if_neg hn] at h3
    rw [if_pos (bk_iff.mpr ⟨e, Nat.lt_succ_self e, rfl⟩)]
    have : kc (kx (fun a => bk xk a (e + 1)) (xk e)) 20 = kc (kx (fun a => bk xk a e) (xk e)) 20 := kc_ext 20 (fun a _ => by
      rw [kx_iff, kx_iff, bk_iff, bk_iff]
      constructor
      · rintro ⟨⟨j, hj, e1⟩, hne⟩
        refine ⟨⟨j, Nat.lt_of_le_of_ne (by omega) (fun z => ?_), e1⟩, hne⟩
        rw [z] at e1
        exact hne e1.symm
      · rintro ⟨⟨j, hj, e1⟩, hne⟩
        exact ⟨⟨j, by omega, e1⟩, hne⟩)
    omega
section BR
variable {As : List Nat} {m : Nat}
/-- a step of the run: held (hit), one more, or the farthest let go -/
theorem br_step {i : Nat} (hm : 1 ≤ m) (hA : As.length ≤ 60) (hi : i < As.length) (h : bh As m i) : bh As m (i + 1) ∧
    ((∃ f, f < (br As m i).1 ∧ (br As m i).2.1 f = As.getD i 0 ∧ gk As m i ∧ (br As m (i + 1)).1 = (br As m i).1 ∧ (br As m (i + 1)).2.1 = (br As m i).2.1) ∨
     ((∀ j, j < (br As m i).1 → ¬ (br As m i).2.1 j = As.getD i 0) ∧ ¬ gk As m i ∧ (br As m i).1 < m ∧ (br As m (i + 1)).1 = (br As m i).1 + 1 ∧ (br As m (i + 1)).2.1 = gu (br As m i).2.1 (br As m i).1 (As.getD i 0)) ∨
     ((∀ j, j < (br As m i).1 → ¬ (br As m i).2.1 j = As.getD i 0) ∧ ¬ gk As m i ∧ (br As m i).1 = m ∧ (br As m (i + 1)).1 = m ∧ ∃ f, f < m ∧ (∀ j, j < m → (br As m i).2.2.2 j ≤ (br As m i).2.2.2 f) ∧ (br As m (i + 1)).2.1 = gu (br As m i).2.1 f (As.getD i 0))) := by
  unfold bh at h ⊢
  have hb : br As m (i + 1) = match fs (br As m i).2.1 (As.getD i 0) (br As m i).1 with
    | some f => ((br As m i).1, (br As m i).2.1, gu (br As m i).2.2.1 f i, gu (br As m i).2.2.2 f (nxt As (i + 1) (As.getD i 0)))
    | none => if (br As m i).1 < m then ((br As m i).1 + 1, gu (br As m i).2.1 (br As m i).1 (As.getD i 0), gu (br As m i).2.2.1 (br As m i).1 i, gu (br As m i).2.2.2 (br As m i).1 (nxt As (i + 1) (As.getD i 0)))
      else (m, gu (br As m i).2.1 (fa (br As m i).2.2.2 m) (As.getD i 0), gu (br As m i).2.2.1 (fa (br As m i).2.2.2 m) i, gu (br As m i).2.2.2 (fa (br As m i).2.2.2 m) (nxt As (i + 1) (As.getD i 0))) := rfl
  rw [hb]
  rcases hf : fs (br As m i).2.1 (As.getD i 0) (br As m i).1 with _ | f
  · have hno := fs_n hf
    have hng := bJ_not h hi hno
    dsimp only
    by_cases he : (br As m i).1 < m
    · rw [if_pos he]
      exact ⟨bJ_new h hi hA hno (nxt_X hi) he, Or.inr (Or.inl ⟨hno, hng, he, rfl, rfl⟩)⟩
    · rw [if_neg he]
      have hem : (br As m i).1 = m := Nat.le_antisymm h.1 (Nat.le_of_not_lt he)
      have hfa := fa_s (nk := (br As m i).2.2.2) (m - 1)
      rw [Nat.sub_add_cancel hm] at hfa
      have h' : bJ As m i m (br As m i).2.1 (br As m i).2.2.1 (br As m i).2.2.2 := by rw [hem] at h; exact h
      have hno' : ∀ j, j < m → ¬ (br As m i).2.1 j = As.getD i 0 := by rw [hem] at hno; exact hno
      exact ⟨bJ_out h' hi hA hfa.1 hno' (nxt_X hi) hfa.2, Or.inr (Or.inr ⟨hno, hng, hem, rfl, _, hfa.1, hfa.2, rfl⟩)⟩
  · obtain ⟨hfe, hfx⟩ := fs_s hf
    obtain ⟨hg, hJ⟩ := bJ_hit h hi hA hfe hfx (nxt_X hi)
    exact ⟨hJ, Or.inl ⟨f, hfe, hfx, hg, rfl, rfl⟩⟩
theorem br_all (hm : 1 ≤ m) (hA : As.length ≤ 60) : ∀ i, i ≤ As.length → bh As m i := by
  intro i
  induction i with
  | zero => intro _; exact bJ_0
  | succ i ih => intro hi; exact (br_step hm hA (by omega) (ih (by omega))).1
/-- a cache's misses -/
def ma (As : List Nat) (In : Nat → Nat → Bool) : Nat → Nat
  | 0 => 0
  | i + 1 => ma As In i + (if In i (As.getD i 0) = true then 0 else 1)
def bin (As : List Nat) (m i a : Nat) : Bool := bk (br As m i).2.1 a (br As m i).1
theorem br_xk (hk : ∀ i, i < As.length → As.getD i 0 < 20) {i : Nat} (hi : i ≤ As.length) (h : bh As m i) {j : Nat} (hj : j < (br As m i).1) : (br As m i).2.1 j < 20 := by
  have h1 := (h.2.1 j hj).1
  have h2 := mb_lt h1
  rw [← mb_at h1]
  exact hk _ (by omega)
theorem bin_gk (hm : 1 ≤ m) (hA : As.length ≤ 60) {i : Nat} (hi : i < As.length) : bin As m i (As.getD i 0) = true ↔ gk As m i := by
  have h := br_all (As := As) hm hA i (by omega)
  rcases (br_step hm hA hi h).2 with ⟨f, f1, f2, f3, -⟩ | ⟨f1, f2, -⟩ | ⟨f1, f2, -⟩
  · exact ⟨fun _ => f3, fun _ => bk_iff.mpr ⟨f, f1, f2⟩⟩
  · exact ⟨fun z => by obtain ⟨j, hj, e⟩ := bk_iff.mp z; exact absurd e (f1 j hj), fun z => absurd z f2⟩
  · exact ⟨fun z => by obtain ⟨j, hj, e⟩ := bk_iff.mp z; exact absurd e (f1 j hj), fun z => absurd z f2⟩
theorem ma_bin (hm : 1 ≤ m) (hA : As.length ≤ 60) : ∀ i, i ≤ As.length → ma As (bin As m) i = i - (gs As m i).2 := by
  intro i
  induction i with
  | zero => intro _; rfl
  | succ i ih =>
    intro hi
    have h1 := ih (by omega)
    have h2 := gs_le (As := As) (m := m) i
    show ma As (bin As m) i + (if bin As m i (As.getD i 0) = true then 0 else 1) = _
    by_cases hg : gk As m i
    · rw [if_pos ((bin_gk hm hA (by omega)).mpr hg)]
      obtain ⟨b, g1, g2⟩ := hg
      rw [gs_y g1 g2]
      show _ = i + 1 - ((gs As m i).2 + 1)
      omega
    · rw [if_neg (fun z => hg ((bin_gk hm hA (by omega)).mp z)), gs_n hg]
      omega
theorem opt (hm : 1 ≤ m) (hA : As.length ≤ 60) (hk : ∀ i, i < As.length → As.getD i 0 < 20) {In : Nat → Nat → Bool} (h0 : ∀ a, ¬ In 0 a = true) (h1 : ∀ i, i < As.length → ∀ a, In (i + 1) a = true → a = As.getD i 0 ∨ In i a = true) (h2 : ∀ i, i < As.length → In (i + 1) (As.getD i 0) = true) (h3 : ∀ i, i ≤ As.length → kc (In i) 20 ≤ m) :
    ∀ i, i ≤ As.length → ∀ T, ma As (bin As m) i + kc (fun a => In i a && decide (nxt As i a < T)) 20 ≤ ma As In i + kc (fun a => bin As m i a && decide (nxt As i a < T)) 20 := by
  intro i
  induction i with
  | zero =>
    intro _ T
    rw [kc_zero (p := fun a => In 0 a && decide (nxt As 0 a < T)) 20 (fun a _ z => h0 a (Bool.and_eq_true_iff.mp z).1)]
    exact Nat.zero_le _
  | succ i ih =>
    intro hi T
    have hI := ih (by omega)
    have hx20 := hk i (by omega)
    have hb := br_all (As := As) hm hA i (by omega)
    generalize hx : As.getD i 0 = x at hx20
    have hnx : ∀ a, ¬ a = x → nxt As i a = nxt As (i + 1) a := fun a ha => nxt_miss (by omega) (fun z => ha (z.symm.trans hx))
    have hge : ∀ a, ¬ a = x → i + 1 ≤ nxt As i a := fun a ha => by rw [hnx a ha]; exact nxt_ge hA hi
    have hxx : nxt As i x = i := nxt_hit (by omega) hx
    -- the two sums without x
    have sA : ∀ T, kc (fun a => In i a && decide (nxt As i a < T)) 20 = kc (kx (fun a => In i a && decide (nxt As i a < T)) x) 20 + (if In i x = true ∧ i < T then 1 else 0) := fun T => by
      rw [kc_split 20 hx20]
      congr 1
      have : ((In i x && decide (nxt As i x < T)) = true) = (In i x = true ∧ i < T) := by rw [Bool.and_eq_true, decide_eq_true_iff, hxx]
      simp only [this]
    have sB : ∀ T, kc (fun a => bin As m i a && decide (nxt As i a < T)) 20 = kc (kx (fun a => bin As m i a && decide (nxt As i a < T)) x) 20 + (if bin As m i x = true ∧ i < T then 1 else 0) := fun T => by
      rw [kc_split 20 hx20]
      congr 1
      have : ((bin As m i x && decide (nxt As i x < T)) = true) = (bin As m i x = true ∧ i < T) := by rw [Bool.and_eq_true, decide_eq_true_iff, hxx]
      simp only [this]
    have sA' : kc (fun a => In (i + 1) a && decide (nxt As (i + 1) a < T)) 20 ≤ kc (kx (fun a => In i a && decide (nxt As i a < T)) x) 20 + (if nxt As (i + 1) x < T then 1 else 0) := by
      rw [kc_split 20 hx20]
      refine Nat.add_le_add (kc_mono 20 fun a _ z => ?_) ?_
      · obtain ⟨z1, z2⟩ := kx_iff.mp z
        obtain ⟨z3, z4⟩ := Bool.and_eq_true_iff.mp z1
        rw [kx_iff, Bool.and_eq_true, hnx a z2]
        exact ⟨⟨(h1 i (by omega) a z3).resolve_left (fun w => z2 (w.trans hx)), z4⟩, z2⟩
      · by_cases hT : nxt As (i + 1) x < T
        · rw [if_pos hT]; split <;> omega
        · rw [if_neg hT, if_neg (fun z => hT (of_decide_eq_true (Bool.and_eq_true_iff.mp z).2))]; omega
    have sA2 : kc (fun a => In (i + 1) a && decide (nxt As (i + 1) a < T)) 20 + 1 ≤ m + (if nxt As (i + 1) x < T then 1 else 0) := by
      have g1 := h3 (i + 1) hi
      rw [kc_split 20 hx20, if_pos (by rw [← hx]; exact h2 i (by omega))] at g1
      rw [kc_split 20 hx20]
      have g2 : kc (kx (fun a => In (i + 1) a && decide (nxt As (i + 1) a < T)) x) 20 ≤ kc (kx (In (i + 1)) x) 20 := kc_mono 20 fun a _ z => by
        obtain ⟨z1, z2⟩ := kx_iff.mp z
        exact kx_iff.mpr ⟨(Bool.and_eq_true_iff.mp z1).1, z2⟩
      by_cases hT : nxt As (i + 1) x < T
      · rw [if_pos hT]; split <;> omega
      · rw [if_neg hT, if_neg (fun z => hT (of_decide_eq_true (Bool.and_eq_true_iff.mp z).2))]; omega
    -- at i + 1 and at 0 the sums without x are empty
    have eA : ∀ T, T ≤ i + 1 → kc (kx (fun a => In i a && decide (nxt As i a < T)) x) 20 = 0 := fun T hT => kc_zero 20 fun a _ z => by
      obtain ⟨z1, z2⟩ := kx_iff.mp z
      have := hge a z2
      have := of_decide_eq_true (Bool.and_eq_true_iff.mp z1).2
      omega
    have eB : ∀ T, T ≤ i + 1 → kc (kx (fun a => bin As m i a && decide (nxt As i a < T)) x) 20 = 0 := fun T hT => kc_zero 20 fun a _ z => by
      obtain ⟨z1, z2⟩ := kx_iff.mp z
      have := hge a z2
      have := of_decide_eq_true (Bool.and_eq_true_iff.mp z1).2
      omega
    have ite1 : ∀ (p : Bool) (T : Nat), i < T → (if p = true ∧ i < T then 1 else 0) = (if p = true then 1 else 0) := fun p T h => by
      by_cases hp : p = true
      · rw [if_pos ⟨hp, h⟩, if_pos hp]
      · rw [if_neg (fun z => hp z.1), if_neg hp]
    have itn : ∀ p : Bool, (if p = true then 0 else 1) = 1 - (if p = true then 1 else 0) := fun p => by cases p <;> rfl
    have hma : ma As In (i + 1) = ma As In i + (1 - (if In i x = true then 1 else 0)) := by rw [← itn, ← hx]; rfl
    have hmb : ma As (bin As m) (i + 1) = ma As (bin As m) i + (1 - (if bin As m i x = true then 1 else 0)) := by rw [← itn, ← hx]; rfl
    rw [hma, hmb]
    have HT : i < T → ma As (bin As m) i + (kc (kx (fun a => In i a && decide (nxt As i a < T)) x) 20 + (if In i x = true then 1 else 0)) ≤ ma As In i + (kc (kx (fun a => bin As m i a && decide (nxt As i a < T)) x) 20 + (if bin As m i x = true then 1 else 0)) := fun h => by
      have h9 := hI T
      rw [sA, sB, ite1 _ _ h, ite1 _ _ h] at h9
      exact h9
    have H1 : ma As (bin As m) i + (if In i x = true then 1 else 0) ≤ ma As In i + (if bin As m i x = true then 1 else 0) := by
      have h9 := hI (i + 1)
      rw [sA, sB, ite1 _ _ (Nat.lt_succ_self i), ite1 _ _ (Nat.lt_succ_self i), eA (i + 1) (Nat.le_refl _), eB (i + 1) (Nat.le_refl _), Nat.zero_add, Nat.zero_add] at h9
      exact h9
    have H0 : ma As (bin As m) i ≤ ma As In i := by
      have h9 := hI 0
      have hz : ∀ p : Bool, (if p = true ∧ i < 0 then 1 else 0) = 0 := fun p => if_neg (fun z => Nat.not_lt_zero _ z.2)
      rw [sA, sB, eA 0 (by omega), eB 0 (by omega), hz, hz] at h9
      exact h9
    have hα : (if In i x = true then 1 else 0) ≤ 1 := by split <;> omega
    generalize (if In i x = true then 1 else 0) = α at HT H1 hα ⊢
    -- the sum for what is held afterwards
    have sB' : ∀ q : Nat → Bool, (∀ a, ¬ a = x → (bin As m (i + 1) a = true ↔ bin As m i a = true ∧ q a = true)) → bin As m (i + 1) x = true → kc (fun a => bin As m (i + 1) a && decide (nxt As (i + 1) a < T)) 20 = kc (kx (fun a => (bin As m i a && q a) && decide (nxt As i a < T)) x) 20 + (if nxt As (i + 1) x < T then 1 else 0) := fun q hq hxb => by
      rw [kc_split 20 hx20]
      congr 1
      · refine kc_ext 20 fun a _ => ?_
        rw [kx_iff, kx_iff, Bool.and_eq_true, Bool.and_eq_true, Bool.and_eq_true]
        constructor
        · rintro ⟨⟨z1, z2⟩, z3⟩
          rw [hnx a z3]
          exact ⟨⟨(hq a z3).mp z1, z2⟩, z3⟩
        · rintro ⟨⟨z1, z2⟩, z3⟩
          rw [hnx a z3] at z2
          exact ⟨⟨(hq a z3).mpr z1, z2⟩, z3⟩
      · have : ((bin As m (i + 1) x && decide (nxt As (i + 1) x < T)) = true) = (nxt As (i + 1) x < T) := by rw [Bool.and_eq_true, decide_eq_true_iff, hxb]; exact propext ⟨fun z => z.2, fun z => ⟨rfl, z⟩⟩
        simp only [this]
    have ktrue : kc (kx (fun a => (bin As m i a && (fun _ : Nat => true) a) && decide (nxt As i a < T)) x) 20 = kc (kx (fun a => bin As m i a && decide (nxt As i a < T)) x) 20 := kc_ext 20 fun a _ => by
      rw [kx_iff, kx_iff, Bool.and_true]
    obtain ⟨hb', hcase⟩ := br_step hm hA (by omega) hb
    rcases hcase with ⟨f, f1, f2, f3, f4, f5⟩ | ⟨f1, f2, f3, f4, f5⟩ | ⟨f1, f2, f3, f4, f, f5, f6, f7⟩
    · rw [hx] at f2
      have hbx : bin As m i x = true := bk_iff.mpr ⟨f, f1, f2⟩
      have hbs : ∀ a, bin As m (i + 1) a = bin As m i a := fun a => by unfold bin; rw [f4, f5]
      rw [sB' (fun _ => true) (fun a _ => by rw [hbs a]; exact ⟨fun z => ⟨z, rfl⟩, fun z => z.1⟩) (by rw [hbs x]; exact hbx), ktrue]
      rw [if_pos hbx] at HT H1 ⊢
      by_cases hiT : i < T
      · have := HT hiT
        omega
      · rw [eA T (by omega)] at sA'
        omega
    · have hno : ¬ bin As m i x = true := fun z => by
        obtain ⟨j, hj, e⟩ := bk_iff.mp z
        exact f1 j hj (e.trans hx.symm)
      rw [hx] at f5
      rw [sB' (fun _ => true) (fun a hax => by
        unfold bin
        rw [f4, f5, bk_iff, bk_iff]
        constructor
        · rintro ⟨j, hj, e⟩
          have hje : ¬ j = (br As m i).1 := fun z => by rw [z, gu_s] at e; exact hax e.symm
          rw [gu_o hje] at e
          exact ⟨⟨j, by omega, e⟩, rfl⟩
        · rintro ⟨⟨j, hj, e⟩, -⟩
          exact ⟨j, by omega, by rw [gu_o (by omega)]; exact e⟩) (bk_iff.mpr ⟨(br As m i).1, by rw [f4]; omega, by rw [f5, gu_s]⟩), ktrue]
      rw [if_neg hno] at HT H1 ⊢
      by_cases hiT : i < T
      · have := HT hiT
        omega
      · rw [eA T (by omega)] at sA'
        omega
    · have hno : ¬ bin As m i x = true := fun z => by
        obtain ⟨j, hj, e⟩ := bk_iff.mp z
        exact f1 j hj (e.trans hx.symm)
      rw [hx] at f7
      rw [f3] at f1
      have hb2 := hb
      unfold bh at hb2
      rw [f3] at hb2
      have hinj := hb2.2.2.1
      obtain ⟨y, hqq⟩ : ∃ y, (br As m i).2.1 f = y := ⟨_, rfl⟩
      have hyx : ¬ y = x := fun z => f1 f f5 (hqq.trans (z.trans hx.symm))
      have hy20 : y < 20 := by rw [← hqq]; exact br_xk hk (by omega) hb (by rw [f3]; exact f5)
      have hby : bin As m i y = true := bk_iff.mpr ⟨f, by rw [f3]; exact f5, hqq⟩
      rw [sB' (fun a => !decide (a = y)) (fun a hax => by
        unfold bin
        rw [f4, f7, bk_iff, bk_iff, f3, Bool.not_eq_true', decide_eq_false_iff_not]
        constructor
        · rintro ⟨j, hj, e⟩
          have hje : ¬ j = f := fun z => by rw [z, gu_s] at e; exact hax e.symm
          rw [gu_o hje] at e
          exact ⟨⟨j, hj, e⟩, fun w => hje (hinj j f hj f5 (e.trans (w.trans hqq.symm)))⟩
        · rintro ⟨⟨j, hj, e⟩, hne⟩
          have hje : ¬ j = f := fun z => by rw [z] at e; exact hne (e.symm.trans hqq)
          exact ⟨j, hj, by rw [gu_o hje]; exact e⟩) (bk_iff.mpr ⟨f, by rw [f4]; exact f5, by rw [f7, gu_s]⟩)]
      rw [if_neg hno] at HT H1 ⊢
      have hsplit : kc (kx (fun a => bin As m i a && decide (nxt As i a < T)) x) 20 = kc (kx (fun a => (bin As m i a && !decide (a = y)) && decide (nxt As i a < T)) x) 20 + (if nxt As i y < T then 1 else 0) := by
        rw [kc_split 20 hy20]
        congr 1
        · refine kc_ext 20 fun a _ => ?_
          rw [kx_iff, kx_iff, kx_iff, Bool.and_eq_true, Bool.and_eq_true, Bool.and_eq_true, Bool.not_eq_true', decide_eq_false_iff_not]
          constructor
          · rintro ⟨⟨⟨z1, z2⟩, z3⟩, z4⟩
            exact ⟨⟨⟨z1, z4⟩, z2⟩, z3⟩
          · rintro ⟨⟨⟨z1, z4⟩, z2⟩, z3⟩
            exact ⟨⟨⟨z1, z2⟩, z3⟩, z4⟩
        · have : (kx (fun a => bin As m i a && decide (nxt As i a < T)) x y = true) = (nxt As i y < T) := by
            rw [kx_iff, Bool.and_eq_true, decide_eq_true_iff, hby]
            exact propext ⟨fun z => z.1.2, fun z => ⟨⟨rfl, z⟩, hyx⟩⟩
          simp only [this]
      by_cases hyT : nxt As i y < T
      · rw [if_pos hyT] at hsplit
        -- all that is held is asked next ahead of T
        have hall : m ≤ kc (kx (fun a => bin As m i a && decide (nxt As i a < T)) x) 20 := by
          have hc := kc_bk (xk := (br As m i).2.1) m (fun j hj => br_xk hk (by omega) hb (by rw [f3]; exact hj)) hinj
          refine Nat.le_trans (Nat.le_of_eq hc.symm) ?_
          refine kc_mono 20 fun a _ z => ?_
          obtain ⟨j, hj, e⟩ := bk_iff.mp z
          have hax : ¬ a = x := fun w => f1 j hj (e.trans (w.trans hx.symm))
          have hnj := bJ_nk hb2 hA hj
          have hnf := bJ_nk hb2 hA f5
          have hle := f6 j hj
          rw [hnj, hnf, e, hqq] at hle
          rw [kx_iff, Bool.and_eq_true, decide_eq_true_iff]
          exact ⟨⟨bk_iff.mpr ⟨j, by rw [f3]; exact hj, e⟩, by omega⟩, hax⟩
        omega
      · rw [if_neg hyT, Nat.add_zero] at hsplit
        rw [← hsplit]
        by_cases hiT : i < T
        · have := HT hiT
          omega
        · rw [eA T (by omega)] at sA'
          omega
/-- no cache of size m misses less -/
theorem opt_le (hm : 1 ≤ m) (hA : As.length ≤ 60) (hk : ∀ i, i < As.length → As.getD i 0 < 20) {In : Nat → Nat → Bool} (h0 : ∀ a, ¬ In 0 a = true) (h1 : ∀ i, i < As.length → ∀ a, In (i + 1) a = true → a = As.getD i 0 ∨ In i a = true) (h2 : ∀ i, i < As.length → In (i + 1) (As.getD i 0) = true) (h3 : ∀ i, i ≤ As.length → kc (In i) 20 ≤ m) :
    As.length - (gs As m As.length).2 ≤ ma As In As.length := by
  have h := opt hm hA hk h0 h1 h2 h3 As.length (Nat.le_refl _) 0
  rw [ma_bin hm hA _ (Nat.le_refl _)] at h
  have e1 : ∀ p : Nat → Bool, kc (fun a => p a && decide (nxt As As.length a < 0)) 20 = 0 := fun p => kc_zero 20 fun a _ z => Nat.not_lt_zero _ (of_decide_eq_true (Bool.and_eq_true_iff.mp z).2)
  rw [e1, e1] at h
  exact h
/-- and a greater size misses no more -/
theorem opt_grow (hm : 1 ≤ m) (hA : As.length ≤ 60) (hk : ∀ i, i < As.length → As.getD i 0 < 20) : As.length - (gs As (m + 1) As.length).2 ≤ As.length - (gs As m As.length).2 := by
  rw [← ma_bin hm hA _ (Nat.le_refl _)]
  refine opt_le (by omega) hA hk (fun a z => by cases z) (fun i hi a z => ?_) (fun i hi => ?_) (fun i hi => ?_)
  · have hb := br_all (As := As) hm hA i (by omega)
    obtain ⟨j, hj, e⟩ := bk_iff.mp z
    rcases (br_step hm hA hi hb).2 with ⟨f, f1, f2, f3, f4, f5⟩ | ⟨f1, f2, f3, f4, f5⟩ | ⟨f1, f2, f3, f4, f, f5, f6, f7⟩
    · rw [f4] at hj
      rw [f5] at e
      exact Or.inr (bk_iff.mpr ⟨j, hj, e⟩)
    · rw [f4] at hj
      rw [f5] at e
      by_cases hje : j = (br As m i).1
      · rw [hje, gu_s] at e
        exact Or.inl e.symm
      · rw [gu_o hje] at e
        exact Or.inr (bk_iff.mpr ⟨j, by omega, e⟩)
    · rw [f4] at hj
      rw [f7] at e
      by_cases hje : j = f
      · rw [hje, gu_s] at e
        exact Or.inl e.symm
      · rw [gu_o hje] at e
        exact Or.inr (bk_iff.mpr ⟨j, by rw [f3]; exact hj, e⟩)
  · have hb := br_all (As := As) hm hA i (by omega)
    rcases (br_step hm hA hi hb).2 with ⟨f, f1, f2, f3, f4, f5⟩ | ⟨f1, f2, f3, f4, f5⟩ | ⟨f1, f2, f3, f4, f, f5, f6, f7⟩
    · exact bk_iff.mpr ⟨f, by rw [f4]; exact f1, by rw [f5]; exact f2⟩
    · exact bk_iff.mpr ⟨(br As m i).1, by rw [f4]; omega, by rw [f5, gu_s]⟩
    · exact bk_iff.mpr ⟨f, by rw [f4]; exact f5, by rw [f7, gu_s]⟩
  · have hb := br_all (As := As) hm hA i hi
    have h9 : kc (bin As m i) 20 = (br As m i).1 := kc_bk _ (fun j hj => br_xk hk hi hb hj) hb.2.2.1
    have := hb.1
    omega
end BR
