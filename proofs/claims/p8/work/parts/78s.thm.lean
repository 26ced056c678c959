/-! ===== last asked against the fewest: less, and never by much ===== -/
def kz (z : Int32 × Int32) : Nat := z.1.toNatClampNeg
def ph (B : Nat → Bool) : Nat → ev_PL → Nat
  | _, [] => 0
  | w, z :: l => (if B (kz z) = true then 0 else w) + ph B (w + 1) l
def pn (B : Nat → Bool) : ev_PL → Nat
  | [] => 0
  | z :: l => (if B (kz z) = true then 0 else 1) + pn B l
def tri : Nat → Nat
  | 0 => 0
  | n + 1 => tri n + (n + 1)
theorem tri_mono {a : Nat} : ∀ {b : Nat}, a ≤ b → tri a ≤ tri b := by
  intro b
  induction b with
  | zero => intro h; rw [Nat.le_zero.mp h]; exact Nat.le_refl _
  | succ b ih =>
    intro h
    by_cases e : a = b + 1
    · rw [e]; exact Nat.le_refl _
    · have := ih (by omega)
      show tri a ≤ tri b + (b + 1)
      omega
theorem ph_w {B : Nat → Bool} : ∀ (l : ev_PL) (w : Nat), ph B (w + 1) l = ph B w l + pn B l := by
  intro l
  induction l with
  | nil => intro w; rfl
  | cons z l ih =>
    intro w
    show (if B (kz z) = true then 0 else w + 1) + ph B (w + 1 + 1) l = (if B (kz z) = true then 0 else w) + ph B (w + 1) l + ((if B (kz z) = true then 0 else 1) + pn B l)
    rw [ih (w + 1)]
    split <;> omega
theorem ph_app {B : Nat → Bool} {r : ev_PL} : ∀ (l : ev_PL) (w : Nat), ph B w (l ++ r) = ph B w l + ph B (w + l.length) r := by
  intro l
  induction l with
  | nil => intro w; show ph B w r = 0 + ph B (w + 0) r; rw [Nat.zero_add, Nat.add_zero]
  | cons z l ih =>
    intro w
    show (if B (kz z) = true then 0 else w) + ph B (w + 1) (l ++ r) = (if B (kz z) = true then 0 else w) + ph B (w + 1) l + ph B (w + (l.length + 1)) r
    rw [ih (w + 1), show w + 1 + l.length = w + (l.length + 1) from by omega]
    omega
theorem ph_tri {B : Nat → Bool} {w : Nat} (hw : 1 ≤ w) : ∀ l : ev_PL, tri (pn B l) ≤ ph B w l := by
  intro l
  induction l with
  | nil => exact Nat.le_refl 0
  | cons z l ih =>
    show tri ((if B (kz z) = true then 0 else 1) + pn B l) ≤ (if B (kz z) = true then 0 else w) + ph B (w + 1) l
    rw [ph_w]
    split
    · rw [Nat.zero_add, Nat.zero_add]; omega
    · rw [Nat.add_comm 1]
      show tri (pn B l) + (pn B l + 1) ≤ _
      omega
theorem ph_erase {B : Nat → Bool} : ∀ (l : ev_PL) (w j : Nat), ph B w (l.eraseIdx j) ≤ ph B w l := by
  intro l
  induction l with
  | nil => intro w j; exact Nat.le_refl _
  | cons z l ih =>
    intro w j
    rcases j with _ | j
    · show ph B w l ≤ (if B (kz z) = true then 0 else w) + ph B (w + 1) l
      rw [ph_w]; omega
    · show (if B (kz z) = true then 0 else w) + ph B (w + 1) (l.eraseIdx j) ≤ (if B (kz z) = true then 0 else w) + ph B (w + 1) l
      have := ih (w + 1) j
      omega
theorem ph_sub {B B' : Nat → Bool} : ∀ (l : ev_PL) (w : Nat), (∀ z ∈ l, B (kz z) = true → B' (kz z) = true) → ph B' w l ≤ ph B w l := by
  intro l
  induction l with
  | nil => intro w _; exact Nat.le_refl _
  | cons z l ih =>
    intro w h
    show (if B' (kz z) = true then 0 else w) + ph B' (w + 1) l ≤ (if B (kz z) = true then 0 else w) + ph B (w + 1) l
    have h1 := ih (w + 1) (fun y hy => h y (List.mem_cons_of_mem _ hy))
    have h2 := h z List.mem_cons_self
    by_cases hb : B (kz z) = true
    · rw [if_pos hb, if_pos (h2 hb)]; omega
    · rw [if_neg hb]
      split <;> omega
theorem ph_out {B B' : Nat → Bool} {q : Nat} (h : ∀ a, ¬ a = q → B a = true → B' a = true) : ∀ (l : ev_PL) (w : Nat), 1 ≤ w → l.Pairwise (fun y z => ¬ kz y = kz z) → ph B' w l + 1 ≤ ph B w l + w + l.length := by
  intro l
  induction l with
  | nil => intro w hw _; show 0 + 1 ≤ 0 + w + 0; omega
  | cons z l ih =>
    intro w hw hp
    obtain ⟨p1, p2⟩ := List.pairwise_cons.mp hp
    show (if B' (kz z) = true then 0 else w) + ph B' (w + 1) l + 1 ≤ (if B (kz z) = true then 0 else w) + ph B (w + 1) l + w + (l.length + 1)
    by_cases hq : kz z = q
    · have h1 := ph_sub (B := B) (B' := B') l (w + 1) (fun y hy => h _ (fun e => p1 y hy (hq.trans e.symm)))
      split <;> split <;> omega
    · have h1 := ih (w + 1) (by omega) p2
      by_cases hb : B (kz z) = true
      · rw [if_pos hb, if_pos (h _ hq hb)]; omega
      · rw [if_neg hb]
        split <;> omega
theorem pn_one {B B' : Nat → Bool} {q : Nat} (h : ∀ a, ¬ a = q → B' a = true → B a = true) : ∀ l : ev_PL, l.Pairwise (fun y z => ¬ kz y = kz z) → pn B l ≤ pn B' l + 1 := by
  have hs : ∀ l : ev_PL, (∀ y ∈ l, ¬ kz y = q) → pn B l ≤ pn B' l := by
    intro l
    induction l with
    | nil => intro _; exact Nat.le_refl _
    | cons z l ih =>
      intro hy
      show (if B (kz z) = true then 0 else 1) + pn B l ≤ (if B' (kz z) = true then 0 else 1) + pn B' l
      have h1 := ih (fun y h2 => hy y (List.mem_cons_of_mem _ h2))
      by_cases hb : B' (kz z) = true
      · rw [if_pos hb, if_pos (h _ (hy z List.mem_cons_self) hb)]; omega
      · rw [if_neg hb]
        split <;> omega
  intro l
  induction l with
  | nil => intro _; exact Nat.zero_le _
  | cons z l ih =>
    intro hp
    obtain ⟨p1, p2⟩ := List.pairwise_cons.mp hp
    show (if B (kz z) = true then 0 else 1) + pn B l ≤ (if B' (kz z) = true then 0 else 1) + pn B' l + 1
    by_cases hq : kz z = q
    · have h1 := hs l (fun y hy e => p1 y hy (hq.trans e.symm))
      split <;> split <;> omega
    · have h1 := ih p2
      by_cases hb : B' (kz z) = true
      · rw [if_pos hb, if_pos (h _ hq hb)]; omega
      · rw [if_neg hb]
        split <;> omega
theorem pn_bk {xk : Nat → Nat} {l : ev_PL} (hp : l.Pairwise (fun y z => ¬ kz y = kz z)) : ∀ e, l.length ≤ pn (fun a => bk xk a e) l + e := by
  intro e
  induction e with
  | zero =>
    clear hp
    induction l with
    | nil => exact Nat.le_refl _
    | cons z l ih =>
      show l.length + 1 ≤ (if (false : Bool) = true then 0 else 1) + pn (fun a => bk xk a 0) l + 0
      rw [if_neg Bool.false_ne_true]
      omega
  | succ e ih =>
    have h1 := pn_one (B := fun a => bk xk a e) (B' := fun a => bk xk a (e + 1)) (q := xk e) (fun a ha hb => by
      obtain ⟨j, hj, e1⟩ := bk_iff.mp hb
      refine bk_iff.mpr ⟨j, Nat.lt_of_le_of_ne (by omega) (fun z => ?_), e1⟩
      rw [z] at e1
      exact ha e1.symm) l hp
    omega
section TH
variable {As : List Nat} {c k i : Nat} {L : ev_PL}
theorem kI_kz (h : kI As i c L) {j : Nat} (hj : j < L.length) : kz (pf_at L j) < 20 ∧ dp As i (kz (pf_at L j)) = L.length - j ∧ ∃ v, pf_at L j = (nI (kz (pf_at L j)), v) := by
  obtain ⟨a, ha, e1, e2⟩ := h.2.1 j hj
  have e3 := pf_at_of e1
  have e4 : kz (pf_at L j) = a := by
    rw [e3]
    exact nI_clamp (by omega)
  rw [e4]
  exact ⟨ha, e2, _, e3⟩
theorem kI_get {j : Nat} (hj : j < L.length) : L[j] = pf_at L j := (pf_at_of (List.getElem?_eq_getElem hj)).symm
theorem kI_pw (h : kI As i c L) : L.Pairwise (fun y z => ¬ kz y = kz z) := by
  refine List.pairwise_iff_getElem.mpr fun a b ha hb hab e => ?_
  rw [kI_get ha, kI_get hb] at e
  have h1 := (kI_kz h ha).2.1
  have h2 := (kI_kz h hb).2.1
  rw [e] at h1
  omega
theorem kI_mem (h : kI As i c L) {z : Int32 × Int32} (hz : z ∈ L) : kz z < 20 ∧ ¬ dp As i (kz z) = 0 ∧ dp As i (kz z) ≤ c := by
  obtain ⟨j, hj, e⟩ := List.getElem_of_mem hz
  rw [kI_get hj] at e
  obtain ⟨h1, h2, -⟩ := kI_kz h hj
  rw [e] at h1 h2
  have := h.1
  exact ⟨h1, by omega, by omega⟩
/-- how the run's holding changes -/
theorem bin_step (hk1 : 1 ≤ k) (hA : As.length ≤ 60) (hi : i < As.length) : bin As k (i + 1) (As.getD i 0) = true ∧
    ((gk As k i ∧ bin As k i (As.getD i 0) = true ∧ ∀ a, bin As k (i + 1) a = bin As k i a) ∨ (¬ gk As k i ∧ ¬ bin As k i (As.getD i 0) = true ∧ ∃ q, ∀ a, ¬ a = q → bin As k i a = true → bin As k (i + 1) a = true)) := by
  have hb := br_all (As := As) hk1 hA i (by omega)
  rcases (br_step hk1 hA hi hb).2 with ⟨f, f1, f2, f3, f4, f5⟩ | ⟨f1, f2, f3, f4, f5⟩ | ⟨f1, f2, f3, f4, f, f5, f6, f7⟩
  · have hs : ∀ a, bin As k (i + 1) a = bin As k i a := fun a => by unfold bin; rw [f4, f5]
    have hx : bin As k i (As.getD i 0) = true := bk_iff.mpr ⟨f, f1, f2⟩
    exact ⟨by rw [hs]; exact hx, Or.inl ⟨f3, hx, hs⟩⟩
  · refine ⟨bk_iff.mpr ⟨(br As k i).1, by rw [f4]; omega, by rw [f5, gu_s]⟩, Or.inr ⟨f2, fun z => f2 ((bin_gk hk1 hA hi).mp z), As.getD i 0, fun a _ z => ?_⟩⟩
    obtain ⟨j, hj, e⟩ := bk_iff.mp z
    exact bk_iff.mpr ⟨j, by rw [f4]; omega, by rw [f5, gu_o (by omega)]; exact e⟩
  · refine ⟨bk_iff.mpr ⟨f, by rw [f4]; exact f5, by rw [f7, gu_s]⟩, Or.inr ⟨f2, fun z => f2 ((bin_gk hk1 hA hi).mp z), (br As k i).2.1 f, fun a ha z => ?_⟩⟩
    obtain ⟨j, hj, e⟩ := bk_iff.mp z
    have hjf : ¬ j = f := fun w => ha (by rw [← e, w])
    exact bk_iff.mpr ⟨j, by rw [f4]; omega, by rw [f7, gu_o hjf]; exact e⟩
theorem bin_pn (hk1 : 1 ≤ k) (hA : As.length ≤ 60) (hi : i ≤ As.length) {l : ev_PL} (hp : l.Pairwise (fun y z => ¬ kz y = kz z)) : l.length ≤ pn (bin As k i) l + k := by
  have h1 := pn_bk (xk := (br As k i).2.1) hp (br As k i).1
  have h2 := (br_all (As := As) hk1 hA i hi).1
  have h3 : pn (fun a => bk (br As k i).2.1 a (br As k i).1) l = pn (bin As k i) l := rfl
  omega
theorem thm_all (hk1 : 1 ≤ k) (hkc : k ≤ c) (hA : As.length ≤ 60) (hA20 : ∀ i, i < As.length → As.getD i 0 < 20) : ∀ i, i ≤ As.length → ∃ L, kI As i c L ∧ (L.length < c → ∀ a, a < 20 → ¬ dp As i a = 0 → dp As i a ≤ L.length) ∧
    (c - k + 1) * mm As c i 0 + ph (bin As k i) 1 L ≤ c * (i - (gs As k i).2) + tri (L.length - k) := by
  intro i
  induction i with
  | zero => intro _; exact ⟨[], ⟨Nat.zero_le c, fun i hi => absurd hi (Nat.not_lt_zero i), fun a _ h => absurd rfl h⟩, fun _ a _ h => absurd rfl h, by show (c - k + 1) * 0 + 0 ≤ _; rw [Nat.mul_zero]; exact Nat.zero_le _⟩
  | succ i ih =>
    intro hi
    obtain ⟨L, hL, hF, hI⟩ := ih (by omega)
    have hx20 := hA20 i (by omega)
    obtain ⟨hbx, hbs⟩ := bin_step (k := k) hk1 hA (i := i) (by omega)
    have hgl := gs_le (As := As) (m := k) i
    have hpw := kI_pw hL
    have hpn := bin_pn (k := k) hk1 hA (i := i) (by omega) hpw
    have hmm : mm As c (i + 1) 0 = mm As c i 0 + (if mh As c (0 + i) = true then 0 else 1) := mm_s i 0
    rw [Nat.zero_add] at hmm
    have hgs1 : gk As k i → i + 1 - (gs As k (i + 1)).2 = i - (gs As k i).2 := fun ⟨b, g1, g2⟩ => by
      rw [gs_y g1 g2]
      show i + 1 - ((gs As k i).2 + 1) = _
      omega
    have hgs0 : ¬ gk As k i → i + 1 - (gs As k (i + 1)).2 = (i - (gs As k i).2) + 1 := fun hg => by
      rw [gs_n hg]; omega
    generalize hx : As.getD i 0 = x at *
    by_cases hd : ¬ dp As i x = 0 ∧ dp As i x ≤ c
    · -- held by the last asked
      have hmh : mh As c i = true := mh_dp.mpr (by rw [hx]; exact hd)
      rw [if_pos hmh, Nat.add_zero (mm As c i 0)] at hmm
      have hd3 := hL.2.2 x hx20 hd.1 hd.2
      have hL' := kI_hit hL hx20 hx hd
      generalize hj : L.length - dp As i x = j at hL'
      have hjl : j < L.length := by have := hd.1; omega
      obtain ⟨z1, z2, v, z3⟩ := kI_kz hL hjl
      have hkx : kz (pf_at L j) = x := Classical.byContradiction fun w => dp_ne w (by omega) hd.1 (by omega)
      have hel : (L.eraseIdx j).length = L.length - 1 := by rw [List.length_eraseIdx, if_pos hjl]
      have hlen : (L.eraseIdx j ++ [pf_at L j]).length = L.length := by rw [List.length_append, List.length_singleton]; omega
      have hphi : ph (bin As k (i + 1)) 1 (L.eraseIdx j ++ [pf_at L j]) = ph (bin As k (i + 1)) 1 (L.eraseIdx j) := by
        rw [ph_app]
        show _ + ((if bin As k (i + 1) (kz (pf_at L j)) = true then 0 else _) + 0) = _
        rw [hkx, if_pos hbx]
        rfl
      refine ⟨_, hL', fun hlt a ha h0 => ?_, ?_⟩
      · rw [hlen] at hlt ⊢
        by_cases hax : a = x
        · rw [hax, dp_1 hx]; omega
        · rw [dp_n hx hax] at h0 ⊢
          have hold := hF hlt a ha
          have hold2 := hF hlt x hx20 hd.1
          have hne := dp_ne (As := As) (p := i) hax
          (repeat' split at h0) <;> (repeat' split) <;> omega
      · rw [hphi, hmm]
        rw [hlen]
        have he := ph_erase (B := bin As k i) L 1 j
        rcases hbs with ⟨b1, b2, b3⟩ | ⟨b1, b2, q, b3⟩
        · rw [hgs1 b1, show bin As k (i + 1) = bin As k i from funext b3]
          omega
        · rw [hgs0 b1, Nat.mul_succ]
          have ho := ph_out b3 (L.eraseIdx j) 1 (Nat.le_refl 1) (hpw.sublist (List.eraseIdx_sublist L j))
          have := hL.1
          omega
    · have hmh : ¬ mh As c i = true := fun w => hd (by have := mh_dp.mp w; rw [hx] at this; exact this)
      rw [if_neg hmh] at hmm
      have hm2 := kI_miss hL hx20 hx (by omega) hd
      have hlc := hL.1
      have hdn : ∀ a, ¬ a = x → ¬ dp As i a = 0 → dp As i a ≤ c → dp As (i + 1) a = dp As i a + 1 := fun a hax h1 h2 => by
        rw [dp_n hx hax, if_neg h1, if_neg (fun w => hd ⟨w.1, by omega⟩)]
      by_cases hlt : L.length < c
      · have hx0 : dp As i x = 0 := Classical.byContradiction fun w => hd ⟨w, by have := hF hlt x hx20 w; omega⟩
        have hL' := hm2.1 hlt
        have hlen : (L ++ [(nI x, nI i)]).length = L.length + 1 := by rw [List.length_append, List.length_singleton]
        have hkn : kz (nI x, nI i) = x := nI_clamp (by omega)
        have hphi : ph (bin As k (i + 1)) 1 (L ++ [(nI x, nI i)]) = ph (bin As k (i + 1)) 1 L := by
          rw [ph_app]
          show _ + ((if bin As k (i + 1) (kz (nI x, nI i)) = true then 0 else _) + 0) = _
          rw [hkn, if_pos hbx]
          rfl
        refine ⟨_, hL', fun hlt2 a ha h0 => ?_, ?_⟩
        · rw [hlen] at hlt2 ⊢
          by_cases hax : a = x
          · rw [hax, dp_1 hx]; omega
          · rw [dp_n hx hax] at h0 ⊢
            have hold := hF hlt a ha
            (repeat' split at h0) <;> (repeat' split) <;> omega
        · rw [hlen, hphi, hmm]
          rcases hbs with ⟨b1, b2, b3⟩ | ⟨b1, b2, q, b3⟩
          · exfalso
            obtain ⟨j, hj, e⟩ := bk_iff.mp b2
            have hb := ((br_all (As := As) hk1 hA i (by omega)).2.1 j hj).1
            rw [e] at hb
            exact dp_mb.2 _ hb hx0
          · rw [hgs0 b1, Nat.mul_succ, Nat.mul_add, Nat.mul_one]
            have ho := ph_out b3 L 1 (Nat.le_refl 1) hpw
            by_cases hsk : k ≤ L.length
            · rw [show L.length + 1 - k = (L.length - k) + 1 from by omega]
              show _ ≤ _ + (tri (L.length - k) + (L.length - k + 1))
              omega
            · rw [show L.length + 1 - k = 0 from by omega]
              rw [show L.length - k = 0 from by omega] at hI
              omega
      · have hlen0 : L.length = c := by omega
        have hL' := hm2.2 hlen0
        rcases L with _ | ⟨z, t⟩
        · exfalso
          have : (0 : Nat) = c := hlen0
          omega
        · have hxn : ∀ y ∈ z :: t, ¬ kz y = x := fun y hy w => hd (by have := (kI_mem hL hy).2; rw [w] at this; exact this)
          have he : ((z :: t) ++ [(nI x, nI i)]).eraseIdx 0 = t ++ [(nI x, nI i)] := rfl
          rw [he] at hL'
          have htc : t.length + 1 = c := hlen0
          have hlen : (t ++ [(nI x, nI i)]).length = t.length + 1 := by rw [List.length_append, List.length_singleton]
          have hkn : kz (nI x, nI i) = x := nI_clamp (by omega)
          have hphi : ph (bin As k (i + 1)) 1 (t ++ [(nI x, nI i)]) = ph (bin As k (i + 1)) 1 t := by
            rw [ph_app]
            show _ + ((if bin As k (i + 1) (kz (nI x, nI i)) = true then 0 else _) + 0) = _
            rw [hkn, if_pos hbx]
            rfl
          have hold : ph (bin As k i) 1 (z :: t) = ph (bin As k i) 1 t + pn (bin As k i) (z :: t) := by
            show (if bin As k i (kz z) = true then 0 else 1) + ph (bin As k i) (1 + 1) t = _ + ((if bin As k i (kz z) = true then 0 else 1) + pn (bin As k i) t)
            rw [ph_w]
            omega
          have hl2 : (z :: t).length = t.length + 1 := rfl
          rw [hl2] at hI hpn
          refine ⟨_, hL', fun hlt2 => absurd hlt2 (by omega), ?_⟩
          rw [hlen, hphi, hmm, Nat.mul_add, Nat.mul_one]
          rw [hold] at hI
          rcases hbs with ⟨b1, b2, b3⟩ | ⟨b1, b2, q, b3⟩
          · rw [hgs1 b1, show bin As k (i + 1) = bin As k i from funext b3]
            have h5 := bin_pn (k := k) hk1 hA (i := i) (by omega) (l := (nI x, nI i) :: z :: t) (List.pairwise_cons.mpr ⟨fun y hy w => hxn y hy (w.symm.trans hkn), hpw⟩)
            have h6 : pn (bin As k i) ((nI x, nI i) :: z :: t) = pn (bin As k i) (z :: t) := by
              show (if bin As k i (kz (nI x, nI i)) = true then 0 else 1) + pn (bin As k i) (z :: t) = _
              rw [hkn, if_pos b2, Nat.zero_add]
            rw [h6] at h5
            have h7 : ((nI x, nI i) :: z :: t).length = t.length + 1 + 1 := rfl
            omega
          · rw [hgs0 b1, Nat.mul_succ]
            have ho := ph_out b3 t 1 (Nat.le_refl 1) (List.pairwise_cons.mp hpw).2
            omega
/-- the theorem: misses(c) * (c - k + 1) <= best(k) * c -/
theorem thm_end (hk1 : 1 ≤ k) (hkc : k ≤ c) (hA : As.length ≤ 60) (hA20 : ∀ i, i < As.length → As.getD i 0 < 20) : (c - k + 1) * mm As c As.length 0 ≤ c * (As.length - (gs As k As.length).2) := by
  obtain ⟨L, hL, -, hI⟩ := thm_all hk1 hkc hA hA20 As.length (Nat.le_refl _)
  have h1 := ph_tri (B := bin As k As.length) (Nat.le_refl 1) L
  have h2 := bin_pn (k := k) hk1 hA (Nat.le_refl _) (kI_pw hL)
  have h3 := tri_mono (a := L.length - k) (b := pn (bin As k As.length) L) (by omega)
  omega
/-- the fewest are no more than the last asked's -/
theorem thm_best (hc1 : 1 ≤ c) (hA : As.length ≤ 60) (hA20 : ∀ i, i < As.length → As.getD i 0 < 20) : As.length - (gs As c As.length).2 ≤ mm As c As.length 0 := by
  have hm : ∀ i, mm As c i 0 = ma As (fun i a => decide (¬ dp As i a = 0) && decide (dp As i a ≤ c)) i := by
    intro i
    induction i with
    | zero => rfl
    | succ i ih =>
      rw [mm_s, Nat.zero_add, ih]
      show _ + _ = _ + (if (decide (¬ dp As i (As.getD i 0) = 0) && decide (dp As i (As.getD i 0) ≤ c)) = true then 0 else 1)
      congr 1
      have : (mh As c i = true) = ((decide (¬ dp As i (As.getD i 0) = 0) && decide (dp As i (As.getD i 0) ≤ c)) = true) := by
        rw [mh_dp, Bool.and_eq_true, decide_eq_true_iff, decide_eq_true_iff]
      simp only [this]
  rw [hm]
  refine opt_le hc1 hA hA20 (fun a z => ?_) (fun i hi a z => ?_) (fun i hi => ?_) (fun i hi => ?_)
  · exact of_decide_eq_true (Bool.and_eq_true_iff.mp z).1 rfl
  · by_cases hax : a = As.getD i 0
    · exact Or.inl hax
    · refine Or.inr ?_
      rw [Bool.and_eq_true, decide_eq_true_iff, decide_eq_true_iff] at z ⊢
      rw [dp_n rfl hax] at z
      obtain ⟨z1, z2⟩ := z
      (repeat' split at z1) <;> (repeat' split at z2) <;> omega
  · rw [Bool.and_eq_true, decide_eq_true_iff, decide_eq_true_iff, dp_1 rfl]
    omega
  · have hcount : ∀ (n d : Nat), kc (fun a => decide (¬ dp As i a = 0) && decide (dp As i a ≤ d)) n ≤ d := by
      intro n d
      induction d with
      | zero =>
        rw [kc_zero n (fun a _ z => by
          rw [Bool.and_eq_true, decide_eq_true_iff, decide_eq_true_iff] at z
          omega)]
        exact Nat.le_refl 0
      | succ d ih =>
        by_cases hex : ∃ y, y < n ∧ dp As i y = d + 1
        · obtain ⟨y, hy, ey⟩ := hex
          rw [kc_split n hy]
          have h1 : kc (kx (fun a => decide (¬ dp As i a = 0) && decide (dp As i a ≤ d + 1)) y) n ≤ kc (fun a => decide (¬ dp As i a = 0) && decide (dp As i a ≤ d)) n := kc_mono n fun a _ z => by
            rw [kx_iff, Bool.and_eq_true, decide_eq_true_iff, decide_eq_true_iff] at z
            obtain ⟨⟨z1, z2⟩, z3⟩ := z
            have := dp_ne (As := As) (p := i) z3 z1 (by omega)
            rw [Bool.and_eq_true, decide_eq_true_iff, decide_eq_true_iff]
            omega
          split <;> omega
        · refine Nat.le_trans (kc_mono n fun a ha z => ?_) (Nat.le_succ_of_le ih)
          rw [Bool.and_eq_true, decide_eq_true_iff, decide_eq_true_iff] at z ⊢
          have : ¬ dp As i a = d + 1 := fun w => hex ⟨a, ha, w⟩
          omega
    exact hcount 20 c
/-- a greater size of the last asked misses no more -/
theorem thm_grow : ∀ i, mm As (c + 1) i 0 ≤ mm As c i 0 := by
  intro i
  induction i with
  | zero => exact Nat.le_refl _
  | succ i ih =>
    rw [mm_s, mm_s, Nat.zero_add]
    by_cases h : mh As c i = true
    · have h2 : mh As (c + 1) i = true := mh_dp.mpr (by have := mh_dp.mp h; omega)
      rw [if_pos h, if_pos h2]
      omega
    · rw [if_neg h]
      split <;> omega
end TH
