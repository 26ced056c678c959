/-! ===== joined: 76.lw, 77.mk, 78.jk, 78r.rel, 78s.thm, 78t.sound, 79.side, 80.law, 81.lw2 ===== -/
section
/-! ===== one outcome for class and reference: the class' calls on tables, with the law's handlers ===== -/
def lw_post (v : Bool) (x o : Nat) (H : ev_M) (n q : Nat) (kk : Nat × Int32 × ev_CS) (H1 : ev_M) (n1 q1 : Nat) : Prop := c_all x kk.2.2 H1 ∧ (∀ a, (a < x ∨ x + 57 ≤ a) → ¬ a = o → a < n → H1 a = H a) ∧ (∃ l s, H1 o = some (.inr (11, [.long l, s])) ∧ (v = true → kk.1 = 0 → l = kk.2.1.toInt64)) ∧ (∀ a, n1 ≤ a → H1 a = none) ∧ n ≤ n1 ∧ n1 ≤ n + 100 ∧ q ≤ q1 ∧ q1 ≤ q + 900
theorem bb_64 (b : Bool) : (ev_bb b).toInt64 = if b = true then 1 else 0 := by cases b <;> rfl
section L76
variable {X : ev_E} {x o : Nat} {G : ev_CS} {H : ev_M} {n q : Nat} {P : ev_O → ev_M → Nat → Nat → Prop}
noncomputable def k_make (G : ev_CS) (t b1 m1 : Int32) : Nat × Int32 × ev_CS := if (t < 0 ∨ nI 4 ≤ t) then (1, 0, G) else if (¬ m1 = -1 ∧ (m1 < 1 ∨ 12 < m1)) then (2, 0, G) else (0, (nI (G.1 t.toNatClampNeg).1.length), (pg_T G t.toNatClampNeg (ps_row (G.1 t.toNatClampNeg) [] b1 m1 0 (-1))))
noncomputable def k_put (G : ev_CS) (t k v : Int32) : Nat × Int32 × ev_CS := if (t < 0 ∨ nI 4 ≤ t) then (1, 0, G) else if ((k < 0 ∨ nI 20 ≤ k) ∨ (v < 0 ∨ nI 100 ≤ v)) then (2, 0, G) else (0, (pr_bring (G.1 t.toNatClampNeg).1 (G.1 t.toNatClampNeg).2.1.1 (G.1 t.toNatClampNeg).2.1.2.1 (G.1 t.toNatClampNeg).2.1.2.2.1 (G.1 t.toNatClampNeg).2.1.2.2.2 k v).1, (pg_T G t.toNatClampNeg (ps_old (G.1 t.toNatClampNeg) (pr_bring (G.1 t.toNatClampNeg).1 (G.1 t.toNatClampNeg).2.1.1 (G.1 t.toNatClampNeg).2.1.2.1 (G.1 t.toNatClampNeg).2.1.2.2.1 (G.1 t.toNatClampNeg).2.1.2.2.2 k v).2.1 (pr_bring (G.1 t.toNatClampNeg).1 (G.1 t.toNatClampNeg).2.1.1 (G.1 t.toNatClampNeg).2.1.2.1 (G.1 t.toNatClampNeg).2.1.2.2.1 (G.1 t.toNatClampNeg).2.1.2.2.2 k v).2.2.1 (pr_bring (G.1 t.toNatClampNeg).1 (G.1 t.toNatClampNeg).2.1.1 (G.1 t.toNatClampNeg).2.1.2.1 (G.1 t.toNatClampNeg).2.1.2.2.1 (G.1 t.toNatClampNeg).2.1.2.2.2 k v).2.2.2)))
noncomputable def k_putIfAbsent (G : ev_CS) (t k v : Int32) : Nat × Int32 × ev_CS := if (t < 0 ∨ nI 4 ≤ t) then (1, 0, G) else if ((k < 0 ∨ nI 20 ≤ k) ∨ (v < 0 ∨ nI 100 ≤ v)) then (2, 0, G) else if (¬ (G.1 t.toNatClampNeg).2.1.2.1 = -1) then (3, 0, G) else (0, (pr_bia (G.1 t.toNatClampNeg).1 (G.1 t.toNatClampNeg).2.1.1 (G.1 t.toNatClampNeg).2.1.2.1 (G.1 t.toNatClampNeg).2.1.2.2.1 (G.1 t.toNatClampNeg).2.1.2.2.2 k v).1, (pg_T G t.toNatClampNeg (ps_row (G.1 t.toNatClampNeg) (pr_bia (G.1 t.toNatClampNeg).1 (G.1 t.toNatClampNeg).2.1.1 (G.1 t.toNatClampNeg).2.1.2.1 (G.1 t.toNatClampNeg).2.1.2.2.1 (G.1 t.toNatClampNeg).2.1.2.2.2 k v).2.1 (G.1 t.toNatClampNeg).2.1.1 (G.1 t.toNatClampNeg).2.1.2.1 (pr_bia (G.1 t.toNatClampNeg).1 (G.1 t.toNatClampNeg).2.1.1 (G.1 t.toNatClampNeg).2.1.2.1 (G.1 t.toNatClampNeg).2.1.2.2.1 (G.1 t.toNatClampNeg).2.1.2.2.2 k v).2.2.1 (pr_bia (G.1 t.toNatClampNeg).1 (G.1 t.toNatClampNeg).2.1.1 (G.1 t.toNatClampNeg).2.1.2.1 (G.1 t.toNatClampNeg).2.1.2.2.1 (G.1 t.toNatClampNeg).2.1.2.2.2 k v).2.2.2)))
noncomputable def k_get (G : ev_CS) (t k : Int32) : Nat × Int32 × ev_CS := if (t < 0 ∨ nI 4 ≤ t) then (1, 0, G) else if (k < 0 ∨ nI 20 ≤ k) then (2, 0, G) else (0, (pr_fetch (G.1 t.toNatClampNeg).1 (G.1 t.toNatClampNeg).2.1.1 k (-1)).1, (pg_T G t.toNatClampNeg (ps_row (G.1 t.toNatClampNeg) (pr_fetch (G.1 t.toNatClampNeg).1 (G.1 t.toNatClampNeg).2.1.1 k (-1)).2 (G.1 t.toNatClampNeg).2.1.1 (G.1 t.toNatClampNeg).2.1.2.1 (G.1 t.toNatClampNeg).2.1.2.2.1 (G.1 t.toNatClampNeg).2.1.2.2.2)))
noncomputable def k_getOr (G : ev_CS) (t k o1 : Int32) : Nat × Int32 × ev_CS := if (t < 0 ∨ nI 4 ≤ t) then (1, 0, G) else if (k < 0 ∨ nI 20 ≤ k) then (2, 0, G) else (0, (pr_fetch (G.1 t.toNatClampNeg).1 (G.1 t.toNatClampNeg).2.1.1 k o1).1, (pg_T G t.toNatClampNeg (ps_row (G.1 t.toNatClampNeg) (pr_fetch (G.1 t.toNatClampNeg).1 (G.1 t.toNatClampNeg).2.1.1 k o1).2 (G.1 t.toNatClampNeg).2.1.1 (G.1 t.toNatClampNeg).2.1.2.1 (G.1 t.toNatClampNeg).2.1.2.2.1 (G.1 t.toNatClampNeg).2.1.2.2.2)))
noncomputable def k_remove (G : ev_CS) (t k : Int32) : Nat × Int32 × ev_CS := if (t < 0 ∨ nI 4 ≤ t) then (1, 0, G) else if (k < 0 ∨ nI 20 ≤ k) then (2, 0, G) else (0, (pr_drop (G.1 t.toNatClampNeg).1 k).1, (pg_T G t.toNatClampNeg (ps_row (G.1 t.toNatClampNeg) (pr_drop (G.1 t.toNatClampNeg).1 k).2 (G.1 t.toNatClampNeg).2.1.1 (G.1 t.toNatClampNeg).2.1.2.1 (G.1 t.toNatClampNeg).2.1.2.2.1 (G.1 t.toNatClampNeg).2.1.2.2.2)))
noncomputable def k_has (G : ev_CS) (t k : Int32) : Nat × Int32 × ev_CS := if (t < 0 ∨ nI 4 ≤ t) then (1, 0, G) else if (k < 0 ∨ nI 20 ≤ k) then (2, 0, G) else (0, (ev_bb (pf_find (G.1 t.toNatClampNeg).1 k).isSome), G)
noncomputable def k_placeOf (G : ev_CS) (t k : Int32) : Nat × Int32 × ev_CS := if (t < 0 ∨ nI 4 ≤ t) then (1, 0, G) else if (k < 0 ∨ nI 20 ≤ k) then (2, 0, G) else (0, (pf_place (G.1 t.toNatClampNeg).1 k), G)
noncomputable def k_clear (G : ev_CS) (t : Int32) : Nat × Int32 × ev_CS := if (t < 0 ∨ nI 4 ≤ t) then (1, 0, G) else (0, (nI (G.1 t.toNatClampNeg).1.length), (pg_T G t.toNatClampNeg (ps_row (G.1 t.toNatClampNeg) [] (G.1 t.toNatClampNeg).2.1.1 (G.1 t.toNatClampNeg).2.1.2.1 (G.1 t.toNatClampNeg).2.1.2.2.1 (G.1 t.toNatClampNeg).2.1.2.2.2)))
noncomputable def k_size (G : ev_CS) (t : Int32) : Nat × Int32 × ev_CS := if (t < 0 ∨ nI 4 ≤ t) then (1, 0, G) else (0, (nI (G.1 t.toNatClampNeg).1.length), G)
noncomputable def k_keyAt (G : ev_CS) (t p : Int32) : Nat × Int32 × ev_CS := if (t < 0 ∨ nI 4 ≤ t) then (1, 0, G) else (0, (pr_told (G.1 t.toNatClampNeg).1 p 0), G)
noncomputable def k_valueAt (G : ev_CS) (t p : Int32) : Nat × Int32 × ev_CS := if (t < 0 ∨ nI 4 ≤ t) then (1, 0, G) else (0, (pr_told (G.1 t.toNatClampNeg).1 p 1), G)
noncomputable def k_pairAt (G : ev_CS) (t p : Int32) : Nat × Int32 × ev_CS := if (t < 0 ∨ nI 4 ≤ t) then (1, 0, G) else (0, (pr_told (G.1 t.toNatClampNeg).1 p 2), G)
noncomputable def k_eldest (G : ev_CS) (t : Int32) : Nat × Int32 × ev_CS := if (t < 0 ∨ nI 4 ≤ t) then (1, 0, G) else (0, (pr_told (G.1 t.toNatClampNeg).1 0 0), G)
noncomputable def k_latest (G : ev_CS) (t : Int32) : Nat × Int32 × ev_CS := if (t < 0 ∨ nI 4 ≤ t) then (1, 0, G) else (0, (pr_told (G.1 t.toNatClampNeg).1 (nI (G.1 t.toNatClampNeg).1.length - 1) 0), G)
noncomputable def k_hasMore (G : ev_CS) (t : Int32) : Nat × Int32 × ev_CS := if (t < 0 ∨ nI 4 ≤ t) then (1, 0, G) else (0, (ev_bb (((G.1 t.toNatClampNeg).2.2.1.1 && !(G.1 t.toNatClampNeg).2.2.1.2.1) && decide ((G.1 t.toNatClampNeg).2.2.2.2 < (G.1 t.toNatClampNeg).1.length))), G)
noncomputable def k_isStale (G : ev_CS) (t : Int32) : Nat × Int32 × ev_CS := if (t < 0 ∨ nI 4 ≤ t) then (1, 0, G) else (0, (ev_bb ((G.1 t.toNatClampNeg).2.2.1.1 && (G.1 t.toNatClampNeg).2.2.1.2.1)), G)
noncomputable def k_set (G : ev_CS) (t p v : Int32) : Nat × Int32 × ev_CS := if (t < 0 ∨ nI 4 ≤ t) then (1, 0, G) else if (v < 0 ∨ nI 100 ≤ v) then (2, 0, G) else if (¬ (0 ≤ p ∧ p < nI (G.1 t.toNatClampNeg).1.length)) then (0, -9, pg_rf G) else (0, (pf_at (G.1 t.toNatClampNeg).1 p.toNatClampNeg).2, (pg_T G t.toNatClampNeg (ps_gen ((G.1 t.toNatClampNeg).1.set p.toNatClampNeg ((pf_at (G.1 t.toNatClampNeg).1 p.toNatClampNeg).1, v)) (G.1 t.toNatClampNeg).2.1.1 (G.1 t.toNatClampNeg).2.1.2.1 (G.1 t.toNatClampNeg).2.1.2.2.1 (G.1 t.toNatClampNeg).2.1.2.2.2 (G.1 t.toNatClampNeg).2.2.1.1 (G.1 t.toNatClampNeg).2.2.1.2.1 (G.1 t.toNatClampNeg).2.2.1.2.2 (G.1 t.toNatClampNeg).2.2.2.1 (G.1 t.toNatClampNeg).2.2.2.2)))
noncomputable def k_walk (G : ev_CS) (t w : Int32) : Nat × Int32 × ev_CS := if (t < 0 ∨ nI 4 ≤ t) then (1, 0, G) else if (w < 0 ∨ nI 3 ≤ w) then (2, 0, G) else (0, (nI (G.1 t.toNatClampNeg).1.length), (pg_T G t.toNatClampNeg (ps_gen (G.1 t.toNatClampNeg).1 (G.1 t.toNatClampNeg).2.1.1 (G.1 t.toNatClampNeg).2.1.2.1 (G.1 t.toNatClampNeg).2.1.2.2.1 (G.1 t.toNatClampNeg).2.1.2.2.2 true false false w 0)))
noncomputable def k_ofTable (G : ev_CS) (t w : Int32) : Nat × Int32 × ev_CS := if (t < 0 ∨ nI 4 ≤ t) then (1, 0, G) else if (w < 0 ∨ nI 5 ≤ w) then (2, 0, G) else (0, (pt_of (G.1 t.toNatClampNeg) w.toNatClampNeg), G)
noncomputable def k_step (G : ev_CS) (t : Int32) : Nat × Int32 × ev_CS := if (t < 0 ∨ nI 4 ≤ t) then (1, 0, G) else if (((G.1 t.toNatClampNeg).2.2.1.1 && !(G.1 t.toNatClampNeg).2.2.1.2.1) = false) then (0, -9, pg_rf G) else if (¬ (G.1 t.toNatClampNeg).2.2.2.2 < (G.1 t.toNatClampNeg).1.length) then (0, (-8), G) else (0, (pr_told (G.1 t.toNatClampNeg).1 (nI (G.1 t.toNatClampNeg).2.2.2.2) (G.1 t.toNatClampNeg).2.2.2.1), (pg_T G t.toNatClampNeg (ps_gen (G.1 t.toNatClampNeg).1 (G.1 t.toNatClampNeg).2.1.1 (G.1 t.toNatClampNeg).2.1.2.1 (G.1 t.toNatClampNeg).2.1.2.2.1 (G.1 t.toNatClampNeg).2.1.2.2.2 (G.1 t.toNatClampNeg).2.2.1.1 (G.1 t.toNatClampNeg).2.2.1.2.1 true (G.1 t.toNatClampNeg).2.2.2.1 ((G.1 t.toNatClampNeg).2.2.2.2 + 1))))
noncomputable def k_rest (G : ev_CS) (t : Int32) : Nat × Int32 × ev_CS := if (t < 0 ∨ nI 4 ≤ t) then (1, 0, G) else if (((G.1 t.toNatClampNeg).2.2.1.1 && !(G.1 t.toNatClampNeg).2.2.1.2.1) = false) then (0, -9, pg_rf G) else (0, (pr_acc (G.1 t.toNatClampNeg).1 (G.1 t.toNatClampNeg).2.2.2.1 ((G.1 t.toNatClampNeg).1.length - (G.1 t.toNatClampNeg).2.2.2.2) (G.1 t.toNatClampNeg).2.2.2.2 0), (pg_T G t.toNatClampNeg (ps_gen (G.1 t.toNatClampNeg).1 (G.1 t.toNatClampNeg).2.1.1 (G.1 t.toNatClampNeg).2.1.2.1 (G.1 t.toNatClampNeg).2.1.2.2.1 (G.1 t.toNatClampNeg).2.1.2.2.2 (G.1 t.toNatClampNeg).2.2.1.1 (G.1 t.toNatClampNeg).2.2.1.2.1 ((G.1 t.toNatClampNeg).2.2.1.2.2 || decide (0 < (G.1 t.toNatClampNeg).1.length - (G.1 t.toNatClampNeg).2.2.2.2)) (G.1 t.toNatClampNeg).2.2.2.1 (G.1 t.toNatClampNeg).1.length)))
noncomputable def k_cut (G : ev_CS) (t : Int32) : Nat × Int32 × ev_CS := if (t < 0 ∨ nI 4 ≤ t) then (1, 0, G) else if ((((G.1 t.toNatClampNeg).2.2.1.1 && !(G.1 t.toNatClampNeg).2.2.1.2.1) && (G.1 t.toNatClampNeg).2.2.1.2.2) = false) then (0, -9, pg_rf G) else (0, (nI ((G.1 t.toNatClampNeg).1.eraseIdx ((G.1 t.toNatClampNeg).2.2.2.2 - 1)).length), (pg_T G t.toNatClampNeg (ps_gen ((G.1 t.toNatClampNeg).1.eraseIdx ((G.1 t.toNatClampNeg).2.2.2.2 - 1)) (G.1 t.toNatClampNeg).2.1.1 (G.1 t.toNatClampNeg).2.1.2.1 (G.1 t.toNatClampNeg).2.1.2.2.1 (G.1 t.toNatClampNeg).2.1.2.2.2 (G.1 t.toNatClampNeg).2.2.1.1 (G.1 t.toNatClampNeg).2.2.1.2.1 false (G.1 t.toNatClampNeg).2.2.2.1 ((G.1 t.toNatClampNeg).2.2.2.2 - 1))))
theorem LW_make (hc : c_all x G H) (hG : okG G) (hxo : x + 57 ≤ o) (hon : o < n) (ho : ∃ l s, H o = some (.inr (11, [.long l, s]))) (hz : ∀ a, n ≤ a → H a = none) {t b1 m1 : Int32} (hb1 : ev_isB b1)
    (c : ∀ H1 n1 q1, lw_post true x o H n q (k_make G t b1 m1) H1 n1 q1 → P (.inl (some (.int (nI (k_make G t b1 m1).1)))) H1 n1 q1) : ev_ok (ev_TT X) 188 0 [.ref x, .int t, .int b1, .int m1, .ref o, ev_J] [] H n q P := by
  have hk := c_all_k (X := X) hc
  obtain ⟨l0, s0, ho⟩ := ho
  simp (disch := omega) only [t_L_make_0, t_L_make_2, t_L_make_3, t_L_make_4, t_L_make_5, t_L_make_6, true_and, hk]
  refine C_make hc hG hb1 (fun hb => ?_) (fun i hi e hm1 hb => ?_) (fun i hi e hmm H1 hc1 hf1 => ?_)
  · skip
    have ek : k_make G t b1 m1 = (1, 0, G) := by
      unfold k_make
      rw [if_pos hb]
    rw [ek] at c
    simp (disch := omega) only [t_L_make_18, t_L_make_19, x_L_make_6_0, ev_k_r]
    exact c _ (n + 1) (q + 6) ⟨hc, fun _ _ _ _ => rfl, ⟨l0, s0, ho, fun _ z => by cases z⟩, fun a ha => hz a (by omega), by omega, by omega, by omega, by omega⟩
  · skip
    subst e
    have ek : k_make G (nI i) b1 m1 = (2, 0, G) := by
      unfold k_make
      rw [nI_clamp (n := i) (by omega)]
      rw [if_neg (no_ix hi (by omega))]
      rw [if_pos ⟨hm1, hb⟩]
    rw [ek] at c
    simp (disch := omega) only [t_L_make_22, t_L_make_23, x_L_make_6_1, ev_k_r]
    exact c _ (n + 1) (q + 6) ⟨hc, fun _ _ _ _ => rfl, ⟨l0, s0, ho, fun _ z => by cases z⟩, fun a ha => hz a (by omega), by omega, by omega, by omega, by omega⟩
  · skip
    subst e
    have ek : k_make G (nI i) b1 m1 = (0, (nI (G.1 i).1.length), (pg_T G i (ps_row (G.1 i) [] b1 m1 0 (-1)))) := by
      unfold k_make
      rw [nI_clamp (n := i) (by omega)]
      rw [if_neg (no_ix hi (by omega))]
      rw [if_neg (fun z => hmm.elim z.1 (fun w => z.2.elim (fun v => Int32.not_lt.mpr w.1 v) (fun v => Int32.not_lt.mpr w.2 v)))]
    rw [ek] at c
    have ho1 : H1 o = some (.inr (11, [.long l0, s0])) := (hf1 o (by omega)).trans ho
    simp (disch := omega) only [t_L_make_9, t_L_make_10, t_L_make_13, t_L_make_24, t_L_make_25, ev_kr_1, and_true, true_and, ev_fS_0, ev_isO_0, ho1, ev_ft_J]
    exact c _ n q ⟨c_cg hc1 (fun a ha hb => ev_up_n (by omega)), fun a ha hao han => (ev_up_n hao).trans (hf1 a ha), ⟨_, s0, ev_up_s, fun _ _ => rfl⟩, fun a ha => (ev_up_n (by omega)).trans ((hf1 a (by omega)).trans (hz a ha)), by omega, by omega, by omega, by omega⟩
theorem LW_put (hc : c_all x G H) (hG : okG G) (hxo : x + 57 ≤ o) (hon : o < n) (ho : ∃ l s, H o = some (.inr (11, [.long l, s]))) (hz : ∀ a, n ≤ a → H a = none) {t k v : Int32}
    (c : ∀ H1 n1 q1, lw_post true x o H n q (k_put G t k v) H1 n1 q1 → P (.inl (some (.int (nI (k_put G t k v).1)))) H1 n1 q1) : ev_ok (ev_TT X) 251 0 [.ref x, .int t, .int k, .int v, .ref o, ev_J] [] H n q P := by
  have hk := c_all_k (X := X) hc
  obtain ⟨l0, s0, ho⟩ := ho
  simp (disch := omega) only [t_L_put_0, t_L_put_2, t_L_put_3, t_L_put_4, t_L_put_5, t_L_put_6, true_and, hk]
  refine C_put hc hG (fun hb => ?_) (fun i hi e hb => ?_) (fun i a b hi e ha e2 hb e3 H1 hc1 hf1 => ?_)
  · skip
    have ek : k_put G t k v = (1, 0, G) := by
      unfold k_put
      rw [if_pos hb]
    rw [ek] at c
    simp (disch := omega) only [t_L_put_18, t_L_put_19, x_L_put_6_0, ev_k_r]
    exact c _ (n + 1) (q + 6) ⟨hc, fun _ _ _ _ => rfl, ⟨l0, s0, ho, fun _ z => by cases z⟩, fun a ha => hz a (by omega), by omega, by omega, by omega, by omega⟩
  · skip
    subst e
    have ek : k_put G (nI i) k v = (2, 0, G) := by
      unfold k_put
      rw [nI_clamp (n := i) (by omega)]
      rw [if_neg (no_ix hi (by omega))]
      rw [if_pos hb]
    rw [ek] at c
    simp (disch := omega) only [t_L_put_22, t_L_put_23, x_L_put_6_1, ev_k_r]
    exact c _ (n + 1) (q + 6) ⟨hc, fun _ _ _ _ => rfl, ⟨l0, s0, ho, fun _ z => by cases z⟩, fun a ha => hz a (by omega), by omega, by omega, by omega, by omega⟩
  · skip
    subst e
    subst e2
    subst e3
    have ek : k_put G (nI i) (nI a) (nI b) = (0, (pr_bring (G.1 i).1 (G.1 i).2.1.1 (G.1 i).2.1.2.1 (G.1 i).2.1.2.2.1 (G.1 i).2.1.2.2.2 (nI a) (nI b)).1, (pg_T G i (ps_old (G.1 i) (pr_bring (G.1 i).1 (G.1 i).2.1.1 (G.1 i).2.1.2.1 (G.1 i).2.1.2.2.1 (G.1 i).2.1.2.2.2 (nI a) (nI b)).2.1 (pr_bring (G.1 i).1 (G.1 i).2.1.1 (G.1 i).2.1.2.1 (G.1 i).2.1.2.2.1 (G.1 i).2.1.2.2.2 (nI a) (nI b)).2.2.1 (pr_bring (G.1 i).1 (G.1 i).2.1.1 (G.1 i).2.1.2.1 (G.1 i).2.1.2.2.1 (G.1 i).2.1.2.2.2 (nI a) (nI b)).2.2.2))) := by
      unfold k_put
      rw [nI_clamp (n := i) (by omega)]
      rw [if_neg (no_ix hi (by omega))]
      rw [if_neg (fun z => z.elim (no_ix ha (by omega)) (no_ix hb (by omega)))]
    rw [ek] at c
    have ho1 : H1 o = some (.inr (11, [.long l0, s0])) := (hf1 o (by omega)).trans ho
    simp (disch := omega) only [t_L_put_9, t_L_put_10, t_L_put_13, t_L_put_24, t_L_put_25, ev_kr_1, and_true, true_and, ev_fS_0, ev_isO_0, ho1, ev_ft_J]
    exact c _ n q ⟨c_cg hc1 (fun a ha hb => ev_up_n (by omega)), fun a ha hao han => (ev_up_n hao).trans (hf1 a ha), ⟨_, s0, ev_up_s, fun _ _ => rfl⟩, fun a ha => (ev_up_n (by omega)).trans ((hf1 a (by omega)).trans (hz a ha)), by omega, by omega, by omega, by omega⟩
theorem LW_putIfAbsent (hc : c_all x G H) (hG : okG G) (hxo : x + 57 ≤ o) (hon : o < n) (ho : ∃ l s, H o = some (.inr (11, [.long l, s]))) (hz : ∀ a, n ≤ a → H a = none) {t k v : Int32}
    (c : ∀ H1 n1 q1, lw_post true x o H n q (k_putIfAbsent G t k v) H1 n1 q1 → P (.inl (some (.int (nI (k_putIfAbsent G t k v).1)))) H1 n1 q1) : ev_ok (ev_TT X) 262 0 [.ref x, .int t, .int k, .int v, .ref o, ev_J] [] H n q P := by
  have hk := c_all_k (X := X) hc
  obtain ⟨l0, s0, ho⟩ := ho
  simp (disch := omega) only [t_L_putIfAbsent_0, t_L_putIfAbsent_2, t_L_putIfAbsent_3, t_L_putIfAbsent_4, t_L_putIfAbsent_5, t_L_putIfAbsent_6, true_and, hk]
  refine C_putIfAbsent hc hG (fun hb => ?_) (fun i hi e hb => ?_) (fun i hi e hb => ?_) (fun i a b hi e ha e2 hb e3 hms => ?_) (fun i a b hi e ha e2 hb e3 hms H1 hc1 hf1 => ?_)
  · skip
    have ek : k_putIfAbsent G t k v = (1, 0, G) := by
      unfold k_putIfAbsent
      rw [if_pos hb]
    rw [ek] at c
    simp (disch := omega) only [t_L_putIfAbsent_18, t_L_putIfAbsent_19, x_L_putIfAbsent_6_0, ev_k_r]
    exact c _ (n + 1) (q + 6) ⟨hc, fun _ _ _ _ => rfl, ⟨l0, s0, ho, fun _ z => by cases z⟩, fun a ha => hz a (by omega), by omega, by omega, by omega, by omega⟩
  · skip
    subst e
    have ek : k_putIfAbsent G (nI i) k v = (2, 0, G) := by
      unfold k_putIfAbsent
      rw [nI_clamp (n := i) (by omega)]
      rw [if_neg (no_ix hi (by omega))]
      rw [if_pos (Or.inl hb)]
    rw [ek] at c
    simp (disch := omega) only [t_L_putIfAbsent_22, t_L_putIfAbsent_23, x_L_putIfAbsent_6_1, ev_k_r]
    exact c _ (n + 1) (q + 6) ⟨hc, fun _ _ _ _ => rfl, ⟨l0, s0, ho, fun _ z => by cases z⟩, fun a ha => hz a (by omega), by omega, by omega, by omega, by omega⟩
  · skip
    subst e
    have ek : k_putIfAbsent G (nI i) k v = (2, 0, G) := by
      unfold k_putIfAbsent
      rw [nI_clamp (n := i) (by omega)]
      rw [if_neg (no_ix hi (by omega))]
      rw [if_pos (Or.inr hb)]
    rw [ek] at c
    simp (disch := omega) only [t_L_putIfAbsent_22, t_L_putIfAbsent_23, x_L_putIfAbsent_6_1, ev_k_r]
    exact c _ (n + 1) (q + 6) ⟨hc, fun _ _ _ _ => rfl, ⟨l0, s0, ho, fun _ z => by cases z⟩, fun a ha => hz a (by omega), by omega, by omega, by omega, by omega⟩
  · skip
    subst e
    subst e2
    subst e3
    have ek : k_putIfAbsent G (nI i) (nI a) (nI b) = (3, 0, G) := by
      unfold k_putIfAbsent
      rw [nI_clamp (n := i) (by omega)]
      rw [if_neg (no_ix hi (by omega))]
      rw [if_neg (fun z => z.elim (no_ix ha (by omega)) (no_ix hb (by omega)))]
      rw [if_pos hms]
    rw [ek] at c
    simp (disch := omega) only [t_L_putIfAbsent_26, t_L_putIfAbsent_27, x_L_putIfAbsent_6_2, ev_k_r]
    exact c _ (n + 1) (q + 6) ⟨hc, fun _ _ _ _ => rfl, ⟨l0, s0, ho, fun _ z => by cases z⟩, fun a ha => hz a (by omega), by omega, by omega, by omega, by omega⟩
  · skip
    subst e
    subst e2
    subst e3
    have ek : k_putIfAbsent G (nI i) (nI a) (nI b) = (0, (pr_bia (G.1 i).1 (G.1 i).2.1.1 (G.1 i).2.1.2.1 (G.1 i).2.1.2.2.1 (G.1 i).2.1.2.2.2 (nI a) (nI b)).1, (pg_T G i (ps_row (G.1 i) (pr_bia (G.1 i).1 (G.1 i).2.1.1 (G.1 i).2.1.2.1 (G.1 i).2.1.2.2.1 (G.1 i).2.1.2.2.2 (nI a) (nI b)).2.1 (G.1 i).2.1.1 (G.1 i).2.1.2.1 (pr_bia (G.1 i).1 (G.1 i).2.1.1 (G.1 i).2.1.2.1 (G.1 i).2.1.2.2.1 (G.1 i).2.1.2.2.2 (nI a) (nI b)).2.2.1 (pr_bia (G.1 i).1 (G.1 i).2.1.1 (G.1 i).2.1.2.1 (G.1 i).2.1.2.2.1 (G.1 i).2.1.2.2.2 (nI a) (nI b)).2.2.2))) := by
      unfold k_putIfAbsent
      rw [nI_clamp (n := i) (by omega)]
      rw [if_neg (no_ix hi (by omega))]
      rw [if_neg (fun z => z.elim (no_ix ha (by omega)) (no_ix hb (by omega)))]
      rw [if_neg (fun z => z hms)]
    rw [ek] at c
    have ho1 : H1 o = some (.inr (11, [.long l0, s0])) := (hf1 o (by omega)).trans ho
    simp (disch := omega) only [t_L_putIfAbsent_9, t_L_putIfAbsent_10, t_L_putIfAbsent_13, t_L_putIfAbsent_28, t_L_putIfAbsent_29, ev_kr_1, and_true, true_and, ev_fS_0, ev_isO_0, ho1, ev_ft_J]
    exact c _ n q ⟨c_cg hc1 (fun a ha hb => ev_up_n (by omega)), fun a ha hao han => (ev_up_n hao).trans (hf1 a ha), ⟨_, s0, ev_up_s, fun _ _ => rfl⟩, fun a ha => (ev_up_n (by omega)).trans ((hf1 a (by omega)).trans (hz a ha)), by omega, by omega, by omega, by omega⟩
theorem LW_get (hc : c_all x G H) (hG : okG G) (hxo : x + 57 ≤ o) (hon : o < n) (ho : ∃ l s, H o = some (.inr (11, [.long l, s]))) (hz : ∀ a, n ≤ a → H a = none) {t k : Int32}
    (c : ∀ H1 n1 q1, lw_post true x o H n q (k_get G t k) H1 n1 q1 → P (.inl (some (.int (nI (k_get G t k).1)))) H1 n1 q1) : ev_ok (ev_TT X) 249 0 [.ref x, .int t, .int k, .ref o, ev_J] [] H n q P := by
  have hk := c_all_k (X := X) hc
  obtain ⟨l0, s0, ho⟩ := ho
  simp (disch := omega) only [t_L_get_0, t_L_get_1, t_L_get_2, t_L_get_3, t_L_get_4, true_and, hk]
  refine C_get hc hG (fun hb => ?_) (fun i hi e hb => ?_) (fun i a hi e ha e2 H1 hc1 hf1 => ?_)
  · skip
    have ek : k_get G t k = (1, 0, G) := by
      unfold k_get
      rw [if_pos hb]
    rw [ek] at c
    simp (disch := omega) only [t_L_get_16, t_L_get_17, x_L_get_4_0, ev_k_r]
    exact c _ (n + 1) (q + 6) ⟨hc, fun _ _ _ _ => rfl, ⟨l0, s0, ho, fun _ z => by cases z⟩, fun a ha => hz a (by omega), by omega, by omega, by omega, by omega⟩
  · skip
    subst e
    have ek : k_get G (nI i) k = (2, 0, G) := by
      unfold k_get
      rw [nI_clamp (n := i) (by omega)]
      rw [if_neg (no_ix hi (by omega))]
      rw [if_pos hb]
    rw [ek] at c
    simp (disch := omega) only [t_L_get_20, t_L_get_21, x_L_get_4_1, ev_k_r]
    exact c _ (n + 1) (q + 6) ⟨hc, fun _ _ _ _ => rfl, ⟨l0, s0, ho, fun _ z => by cases z⟩, fun a ha => hz a (by omega), by omega, by omega, by omega, by omega⟩
  · skip
    subst e
    subst e2
    have ek : k_get G (nI i) (nI a) = (0, (pr_fetch (G.1 i).1 (G.1 i).2.1.1 (nI a) (-1)).1, (pg_T G i (ps_row (G.1 i) (pr_fetch (G.1 i).1 (G.1 i).2.1.1 (nI a) (-1)).2 (G.1 i).2.1.1 (G.1 i).2.1.2.1 (G.1 i).2.1.2.2.1 (G.1 i).2.1.2.2.2))) := by
      unfold k_get
      rw [nI_clamp (n := i) (by omega)]
      rw [if_neg (no_ix hi (by omega))]
      rw [if_neg (no_ix ha (by omega))]
    rw [ek] at c
    have ho1 : H1 o = some (.inr (11, [.long l0, s0])) := (hf1 o (by omega)).trans ho
    simp (disch := omega) only [t_L_get_7, t_L_get_8, t_L_get_11, t_L_get_22, t_L_get_23, ev_kr_1, and_true, true_and, ev_fS_0, ev_isO_0, ho1, ev_ft_J]
    exact c _ n q ⟨c_cg hc1 (fun a ha hb => ev_up_n (by omega)), fun a ha hao han => (ev_up_n hao).trans (hf1 a ha), ⟨_, s0, ev_up_s, fun _ _ => rfl⟩, fun a ha => (ev_up_n (by omega)).trans ((hf1 a (by omega)).trans (hz a ha)), by omega, by omega, by omega, by omega⟩
theorem LW_getOr (hc : c_all x G H) (hG : okG G) (hxo : x + 57 ≤ o) (hon : o < n) (ho : ∃ l s, H o = some (.inr (11, [.long l, s]))) (hz : ∀ a, n ≤ a → H a = none) {t k o1 : Int32}
    (c : ∀ H1 n1 q1, lw_post true x o H n q (k_getOr G t k o1) H1 n1 q1 → P (.inl (some (.int (nI (k_getOr G t k o1).1)))) H1 n1 q1) : ev_ok (ev_TT X) 250 0 [.ref x, .int t, .int k, .int o1, .ref o, ev_J] [] H n q P := by
  have hk := c_all_k (X := X) hc
  obtain ⟨l0, s0, ho⟩ := ho
  simp (disch := omega) only [t_L_getOr_0, t_L_getOr_2, t_L_getOr_3, t_L_getOr_4, t_L_getOr_5, t_L_getOr_6, true_and, hk]
  refine C_getOr hc hG (fun hb => ?_) (fun i hi e hb => ?_) (fun i a hi e ha e2 H1 hc1 hf1 => ?_)
  · skip
    have ek : k_getOr G t k o1 = (1, 0, G) := by
      unfold k_getOr
      rw [if_pos hb]
    rw [ek] at c
    simp (disch := omega) only [t_L_getOr_18, t_L_getOr_19, x_L_getOr_6_0, ev_k_r]
    exact c _ (n + 1) (q + 6) ⟨hc, fun _ _ _ _ => rfl, ⟨l0, s0, ho, fun _ z => by cases z⟩, fun a ha => hz a (by omega), by omega, by omega, by omega, by omega⟩
  · skip
    subst e
    have ek : k_getOr G (nI i) k o1 = (2, 0, G) := by
      unfold k_getOr
      rw [nI_clamp (n := i) (by omega)]
      rw [if_neg (no_ix hi (by omega))]
      rw [if_pos hb]
    rw [ek] at c
    simp (disch := omega) only [t_L_getOr_22, t_L_getOr_23, x_L_getOr_6_1, ev_k_r]
    exact c _ (n + 1) (q + 6) ⟨hc, fun _ _ _ _ => rfl, ⟨l0, s0, ho, fun _ z => by cases z⟩, fun a ha => hz a (by omega), by omega, by omega, by omega, by omega⟩
  · skip
    subst e
    subst e2
    have ek : k_getOr G (nI i) (nI a) o1 = (0, (pr_fetch (G.1 i).1 (G.1 i).2.1.1 (nI a) o1).1, (pg_T G i (ps_row (G.1 i) (pr_fetch (G.1 i).1 (G.1 i).2.1.1 (nI a) o1).2 (G.1 i).2.1.1 (G.1 i).2.1.2.1 (G.1 i).2.1.2.2.1 (G.1 i).2.1.2.2.2))) := by
      unfold k_getOr
      rw [nI_clamp (n := i) (by omega)]
      rw [if_neg (no_ix hi (by omega))]
      rw [if_neg (no_ix ha (by omega))]
    rw [ek] at c
    have ho1 : H1 o = some (.inr (11, [.long l0, s0])) := (hf1 o (by omega)).trans ho
    simp (disch := omega) only [t_L_getOr_9, t_L_getOr_10, t_L_getOr_13, t_L_getOr_24, t_L_getOr_25, ev_kr_1, and_true, true_and, ev_fS_0, ev_isO_0, ho1, ev_ft_J]
    exact c _ n q ⟨c_cg hc1 (fun a ha hb => ev_up_n (by omega)), fun a ha hao han => (ev_up_n hao).trans (hf1 a ha), ⟨_, s0, ev_up_s, fun _ _ => rfl⟩, fun a ha => (ev_up_n (by omega)).trans ((hf1 a (by omega)).trans (hz a ha)), by omega, by omega, by omega, by omega⟩
theorem LW_remove (hc : c_all x G H) (hG : okG G) (hxo : x + 57 ≤ o) (hon : o < n) (ho : ∃ l s, H o = some (.inr (11, [.long l, s]))) (hz : ∀ a, n ≤ a → H a = none) {t k : Int32}
    (c : ∀ H1 n1 q1, lw_post true x o H n q (k_remove G t k) H1 n1 q1 → P (.inl (some (.int (nI (k_remove G t k).1)))) H1 n1 q1) : ev_ok (ev_TT X) 222 0 [.ref x, .int t, .int k, .ref o, ev_J] [] H n q P := by
  have hk := c_all_k (X := X) hc
  obtain ⟨l0, s0, ho⟩ := ho
  simp (disch := omega) only [t_L_remove_0, t_L_remove_1, t_L_remove_2, t_L_remove_3, t_L_remove_4, true_and, hk]
  refine C_remove hc hG (fun hb => ?_) (fun i hi e hb => ?_) (fun i a hi e ha e2 H1 hc1 hf1 => ?_)
  · skip
    have ek : k_remove G t k = (1, 0, G) := by
      unfold k_remove
      rw [if_pos hb]
    rw [ek] at c
    simp (disch := omega) only [t_L_remove_16, t_L_remove_17, x_L_remove_4_0, ev_k_r]
    exact c _ (n + 1) (q + 6) ⟨hc, fun _ _ _ _ => rfl, ⟨l0, s0, ho, fun _ z => by cases z⟩, fun a ha => hz a (by omega), by omega, by omega, by omega, by omega⟩
  · skip
    subst e
    have ek : k_remove G (nI i) k = (2, 0, G) := by
      unfold k_remove
      rw [nI_clamp (n := i) (by omega)]
      rw [if_neg (no_ix hi (by omega))]
      rw [if_pos hb]
    rw [ek] at c
    simp (disch := omega) only [t_L_remove_20, t_L_remove_21, x_L_remove_4_1, ev_k_r]
    exact c _ (n + 1) (q + 6) ⟨hc, fun _ _ _ _ => rfl, ⟨l0, s0, ho, fun _ z => by cases z⟩, fun a ha => hz a (by omega), by omega, by omega, by omega, by omega⟩
  · skip
    subst e
    subst e2
    have ek : k_remove G (nI i) (nI a) = (0, (pr_drop (G.1 i).1 (nI a)).1, (pg_T G i (ps_row (G.1 i) (pr_drop (G.1 i).1 (nI a)).2 (G.1 i).2.1.1 (G.1 i).2.1.2.1 (G.1 i).2.1.2.2.1 (G.1 i).2.1.2.2.2))) := by
      unfold k_remove
      rw [nI_clamp (n := i) (by omega)]
      rw [if_neg (no_ix hi (by omega))]
      rw [if_neg (no_ix ha (by omega))]
    rw [ek] at c
    have ho1 : H1 o = some (.inr (11, [.long l0, s0])) := (hf1 o (by omega)).trans ho
    simp (disch := omega) only [t_L_remove_7, t_L_remove_8, t_L_remove_11, t_L_remove_22, t_L_remove_23, ev_kr_1, and_true, true_and, ev_fS_0, ev_isO_0, ho1, ev_ft_J]
    exact c _ n q ⟨c_cg hc1 (fun a ha hb => ev_up_n (by omega)), fun a ha hao han => (ev_up_n hao).trans (hf1 a ha), ⟨_, s0, ev_up_s, fun _ _ => rfl⟩, fun a ha => (ev_up_n (by omega)).trans ((hf1 a (by omega)).trans (hz a ha)), by omega, by omega, by omega, by omega⟩
theorem LW_has (hc : c_all x G H) (hG : okG G) (hxo : x + 57 ≤ o) (hon : o < n) (ho : ∃ l s, H o = some (.inr (11, [.long l, s]))) (hz : ∀ a, n ≤ a → H a = none) {t k : Int32}
    (c : ∀ H1 n1 q1, lw_post true x o H n q (k_has G t k) H1 n1 q1 → P (.inl (some (.int (nI (k_has G t k).1)))) H1 n1 q1) : ev_ok (ev_TT X) 132 0 [.ref x, .int t, .int k, .ref o, ev_J] [] H n q P := by
  have hk := c_all_k (X := X) hc
  obtain ⟨l0, s0, ho⟩ := ho
  simp (disch := omega) only [t_L_has_0, t_L_has_1, t_L_has_2, t_L_has_3, t_L_has_4, true_and, hk]
  refine C_has hc hG (fun hb => ?_) (fun i hi e hb => ?_) (fun i a hi e ha e2 => ?_)
  · skip
    have ek : k_has G t k = (1, 0, G) := by
      unfold k_has
      rw [if_pos hb]
    rw [ek] at c
    simp (disch := omega) only [t_L_has_23, t_L_has_24, x_L_has_4_0, ev_k_r]
    exact c _ (n + 1) (q + 6) ⟨hc, fun _ _ _ _ => rfl, ⟨l0, s0, ho, fun _ z => by cases z⟩, fun a ha => hz a (by omega), by omega, by omega, by omega, by omega⟩
  · skip
    subst e
    have ek : k_has G (nI i) k = (2, 0, G) := by
      unfold k_has
      rw [nI_clamp (n := i) (by omega)]
      rw [if_neg (no_ix hi (by omega))]
      rw [if_pos hb]
    rw [ek] at c
    simp (disch := omega) only [t_L_has_27, t_L_has_28, x_L_has_4_1, ev_k_r]
    exact c _ (n + 1) (q + 6) ⟨hc, fun _ _ _ _ => rfl, ⟨l0, s0, ho, fun _ z => by cases z⟩, fun a ha => hz a (by omega), by omega, by omega, by omega, by omega⟩
  · skip
    subst e
    subst e2
    have ek : k_has G (nI i) (nI a) = (0, (ev_bb (pf_find (G.1 i).1 (nI a)).isSome), G) := by
      unfold k_has
      rw [nI_clamp (n := i) (by omega)]
      rw [if_neg (no_ix hi (by omega))]
      rw [if_neg (no_ix ha (by omega))]
    rw [ek] at c
    have ho1 := ho
    dsimp only at c
    rcases hbb : (pf_find (G.1 i).1 (nI a)).isSome with _ | _ <;> (
      rw [hbb] at c
      simp (disch := omega) only [t_L_has_7, t_L_has_10, t_L_has_11, t_L_has_14, t_L_has_15, t_L_has_18, t_L_has_29, t_L_has_30, ↓reduceIte, ev_kr_1, and_true, true_and, ev_fS_0, ev_isO_0, show ¬ (1 : Int32) = 0 from by decide, ho1, ev_bb_t, ev_bb_f, ev_ft_J]
      exact c _ n q ⟨c_cg hc (fun a ha hb => ev_up_n (by omega)), fun a ha hao han => (ev_up_n hao), ⟨_, s0, ev_up_s, fun _ _ => rfl⟩, fun a ha => (ev_up_n (by omega)).trans (hz a ha), by omega, by omega, by omega, by omega⟩)
theorem LW_placeOf (hc : c_all x G H) (hG : okG G) (hxo : x + 57 ≤ o) (hon : o < n) (ho : ∃ l s, H o = some (.inr (11, [.long l, s]))) (hz : ∀ a, n ≤ a → H a = none) {t k : Int32}
    (c : ∀ H1 n1 q1, lw_post true x o H n q (k_placeOf G t k) H1 n1 q1 → P (.inl (some (.int (nI (k_placeOf G t k).1)))) H1 n1 q1) : ev_ok (ev_TT X) 136 0 [.ref x, .int t, .int k, .ref o, ev_J] [] H n q P := by
  have hk := c_all_k (X := X) hc
  obtain ⟨l0, s0, ho⟩ := ho
  simp (disch := omega) only [t_L_placeOf_0, t_L_placeOf_1, t_L_placeOf_2, t_L_placeOf_3, t_L_placeOf_4, true_and, hk]
  refine C_placeOf hc hG (fun hb => ?_) (fun i hi e hb => ?_) (fun i a hi e ha e2 => ?_)
  · skip
    have ek : k_placeOf G t k = (1, 0, G) := by
      unfold k_placeOf
      rw [if_pos hb]
    rw [ek] at c
    simp (disch := omega) only [t_L_placeOf_16, t_L_placeOf_17, x_L_placeOf_4_0, ev_k_r]
    exact c _ (n + 1) (q + 6) ⟨hc, fun _ _ _ _ => rfl, ⟨l0, s0, ho, fun _ z => by cases z⟩, fun a ha => hz a (by omega), by omega, by omega, by omega, by omega⟩
  · skip
    subst e
    have ek : k_placeOf G (nI i) k = (2, 0, G) := by
      unfold k_placeOf
      rw [nI_clamp (n := i) (by omega)]
      rw [if_neg (no_ix hi (by omega))]
      rw [if_pos hb]
    rw [ek] at c
    simp (disch := omega) only [t_L_placeOf_20, t_L_placeOf_21, x_L_placeOf_4_1, ev_k_r]
    exact c _ (n + 1) (q + 6) ⟨hc, fun _ _ _ _ => rfl, ⟨l0, s0, ho, fun _ z => by cases z⟩, fun a ha => hz a (by omega), by omega, by omega, by omega, by omega⟩
  · skip
    subst e
    subst e2
    have ek : k_placeOf G (nI i) (nI a) = (0, (pf_place (G.1 i).1 (nI a)), G) := by
      unfold k_placeOf
      rw [nI_clamp (n := i) (by omega)]
      rw [if_neg (no_ix hi (by omega))]
      rw [if_neg (no_ix ha (by omega))]
    rw [ek] at c
    have ho1 := ho
    simp (disch := omega) only [t_L_placeOf_7, t_L_placeOf_8, t_L_placeOf_11, t_L_placeOf_22, t_L_placeOf_23, ev_kr_1, and_true, true_and, ev_fS_0, ev_isO_0, ho1, ev_ft_J]
    exact c _ n q ⟨c_cg hc (fun a ha hb => ev_up_n (by omega)), fun a ha hao han => (ev_up_n hao), ⟨_, s0, ev_up_s, fun _ _ => rfl⟩, fun a ha => (ev_up_n (by omega)).trans (hz a ha), by omega, by omega, by omega, by omega⟩
theorem LW_clear (hc : c_all x G H) (hG : okG G) (hxo : x + 57 ≤ o) (hon : o < n) (ho : ∃ l s, H o = some (.inr (11, [.long l, s]))) (hz : ∀ a, n ≤ a → H a = none) {t : Int32}
    (c : ∀ H1 n1 q1, lw_post true x o H n q (k_clear G t) H1 n1 q1 → P (.inl (some (.int (nI (k_clear G t).1)))) H1 n1 q1) : ev_ok (ev_TT X) 131 0 [.ref x, .int t, .ref o, ev_J] [] H n q P := by
  have hk := c_all_k (X := X) hc
  obtain ⟨l0, s0, ho⟩ := ho
  simp (disch := omega) only [t_L_clear_0, t_L_clear_1, t_L_clear_2, t_L_clear_3, true_and, hk]
  refine C_clear hc hG (fun hb => ?_) (fun i hi e H1 hc1 hf1 => ?_)
  · skip
    have ek : k_clear G t = (1, 0, G) := by
      unfold k_clear
      rw [if_pos hb]
    rw [ek] at c
    simp (disch := omega) only [t_L_clear_14, t_L_clear_15, x_L_clear_3_0, ev_k_r]
    exact c _ (n + 1) (q + 6) ⟨hc, fun _ _ _ _ => rfl, ⟨l0, s0, ho, fun _ z => by cases z⟩, fun a ha => hz a (by omega), by omega, by omega, by omega, by omega⟩
  · skip
    subst e
    have ek : k_clear G (nI i) = (0, (nI (G.1 i).1.length), (pg_T G i (ps_row (G.1 i) [] (G.1 i).2.1.1 (G.1 i).2.1.2.1 (G.1 i).2.1.2.2.1 (G.1 i).2.1.2.2.2))) := by
      unfold k_clear
      rw [nI_clamp (n := i) (by omega)]
      rw [if_neg (no_ix hi (by omega))]
    rw [ek] at c
    have ho1 : H1 o = some (.inr (11, [.long l0, s0])) := (hf1 o (by omega)).trans ho
    simp (disch := omega) only [t_L_clear_6, t_L_clear_7, t_L_clear_10, t_L_clear_16, t_L_clear_17, ev_kr_1, and_true, true_and, ev_fS_0, ev_isO_0, ho1, ev_ft_J]
    exact c _ n q ⟨c_cg hc1 (fun a ha hb => ev_up_n (by omega)), fun a ha hao han => (ev_up_n hao).trans (hf1 a ha), ⟨_, s0, ev_up_s, fun _ _ => rfl⟩, fun a ha => (ev_up_n (by omega)).trans ((hf1 a (by omega)).trans (hz a ha)), by omega, by omega, by omega, by omega⟩
theorem LW_size (hc : c_all x G H) (hG : okG G) (hxo : x + 57 ≤ o) (hon : o < n) (ho : ∃ l s, H o = some (.inr (11, [.long l, s]))) (hz : ∀ a, n ≤ a → H a = none) {t : Int32}
    (c : ∀ H1 n1 q1, lw_post true x o H n q (k_size G t) H1 n1 q1 → P (.inl (some (.int (nI (k_size G t).1)))) H1 n1 q1) : ev_ok (ev_TT X) 137 0 [.ref x, .int t, .ref o, ev_J] [] H n q P := by
  have hk := c_all_k (X := X) hc
  obtain ⟨l0, s0, ho⟩ := ho
  simp (disch := omega) only [t_L_size_0, t_L_size_1, t_L_size_2, t_L_size_3, true_and, hk]
  refine C_size hc hG (fun hb => ?_) (fun i hi e => ?_)
  · skip
    have ek : k_size G t = (1, 0, G) := by
      unfold k_size
      rw [if_pos hb]
    rw [ek] at c
    simp (disch := omega) only [t_L_size_14, t_L_size_15, x_L_size_3_0, ev_k_r]
    exact c _ (n + 1) (q + 6) ⟨hc, fun _ _ _ _ => rfl, ⟨l0, s0, ho, fun _ z => by cases z⟩, fun a ha => hz a (by omega), by omega, by omega, by omega, by omega⟩
  · skip
    subst e
    have ek : k_size G (nI i) = (0, (nI (G.1 i).1.length), G) := by
      unfold k_size
      rw [nI_clamp (n := i) (by omega)]
      rw [if_neg (no_ix hi (by omega))]
    rw [ek] at c
    have ho1 := ho
    simp (disch := omega) only [t_L_size_6, t_L_size_7, t_L_size_10, t_L_size_16, t_L_size_17, ev_kr_1, and_true, true_and, ev_fS_0, ev_isO_0, ho1, ev_ft_J]
    exact c _ n q ⟨c_cg hc (fun a ha hb => ev_up_n (by omega)), fun a ha hao han => (ev_up_n hao), ⟨_, s0, ev_up_s, fun _ _ => rfl⟩, fun a ha => (ev_up_n (by omega)).trans (hz a ha), by omega, by omega, by omega, by omega⟩
theorem LW_keyAt (hc : c_all x G H) (hG : okG G) (hxo : x + 57 ≤ o) (hon : o < n) (ho : ∃ l s, H o = some (.inr (11, [.long l, s]))) (hz : ∀ a, n ≤ a → H a = none) {t p : Int32}
    (c : ∀ H1 n1 q1, lw_post true x o H n q (k_keyAt G t p) H1 n1 q1 → P (.inl (some (.int (nI (k_keyAt G t p).1)))) H1 n1 q1) : ev_ok (ev_TT X) 185 0 [.ref x, .int t, .int p, .ref o, ev_J] [] H n q P := by
  have hk := c_all_k (X := X) hc
  obtain ⟨l0, s0, ho⟩ := ho
  simp (disch := omega) only [t_L_keyAt_0, t_L_keyAt_1, t_L_keyAt_2, t_L_keyAt_3, t_L_keyAt_4, true_and, hk]
  refine C_keyAt hc hG (fun hb => ?_) (fun i hi e => ?_)
  · skip
    have ek : k_keyAt G t p = (1, 0, G) := by
      unfold k_keyAt
      rw [if_pos hb]
    rw [ek] at c
    simp (disch := omega) only [t_L_keyAt_16, t_L_keyAt_17, x_L_keyAt_4_0, ev_k_r]
    exact c _ (n + 1) (q + 6) ⟨hc, fun _ _ _ _ => rfl, ⟨l0, s0, ho, fun _ z => by cases z⟩, fun a ha => hz a (by omega), by omega, by omega, by omega, by omega⟩
  · skip
    subst e
    have ek : k_keyAt G (nI i) p = (0, (pr_told (G.1 i).1 p 0), G) := by
      unfold k_keyAt
      rw [nI_clamp (n := i) (by omega)]
      rw [if_neg (no_ix hi (by omega))]
    rw [ek] at c
    have ho1 := ho
    simp (disch := omega) only [t_L_keyAt_7, t_L_keyAt_8, t_L_keyAt_11, t_L_keyAt_18, t_L_keyAt_19, ev_kr_1, and_true, true_and, ev_fS_0, ev_isO_0, ho1, ev_ft_J]
    exact c _ n q ⟨c_cg hc (fun a ha hb => ev_up_n (by omega)), fun a ha hao han => (ev_up_n hao), ⟨_, s0, ev_up_s, fun _ _ => rfl⟩, fun a ha => (ev_up_n (by omega)).trans (hz a ha), by omega, by omega, by omega, by omega⟩
theorem LW_valueAt (hc : c_all x G H) (hG : okG G) (hxo : x + 57 ≤ o) (hon : o < n) (ho : ∃ l s, H o = some (.inr (11, [.long l, s]))) (hz : ∀ a, n ≤ a → H a = none) {t p : Int32}
    (c : ∀ H1 n1 q1, lw_post true x o H n q (k_valueAt G t p) H1 n1 q1 → P (.inl (some (.int (nI (k_valueAt G t p).1)))) H1 n1 q1) : ev_ok (ev_TT X) 193 0 [.ref x, .int t, .int p, .ref o, ev_J] [] H n q P := by
  have hk := c_all_k (X := X) hc
  obtain ⟨l0, s0, ho⟩ := ho
  simp (disch := omega) only [t_L_valueAt_0, t_L_valueAt_1, t_L_valueAt_2, t_L_valueAt_3, t_L_valueAt_4, true_and, hk]
  refine C_valueAt hc hG (fun hb => ?_) (fun i hi e => ?_)
  · skip
    have ek : k_valueAt G t p = (1, 0, G) := by
      unfold k_valueAt
      rw [if_pos hb]
    rw [ek] at c
    simp (disch := omega) only [t_L_valueAt_16, t_L_valueAt_17, x_L_valueAt_4_0, ev_k_r]
    exact c _ (n + 1) (q + 6) ⟨hc, fun _ _ _ _ => rfl, ⟨l0, s0, ho, fun _ z => by cases z⟩, fun a ha => hz a (by omega), by omega, by omega, by omega, by omega⟩
  · skip
    subst e
    have ek : k_valueAt G (nI i) p = (0, (pr_told (G.1 i).1 p 1), G) := by
      unfold k_valueAt
      rw [nI_clamp (n := i) (by omega)]
      rw [if_neg (no_ix hi (by omega))]
    rw [ek] at c
    have ho1 := ho
    simp (disch := omega) only [t_L_valueAt_7, t_L_valueAt_8, t_L_valueAt_11, t_L_valueAt_18, t_L_valueAt_19, ev_kr_1, and_true, true_and, ev_fS_0, ev_isO_0, ho1, ev_ft_J]
    exact c _ n q ⟨c_cg hc (fun a ha hb => ev_up_n (by omega)), fun a ha hao han => (ev_up_n hao), ⟨_, s0, ev_up_s, fun _ _ => rfl⟩, fun a ha => (ev_up_n (by omega)).trans (hz a ha), by omega, by omega, by omega, by omega⟩
theorem LW_pairAt (hc : c_all x G H) (hG : okG G) (hxo : x + 57 ≤ o) (hon : o < n) (ho : ∃ l s, H o = some (.inr (11, [.long l, s]))) (hz : ∀ a, n ≤ a → H a = none) {t p : Int32}
    (c : ∀ H1 n1 q1, lw_post true x o H n q (k_pairAt G t p) H1 n1 q1 → P (.inl (some (.int (nI (k_pairAt G t p).1)))) H1 n1 q1) : ev_ok (ev_TT X) 190 0 [.ref x, .int t, .int p, .ref o, ev_J] [] H n q P := by
  have hk := c_all_k (X := X) hc
  obtain ⟨l0, s0, ho⟩ := ho
  simp (disch := omega) only [t_L_pairAt_0, t_L_pairAt_1, t_L_pairAt_2, t_L_pairAt_3, t_L_pairAt_4, true_and, hk]
  refine C_pairAt hc hG (fun hb => ?_) (fun i hi e => ?_)
  · skip
    have ek : k_pairAt G t p = (1, 0, G) := by
      unfold k_pairAt
      rw [if_pos hb]
    rw [ek] at c
    simp (disch := omega) only [t_L_pairAt_16, t_L_pairAt_17, x_L_pairAt_4_0, ev_k_r]
    exact c _ (n + 1) (q + 6) ⟨hc, fun _ _ _ _ => rfl, ⟨l0, s0, ho, fun _ z => by cases z⟩, fun a ha => hz a (by omega), by omega, by omega, by omega, by omega⟩
  · skip
    subst e
    have ek : k_pairAt G (nI i) p = (0, (pr_told (G.1 i).1 p 2), G) := by
      unfold k_pairAt
      rw [nI_clamp (n := i) (by omega)]
      rw [if_neg (no_ix hi (by omega))]
    rw [ek] at c
    have ho1 := ho
    simp (disch := omega) only [t_L_pairAt_7, t_L_pairAt_8, t_L_pairAt_11, t_L_pairAt_18, t_L_pairAt_19, ev_kr_1, and_true, true_and, ev_fS_0, ev_isO_0, ho1, ev_ft_J]
    exact c _ n q ⟨c_cg hc (fun a ha hb => ev_up_n (by omega)), fun a ha hao han => (ev_up_n hao), ⟨_, s0, ev_up_s, fun _ _ => rfl⟩, fun a ha => (ev_up_n (by omega)).trans (hz a ha), by omega, by omega, by omega, by omega⟩
theorem LW_eldest (hc : c_all x G H) (hG : okG G) (hxo : x + 57 ≤ o) (hon : o < n) (ho : ∃ l s, H o = some (.inr (11, [.long l, s]))) (hz : ∀ a, n ≤ a → H a = none) {t : Int32}
    (c : ∀ H1 n1 q1, lw_post true x o H n q (k_eldest G t) H1 n1 q1 → P (.inl (some (.int (nI (k_eldest G t).1)))) H1 n1 q1) : ev_ok (ev_TT X) 181 0 [.ref x, .int t, .ref o, ev_J] [] H n q P := by
  have hk := c_all_k (X := X) hc
  obtain ⟨l0, s0, ho⟩ := ho
  simp (disch := omega) only [t_L_eldest_0, t_L_eldest_1, t_L_eldest_2, t_L_eldest_3, true_and, hk]
  refine C_eldest hc hG (fun hb => ?_) (fun i hi e => ?_)
  · skip
    have ek : k_eldest G t = (1, 0, G) := by
      unfold k_eldest
      rw [if_pos hb]
    rw [ek] at c
    simp (disch := omega) only [t_L_eldest_14, t_L_eldest_15, x_L_eldest_3_0, ev_k_r]
    exact c _ (n + 1) (q + 6) ⟨hc, fun _ _ _ _ => rfl, ⟨l0, s0, ho, fun _ z => by cases z⟩, fun a ha => hz a (by omega), by omega, by omega, by omega, by omega⟩
  · skip
    subst e
    have ek : k_eldest G (nI i) = (0, (pr_told (G.1 i).1 0 0), G) := by
      unfold k_eldest
      rw [nI_clamp (n := i) (by omega)]
      rw [if_neg (no_ix hi (by omega))]
    rw [ek] at c
    have ho1 := ho
    simp (disch := omega) only [t_L_eldest_6, t_L_eldest_7, t_L_eldest_10, t_L_eldest_16, t_L_eldest_17, ev_kr_1, and_true, true_and, ev_fS_0, ev_isO_0, ho1, ev_ft_J]
    exact c _ n q ⟨c_cg hc (fun a ha hb => ev_up_n (by omega)), fun a ha hao han => (ev_up_n hao), ⟨_, s0, ev_up_s, fun _ _ => rfl⟩, fun a ha => (ev_up_n (by omega)).trans (hz a ha), by omega, by omega, by omega, by omega⟩
theorem LW_latest (hc : c_all x G H) (hG : okG G) (hxo : x + 57 ≤ o) (hon : o < n) (ho : ∃ l s, H o = some (.inr (11, [.long l, s]))) (hz : ∀ a, n ≤ a → H a = none) {t : Int32}
    (c : ∀ H1 n1 q1, lw_post true x o H n q (k_latest G t) H1 n1 q1 → P (.inl (some (.int (nI (k_latest G t).1)))) H1 n1 q1) : ev_ok (ev_TT X) 186 0 [.ref x, .int t, .ref o, ev_J] [] H n q P := by
  have hk := c_all_k (X := X) hc
  obtain ⟨l0, s0, ho⟩ := ho
  simp (disch := omega) only [t_L_latest_0, t_L_latest_1, t_L_latest_2, t_L_latest_3, true_and, hk]
  refine C_latest hc hG (fun hb => ?_) (fun i hi e => ?_)
  · skip
    have ek : k_latest G t = (1, 0, G) := by
      unfold k_latest
      rw [if_pos hb]
    rw [ek] at c
    simp (disch := omega) only [t_L_latest_14, t_L_latest_15, x_L_latest_3_0, ev_k_r]
    exact c _ (n + 1) (q + 6) ⟨hc, fun _ _ _ _ => rfl, ⟨l0, s0, ho, fun _ z => by cases z⟩, fun a ha => hz a (by omega), by omega, by omega, by omega, by omega⟩
  · skip
    subst e
    have ek : k_latest G (nI i) = (0, (pr_told (G.1 i).1 (nI (G.1 i).1.length - 1) 0), G) := by
      unfold k_latest
      rw [nI_clamp (n := i) (by omega)]
      rw [if_neg (no_ix hi (by omega))]
    rw [ek] at c
    have ho1 := ho
    simp (disch := omega) only [t_L_latest_6, t_L_latest_7, t_L_latest_10, t_L_latest_16, t_L_latest_17, ev_kr_1, and_true, true_and, ev_fS_0, ev_isO_0, ho1, ev_ft_J]
    exact c _ n q ⟨c_cg hc (fun a ha hb => ev_up_n (by omega)), fun a ha hao han => (ev_up_n hao), ⟨_, s0, ev_up_s, fun _ _ => rfl⟩, fun a ha => (ev_up_n (by omega)).trans (hz a ha), by omega, by omega, by omega, by omega⟩
theorem LW_hasMore (hc : c_all x G H) (hG : okG G) (hxo : x + 57 ≤ o) (hon : o < n) (ho : ∃ l s, H o = some (.inr (11, [.long l, s]))) (hz : ∀ a, n ≤ a → H a = none) {t : Int32}
    (c : ∀ H1 n1 q1, lw_post true x o H n q (k_hasMore G t) H1 n1 q1 → P (.inl (some (.int (nI (k_hasMore G t).1)))) H1 n1 q1) : ev_ok (ev_TT X) 182 0 [.ref x, .int t, .ref o, ev_J] [] H n q P := by
  have hk := c_all_k (X := X) hc
  obtain ⟨l0, s0, ho⟩ := ho
  simp (disch := omega) only [t_L_hasMore_0, t_L_hasMore_1, t_L_hasMore_2, t_L_hasMore_3, true_and, hk]
  refine C_hasMore hc hG (fun hb => ?_) (fun i hi e => ?_)
  · skip
    have ek : k_hasMore G t = (1, 0, G) := by
      unfold k_hasMore
      rw [if_pos hb]
    rw [ek] at c
    simp (disch := omega) only [t_L_hasMore_21, t_L_hasMore_22, x_L_hasMore_3_0, ev_k_r]
    exact c _ (n + 1) (q + 6) ⟨hc, fun _ _ _ _ => rfl, ⟨l0, s0, ho, fun _ z => by cases z⟩, fun a ha => hz a (by omega), by omega, by omega, by omega, by omega⟩
  · skip
    subst e
    have ek : k_hasMore G (nI i) = (0, (ev_bb (((G.1 i).2.2.1.1 && !(G.1 i).2.2.1.2.1) && decide ((G.1 i).2.2.2.2 < (G.1 i).1.length))), G) := by
      unfold k_hasMore
      rw [nI_clamp (n := i) (by omega)]
      rw [if_neg (no_ix hi (by omega))]
    rw [ek] at c
    have ho1 := ho
    dsimp only at c
    rcases hbb : (((G.1 i).2.2.1.1 && !(G.1 i).2.2.1.2.1) && decide ((G.1 i).2.2.2.2 < (G.1 i).1.length)) with _ | _ <;> (
      rw [hbb] at c
      simp (disch := omega) only [t_L_hasMore_6, t_L_hasMore_9, t_L_hasMore_10, t_L_hasMore_13, t_L_hasMore_14, t_L_hasMore_17, t_L_hasMore_23, t_L_hasMore_24, ↓reduceIte, ev_kr_1, and_true, true_and, ev_fS_0, ev_isO_0, show ¬ (1 : Int32) = 0 from by decide, ho1, ev_bb_t, ev_bb_f, ev_ft_J]
      exact c _ n q ⟨c_cg hc (fun a ha hb => ev_up_n (by omega)), fun a ha hao han => (ev_up_n hao), ⟨_, s0, ev_up_s, fun _ _ => rfl⟩, fun a ha => (ev_up_n (by omega)).trans (hz a ha), by omega, by omega, by omega, by omega⟩)
theorem LW_isStale (hc : c_all x G H) (hG : okG G) (hxo : x + 57 ≤ o) (hon : o < n) (ho : ∃ l s, H o = some (.inr (11, [.long l, s]))) (hz : ∀ a, n ≤ a → H a = none) {t : Int32}
    (c : ∀ H1 n1 q1, lw_post true x o H n q (k_isStale G t) H1 n1 q1 → P (.inl (some (.int (nI (k_isStale G t).1)))) H1 n1 q1) : ev_ok (ev_TT X) 134 0 [.ref x, .int t, .ref o, ev_J] [] H n q P := by
  have hk := c_all_k (X := X) hc
  obtain ⟨l0, s0, ho⟩ := ho
  simp (disch := omega) only [t_L_isStale_0, t_L_isStale_1, t_L_isStale_2, t_L_isStale_3, true_and, hk]
  refine C_isStale hc hG (fun hb => ?_) (fun i hi e => ?_)
  · skip
    have ek : k_isStale G t = (1, 0, G) := by
      unfold k_isStale
      rw [if_pos hb]
    rw [ek] at c
    simp (disch := omega) only [t_L_isStale_21, t_L_isStale_22, x_L_isStale_3_0, ev_k_r]
    exact c _ (n + 1) (q + 6) ⟨hc, fun _ _ _ _ => rfl, ⟨l0, s0, ho, fun _ z => by cases z⟩, fun a ha => hz a (by omega), by omega, by omega, by omega, by omega⟩
  · skip
    subst e
    have ek : k_isStale G (nI i) = (0, (ev_bb ((G.1 i).2.2.1.1 && (G.1 i).2.2.1.2.1)), G) := by
      unfold k_isStale
      rw [nI_clamp (n := i) (by omega)]
      rw [if_neg (no_ix hi (by omega))]
    rw [ek] at c
    have ho1 := ho
    dsimp only at c
    rcases hbb : ((G.1 i).2.2.1.1 && (G.1 i).2.2.1.2.1) with _ | _ <;> (
      rw [hbb] at c
      simp (disch := omega) only [t_L_isStale_6, t_L_isStale_9, t_L_isStale_10, t_L_isStale_13, t_L_isStale_14, t_L_isStale_17, t_L_isStale_23, t_L_isStale_24, ↓reduceIte, ev_kr_1, and_true, true_and, ev_fS_0, ev_isO_0, show ¬ (1 : Int32) = 0 from by decide, ho1, ev_bb_t, ev_bb_f, ev_ft_J]
      exact c _ n q ⟨c_cg hc (fun a ha hb => ev_up_n (by omega)), fun a ha hao han => (ev_up_n hao), ⟨_, s0, ev_up_s, fun _ _ => rfl⟩, fun a ha => (ev_up_n (by omega)).trans (hz a ha), by omega, by omega, by omega, by omega⟩)
theorem LW_set (hc : c_all x G H) (hG : okG G) (hxo : x + 57 ≤ o) (hon : o < n) (ho : ∃ l s, H o = some (.inr (11, [.long l, s]))) (hz : ∀ a, n ≤ a → H a = none) {t p v : Int32}
    (c : ∀ H1 n1 q1, lw_post true x o H n q (k_set G t p v) H1 n1 q1 → P (.inl (some (.int (nI (k_set G t p v).1)))) H1 n1 q1) : ev_ok (ev_TT X) 191 0 [.ref x, .int t, .int p, .int v, .ref o, ev_J] [] H n q P := by
  have hk := c_all_k (X := X) hc
  obtain ⟨l0, s0, ho⟩ := ho
  simp (disch := omega) only [t_L_set_0, t_L_set_2, t_L_set_3, t_L_set_4, t_L_set_5, t_L_set_6, true_and, hk]
  refine C_set2 hc hG (fun hb => ?_) (fun i hi e hb => ?_) (fun i a hi e ha e2 hb H1 hc1 hf1 => ?_) (fun i j a hi e hj e2 ha e3 H1 hc1 hf1 => ?_)
  · skip
    have ek : k_set G t p v = (1, 0, G) := by
      unfold k_set
      rw [if_pos hb]
    rw [ek] at c
    simp (disch := omega) only [t_L_set_18, t_L_set_19, x_L_set_6_0, ev_k_r]
    exact c _ (n + 1) (q + 6) ⟨hc, fun _ _ _ _ => rfl, ⟨l0, s0, ho, fun _ z => by cases z⟩, fun a ha => hz a (by omega), by omega, by omega, by omega, by omega⟩
  · skip
    subst e
    have ek : k_set G (nI i) p v = (2, 0, G) := by
      unfold k_set
      rw [nI_clamp (n := i) (by omega)]
      rw [if_neg (no_ix hi (by omega))]
      rw [if_pos hb]
    rw [ek] at c
    simp (disch := omega) only [t_L_set_22, t_L_set_23, x_L_set_6_1, ev_k_r]
    exact c _ (n + 1) (q + 6) ⟨hc, fun _ _ _ _ => rfl, ⟨l0, s0, ho, fun _ z => by cases z⟩, fun a ha => hz a (by omega), by omega, by omega, by omega, by omega⟩
  · skip
    subst e
    subst e2
    have ek : k_set G (nI i) p (nI a) = (0, -9, pg_rf G) := by
      unfold k_set
      rw [nI_clamp (n := i) (by omega)]
      rw [if_neg (no_ix hi (by omega))]
      rw [if_neg (no_ix ha (by omega))]
      rw [if_pos hb]
    rw [ek] at c
    have ho1 : H1 o = some (.inr (11, [.long l0, s0])) := (hf1 o (by omega)).trans ho
    simp (disch := omega) only [t_L_set_9, t_L_set_10, t_L_set_13, t_L_set_24, t_L_set_25, ev_kr_1, and_true, true_and, ev_fS_0, ev_isO_0, ho1, ev_ft_J]
    exact c _ n q ⟨c_cg hc1 (fun a ha hb => ev_up_n (by omega)), fun a ha hao han => (ev_up_n hao).trans (hf1 a ha), ⟨_, s0, ev_up_s, fun _ _ => rfl⟩, fun a ha => (ev_up_n (by omega)).trans ((hf1 a (by omega)).trans (hz a ha)), by omega, by omega, by omega, by omega⟩
  · skip
    subst e
    subst e2
    subst e3
    have ek : k_set G (nI i) (nI j) (nI a) = (0, (pf_at (G.1 i).1 j).2, (pg_T G i (ps_gen ((G.1 i).1.set j ((pf_at (G.1 i).1 j).1, (nI a))) (G.1 i).2.1.1 (G.1 i).2.1.2.1 (G.1 i).2.1.2.2.1 (G.1 i).2.1.2.2.2 (G.1 i).2.2.1.1 (G.1 i).2.2.1.2.1 (G.1 i).2.2.1.2.2 (G.1 i).2.2.2.1 (G.1 i).2.2.2.2))) := by
      unfold k_set
      rw [nI_clamp (n := i) (by omega), nI_clamp (n := j) (by have := okL_len (hG.1 i hi).1; omega)]
      rw [if_neg (no_ix hi (by omega))]
      rw [if_neg (no_ix ha (by omega))]
      rw [if_neg (fun z => z ((ev_pl (okL_len (hG.1 i hi).1 |> fun z => by omega)).mpr ⟨j, hj, rfl⟩))]
    rw [ek] at c
    have ho1 : H1 o = some (.inr (11, [.long l0, s0])) := (hf1 o (by omega)).trans ho
    simp (disch := omega) only [t_L_set_9, t_L_set_10, t_L_set_13, t_L_set_24, t_L_set_25, ev_kr_1, and_true, true_and, ev_fS_0, ev_isO_0, ho1, ev_ft_J]
    exact c _ n q ⟨c_cg hc1 (fun a ha hb => ev_up_n (by omega)), fun a ha hao han => (ev_up_n hao).trans (hf1 a ha), ⟨_, s0, ev_up_s, fun _ _ => rfl⟩, fun a ha => (ev_up_n (by omega)).trans ((hf1 a (by omega)).trans (hz a ha)), by omega, by omega, by omega, by omega⟩
theorem LW_walk (hc : c_all x G H) (hG : okG G) (hxo : x + 57 ≤ o) (hon : o < n) (ho : ∃ l s, H o = some (.inr (11, [.long l, s]))) (hz : ∀ a, n ≤ a → H a = none) {t w : Int32}
    (c : ∀ H1 n1 q1, lw_post true x o H n q (k_walk G t w) H1 n1 q1 → P (.inl (some (.int (nI (k_walk G t w).1)))) H1 n1 q1) : ev_ok (ev_TT X) 138 0 [.ref x, .int t, .int w, .ref o, ev_J] [] H n q P := by
  have hk := c_all_k (X := X) hc
  obtain ⟨l0, s0, ho⟩ := ho
  simp (disch := omega) only [t_L_walk_0, t_L_walk_1, t_L_walk_2, t_L_walk_3, t_L_walk_4, true_and, hk]
  refine C_walk hc hG (fun hb => ?_) (fun i hi e hb => ?_) (fun i a hi e ha e2 H1 hc1 hf1 => ?_)
  · skip
    have ek : k_walk G t w = (1, 0, G) := by
      unfold k_walk
      rw [if_pos hb]
    rw [ek] at c
    simp (disch := omega) only [t_L_walk_16, t_L_walk_17, x_L_walk_4_0, ev_k_r]
    exact c _ (n + 1) (q + 6) ⟨hc, fun _ _ _ _ => rfl, ⟨l0, s0, ho, fun _ z => by cases z⟩, fun a ha => hz a (by omega), by omega, by omega, by omega, by omega⟩
  · skip
    subst e
    have ek : k_walk G (nI i) w = (2, 0, G) := by
      unfold k_walk
      rw [nI_clamp (n := i) (by omega)]
      rw [if_neg (no_ix hi (by omega))]
      rw [if_pos hb]
    rw [ek] at c
    simp (disch := omega) only [t_L_walk_20, t_L_walk_21, x_L_walk_4_1, ev_k_r]
    exact c _ (n + 1) (q + 6) ⟨hc, fun _ _ _ _ => rfl, ⟨l0, s0, ho, fun _ z => by cases z⟩, fun a ha => hz a (by omega), by omega, by omega, by omega, by omega⟩
  · skip
    subst e
    subst e2
    have ek : k_walk G (nI i) (nI a) = (0, (nI (G.1 i).1.length), (pg_T G i (ps_gen (G.1 i).1 (G.1 i).2.1.1 (G.1 i).2.1.2.1 (G.1 i).2.1.2.2.1 (G.1 i).2.1.2.2.2 true false false (nI a) 0))) := by
      unfold k_walk
      rw [nI_clamp (n := i) (by omega)]
      rw [if_neg (no_ix hi (by omega))]
      rw [if_neg (no_ix ha (by omega))]
    rw [ek] at c
    have ho1 : H1 o = some (.inr (11, [.long l0, s0])) := (hf1 o (by omega)).trans ho
    simp (disch := omega) only [t_L_walk_7, t_L_walk_8, t_L_walk_11, t_L_walk_22, t_L_walk_23, ev_kr_1, and_true, true_and, ev_fS_0, ev_isO_0, ho1, ev_ft_J]
    exact c _ n q ⟨c_cg hc1 (fun a ha hb => ev_up_n (by omega)), fun a ha hao han => (ev_up_n hao).trans (hf1 a ha), ⟨_, s0, ev_up_s, fun _ _ => rfl⟩, fun a ha => (ev_up_n (by omega)).trans ((hf1 a (by omega)).trans (hz a ha)), by omega, by omega, by omega, by omega⟩
theorem LW_ofTable (hc : c_all x G H) (hG : okG G) (hxo : x + 57 ≤ o) (hon : o < n) (ho : ∃ l s, H o = some (.inr (11, [.long l, s]))) (hz : ∀ a, n ≤ a → H a = none) {t w : Int32}
    (c : ∀ H1 n1 q1, lw_post true x o H n q (k_ofTable G t w) H1 n1 q1 → P (.inl (some (.int (nI (k_ofTable G t w).1)))) H1 n1 q1) : ev_ok (ev_TT X) 135 0 [.ref x, .int t, .int w, .ref o, ev_J] [] H n q P := by
  have hk := c_all_k (X := X) hc
  obtain ⟨l0, s0, ho⟩ := ho
  simp (disch := omega) only [t_L_ofTable_0, t_L_ofTable_1, t_L_ofTable_2, t_L_ofTable_3, t_L_ofTable_4, true_and, hk]
  refine C_ofTable hc hG (fun hb => ?_) (fun i hi e hb => ?_) (fun i a hi e ha e2 => ?_)
  · skip
    have ek : k_ofTable G t w = (1, 0, G) := by
      unfold k_ofTable
      rw [if_pos hb]
    rw [ek] at c
    simp (disch := omega) only [t_L_ofTable_16, t_L_ofTable_17, x_L_ofTable_4_0, ev_k_r]
    exact c _ (n + 1) (q + 6) ⟨hc, fun _ _ _ _ => rfl, ⟨l0, s0, ho, fun _ z => by cases z⟩, fun a ha => hz a (by omega), by omega, by omega, by omega, by omega⟩
  · skip
    subst e
    have ek : k_ofTable G (nI i) w = (2, 0, G) := by
      unfold k_ofTable
      rw [nI_clamp (n := i) (by omega)]
      rw [if_neg (no_ix hi (by omega))]
      rw [if_pos hb]
    rw [ek] at c
    simp (disch := omega) only [t_L_ofTable_20, t_L_ofTable_21, x_L_ofTable_4_1, ev_k_r]
    exact c _ (n + 1) (q + 6) ⟨hc, fun _ _ _ _ => rfl, ⟨l0, s0, ho, fun _ z => by cases z⟩, fun a ha => hz a (by omega), by omega, by omega, by omega, by omega⟩
  · skip
    subst e
    subst e2
    have ek : k_ofTable G (nI i) (nI a) = (0, (pt_of (G.1 i) a), G) := by
      unfold k_ofTable
      rw [nI_clamp (n := i) (by omega), nI_clamp (n := a) (by omega)]
      rw [if_neg (no_ix hi (by omega))]
      rw [if_neg (no_ix ha (by omega))]
    rw [ek] at c
    have ho1 := ho
    simp (disch := omega) only [t_L_ofTable_7, t_L_ofTable_8, t_L_ofTable_11, t_L_ofTable_22, t_L_ofTable_23, ev_kr_1, and_true, true_and, ev_fS_0, ev_isO_0, ho1, ev_ft_J]
    exact c _ n q ⟨c_cg hc (fun a ha hb => ev_up_n (by omega)), fun a ha hao han => (ev_up_n hao), ⟨_, s0, ev_up_s, fun _ _ => rfl⟩, fun a ha => (ev_up_n (by omega)).trans (hz a ha), by omega, by omega, by omega, by omega⟩
theorem LW_step (hc : c_all x G H) (hG : okG G) (hxo : x + 57 ≤ o) (hon : o < n) (ho : ∃ l s, H o = some (.inr (11, [.long l, s]))) (hz : ∀ a, n ≤ a → H a = none) {t : Int32}
    (c : ∀ H1 n1 q1, lw_post true x o H n q (k_step G t) H1 n1 q1 → P (.inl (some (.int (nI (k_step G t).1)))) H1 n1 q1) : ev_ok (ev_TT X) 223 0 [.ref x, .int t, .ref o, ev_J] [] H n q P := by
  have hk := c_all_k (X := X) hc
  obtain ⟨l0, s0, ho⟩ := ho
  simp (disch := omega) only [t_L_step_0, t_L_step_1, t_L_step_2, t_L_step_3, true_and, hk]
  refine C_step hc hG (fun hb => ?_) (fun i hi e hu H1 hc1 hf1 => ?_) (fun i hi e hu hv => ?_) (fun i hi e hu hv H1 hc1 hf1 => ?_)
  · skip
    have ek : k_step G t = (1, 0, G) := by
      unfold k_step
      rw [if_pos hb]
    rw [ek] at c
    simp (disch := omega) only [t_L_step_14, t_L_step_15, x_L_step_3_0, ev_k_r]
    exact c _ (n + 1) (q + 6) ⟨hc, fun _ _ _ _ => rfl, ⟨l0, s0, ho, fun _ z => by cases z⟩, fun a ha => hz a (by omega), by omega, by omega, by omega, by omega⟩
  · skip
    subst e
    have ek : k_step G (nI i) = (0, -9, pg_rf G) := by
      unfold k_step
      rw [nI_clamp (n := i) (by omega)]
      rw [if_neg (no_ix hi (by omega))]
      rw [if_pos hu]
    rw [ek] at c
    have ho1 : H1 o = some (.inr (11, [.long l0, s0])) := (hf1 o (by omega)).trans ho
    simp (disch := omega) only [t_L_step_6, t_L_step_7, t_L_step_10, t_L_step_16, t_L_step_17, ev_kr_1, and_true, true_and, ev_fS_0, ev_isO_0, ho1, ev_ft_J]
    exact c _ n q ⟨c_cg hc1 (fun a ha hb => ev_up_n (by omega)), fun a ha hao han => (ev_up_n hao).trans (hf1 a ha), ⟨_, s0, ev_up_s, fun _ _ => rfl⟩, fun a ha => (ev_up_n (by omega)).trans ((hf1 a (by omega)).trans (hz a ha)), by omega, by omega, by omega, by omega⟩
  · skip
    subst e
    have ek : k_step G (nI i) = (0, (-8), G) := by
      unfold k_step
      rw [nI_clamp (n := i) (by omega)]
      rw [if_neg (no_ix hi (by omega))]
      rw [if_neg (fun z => Bool.noConfusion (hu.symm.trans z))]
      rw [if_pos hv]
    rw [ek] at c
    have ho1 := ho
    simp (disch := omega) only [t_L_step_6, t_L_step_7, t_L_step_10, t_L_step_16, t_L_step_17, ev_kr_1, and_true, true_and, ev_fS_0, ev_isO_0, ho1, ev_ft_J]
    exact c _ n q ⟨c_cg hc (fun a ha hb => ev_up_n (by omega)), fun a ha hao han => (ev_up_n hao), ⟨_, s0, ev_up_s, fun _ _ => rfl⟩, fun a ha => (ev_up_n (by omega)).trans (hz a ha), by omega, by omega, by omega, by omega⟩
  · skip
    subst e
    have ek : k_step G (nI i) = (0, (pr_told (G.1 i).1 (nI (G.1 i).2.2.2.2) (G.1 i).2.2.2.1), (pg_T G i (ps_gen (G.1 i).1 (G.1 i).2.1.1 (G.1 i).2.1.2.1 (G.1 i).2.1.2.2.1 (G.1 i).2.1.2.2.2 (G.1 i).2.2.1.1 (G.1 i).2.2.1.2.1 true (G.1 i).2.2.2.1 ((G.1 i).2.2.2.2 + 1)))) := by
      unfold k_step
      rw [nI_clamp (n := i) (by omega)]
      rw [if_neg (no_ix hi (by omega))]
      rw [if_neg (fun z => Bool.noConfusion (hu.symm.trans z))]
      rw [if_neg (fun z => z hv)]
    rw [ek] at c
    have ho1 : H1 o = some (.inr (11, [.long l0, s0])) := (hf1 o (by omega)).trans ho
    simp (disch := omega) only [t_L_step_6, t_L_step_7, t_L_step_10, t_L_step_16, t_L_step_17, ev_kr_1, and_true, true_and, ev_fS_0, ev_isO_0, ho1, ev_ft_J]
    exact c _ n q ⟨c_cg hc1 (fun a ha hb => ev_up_n (by omega)), fun a ha hao han => (ev_up_n hao).trans (hf1 a ha), ⟨_, s0, ev_up_s, fun _ _ => rfl⟩, fun a ha => (ev_up_n (by omega)).trans ((hf1 a (by omega)).trans (hz a ha)), by omega, by omega, by omega, by omega⟩
theorem LW_rest (hc : c_all x G H) (hG : okG G) (hxo : x + 57 ≤ o) (hon : o < n) (ho : ∃ l s, H o = some (.inr (11, [.long l, s]))) (hz : ∀ a, n ≤ a → H a = none) {t : Int32}
    (c : ∀ H1 n1 q1, lw_post true x o H n q (k_rest G t) H1 n1 q1 → P (.inl (some (.int (nI (k_rest G t).1)))) H1 n1 q1) : ev_ok (ev_TT X) 252 0 [.ref x, .int t, .ref o, ev_J] [] H n q P := by
  have hk := c_all_k (X := X) hc
  obtain ⟨l0, s0, ho⟩ := ho
  simp (disch := omega) only [t_L_rest_0, t_L_rest_1, t_L_rest_2, t_L_rest_3, true_and, hk]
  refine C_rest hc hG (fun hb => ?_) (fun i hi e hu H1 hc1 hf1 => ?_) (fun i hi e hu H1 hc1 hf1 => ?_)
  · skip
    have ek : k_rest G t = (1, 0, G) := by
      unfold k_rest
      rw [if_pos hb]
    rw [ek] at c
    simp (disch := omega) only [t_L_rest_14, t_L_rest_15, x_L_rest_3_0, ev_k_r]
    exact c _ (n + 1) (q + 6) ⟨hc, fun _ _ _ _ => rfl, ⟨l0, s0, ho, fun _ z => by cases z⟩, fun a ha => hz a (by omega), by omega, by omega, by omega, by omega⟩
  · skip
    subst e
    have ek : k_rest G (nI i) = (0, -9, pg_rf G) := by
      unfold k_rest
      rw [nI_clamp (n := i) (by omega)]
      rw [if_neg (no_ix hi (by omega))]
      rw [if_pos hu]
    rw [ek] at c
    have ho1 : H1 o = some (.inr (11, [.long l0, s0])) := (hf1 o (by omega)).trans ho
    simp (disch := omega) only [t_L_rest_6, t_L_rest_7, t_L_rest_10, t_L_rest_16, t_L_rest_17, ev_kr_1, and_true, true_and, ev_fS_0, ev_isO_0, ho1, ev_ft_J]
    exact c _ n q ⟨c_cg hc1 (fun a ha hb => ev_up_n (by omega)), fun a ha hao han => (ev_up_n hao).trans (hf1 a ha), ⟨_, s0, ev_up_s, fun _ _ => rfl⟩, fun a ha => (ev_up_n (by omega)).trans ((hf1 a (by omega)).trans (hz a ha)), by omega, by omega, by omega, by omega⟩
  · skip
    subst e
    have ek : k_rest G (nI i) = (0, (pr_acc (G.1 i).1 (G.1 i).2.2.2.1 ((G.1 i).1.length - (G.1 i).2.2.2.2) (G.1 i).2.2.2.2 0), (pg_T G i (ps_gen (G.1 i).1 (G.1 i).2.1.1 (G.1 i).2.1.2.1 (G.1 i).2.1.2.2.1 (G.1 i).2.1.2.2.2 (G.1 i).2.2.1.1 (G.1 i).2.2.1.2.1 ((G.1 i).2.2.1.2.2 || decide (0 < (G.1 i).1.length - (G.1 i).2.2.2.2)) (G.1 i).2.2.2.1 (G.1 i).1.length))) := by
      unfold k_rest
      rw [nI_clamp (n := i) (by omega)]
      rw [if_neg (no_ix hi (by omega))]
      rw [if_neg (fun z => Bool.noConfusion (hu.symm.trans z))]
    rw [ek] at c
    have ho1 : H1 o = some (.inr (11, [.long l0, s0])) := (hf1 o (by omega)).trans ho
    simp (disch := omega) only [t_L_rest_6, t_L_rest_7, t_L_rest_10, t_L_rest_16, t_L_rest_17, ev_kr_1, and_true, true_and, ev_fS_0, ev_isO_0, ho1, ev_ft_J]
    exact c _ n q ⟨c_cg hc1 (fun a ha hb => ev_up_n (by omega)), fun a ha hao han => (ev_up_n hao).trans (hf1 a ha), ⟨_, s0, ev_up_s, fun _ _ => rfl⟩, fun a ha => (ev_up_n (by omega)).trans ((hf1 a (by omega)).trans (hz a ha)), by omega, by omega, by omega, by omega⟩
theorem LW_cut (hc : c_all x G H) (hG : okG G) (hxo : x + 57 ≤ o) (hon : o < n) (ho : ∃ l s, H o = some (.inr (11, [.long l, s]))) (hz : ∀ a, n ≤ a → H a = none) {t : Int32}
    (c : ∀ H1 n1 q1, lw_post true x o H n q (k_cut G t) H1 n1 q1 → P (.inl (some (.int (nI (k_cut G t).1)))) H1 n1 q1) : ev_ok (ev_TT X) 221 0 [.ref x, .int t, .ref o, ev_J] [] H n q P := by
  have hk := c_all_k (X := X) hc
  obtain ⟨l0, s0, ho⟩ := ho
  simp (disch := omega) only [t_L_cut_0, t_L_cut_1, t_L_cut_2, t_L_cut_3, true_and, hk]
  refine C_cut hc hG (fun hb => ?_) (fun i hi e hu H1 hc1 hf1 => ?_) (fun i kk hi e hu hk1 hk2 H1 hc1 hf1 => ?_)
  · skip
    have ek : k_cut G t = (1, 0, G) := by
      unfold k_cut
      rw [if_pos hb]
    rw [ek] at c
    simp (disch := omega) only [t_L_cut_14, t_L_cut_15, x_L_cut_3_0, ev_k_r]
    exact c _ (n + 1) (q + 6) ⟨hc, fun _ _ _ _ => rfl, ⟨l0, s0, ho, fun _ z => by cases z⟩, fun a ha => hz a (by omega), by omega, by omega, by omega, by omega⟩
  · skip
    subst e
    have ek : k_cut G (nI i) = (0, -9, pg_rf G) := by
      unfold k_cut
      rw [nI_clamp (n := i) (by omega)]
      rw [if_neg (no_ix hi (by omega))]
      rw [if_pos hu]
    rw [ek] at c
    have ho1 : H1 o = some (.inr (11, [.long l0, s0])) := (hf1 o (by omega)).trans ho
    simp (disch := omega) only [t_L_cut_6, t_L_cut_7, t_L_cut_10, t_L_cut_16, t_L_cut_17, ev_kr_1, and_true, true_and, ev_fS_0, ev_isO_0, ho1, ev_ft_J]
    exact c _ n q ⟨c_cg hc1 (fun a ha hb => ev_up_n (by omega)), fun a ha hao han => (ev_up_n hao).trans (hf1 a ha), ⟨_, s0, ev_up_s, fun _ _ => rfl⟩, fun a ha => (ev_up_n (by omega)).trans ((hf1 a (by omega)).trans (hz a ha)), by omega, by omega, by omega, by omega⟩
  · skip
    subst e
    have ek : k_cut G (nI i) = (0, (nI ((G.1 i).1.eraseIdx kk).length), (pg_T G i (ps_gen ((G.1 i).1.eraseIdx kk) (G.1 i).2.1.1 (G.1 i).2.1.2.1 (G.1 i).2.1.2.2.1 (G.1 i).2.1.2.2.2 (G.1 i).2.2.1.1 (G.1 i).2.2.1.2.1 false (G.1 i).2.2.2.1 kk))) := by
      unfold k_cut
      rw [nI_clamp (n := i) (by omega), show (G.1 i).2.2.2.2 - 1 = kk from by omega]
      rw [if_neg (no_ix hi (by omega))]
      rw [if_neg (fun z => Bool.noConfusion (hu.symm.trans z))]
    rw [ek] at c
    have ho1 : H1 o = some (.inr (11, [.long l0, s0])) := (hf1 o (by omega)).trans ho
    simp (disch := omega) only [t_L_cut_6, t_L_cut_7, t_L_cut_10, t_L_cut_16, t_L_cut_17, ev_kr_1, and_true, true_and, ev_fS_0, ev_isO_0, ho1, ev_ft_J]
    exact c _ n q ⟨c_cg hc1 (fun a ha hb => ev_up_n (by omega)), fun a ha hao han => (ev_up_n hao).trans (hf1 a ha), ⟨_, s0, ev_up_s, fun _ _ => rfl⟩, fun a ha => (ev_up_n (by omega)).trans ((hf1 a (by omega)).trans (hz a ha)), by omega, by omega, by omega, by omega⟩
end L76
end
section
/-! ===== the reference's calls on tables, by the same outcomes ===== -/
section L77
variable {X : ev_E} {zf : Nat → Nat} {x y : Nat} {r : Int32 × Int32 × Int32} {G : ev_CS} {As : List Nat} {H : ev_M} {ow : Nat → Nat} {n q : Nat} {P : ev_O → ev_M → Nat → Nat → Prop}
theorem MK_make (hm : m_aw X zf y r G.1 As H n ow) (hx : m_cx X zf y G.1 As H n) (hG : okG G) (hr : r.2 = G.2.2.2.2) {t b1 m1 : Int32} (hb1 : ev_isB b1)
    (c : ∀ H1 n1 q1, m_post X zf y H n q (nI (k_make G t b1 m1).1, (k_make G t b1 m1).2.2.2.2.2.2) (k_make G t b1 m1).2.2.1 As H1 n1 q1 → P (.inl (some (.int (k_make G t b1 m1).2.1))) H1 n1 q1) : ev_ok (ev_TT X) 167 0 [.ref y, .int t, .int b1, .int m1, ev_J, ev_J] [] H n q P := by
  obtain ⟨rt, r2⟩ := r
  dsimp only at hr
  subst hr
  refine MM_make hm hx hb1 (fun hb H1 hp => ?_) (fun i hi e hm1 hb H1 hp => ?_) (fun i hi e hmm H1 n1 q1 hp => ?_)
  · skip
    have ek : k_make G t b1 m1 = (1, 0, G) := by
      unfold k_make
      rw [if_pos hb]
    rw [ek] at c
    exact c _ _ _ hp
  · skip
    subst e
    have ek : k_make G (nI i) b1 m1 = (2, 0, G) := by
      unfold k_make
      rw [nI_clamp (n := i) (by omega)]
      rw [if_neg (no_ix hi (by omega))]
      rw [if_pos ⟨hm1, hb⟩]
    rw [ek] at c
    exact c _ _ _ hp
  · skip
    subst e
    have ek : k_make G (nI i) b1 m1 = (0, (nI (G.1 i).1.length), (pg_T G i (ps_row (G.1 i) [] b1 m1 0 (-1)))) := by
      unfold k_make
      rw [nI_clamp (n := i) (by omega)]
      rw [if_neg (no_ix hi (by omega))]
      rw [if_neg (fun z => hmm.elim z.1 (fun w => z.2.elim (fun v => Int32.not_lt.mpr w.1 v) (fun v => Int32.not_lt.mpr w.2 v)))]
    rw [ek] at c
    exact c _ _ _ hp
theorem MK_put (hm : m_aw X zf y r G.1 As H n ow) (hx : m_cx X zf y G.1 As H n) (hG : okG G) (hr : r.2 = G.2.2.2.2) {t k v : Int32}
    (c : ∀ H1 n1 q1, m_post X zf y H n q (nI (k_put G t k v).1, (k_put G t k v).2.2.2.2.2.2) (k_put G t k v).2.2.1 As H1 n1 q1 → P (.inl (some (.int (k_put G t k v).2.1))) H1 n1 q1) : ev_ok (ev_TT X) 293 0 [.ref y, .int t, .int k, .int v, ev_J, ev_J, ev_J] [] H n q P := by
  obtain ⟨rt, r2⟩ := r
  dsimp only at hr
  subst hr
  refine MM_put hm hx (fun hb H1 hp => ?_) (fun i hi e hb H1 hp => ?_) (fun i a b hi e ha e2 hb e3 H1 n1 q1 hp => ?_)
  · skip
    have ek : k_put G t k v = (1, 0, G) := by
      unfold k_put
      rw [if_pos hb]
    rw [ek] at c
    exact c _ _ _ hp
  · skip
    subst e
    have ek : k_put G (nI i) k v = (2, 0, G) := by
      unfold k_put
      rw [nI_clamp (n := i) (by omega)]
      rw [if_neg (no_ix hi (by omega))]
      rw [if_pos hb]
    rw [ek] at c
    exact c _ _ _ hp
  · skip
    subst e
    subst e2
    subst e3
    have ek : k_put G (nI i) (nI a) (nI b) = (0, (pr_bring (G.1 i).1 (G.1 i).2.1.1 (G.1 i).2.1.2.1 (G.1 i).2.1.2.2.1 (G.1 i).2.1.2.2.2 (nI a) (nI b)).1, (pg_T G i (ps_old (G.1 i) (pr_bring (G.1 i).1 (G.1 i).2.1.1 (G.1 i).2.1.2.1 (G.1 i).2.1.2.2.1 (G.1 i).2.1.2.2.2 (nI a) (nI b)).2.1 (pr_bring (G.1 i).1 (G.1 i).2.1.1 (G.1 i).2.1.2.1 (G.1 i).2.1.2.2.1 (G.1 i).2.1.2.2.2 (nI a) (nI b)).2.2.1 (pr_bring (G.1 i).1 (G.1 i).2.1.1 (G.1 i).2.1.2.1 (G.1 i).2.1.2.2.1 (G.1 i).2.1.2.2.2 (nI a) (nI b)).2.2.2))) := by
      unfold k_put
      rw [nI_clamp (n := i) (by omega)]
      rw [if_neg (no_ix hi (by omega))]
      rw [if_neg (fun z => z.elim (no_ix ha (by omega)) (no_ix hb (by omega)))]
    rw [ek] at c
    exact c _ _ _ hp
theorem MK_putIfAbsent (hm : m_aw X zf y r G.1 As H n ow) (hx : m_cx X zf y G.1 As H n) (hG : okG G) (hr : r.2 = G.2.2.2.2) {t k v : Int32}
    (c : ∀ H1 n1 q1, m_post X zf y H n q (nI (k_putIfAbsent G t k v).1, (k_putIfAbsent G t k v).2.2.2.2.2.2) (k_putIfAbsent G t k v).2.2.1 As H1 n1 q1 → P (.inl (some (.int (k_putIfAbsent G t k v).2.1))) H1 n1 q1) : ev_ok (ev_TT X) 294 0 [.ref y, .int t, .int k, .int v, ev_J, ev_J, ev_J] [] H n q P := by
  obtain ⟨rt, r2⟩ := r
  dsimp only at hr
  subst hr
  refine MM_putIfAbsent hm hx (fun hb H1 hp => ?_) (fun i hi e hb H1 hp => ?_) (fun i a b hi e ha e2 hb e3 hms H1 hp => ?_) (fun i a b hi e ha e2 hb e3 hms H1 n1 q1 hp => ?_)
  · skip
    have ek : k_putIfAbsent G t k v = (1, 0, G) := by
      unfold k_putIfAbsent
      rw [if_pos hb]
    rw [ek] at c
    exact c _ _ _ hp
  · skip
    subst e
    have ek : k_putIfAbsent G (nI i) k v = (2, 0, G) := by
      unfold k_putIfAbsent
      rw [nI_clamp (n := i) (by omega)]
      rw [if_neg (no_ix hi (by omega))]
      rw [if_pos hb]
    rw [ek] at c
    exact c _ _ _ hp
  · skip
    subst e
    subst e2
    subst e3
    have ek : k_putIfAbsent G (nI i) (nI a) (nI b) = (3, 0, G) := by
      unfold k_putIfAbsent
      rw [nI_clamp (n := i) (by omega)]
      rw [if_neg (no_ix hi (by omega))]
      rw [if_neg (fun z => z.elim (no_ix ha (by omega)) (no_ix hb (by omega)))]
      rw [if_pos hms]
    rw [ek] at c
    exact c _ _ _ hp
  · skip
    subst e
    subst e2
    subst e3
    have ek : k_putIfAbsent G (nI i) (nI a) (nI b) = (0, (pr_bia (G.1 i).1 (G.1 i).2.1.1 (G.1 i).2.1.2.1 (G.1 i).2.1.2.2.1 (G.1 i).2.1.2.2.2 (nI a) (nI b)).1, (pg_T G i (ps_row (G.1 i) (pr_bia (G.1 i).1 (G.1 i).2.1.1 (G.1 i).2.1.2.1 (G.1 i).2.1.2.2.1 (G.1 i).2.1.2.2.2 (nI a) (nI b)).2.1 (G.1 i).2.1.1 (G.1 i).2.1.2.1 (pr_bia (G.1 i).1 (G.1 i).2.1.1 (G.1 i).2.1.2.1 (G.1 i).2.1.2.2.1 (G.1 i).2.1.2.2.2 (nI a) (nI b)).2.2.1 (pr_bia (G.1 i).1 (G.1 i).2.1.1 (G.1 i).2.1.2.1 (G.1 i).2.1.2.2.1 (G.1 i).2.1.2.2.2 (nI a) (nI b)).2.2.2))) := by
      unfold k_putIfAbsent
      rw [nI_clamp (n := i) (by omega)]
      rw [if_neg (no_ix hi (by omega))]
      rw [if_neg (fun z => z.elim (no_ix ha (by omega)) (no_ix hb (by omega)))]
      rw [if_neg (fun z => z hms)]
    rw [ek] at c
    exact c _ _ _ hp
theorem MK_get (hm : m_aw X zf y r G.1 As H n ow) (hx : m_cx X zf y G.1 As H n) (hG : okG G) (hr : r.2 = G.2.2.2.2) {t k : Int32}
    (c : ∀ H1 n1 q1, m_post X zf y H n q (nI (k_get G t k).1, (k_get G t k).2.2.2.2.2.2) (k_get G t k).2.2.1 As H1 n1 q1 → P (.inl (some (.int (k_get G t k).2.1))) H1 n1 q1) : ev_ok (ev_TT X) 302 0 [.ref y, .int t, .int k] [] H n q P := by
  obtain ⟨rt, r2⟩ := r
  dsimp only at hr
  subst hr
  refine MM_get hm hx (fun hb H1 hp => ?_) (fun i hi e hb H1 hp => ?_) (fun i a hi e ha e2 H1 n1 q1 hp => ?_)
  · skip
    have ek : k_get G t k = (1, 0, G) := by
      unfold k_get
      rw [if_pos hb]
    rw [ek] at c
    exact c _ _ _ hp
  · skip
    subst e
    have ek : k_get G (nI i) k = (2, 0, G) := by
      unfold k_get
      rw [nI_clamp (n := i) (by omega)]
      rw [if_neg (no_ix hi (by omega))]
      rw [if_pos hb]
    rw [ek] at c
    exact c _ _ _ hp
  · skip
    subst e
    subst e2
    have ek : k_get G (nI i) (nI a) = (0, (pr_fetch (G.1 i).1 (G.1 i).2.1.1 (nI a) (-1)).1, (pg_T G i (ps_row (G.1 i) (pr_fetch (G.1 i).1 (G.1 i).2.1.1 (nI a) (-1)).2 (G.1 i).2.1.1 (G.1 i).2.1.2.1 (G.1 i).2.1.2.2.1 (G.1 i).2.1.2.2.2))) := by
      unfold k_get
      rw [nI_clamp (n := i) (by omega)]
      rw [if_neg (no_ix hi (by omega))]
      rw [if_neg (no_ix ha (by omega))]
    rw [ek] at c
    exact c _ _ _ hp
theorem MK_getOr (hm : m_aw X zf y r G.1 As H n ow) (hx : m_cx X zf y G.1 As H n) (hG : okG G) (hr : r.2 = G.2.2.2.2) {t k o1 : Int32}
    (c : ∀ H1 n1 q1, m_post X zf y H n q (nI (k_getOr G t k o1).1, (k_getOr G t k o1).2.2.2.2.2.2) (k_getOr G t k o1).2.2.1 As H1 n1 q1 → P (.inl (some (.int (k_getOr G t k o1).2.1))) H1 n1 q1) : ev_ok (ev_TT X) 303 0 [.ref y, .int t, .int k, .int o1] [] H n q P := by
  obtain ⟨rt, r2⟩ := r
  dsimp only at hr
  subst hr
  refine MM_getOr hm hx (fun hb H1 hp => ?_) (fun i hi e hb H1 hp => ?_) (fun i a hi e ha e2 H1 n1 q1 hp => ?_)
  · skip
    have ek : k_getOr G t k o1 = (1, 0, G) := by
      unfold k_getOr
      rw [if_pos hb]
    rw [ek] at c
    exact c _ _ _ hp
  · skip
    subst e
    have ek : k_getOr G (nI i) k o1 = (2, 0, G) := by
      unfold k_getOr
      rw [nI_clamp (n := i) (by omega)]
      rw [if_neg (no_ix hi (by omega))]
      rw [if_pos hb]
    rw [ek] at c
    exact c _ _ _ hp
  · skip
    subst e
    subst e2
    have ek : k_getOr G (nI i) (nI a) o1 = (0, (pr_fetch (G.1 i).1 (G.1 i).2.1.1 (nI a) o1).1, (pg_T G i (ps_row (G.1 i) (pr_fetch (G.1 i).1 (G.1 i).2.1.1 (nI a) o1).2 (G.1 i).2.1.1 (G.1 i).2.1.2.1 (G.1 i).2.1.2.2.1 (G.1 i).2.1.2.2.2))) := by
      unfold k_getOr
      rw [nI_clamp (n := i) (by omega)]
      rw [if_neg (no_ix hi (by omega))]
      rw [if_neg (no_ix ha (by omega))]
    rw [ek] at c
    exact c _ _ _ hp
theorem MK_remove (hm : m_aw X zf y r G.1 As H n ow) (hx : m_cx X zf y G.1 As H n) (hG : okG G) (hr : r.2 = G.2.2.2.2) {t k : Int32}
    (c : ∀ H1 n1 q1, m_post X zf y H n q (nI (k_remove G t k).1, (k_remove G t k).2.2.2.2.2.2) (k_remove G t k).2.2.1 As H1 n1 q1 → P (.inl (some (.int (k_remove G t k).2.1))) H1 n1 q1) : ev_ok (ev_TT X) 239 0 [.ref y, .int t, .int k, ev_J, ev_J] [] H n q P := by
  obtain ⟨rt, r2⟩ := r
  dsimp only at hr
  subst hr
  refine MM_remove hm hx (fun hb H1 hp => ?_) (fun i hi e hb H1 hp => ?_) (fun i a hi e ha e2 H1 n1 q1 hp => ?_)
  · skip
    have ek : k_remove G t k = (1, 0, G) := by
      unfold k_remove
      rw [if_pos hb]
    rw [ek] at c
    exact c _ _ _ hp
  · skip
    subst e
    have ek : k_remove G (nI i) k = (2, 0, G) := by
      unfold k_remove
      rw [nI_clamp (n := i) (by omega)]
      rw [if_neg (no_ix hi (by omega))]
      rw [if_pos hb]
    rw [ek] at c
    exact c _ _ _ hp
  · skip
    subst e
    subst e2
    have ek : k_remove G (nI i) (nI a) = (0, (pr_drop (G.1 i).1 (nI a)).1, (pg_T G i (ps_row (G.1 i) (pr_drop (G.1 i).1 (nI a)).2 (G.1 i).2.1.1 (G.1 i).2.1.2.1 (G.1 i).2.1.2.2.1 (G.1 i).2.1.2.2.2))) := by
      unfold k_remove
      rw [nI_clamp (n := i) (by omega)]
      rw [if_neg (no_ix hi (by omega))]
      rw [if_neg (no_ix ha (by omega))]
    rw [ek] at c
    exact c _ _ _ hp
theorem MK_has (hm : m_aw X zf y r G.1 As H n ow) (hx : m_cx X zf y G.1 As H n) (hG : okG G) (hr : r.2 = G.2.2.2.2) {t k : Int32}
    (c : ∀ H1 n1 q1, m_post X zf y H n q (nI (k_has G t k).1, (k_has G t k).2.2.2.2.2.2) (k_has G t k).2.2.1 As H1 n1 q1 → P (.inl (some (.int (k_has G t k).2.1))) H1 n1 q1) : ev_ok (ev_TT X) 233 0 [.ref y, .int t, .int k] [] H n q P := by
  obtain ⟨rt, r2⟩ := r
  dsimp only at hr
  subst hr
  refine MM_has hm hx (fun hb H1 hp => ?_) (fun i hi e hb H1 hp => ?_) (fun i a hi e ha e2 H1 hp => ?_)
  · skip
    have ek : k_has G t k = (1, 0, G) := by
      unfold k_has
      rw [if_pos hb]
    rw [ek] at c
    exact c _ _ _ hp
  · skip
    subst e
    have ek : k_has G (nI i) k = (2, 0, G) := by
      unfold k_has
      rw [nI_clamp (n := i) (by omega)]
      rw [if_neg (no_ix hi (by omega))]
      rw [if_pos hb]
    rw [ek] at c
    exact c _ _ _ hp
  · skip
    subst e
    subst e2
    have ek : k_has G (nI i) (nI a) = (0, (ev_bb (pf_find (G.1 i).1 (nI a)).isSome), G) := by
      unfold k_has
      rw [nI_clamp (n := i) (by omega)]
      rw [if_neg (no_ix hi (by omega))]
      rw [if_neg (no_ix ha (by omega))]
    rw [ek] at c
    exact c _ _ _ hp
theorem MK_placeOf (hm : m_aw X zf y r G.1 As H n ow) (hx : m_cx X zf y G.1 As H n) (hG : okG G) (hr : r.2 = G.2.2.2.2) {t k : Int32}
    (c : ∀ H1 n1 q1, m_post X zf y H n q (nI (k_placeOf G t k).1, (k_placeOf G t k).2.2.2.2.2.2) (k_placeOf G t k).2.2.1 As H1 n1 q1 → P (.inl (some (.int (k_placeOf G t k).2.1))) H1 n1 q1) : ev_ok (ev_TT X) 238 0 [.ref y, .int t, .int k] [] H n q P := by
  obtain ⟨rt, r2⟩ := r
  dsimp only at hr
  subst hr
  refine MM_placeOf hm hx (fun hb H1 hp => ?_) (fun i hi e hb H1 hp => ?_) (fun i a hi e ha e2 H1 hp => ?_)
  · skip
    have ek : k_placeOf G t k = (1, 0, G) := by
      unfold k_placeOf
      rw [if_pos hb]
    rw [ek] at c
    exact c _ _ _ hp
  · skip
    subst e
    have ek : k_placeOf G (nI i) k = (2, 0, G) := by
      unfold k_placeOf
      rw [nI_clamp (n := i) (by omega)]
      rw [if_neg (no_ix hi (by omega))]
      rw [if_pos hb]
    rw [ek] at c
    exact c _ _ _ hp
  · skip
    subst e
    subst e2
    have ek : k_placeOf G (nI i) (nI a) = (0, (pf_place (G.1 i).1 (nI a)), G) := by
      unfold k_placeOf
      rw [nI_clamp (n := i) (by omega)]
      rw [if_neg (no_ix hi (by omega))]
      rw [if_neg (no_ix ha (by omega))]
    rw [ek] at c
    exact c _ _ _ hp
theorem MK_clear (hm : m_aw X zf y r G.1 As H n ow) (hx : m_cx X zf y G.1 As H n) (hG : okG G) (hr : r.2 = G.2.2.2.2) {t : Int32}
    (c : ∀ H1 n1 q1, m_post X zf y H n q (nI (k_clear G t).1, (k_clear G t).2.2.2.2.2.2) (k_clear G t).2.2.1 As H1 n1 q1 → P (.inl (some (.int (k_clear G t).2.1))) H1 n1 q1) : ev_ok (ev_TT X) 163 0 [.ref y, .int t, ev_J] [] H n q P := by
  obtain ⟨rt, r2⟩ := r
  dsimp only at hr
  subst hr
  refine MM_clear hm hx (fun hb H1 hp => ?_) (fun i hi e H1 n1 q1 hp => ?_)
  · skip
    have ek : k_clear G t = (1, 0, G) := by
      unfold k_clear
      rw [if_pos hb]
    rw [ek] at c
    exact c _ _ _ hp
  · skip
    subst e
    have ek : k_clear G (nI i) = (0, (nI (G.1 i).1.length), (pg_T G i (ps_row (G.1 i) [] (G.1 i).2.1.1 (G.1 i).2.1.2.1 (G.1 i).2.1.2.2.1 (G.1 i).2.1.2.2.2))) := by
      unfold k_clear
      rw [nI_clamp (n := i) (by omega)]
      rw [if_neg (no_ix hi (by omega))]
    rw [ek] at c
    exact c _ _ _ hp
theorem MK_size (hm : m_aw X zf y r G.1 As H n ow) (hx : m_cx X zf y G.1 As H n) (hG : okG G) (hr : r.2 = G.2.2.2.2) {t : Int32}
    (c : ∀ H1 n1 q1, m_post X zf y H n q (nI (k_size G t).1, (k_size G t).2.2.2.2.2.2) (k_size G t).2.2.1 As H1 n1 q1 → P (.inl (some (.int (k_size G t).2.1))) H1 n1 q1) : ev_ok (ev_TT X) 168 0 [.ref y, .int t] [] H n q P := by
  obtain ⟨rt, r2⟩ := r
  dsimp only at hr
  subst hr
  refine MM_size hm hx (fun hb H1 hp => ?_) (fun i hi e H1 hp => ?_)
  · skip
    have ek : k_size G t = (1, 0, G) := by
      unfold k_size
      rw [if_pos hb]
    rw [ek] at c
    exact c _ _ _ hp
  · skip
    subst e
    have ek : k_size G (nI i) = (0, (nI (G.1 i).1.length), G) := by
      unfold k_size
      rw [nI_clamp (n := i) (by omega)]
      rw [if_neg (no_ix hi (by omega))]
    rw [ek] at c
    exact c _ _ _ hp
theorem MK_keyAt (hm : m_aw X zf y r G.1 As H n ow) (hx : m_cx X zf y G.1 As H n) (hG : okG G) (hr : r.2 = G.2.2.2.2) {t p : Int32}
    (c : ∀ H1 n1 q1, m_post X zf y H n q (nI (k_keyAt G t p).1, (k_keyAt G t p).2.2.2.2.2.2) (k_keyAt G t p).2.2.1 As H1 n1 q1 → P (.inl (some (.int (k_keyAt G t p).2.1))) H1 n1 q1) : ev_ok (ev_TT X) 235 0 [.ref y, .int t, .int p] [] H n q P := by
  obtain ⟨rt, r2⟩ := r
  dsimp only at hr
  subst hr
  refine MM_keyAt hm hx (fun hb H1 hp => ?_) (fun i hi e H1 hp => ?_)
  · skip
    have ek : k_keyAt G t p = (1, 0, G) := by
      unfold k_keyAt
      rw [if_pos hb]
    rw [ek] at c
    exact c _ _ _ hp
  · skip
    subst e
    have ek : k_keyAt G (nI i) p = (0, (pr_told (G.1 i).1 p 0), G) := by
      unfold k_keyAt
      rw [nI_clamp (n := i) (by omega)]
      rw [if_neg (no_ix hi (by omega))]
    rw [ek] at c
    exact c _ _ _ hp
theorem MK_valueAt (hm : m_aw X zf y r G.1 As H n ow) (hx : m_cx X zf y G.1 As H n) (hG : okG G) (hr : r.2 = G.2.2.2.2) {t p : Int32}
    (c : ∀ H1 n1 q1, m_post X zf y H n q (nI (k_valueAt G t p).1, (k_valueAt G t p).2.2.2.2.2.2) (k_valueAt G t p).2.2.1 As H1 n1 q1 → P (.inl (some (.int (k_valueAt G t p).2.1))) H1 n1 q1) : ev_ok (ev_TT X) 243 0 [.ref y, .int t, .int p] [] H n q P := by
  obtain ⟨rt, r2⟩ := r
  dsimp only at hr
  subst hr
  refine MM_valueAt hm hx (fun hb H1 hp => ?_) (fun i hi e H1 hp => ?_)
  · skip
    have ek : k_valueAt G t p = (1, 0, G) := by
      unfold k_valueAt
      rw [if_pos hb]
    rw [ek] at c
    exact c _ _ _ hp
  · skip
    subst e
    have ek : k_valueAt G (nI i) p = (0, (pr_told (G.1 i).1 p 1), G) := by
      unfold k_valueAt
      rw [nI_clamp (n := i) (by omega)]
      rw [if_neg (no_ix hi (by omega))]
    rw [ek] at c
    exact c _ _ _ hp
theorem MK_pairAt (hm : m_aw X zf y r G.1 As H n ow) (hx : m_cx X zf y G.1 As H n) (hG : okG G) (hr : r.2 = G.2.2.2.2) {t p : Int32}
    (c : ∀ H1 n1 q1, m_post X zf y H n q (nI (k_pairAt G t p).1, (k_pairAt G t p).2.2.2.2.2.2) (k_pairAt G t p).2.2.1 As H1 n1 q1 → P (.inl (some (.int (k_pairAt G t p).2.1))) H1 n1 q1) : ev_ok (ev_TT X) 237 0 [.ref y, .int t, .int p] [] H n q P := by
  obtain ⟨rt, r2⟩ := r
  dsimp only at hr
  subst hr
  refine MM_pairAt hm hx (fun hb H1 hp => ?_) (fun i hi e H1 hp => ?_)
  · skip
    have ek : k_pairAt G t p = (1, 0, G) := by
      unfold k_pairAt
      rw [if_pos hb]
    rw [ek] at c
    exact c _ _ _ hp
  · skip
    subst e
    have ek : k_pairAt G (nI i) p = (0, (pr_told (G.1 i).1 p 2), G) := by
      unfold k_pairAt
      rw [nI_clamp (n := i) (by omega)]
      rw [if_neg (no_ix hi (by omega))]
    rw [ek] at c
    exact c _ _ _ hp
theorem MK_eldest (hm : m_aw X zf y r G.1 As H n ow) (hx : m_cx X zf y G.1 As H n) (hG : okG G) (hr : r.2 = G.2.2.2.2) {t : Int32}
    (c : ∀ H1 n1 q1, m_post X zf y H n q (nI (k_eldest G t).1, (k_eldest G t).2.2.2.2.2.2) (k_eldest G t).2.2.1 As H1 n1 q1 → P (.inl (some (.int (k_eldest G t).2.1))) H1 n1 q1) : ev_ok (ev_TT X) 232 0 [.ref y, .int t] [] H n q P := by
  obtain ⟨rt, r2⟩ := r
  dsimp only at hr
  subst hr
  refine MM_eldest hm hx (fun hb H1 hp => ?_) (fun i hi e H1 hp => ?_)
  · skip
    have ek : k_eldest G t = (1, 0, G) := by
      unfold k_eldest
      rw [if_pos hb]
    rw [ek] at c
    exact c _ _ _ hp
  · skip
    subst e
    have ek : k_eldest G (nI i) = (0, (pr_told (G.1 i).1 0 0), G) := by
      unfold k_eldest
      rw [nI_clamp (n := i) (by omega)]
      rw [if_neg (no_ix hi (by omega))]
    rw [ek] at c
    exact c _ _ _ hp
theorem MK_latest (hm : m_aw X zf y r G.1 As H n ow) (hx : m_cx X zf y G.1 As H n) (hG : okG G) (hr : r.2 = G.2.2.2.2) {t : Int32}
    (c : ∀ H1 n1 q1, m_post X zf y H n q (nI (k_latest G t).1, (k_latest G t).2.2.2.2.2.2) (k_latest G t).2.2.1 As H1 n1 q1 → P (.inl (some (.int (k_latest G t).2.1))) H1 n1 q1) : ev_ok (ev_TT X) 236 0 [.ref y, .int t] [] H n q P := by
  obtain ⟨rt, r2⟩ := r
  dsimp only at hr
  subst hr
  refine MM_latest hm hx (fun hb H1 hp => ?_) (fun i hi e H1 hp => ?_)
  · skip
    have ek : k_latest G t = (1, 0, G) := by
      unfold k_latest
      rw [if_pos hb]
    rw [ek] at c
    exact c _ _ _ hp
  · skip
    subst e
    have ek : k_latest G (nI i) = (0, (pr_told (G.1 i).1 (nI (G.1 i).1.length - 1) 0), G) := by
      unfold k_latest
      rw [nI_clamp (n := i) (by omega)]
      rw [if_neg (no_ix hi (by omega))]
    rw [ek] at c
    exact c _ _ _ hp
theorem MK_hasMore (hm : m_aw X zf y r G.1 As H n ow) (hx : m_cx X zf y G.1 As H n) (hG : okG G) (hr : r.2 = G.2.2.2.2) {t : Int32}
    (c : ∀ H1 n1 q1, m_post X zf y H n q (nI (k_hasMore G t).1, (k_hasMore G t).2.2.2.2.2.2) (k_hasMore G t).2.2.1 As H1 n1 q1 → P (.inl (some (.int (k_hasMore G t).2.1))) H1 n1 q1) : ev_ok (ev_TT X) 164 0 [.ref y, .int t] [] H n q P := by
  obtain ⟨rt, r2⟩ := r
  dsimp only at hr
  subst hr
  refine MM_hasMore hm hx (fun hb H1 hp => ?_) (fun i hi e H1 hp => ?_)
  · skip
    have ek : k_hasMore G t = (1, 0, G) := by
      unfold k_hasMore
      rw [if_pos hb]
    rw [ek] at c
    exact c _ _ _ hp
  · skip
    subst e
    have ek : k_hasMore G (nI i) = (0, (ev_bb (((G.1 i).2.2.1.1 && !(G.1 i).2.2.1.2.1) && decide ((G.1 i).2.2.2.2 < (G.1 i).1.length))), G) := by
      unfold k_hasMore
      rw [nI_clamp (n := i) (by omega)]
      rw [if_neg (no_ix hi (by omega))]
    rw [ek] at c
    exact c _ _ _ hp
theorem MK_isStale (hm : m_aw X zf y r G.1 As H n ow) (hx : m_cx X zf y G.1 As H n) (hG : okG G) (hr : r.2 = G.2.2.2.2) {t : Int32}
    (c : ∀ H1 n1 q1, m_post X zf y H n q (nI (k_isStale G t).1, (k_isStale G t).2.2.2.2.2.2) (k_isStale G t).2.2.1 As H1 n1 q1 → P (.inl (some (.int (k_isStale G t).2.1))) H1 n1 q1) : ev_ok (ev_TT X) 166 0 [.ref y, .int t] [] H n q P := by
  obtain ⟨rt, r2⟩ := r
  dsimp only at hr
  subst hr
  refine MM_isStale hm hx (fun hb H1 hp => ?_) (fun i hi e H1 hp => ?_)
  · skip
    have ek : k_isStale G t = (1, 0, G) := by
      unfold k_isStale
      rw [if_pos hb]
    rw [ek] at c
    exact c _ _ _ hp
  · skip
    subst e
    have ek : k_isStale G (nI i) = (0, (ev_bb ((G.1 i).2.2.1.1 && (G.1 i).2.2.1.2.1)), G) := by
      unfold k_isStale
      rw [nI_clamp (n := i) (by omega)]
      rw [if_neg (no_ix hi (by omega))]
    rw [ek] at c
    exact c _ _ _ hp
theorem MK_set (hm : m_aw X zf y r G.1 As H n ow) (hx : m_cx X zf y G.1 As H n) (hG : okG G) (hr : r.2 = G.2.2.2.2) {t p v : Int32}
    (c : ∀ H1 n1 q1, m_post X zf y H n q (nI (k_set G t p v).1, (k_set G t p v).2.2.2.2.2.2) (k_set G t p v).2.2.1 As H1 n1 q1 → P (.inl (some (.int (k_set G t p v).2.1))) H1 n1 q1) : ev_ok (ev_TT X) 213 0 [.ref y, .int t, .int p, .int v, ev_J] [] H n q P := by
  obtain ⟨rt, r2⟩ := r
  dsimp only at hr
  subst hr
  refine MM_set2 hm hx (fun hb H1 hp => ?_) (fun i hi e hb H1 hp => ?_) (fun i a hi e ha e2 hb H1 hp => ?_) (fun i j a hi e hj e2 ha e3 H1 n1 q1 hp => ?_)
  · skip
    have ek : k_set G t p v = (1, 0, G) := by
      unfold k_set
      rw [if_pos hb]
    rw [ek] at c
    exact c _ _ _ hp
  · skip
    subst e
    have ek : k_set G (nI i) p v = (2, 0, G) := by
      unfold k_set
      rw [nI_clamp (n := i) (by omega)]
      rw [if_neg (no_ix hi (by omega))]
      rw [if_pos hb]
    rw [ek] at c
    exact c _ _ _ hp
  · skip
    subst e
    subst e2
    have ek : k_set G (nI i) p (nI a) = (0, -9, pg_rf G) := by
      unfold k_set
      rw [nI_clamp (n := i) (by omega)]
      rw [if_neg (no_ix hi (by omega))]
      rw [if_neg (no_ix ha (by omega))]
      rw [if_pos hb]
    rw [ek] at c
    exact c _ _ _ hp
  · skip
    subst e
    subst e2
    subst e3
    have ek : k_set G (nI i) (nI j) (nI a) = (0, (pf_at (G.1 i).1 j).2, (pg_T G i (ps_gen ((G.1 i).1.set j ((pf_at (G.1 i).1 j).1, (nI a))) (G.1 i).2.1.1 (G.1 i).2.1.2.1 (G.1 i).2.1.2.2.1 (G.1 i).2.1.2.2.2 (G.1 i).2.2.1.1 (G.1 i).2.2.1.2.1 (G.1 i).2.2.1.2.2 (G.1 i).2.2.2.1 (G.1 i).2.2.2.2))) := by
      unfold k_set
      rw [nI_clamp (n := i) (by omega), nI_clamp (n := j) (by have := okL_len (hG.1 i hi).1; omega)]
      rw [if_neg (no_ix hi (by omega))]
      rw [if_neg (no_ix ha (by omega))]
      rw [if_neg (fun z => z ((ev_pl (okL_len (hG.1 i hi).1 |> fun z => by omega)).mpr ⟨j, hj, rfl⟩))]
    rw [ek] at c
    exact c _ _ _ hp
theorem MK_walk (hm : m_aw X zf y r G.1 As H n ow) (hx : m_cx X zf y G.1 As H n) (hG : okG G) (hr : r.2 = G.2.2.2.2) {t w : Int32}
    (c : ∀ H1 n1 q1, m_post X zf y H n q (nI (k_walk G t w).1, (k_walk G t w).2.2.2.2.2.2) (k_walk G t w).2.2.1 As H1 n1 q1 → P (.inl (some (.int (k_walk G t w).2.1))) H1 n1 q1) : ev_ok (ev_TT X) 170 0 [.ref y, .int t, .int w, ev_J] [] H n q P := by
  obtain ⟨rt, r2⟩ := r
  dsimp only at hr
  subst hr
  refine MM_walk hm hx (fun hb H1 hp => ?_) (fun i hi e hb H1 hp => ?_) (fun i a hi e ha e2 H1 n1 q1 hp => ?_)
  · skip
    have ek : k_walk G t w = (1, 0, G) := by
      unfold k_walk
      rw [if_pos hb]
    rw [ek] at c
    exact c _ _ _ hp
  · skip
    subst e
    have ek : k_walk G (nI i) w = (2, 0, G) := by
      unfold k_walk
      rw [nI_clamp (n := i) (by omega)]
      rw [if_neg (no_ix hi (by omega))]
      rw [if_pos hb]
    rw [ek] at c
    exact c _ _ _ hp
  · skip
    subst e
    subst e2
    have ek : k_walk G (nI i) (nI a) = (0, (nI (G.1 i).1.length), (pg_T G i (ps_gen (G.1 i).1 (G.1 i).2.1.1 (G.1 i).2.1.2.1 (G.1 i).2.1.2.2.1 (G.1 i).2.1.2.2.2 true false false (nI a) 0))) := by
      unfold k_walk
      rw [nI_clamp (n := i) (by omega)]
      rw [if_neg (no_ix hi (by omega))]
      rw [if_neg (no_ix ha (by omega))]
    rw [ek] at c
    exact c _ _ _ hp
theorem MK_ofTable (hm : m_aw X zf y r G.1 As H n ow) (hx : m_cx X zf y G.1 As H n) (hG : okG G) (hr : r.2 = G.2.2.2.2) {t w : Int32}
    (c : ∀ H1 n1 q1, m_post X zf y H n q (nI (k_ofTable G t w).1, (k_ofTable G t w).2.2.2.2.2.2) (k_ofTable G t w).2.2.1 As H1 n1 q1 → P (.inl (some (.int (k_ofTable G t w).2.1))) H1 n1 q1) : ev_ok (ev_TT X) 212 0 [.ref y, .int t, .int w] [] H n q P := by
  obtain ⟨rt, r2⟩ := r
  dsimp only at hr
  subst hr
  refine MM_ofTable hm hx (fun hb H1 hp => ?_) (fun i hi e hb H1 hp => ?_) (fun i a hi e ha e2 H1 n1 q1 hp => ?_)
  · skip
    have ek : k_ofTable G t w = (1, 0, G) := by
      unfold k_ofTable
      rw [if_pos hb]
    rw [ek] at c
    exact c _ _ _ hp
  · skip
    subst e
    have ek : k_ofTable G (nI i) w = (2, 0, G) := by
      unfold k_ofTable
      rw [nI_clamp (n := i) (by omega)]
      rw [if_neg (no_ix hi (by omega))]
      rw [if_pos hb]
    rw [ek] at c
    exact c _ _ _ hp
  · skip
    subst e
    subst e2
    have ek : k_ofTable G (nI i) (nI a) = (0, (pt_of (G.1 i) a), G) := by
      unfold k_ofTable
      rw [nI_clamp (n := i) (by omega), nI_clamp (n := a) (by omega)]
      rw [if_neg (no_ix hi (by omega))]
      rw [if_neg (no_ix ha (by omega))]
    rw [ek] at c
    exact c _ _ _ hp
theorem MK_step (hm : m_aw X zf y r G.1 As H n ow) (hx : m_cx X zf y G.1 As H n) (hG : okG G) (hr : r.2 = G.2.2.2.2) {t : Int32}
    (c : ∀ H1 n1 q1, m_post X zf y H n q (nI (k_step G t).1, (k_step G t).2.2.2.2.2.2) (k_step G t).2.2.1 As H1 n1 q1 → P (.inl (some (.int (k_step G t).2.1))) H1 n1 q1) : ev_ok (ev_TT X) 241 0 [.ref y, .int t, ev_J] [] H n q P := by
  obtain ⟨rt, r2⟩ := r
  dsimp only at hr
  subst hr
  refine MM_step hm hx (fun hb H1 hp => ?_) (fun i hi e hu H1 hp => ?_) (fun i hi e hu hv H1 hp => ?_) (fun i hi e hu hv H1 n1 q1 hp => ?_)
  · skip
    have ek : k_step G t = (1, 0, G) := by
      unfold k_step
      rw [if_pos hb]
    rw [ek] at c
    exact c _ _ _ hp
  · skip
    subst e
    have ek : k_step G (nI i) = (0, -9, pg_rf G) := by
      unfold k_step
      rw [nI_clamp (n := i) (by omega)]
      rw [if_neg (no_ix hi (by omega))]
      rw [if_pos hu]
    rw [ek] at c
    exact c _ _ _ hp
  · skip
    subst e
    have ek : k_step G (nI i) = (0, (-8), G) := by
      unfold k_step
      rw [nI_clamp (n := i) (by omega)]
      rw [if_neg (no_ix hi (by omega))]
      rw [if_neg (fun z => Bool.noConfusion (hu.symm.trans z))]
      rw [if_pos hv]
    rw [ek] at c
    exact c _ _ _ hp
  · skip
    subst e
    have ek : k_step G (nI i) = (0, (pr_told (G.1 i).1 (nI (G.1 i).2.2.2.2) (G.1 i).2.2.2.1), (pg_T G i (ps_gen (G.1 i).1 (G.1 i).2.1.1 (G.1 i).2.1.2.1 (G.1 i).2.1.2.2.1 (G.1 i).2.1.2.2.2 (G.1 i).2.2.1.1 (G.1 i).2.2.1.2.1 true (G.1 i).2.2.2.1 ((G.1 i).2.2.2.2 + 1)))) := by
      unfold k_step
      rw [nI_clamp (n := i) (by omega)]
      rw [if_neg (no_ix hi (by omega))]
      rw [if_neg (fun z => Bool.noConfusion (hu.symm.trans z))]
      rw [if_neg (fun z => z hv)]
    rw [ek] at c
    exact c _ _ _ hp
theorem MK_rest (hm : m_aw X zf y r G.1 As H n ow) (hx : m_cx X zf y G.1 As H n) (hG : okG G) (hr : r.2 = G.2.2.2.2) {t : Int32}
    (c : ∀ H1 n1 q1, m_post X zf y H n q (nI (k_rest G t).1, (k_rest G t).2.2.2.2.2.2) (k_rest G t).2.2.1 As H1 n1 q1 → P (.inl (some (.int (k_rest G t).2.1))) H1 n1 q1) : ev_ok (ev_TT X) 240 0 [.ref y, .int t, ev_J, ev_J] [] H n q P := by
  obtain ⟨rt, r2⟩ := r
  dsimp only at hr
  subst hr
  refine MM_rest hm hx (fun hb H1 hp => ?_) (fun i hi e hu H1 hp => ?_) (fun i hi e hu H1 n1 q1 hp => ?_)
  · skip
    have ek : k_rest G t = (1, 0, G) := by
      unfold k_rest
      rw [if_pos hb]
    rw [ek] at c
    exact c _ _ _ hp
  · skip
    subst e
    have ek : k_rest G (nI i) = (0, -9, pg_rf G) := by
      unfold k_rest
      rw [nI_clamp (n := i) (by omega)]
      rw [if_neg (no_ix hi (by omega))]
      rw [if_pos hu]
    rw [ek] at c
    exact c _ _ _ hp
  · skip
    subst e
    have ek : k_rest G (nI i) = (0, (pr_acc (G.1 i).1 (G.1 i).2.2.2.1 ((G.1 i).1.length - (G.1 i).2.2.2.2) (G.1 i).2.2.2.2 0), (pg_T G i (ps_gen (G.1 i).1 (G.1 i).2.1.1 (G.1 i).2.1.2.1 (G.1 i).2.1.2.2.1 (G.1 i).2.1.2.2.2 (G.1 i).2.2.1.1 (G.1 i).2.2.1.2.1 ((G.1 i).2.2.1.2.2 || decide (0 < (G.1 i).1.length - (G.1 i).2.2.2.2)) (G.1 i).2.2.2.1 (G.1 i).1.length))) := by
      unfold k_rest
      rw [nI_clamp (n := i) (by omega)]
      rw [if_neg (no_ix hi (by omega))]
      rw [if_neg (fun z => Bool.noConfusion (hu.symm.trans z))]
    rw [ek] at c
    exact c _ _ _ hp
theorem MK_cut (hm : m_aw X zf y r G.1 As H n ow) (hx : m_cx X zf y G.1 As H n) (hG : okG G) (hr : r.2 = G.2.2.2.2) {t : Int32}
    (c : ∀ H1 n1 q1, m_post X zf y H n q (nI (k_cut G t).1, (k_cut G t).2.2.2.2.2.2) (k_cut G t).2.2.1 As H1 n1 q1 → P (.inl (some (.int (k_cut G t).2.1))) H1 n1 q1) : ev_ok (ev_TT X) 211 0 [.ref y, .int t, ev_J] [] H n q P := by
  obtain ⟨rt, r2⟩ := r
  dsimp only at hr
  subst hr
  refine MM_cut hm hx (fun hb H1 hp => ?_) (fun i hi e hu H1 hp => ?_) (fun i kk hi e hu hk1 hk2 H1 n1 q1 hp => ?_)
  · skip
    have ek : k_cut G t = (1, 0, G) := by
      unfold k_cut
      rw [if_pos hb]
    rw [ek] at c
    exact c _ _ _ hp
  · skip
    subst e
    have ek : k_cut G (nI i) = (0, -9, pg_rf G) := by
      unfold k_cut
      rw [nI_clamp (n := i) (by omega)]
      rw [if_neg (no_ix hi (by omega))]
      rw [if_pos hu]
    rw [ek] at c
    exact c _ _ _ hp
  · skip
    subst e
    have ek : k_cut G (nI i) = (0, (nI ((G.1 i).1.eraseIdx kk).length), (pg_T G i (ps_gen ((G.1 i).1.eraseIdx kk) (G.1 i).2.1.1 (G.1 i).2.1.2.1 (G.1 i).2.1.2.2.1 (G.1 i).2.1.2.2.2 (G.1 i).2.2.1.1 (G.1 i).2.2.1.2.1 false (G.1 i).2.2.2.1 kk))) := by
      unfold k_cut
      rw [nI_clamp (n := i) (by omega), show (G.1 i).2.2.2.2 - 1 = kk from by omega]
      rw [if_neg (no_ix hi (by omega))]
      rw [if_neg (fun z => Bool.noConfusion (hu.symm.trans z))]
    rw [ek] at c
    exact c _ _ _ hp
end L77
end
section
/-! ===== what the outcomes keep ===== -/
theorem okV_g {a : Nat} (h : a < 100) : nI a ∈ (List.range 100).map nI := List.mem_map.mpr ⟨a, List.mem_range.mpr h, rfl⟩
theorem okV_nil : okV [] := fun x hx => absurd hx List.not_mem_nil
theorem okV_app {L : ev_PL} (h : okV L) {k v : Int32} (hv : v ∈ (List.range 100).map nI) : okV (L ++ [(k, v)]) := fun x hx => by
  rcases List.mem_append.mp hx with hx | hx
  · exact h x hx
  · rw [List.mem_singleton.mp hx]; exact hv
theorem okV_del {L : ev_PL} (h : okV L) (j : Nat) : okV (L.eraseIdx j) := fun x hx => h x (List.mem_of_mem_eraseIdx hx)
theorem okV_set {L : ev_PL} (h : okV L) (j : Nat) {k v : Int32} (hv : v ∈ (List.range 100).map nI) : okV (L.set j (k, v)) := fun x hx => by
  rcases List.mem_or_eq_of_mem_set hx with hx | hx
  · exact h x hx
  · rw [hx]; exact hv
theorem okV_ask {L : ev_PL} (h : okV L) (b : Int32) {j : Nat} (hj : j < L.length) : okV (pr_ask L b j) := by
  unfold pr_ask
  split
  · exact h
  · obtain ⟨a, ha, e⟩ := okV_at h hj
    exact okV_app (okV_del h j) (k := (pf_at L j).1) (v := (pf_at L j).2) (by rw [e]; exact okV_g ha)
theorem okV_take {L : ev_PL} (h : okV L) {v : Int32} (hv : v ∈ (List.range 100).map nI) (m lm ll k : Int32) : okV (pr_take L m lm ll k v).1 := by
  unfold pr_take
  split
  · exact okV_del (okV_app h hv) 0
  · exact okV_app h hv
theorem okV_bring {L : ev_PL} (h : okV L) {v : Int32} (hv : v ∈ (List.range 100).map nI) (b m lm ll k : Int32) : okV (pr_bring L b m lm ll k v).2.1 := by
  unfold pr_bring
  rcases e : pf_find L k with _ | j
  · exact okV_take h hv m lm ll k
  · have hj := (pf_find_s e).1
    exact okV_ask (okV_set h j hv) b (by rw [List.length_set]; exact hj)
theorem okV_bia {L : ev_PL} (h : okV L) {v : Int32} (hv : v ∈ (List.range 100).map nI) (b m lm ll k : Int32) : okV (pr_bia L b m lm ll k v).2.1 := by
  unfold pr_bia
  rcases e : pf_find L k with _ | j
  · exact okV_take h hv m lm ll k
  · exact okV_ask h b (pf_find_s e).1
theorem okV_fetch {L : ev_PL} (h : okV L) (b k o : Int32) : okV (pr_fetch L b k o).2 := by
  unfold pr_fetch
  rcases e : pf_find L k with _ | j
  · exact h
  · exact okV_ask h b (pf_find_s e).1
theorem okV_drop {L : ev_PL} (h : okV L) (k : Int32) : okV (pr_drop L k).2 := by
  unfold pr_drop
  rcases e : pf_find L k with _ | j
  · exact h
  · exact okV_del h j
def kd_ok (k : Int32) : Prop := k = 0 ∨ k = 1 ∨ k = 2
theorem pm_le {m : Int32} {a b : Nat} (h : ¬ pr_above m a) (hle : b ≤ a) (ha : a < 2 ^ 31) : ¬ pr_above m b := fun z => h fun w => z (w.elim Or.inl fun w => Or.inr (Int32.le_trans (nI_le hle ha) w))
theorem pm_eq {m : Int32} {a b : Nat} (h : ¬ pr_above m a) (e : b = a) : ¬ pr_above m b := by rw [e]; exact h
theorem pm_mk {m : Int32} (h : ¬ (¬ m = -1 ∧ (m < 1 ∨ 12 < m))) : ¬ pr_above m ([] : ev_PL).length := fun z => z (by
  by_cases e : m = -1
  · exact Or.inl e
  · refine Or.inr (Int32.le_trans (show nI 0 ≤ 1 from by decide) (Int32.not_lt.mp fun w => h ⟨e, Or.inl w⟩)))
theorem pm_askl {L : ev_PL} {b : Int32} {j : Nat} (hj : j < L.length) : (pr_ask L b j).length = L.length := by
  unfold pr_ask
  split
  · rfl
  · rw [List.length_append, List.length_singleton, List.length_eraseIdx, if_pos hj]; omega
theorem pm_take {L : ev_PL} {m lm ll k v : Int32} (h : ¬ pr_above m L.length) : ¬ pr_above m (pr_take L m lm ll k v).1.length := by
  unfold pr_take
  split
  · refine pm_eq h ?_
    show ((L ++ [(k, v)]).eraseIdx 0).length = _
    rw [List.length_eraseIdx, List.length_append, List.length_singleton, if_pos (by omega)]; omega
  · rename_i hn
    refine pm_eq hn ?_
    show (L ++ [(k, v)]).length = _
    rw [List.length_append, List.length_singleton]
theorem pm_bring {L : ev_PL} {b m lm ll k v : Int32} (h : ¬ pr_above m L.length) : ¬ pr_above m (pr_bring L b m lm ll k v).2.1.length := by
  unfold pr_bring
  rcases e : pf_find L k with _ | j
  · exact pm_take h
  · have hj := (pf_find_s e).1
    refine pm_eq h ?_
    show (pr_ask (L.set j ((pf_at L j).1, v)) b j).length = _
    rw [pm_askl (by rw [List.length_set]; exact hj), List.length_set]
theorem pm_bia {L : ev_PL} {b m lm ll k v : Int32} (h : ¬ pr_above m L.length) : ¬ pr_above m (pr_bia L b m lm ll k v).2.1.length := by
  unfold pr_bia
  rcases e : pf_find L k with _ | j
  · exact pm_take h
  · exact pm_eq h (pm_askl (pf_find_s e).1)
theorem pm_fetch {L : ev_PL} {b m k o : Int32} (h : ¬ pr_above m L.length) : ¬ pr_above m (pr_fetch L b k o).2.length := by
  unfold pr_fetch
  rcases e : pf_find L k with _ | j
  · exact h
  · exact pm_eq h (pm_askl (pf_find_s e).1)
theorem pm_del {L : ev_PL} {m : Int32} (h : ¬ pr_above m L.length) (hl : L.length ≤ 20) (j : Nat) : ¬ pr_above m (L.eraseIdx j).length := by
  refine pm_le h ?_ (by omega)
  rw [List.length_eraseIdx]
  split <;> omega
theorem pm_drop {L : ev_PL} {m k : Int32} (h : ¬ pr_above m L.length) (hl : L.length ≤ 20) : ¬ pr_above m (pr_drop L k).2.length := by
  unfold pr_drop
  rcases e : pf_find L k with _ | j
  · exact h
  · exact pm_del h hl j
def jG (G : ev_CS) : Prop := okG G ∧ (∀ i, i < 4 → okV (G.1 i).1) ∧ ∀ i, i < 4 → ((G.1 i).2.2.2.1 = 0 ∨ (G.1 i).2.2.2.1 = 1 ∨ (G.1 i).2.2.2.1 = 2) ∧ ¬ pr_above (G.1 i).2.1.2.1 (G.1 i).1.length
/-- what a call on tables leaves as it is -/
def jE (G G1 : ev_CS) : Prop := G1.2.1 = G.2.1 ∧ G1.2.2.1 = G.2.2.1 ∧ G1.2.2.2.1 = G.2.2.2.1 ∧ G1.2.2.2.2.2 = G.2.2.2.2.2
theorem jE_r {G : ev_CS} : jE G G := ⟨rfl, rfl, rfl, rfl⟩
theorem jE_T {G : ev_CS} {i : Nat} {s : ev_TS} : jE G (pg_T G i s) := ⟨rfl, rfl, rfl, rfl⟩
theorem jE_rf {G : ev_CS} : jE G (pg_rf G) := ⟨rfl, rfl, rfl, rfl⟩
theorem jG_rf {G : ev_CS} (h : jG G) : jG (pg_rf G) := h
theorem jG_T {G : ev_CS} (h : jG G) {i : Nat} {s : ev_TS} (h1 : okT s) (h2 : okV s.1) (h3 : s.2.2.2.1 = 0 ∨ s.2.2.2.1 = 1 ∨ s.2.2.2.1 = 2) (h4 : ¬ pr_above s.2.1.2.1 s.1.length) : jG (pg_T G i s) := by
  refine ⟨okG_T h.1 h1, fun j hj => ?_, fun j hj => ?_⟩
  · show okV (if j = i then s else G.1 j).1
    split
    · exact h2
    · exact h.2.1 j hj
  · show ((if j = i then s else G.1 j).2.2.2.1 = 0 ∨ (if j = i then s else G.1 j).2.2.2.1 = 1 ∨ (if j = i then s else G.1 j).2.2.2.1 = 2) ∧ ¬ pr_above (if j = i then s else G.1 j).2.1.2.1 (if j = i then s else G.1 j).1.length
    split
    · exact ⟨h3, h4⟩
    · exact h.2.2 j hj
theorem ix_of {t : Int32} {N : Nat} (hN : N < 2 ^ 31) (h : ¬ (t < 0 ∨ nI N ≤ t)) : ∃ i, i < N ∧ t = nI i := by
  rcases pk_ix t (n := N) hN with h1 | h1 | h1
  · exact absurd (Or.inl h1) h
  · exact absurd (Or.inr h1) h
  · exact h1
theorem ix_k {t : Int32} {N : Nat} (hN : N < 2 ^ 31) (h : ¬ (t < 0 ∨ nI N ≤ t)) : t ∈ (List.range N).map nI := by
  obtain ⟨i, hi, rfl⟩ := ix_of hN h
  exact List.mem_map.mpr ⟨i, List.mem_range.mpr hi, rfl⟩
theorem kd_of {w : Int32} (h : ¬ (w < 0 ∨ nI 3 ≤ w)) : w = 0 ∨ w = 1 ∨ w = 2 := by
  obtain ⟨i, hi, rfl⟩ := ix_of (by omega) h
  have : i = 0 ∨ i = 1 ∨ i = 2 := by omega
  rcases this with rfl | rfl | rfl
  · exact Or.inl rfl
  · exact Or.inr (Or.inl rfl)
  · exact Or.inr (Or.inr rfl)
section L78
variable {G : ev_CS}
theorem rest_c {k n : Nat} {c : Bool} (h : k ≤ n ∧ (c = true → 1 ≤ k)) (z : (c || decide (0 < n - k)) = true) : 1 ≤ n := by
  rcases (Bool.or_eq_true _ _).mp z with e | e
  · have := h.2 e; omega
  · have := of_decide_eq_true e; omega
theorem cut_d {b c : Bool} (h : ¬ (b && c) = false) : c = true := by
  cases b <;> cases c <;> simp at h ⊢
theorem cut_c {L : ev_PL} {k : Nat} {c : Bool} (h : k ≤ L.length ∧ (c = true → 1 ≤ k)) (z : c = true) : k - 1 ≤ (L.eraseIdx (k - 1)).length := by
  have := h.2 z
  rw [List.length_eraseIdx_of_lt (by omega)]
  omega
theorem JK_make (hJ : jG G) {t b1 m1 : Int32} (hb1 : ev_isB b1) : jG (k_make G t b1 m1).2.2 ∧ jE G (k_make G t b1 m1).2.2 := by
  unfold k_make
  split
  · exact ⟨hJ, jE_r⟩
  · rename_i h1
    split
    · exact ⟨hJ, jE_r⟩
    · rename_i h2
      obtain ⟨i, hi, rfl⟩ := ix_of (by omega) h1
      rw [nI_clamp (n := i) (by omega)] at *
      exact ⟨jG_T hJ (okT_row (hJ.1.1 i hi) okL_nil hb1 _ _ _) (okV_nil) (hJ.2.2 i hi).1 (pm_mk h2), jE_T⟩
theorem JK_put (hJ : jG G) {t k v : Int32} : jG (k_put G t k v).2.2 ∧ jE G (k_put G t k v).2.2 := by
  unfold k_put
  split
  · exact ⟨hJ, jE_r⟩
  · rename_i h1
    split
    · exact ⟨hJ, jE_r⟩
    · rename_i h2
      obtain ⟨i, hi, rfl⟩ := ix_of (by omega) h1
      rw [nI_clamp (n := i) (by omega)] at *
      exact ⟨jG_T hJ (okT_old (hJ.1.1 i hi) (okL_bring (hJ.1.1 i hi).1 (ix_k (by omega) (fun z => h2 (Or.inl z))) _ _ _ _ _) _ _) (okV_bring (hJ.2.1 i hi) (ix_k (by omega) (fun z => h2 (Or.inr z))) _ _ _ _ _) (hJ.2.2 i hi).1 (pm_bring (hJ.2.2 i hi).2), jE_T⟩
theorem JK_putIfAbsent (hJ : jG G) {t k v : Int32} : jG (k_putIfAbsent G t k v).2.2 ∧ jE G (k_putIfAbsent G t k v).2.2 := by
  unfold k_putIfAbsent
  split
  · exact ⟨hJ, jE_r⟩
  · rename_i h1
    split
    · exact ⟨hJ, jE_r⟩
    · rename_i h2
      split
      · exact ⟨hJ, jE_r⟩
      · rename_i h3
        obtain ⟨i, hi, rfl⟩ := ix_of (by omega) h1
        rw [nI_clamp (n := i) (by omega)] at *
        exact ⟨jG_T hJ (okT_row (hJ.1.1 i hi) (okL_bia (hJ.1.1 i hi).1 (ix_k (by omega) (fun z => h2 (Or.inl z))) _ _ _ _ _) (hJ.1.1 i hi).2.1 _ _ _) (okV_bia (hJ.2.1 i hi) (ix_k (by omega) (fun z => h2 (Or.inr z))) _ _ _ _ _) (hJ.2.2 i hi).1 (pm_bia (hJ.2.2 i hi).2), jE_T⟩
theorem JK_get (hJ : jG G) {t k : Int32} : jG (k_get G t k).2.2 ∧ jE G (k_get G t k).2.2 := by
  unfold k_get
  split
  · exact ⟨hJ, jE_r⟩
  · rename_i h1
    split
    · exact ⟨hJ, jE_r⟩
    · rename_i h2
      obtain ⟨i, hi, rfl⟩ := ix_of (by omega) h1
      rw [nI_clamp (n := i) (by omega)] at *
      exact ⟨jG_T hJ (okT_row (hJ.1.1 i hi) (okL_fetch (hJ.1.1 i hi).1 _ _ _) (hJ.1.1 i hi).2.1 _ _ _) (okV_fetch (hJ.2.1 i hi) _ _ _) (hJ.2.2 i hi).1 (pm_fetch (hJ.2.2 i hi).2), jE_T⟩
theorem JK_getOr (hJ : jG G) {t k o1 : Int32} : jG (k_getOr G t k o1).2.2 ∧ jE G (k_getOr G t k o1).2.2 := by
  unfold k_getOr
  split
  · exact ⟨hJ, jE_r⟩
  · rename_i h1
    split
    · exact ⟨hJ, jE_r⟩
    · rename_i h2
      obtain ⟨i, hi, rfl⟩ := ix_of (by omega) h1
      rw [nI_clamp (n := i) (by omega)] at *
      exact ⟨jG_T hJ (okT_row (hJ.1.1 i hi) (okL_fetch (hJ.1.1 i hi).1 _ _ _) (hJ.1.1 i hi).2.1 _ _ _) (okV_fetch (hJ.2.1 i hi) _ _ _) (hJ.2.2 i hi).1 (pm_fetch (hJ.2.2 i hi).2), jE_T⟩
theorem JK_remove (hJ : jG G) {t k : Int32} : jG (k_remove G t k).2.2 ∧ jE G (k_remove G t k).2.2 := by
  unfold k_remove
  split
  · exact ⟨hJ, jE_r⟩
  · rename_i h1
    split
    · exact ⟨hJ, jE_r⟩
    · rename_i h2
      obtain ⟨i, hi, rfl⟩ := ix_of (by omega) h1
      rw [nI_clamp (n := i) (by omega)] at *
      exact ⟨jG_T hJ (okT_row (hJ.1.1 i hi) (okL_drop (hJ.1.1 i hi).1 _) (hJ.1.1 i hi).2.1 _ _ _) (okV_drop (hJ.2.1 i hi) _) (hJ.2.2 i hi).1 (pm_drop (hJ.2.2 i hi).2 (okL_len (hJ.1.1 i hi).1)), jE_T⟩
theorem JK_has (hJ : jG G) {t k : Int32} : jG (k_has G t k).2.2 ∧ jE G (k_has G t k).2.2 := by
  unfold k_has
  split
  · exact ⟨hJ, jE_r⟩
  · rename_i h1
    split
    · exact ⟨hJ, jE_r⟩
    · rename_i h2
      exact ⟨hJ, jE_r⟩
theorem JK_placeOf (hJ : jG G) {t k : Int32} : jG (k_placeOf G t k).2.2 ∧ jE G (k_placeOf G t k).2.2 := by
  unfold k_placeOf
  split
  · exact ⟨hJ, jE_r⟩
  · rename_i h1
    split
    · exact ⟨hJ, jE_r⟩
    · rename_i h2
      exact ⟨hJ, jE_r⟩
theorem JK_clear (hJ : jG G) {t : Int32} : jG (k_clear G t).2.2 ∧ jE G (k_clear G t).2.2 := by
  unfold k_clear
  split
  · exact ⟨hJ, jE_r⟩
  · rename_i h1
    obtain ⟨i, hi, rfl⟩ := ix_of (by omega) h1
    rw [nI_clamp (n := i) (by omega)] at *
    exact ⟨jG_T hJ (okT_row (hJ.1.1 i hi) okL_nil (hJ.1.1 i hi).2.1 _ _ _) (okV_nil) (hJ.2.2 i hi).1 (pm_le (hJ.2.2 i hi).2 (Nat.zero_le _) (by have := okL_len (hJ.1.1 i hi).1; omega)), jE_T⟩
theorem JK_size (hJ : jG G) {t : Int32} : jG (k_size G t).2.2 ∧ jE G (k_size G t).2.2 := by
  unfold k_size
  split
  · exact ⟨hJ, jE_r⟩
  · rename_i h1
    exact ⟨hJ, jE_r⟩
theorem JK_keyAt (hJ : jG G) {t p : Int32} : jG (k_keyAt G t p).2.2 ∧ jE G (k_keyAt G t p).2.2 := by
  unfold k_keyAt
  split
  · exact ⟨hJ, jE_r⟩
  · rename_i h1
    exact ⟨hJ, jE_r⟩
theorem JK_valueAt (hJ : jG G) {t p : Int32} : jG (k_valueAt G t p).2.2 ∧ jE G (k_valueAt G t p).2.2 := by
  unfold k_valueAt
  split
  · exact ⟨hJ, jE_r⟩
  · rename_i h1
    exact ⟨hJ, jE_r⟩
theorem JK_pairAt (hJ : jG G) {t p : Int32} : jG (k_pairAt G t p).2.2 ∧ jE G (k_pairAt G t p).2.2 := by
  unfold k_pairAt
  split
  · exact ⟨hJ, jE_r⟩
  · rename_i h1
    exact ⟨hJ, jE_r⟩
theorem JK_eldest (hJ : jG G) {t : Int32} : jG (k_eldest G t).2.2 ∧ jE G (k_eldest G t).2.2 := by
  unfold k_eldest
  split
  · exact ⟨hJ, jE_r⟩
  · rename_i h1
    exact ⟨hJ, jE_r⟩
theorem JK_latest (hJ : jG G) {t : Int32} : jG (k_latest G t).2.2 ∧ jE G (k_latest G t).2.2 := by
  unfold k_latest
  split
  · exact ⟨hJ, jE_r⟩
  · rename_i h1
    exact ⟨hJ, jE_r⟩
theorem JK_hasMore (hJ : jG G) {t : Int32} : jG (k_hasMore G t).2.2 ∧ jE G (k_hasMore G t).2.2 := by
  unfold k_hasMore
  split
  · exact ⟨hJ, jE_r⟩
  · rename_i h1
    exact ⟨hJ, jE_r⟩
theorem JK_isStale (hJ : jG G) {t : Int32} : jG (k_isStale G t).2.2 ∧ jE G (k_isStale G t).2.2 := by
  unfold k_isStale
  split
  · exact ⟨hJ, jE_r⟩
  · rename_i h1
    exact ⟨hJ, jE_r⟩
theorem JK_set (hJ : jG G) {t p v : Int32} : jG (k_set G t p v).2.2 ∧ jE G (k_set G t p v).2.2 := by
  unfold k_set
  split
  · exact ⟨hJ, jE_r⟩
  · rename_i h1
    split
    · exact ⟨hJ, jE_r⟩
    · rename_i h2
      split
      · exact ⟨jG_rf hJ, jE_rf⟩
      · rename_i h3
        obtain ⟨i, hi, rfl⟩ := ix_of (by omega) h1
        rw [nI_clamp (n := i) (by omega)] at *
        rw [Classical.not_not] at h3
        obtain ⟨j, hj, rfl⟩ := (ev_pl (by have := okL_len (hJ.1.1 i hi).1; omega)).mp h3
        rw [nI_clamp (n := j) (by have := okL_len (hJ.1.1 i hi).1; omega)]
        exact ⟨jG_T hJ (⟨okL_set (hJ.1.1 i hi).1 hj _, (hJ.1.1 i hi).2.1, (hJ.1.1 i hi).2.2.1, fun a b => by rw [show (ps_gen ((G.1 i).1.set j ((pf_at (G.1 i).1 j).1, v)) (G.1 i).2.1.1 (G.1 i).2.1.2.1 (G.1 i).2.1.2.2.1 (G.1 i).2.1.2.2.2 (G.1 i).2.2.1.1 (G.1 i).2.2.1.2.1 (G.1 i).2.2.1.2.2 (G.1 i).2.2.2.1 (G.1 i).2.2.2.2).1 = (G.1 i).1.set j ((pf_at (G.1 i).1 j).1, v) from rfl, List.length_set]; exact (hJ.1.1 i hi).2.2.2 a b⟩) (okV_set (hJ.2.1 i hi) _ (ix_k (by omega) h2)) (hJ.2.2 i hi).1 (pm_eq (hJ.2.2 i hi).2 List.length_set), jE_T⟩
theorem JK_walk (hJ : jG G) {t w : Int32} : jG (k_walk G t w).2.2 ∧ jE G (k_walk G t w).2.2 := by
  unfold k_walk
  split
  · exact ⟨hJ, jE_r⟩
  · rename_i h1
    split
    · exact ⟨hJ, jE_r⟩
    · rename_i h2
      obtain ⟨i, hi, rfl⟩ := ix_of (by omega) h1
      rw [nI_clamp (n := i) (by omega)] at *
      exact ⟨jG_T hJ (⟨(hJ.1.1 i hi).1, (hJ.1.1 i hi).2.1, Nat.zero_le 20, fun _ _ => ⟨Nat.zero_le _, fun z => by cases z⟩⟩) ((hJ.2.1 i hi)) (kd_of h2) (hJ.2.2 i hi).2, jE_T⟩
theorem JK_ofTable (hJ : jG G) {t w : Int32} : jG (k_ofTable G t w).2.2 ∧ jE G (k_ofTable G t w).2.2 := by
  unfold k_ofTable
  split
  · exact ⟨hJ, jE_r⟩
  · rename_i h1
    split
    · exact ⟨hJ, jE_r⟩
    · rename_i h2
      exact ⟨hJ, jE_r⟩
theorem JK_step (hJ : jG G) {t : Int32} : jG (k_step G t).2.2 ∧ jE G (k_step G t).2.2 := by
  unfold k_step
  split
  · exact ⟨hJ, jE_r⟩
  · rename_i h1
    split
    · exact ⟨jG_rf hJ, jE_rf⟩
    · rename_i h2
      split
      · exact ⟨hJ, jE_r⟩
      · rename_i h3
        obtain ⟨i, hi, rfl⟩ := ix_of (by omega) h1
        rw [nI_clamp (n := i) (by omega)] at *
        rw [Classical.not_not] at h3
        exact ⟨jG_T hJ (⟨(hJ.1.1 i hi).1, (hJ.1.1 i hi).2.1, by have := okL_len (hJ.1.1 i hi).1; show (G.1 i).2.2.2.2 + 1 ≤ 20; omega, fun _ _ => ⟨by show (G.1 i).2.2.2.2 + 1 ≤ (G.1 i).1.length; omega, fun _ => by show 1 ≤ (G.1 i).2.2.2.2 + 1; omega⟩⟩) ((hJ.2.1 i hi)) (hJ.2.2 i hi).1 (hJ.2.2 i hi).2, jE_T⟩
theorem JK_rest (hJ : jG G) {t : Int32} : jG (k_rest G t).2.2 ∧ jE G (k_rest G t).2.2 := by
  unfold k_rest
  split
  · exact ⟨hJ, jE_r⟩
  · rename_i h1
    split
    · exact ⟨jG_rf hJ, jE_rf⟩
    · rename_i h2
      obtain ⟨i, hi, rfl⟩ := ix_of (by omega) h1
      rw [nI_clamp (n := i) (by omega)] at *
      exact ⟨jG_T hJ (⟨(hJ.1.1 i hi).1, (hJ.1.1 i hi).2.1, okL_len (hJ.1.1 i hi).1, fun a b => ⟨Nat.le_refl _, fun z => rest_c ((hJ.1.1 i hi).2.2.2 a b) z⟩⟩) ((hJ.2.1 i hi)) (hJ.2.2 i hi).1 (hJ.2.2 i hi).2, jE_T⟩
theorem JK_cut (hJ : jG G) {t : Int32} : jG (k_cut G t).2.2 ∧ jE G (k_cut G t).2.2 := by
  unfold k_cut
  split
  · exact ⟨hJ, jE_r⟩
  · rename_i h1
    split
    · exact ⟨jG_rf hJ, jE_rf⟩
    · rename_i h2
      obtain ⟨i, hi, rfl⟩ := ix_of (by omega) h1
      rw [nI_clamp (n := i) (by omega)] at *
      exact ⟨jG_T hJ (⟨okL_del (hJ.1.1 i hi).1 _, (hJ.1.1 i hi).2.1, by have := (hJ.1.1 i hi).2.2.1; show (G.1 i).2.2.2.2 - 1 ≤ 20; omega, fun a b => ⟨cut_c ((hJ.1.1 i hi).2.2.2 a b) (cut_d h2), fun z => by cases z⟩⟩) (okV_del (hJ.2.1 i hi) _) (hJ.2.2 i hi).1 (pm_del (hJ.2.2 i hi).2 (okL_len (hJ.1.1 i hi).1) _), jE_T⟩
end L78
end
section
/-! ===== the askings: depths by place; the row of those asked last; a keeper's row ===== -/
def dp (As : List Nat) : Nat → Nat → Nat
  | 0, _ => 0
  | p + 1, a => if As.getD p 0 = a then 1 else if dp As p a = 0 then 0 else if ¬ dp As p (As.getD p 0) = 0 ∧ dp As p (As.getD p 0) < dp As p a then dp As p a else dp As p a + 1
theorem dp_s (As : List Nat) (p a : Nat) : dp As (p + 1) a = if As.getD p 0 = a then 1 else if dp As p a = 0 then 0 else if ¬ dp As p (As.getD p 0) = 0 ∧ dp As p (As.getD p 0) < dp As p a then dp As p a else dp As p a + 1 := rfl
theorem mb_s (As : List Nat) (a p : Nat) : mb As a (p + 1) = if As.getD p 0 = a then some p else mb As a p := rfl
theorem dp_ne {As : List Nat} : ∀ {p a b : Nat}, ¬ a = b → ¬ dp As p a = 0 → ¬ dp As p b = 0 → ¬ dp As p a = dp As p b := by
  intro p
  induction p with
  | zero => intro a b _ h; exact absurd rfl h
  | succ p ih =>
    intro a b hab
    have h1 := @ih a b hab
    have h2 := @ih (As.getD p 0) a
    have h3 := @ih (As.getD p 0) b
    rw [dp_s, dp_s]
    by_cases ea : As.getD p 0 = a
    · by_cases eb : As.getD p 0 = b
      · exact absurd (ea.symm.trans eb) hab
      · have h3 := h3 eb
        rw [if_pos ea, if_neg eb]
        (repeat' split) <;> omega
    · have h2 := h2 ea
      by_cases eb : As.getD p 0 = b
      · rw [if_neg ea, if_pos eb]
        (repeat' split) <;> omega
      · have h3 := h3 eb
        rw [if_neg ea, if_neg eb]
        (repeat' split) <;> omega
theorem dp_mb {As : List Nat} {a : Nat} : ∀ {p : Nat}, (mb As a p = none → dp As p a = 0) ∧ ∀ l, mb As a p = some l → ¬ dp As p a = 0 := by
  intro p
  induction p with
  | zero => exact ⟨fun _ => rfl, fun l h => by cases h⟩
  | succ p ih =>
    rw [dp_s, mb_s]
    by_cases ea : As.getD p 0 = a
    · rw [if_pos ea, if_pos ea]
      exact ⟨fun h => (by cases h), fun l _ => by omega⟩
    · rw [if_neg ea, if_neg ea]
      refine ⟨fun h => by rw [if_pos (ih.1 h)], fun l h => ?_⟩
      have := ih.2 l h
      rw [if_neg this]
      split <;> omega
theorem dp_sort {As : List Nat} : ∀ {p a b la lb : Nat}, mb As a p = some la → mb As b p = some lb → lb < la → dp As p a < dp As p b := by
  intro p
  induction p with
  | zero => intro a b la lb h; cases h
  | succ p ih =>
    intro a b la lb ha hb hlt
    have na := (dp_mb (As := As) (a := a) (p := p)).2
    have nb := (dp_mb (As := As) (a := b) (p := p)).2
    rw [mb_s] at ha hb
    rw [dp_s, dp_s]
    by_cases ea : As.getD p 0 = a
    · rw [if_pos ea] at ha
      cases ha
      by_cases eb : As.getD p 0 = b
      · rw [if_pos eb] at hb
        cases hb
        omega
      · rw [if_neg eb] at hb
        have h2 := nb lb hb
        have h3 := dp_ne (As := As) (p := p) eb
        rw [if_pos ea, if_neg eb, if_neg h2]
        split <;> omega
    · rw [if_neg ea] at ha
      by_cases eb : As.getD p 0 = b
      · rw [if_pos eb] at hb
        cases hb
        have := mb_lt ha
        omega
      · rw [if_neg eb] at hb
        have h1 := ih ha hb hlt
        have h2 := na la ha
        have h3 := nb lb hb
        have h4 := dp_ne (As := As) (p := p) ea
        have h5 := dp_ne (As := As) (p := p) eb
        rw [if_neg ea, if_neg eb, if_neg h2, if_neg h3]
        (repeat' split) <;> omega
theorem mu_s {As : List Nat} {fr : Nat} : ∀ d k, mu As fr (d + 1) k = mu As fr d k + mu_c As fr (k + d) := by
  intro d
  induction d with
  | zero => intro k; show mu_c As fr k + 0 = 0 + mu_c As fr k; omega
  | succ d ih =>
    intro k
    show mu_c As fr k + mu As fr (d + 1) (k + 1) = mu_c As fr k + mu As fr d (k + 1) + mu_c As fr (k + (d + 1))
    rw [ih (k + 1), show k + 1 + d = k + (d + 1) from by omega]
    omega
theorem md_dp {As : List Nat} {a : Nat} : ∀ {p : Nat}, md As a p = dp As p a := by
  intro p
  induction p with
  | zero => rfl
  | succ p ih =>
    rw [dp_s]
    unfold md at ih ⊢
    rw [mb_s]
    by_cases ea : As.getD p 0 = a
    · rw [if_pos ea, if_pos ea]
      show 1 + mu As (p + 1) (p + 1 - (p + 1)) (p + 1) = 1
      rw [Nat.sub_self]
      rfl
    · rw [if_neg ea, if_neg ea]
      rcases hm : mb As a p with _ | l
      · rw [if_pos (dp_mb.1 hm)]
      · rw [hm] at ih
        dsimp only at ih ⊢
        have hl := mb_lt hm
        have h0 : ¬ dp As p a = 0 := dp_mb.2 l hm
        have hc : mu_c As (l + 1) p = if ¬ dp As p (As.getD p 0) = 0 ∧ dp As p (As.getD p 0) < dp As p a then 0 else 1 := by
          unfold mu_c
          rcases hc : mb As (As.getD p 0) p with _ | j
          · rw [if_neg (fun z => z.1 (dp_mb.1 hc))]
          · have hj := mb_lt hc
            have hjl : ¬ j = l := fun z => by
              subst z
              exact ea ((mb_at hc).symm.trans (mb_at hm))
            dsimp only
            by_cases hjl2 : j < l + 1
            · have h1 := dp_sort hm hc (by omega)
              rw [if_pos hjl2, if_neg (fun z => by omega)]
            · rw [if_neg hjl2, if_pos ⟨dp_mb.2 j hc, dp_sort hc hm (by omega)⟩]
        rw [if_neg h0, show p + 1 - (l + 1) = (p - (l + 1)) + 1 from by omega, mu_s, show l + 1 + (p - (l + 1)) = p from by omega, hc]
        split <;> omega
theorem getD_app {As : List Nat} {x p : Nat} (h : p < As.length) : (As ++ [x]).getD p 0 = As.getD p 0 := by
  rw [List.getD_eq_getElem?_getD, List.getD_eq_getElem?_getD, List.getElem?_append_left h]
theorem getD_new {As : List Nat} {x : Nat} : (As ++ [x]).getD As.length 0 = x := by
  rw [List.getD_eq_getElem?_getD, List.getElem?_append_right (Nat.le_refl _), Nat.sub_self]
  rfl
theorem dp_app {As : List Nat} {x : Nat} : ∀ {p a : Nat}, p ≤ As.length → dp (As ++ [x]) p a = dp As p a := by
  intro p
  induction p with
  | zero => intro a _; rfl
  | succ p ih =>
    intro a hp
    rw [dp_s, dp_s, getD_app (by omega), ih (by omega), ih (by omega)]
/-- where a keeper of size c took a, if it holds it -/
def tk (As : List Nat) (c : Nat) : Nat → Nat → Nat
  | 0, _ => 0
  | p + 1, a => if As.getD p 0 = a ∧ ¬ (¬ dp As p a = 0 ∧ dp As p a ≤ c) then p else tk As c p a
theorem tk_s (As : List Nat) (c p a : Nat) : tk As c (p + 1) a = if As.getD p 0 = a ∧ ¬ (¬ dp As p a = 0 ∧ dp As p a ≤ c) then p else tk As c p a := rfl
theorem tk_app {As : List Nat} {x c : Nat} : ∀ {p a : Nat}, p ≤ As.length → tk (As ++ [x]) c p a = tk As c p a := by
  intro p
  induction p with
  | zero => intro a _; rfl
  | succ p ih =>
    intro a hp
    rw [tk_s, tk_s, getD_app (by omega), ih (by omega), dp_app (by omega)]
def kI (As : List Nat) (p c : Nat) (L : ev_PL) : Prop := L.length ≤ c ∧ (∀ i, i < L.length → ∃ a, a < 20 ∧ L[i]? = some (nI a, nI (tk As c p a)) ∧ dp As p a = L.length - i) ∧ ∀ a, a < 20 → ¬ dp As p a = 0 → dp As p a ≤ c → dp As p a ≤ L.length
theorem kI_app {As : List Nat} {x c : Nat} {L : ev_PL} (h : kI As As.length c L) : kI (As ++ [x]) As.length c L := by
  refine ⟨h.1, fun i hi => ?_, fun a ha => ?_⟩
  · obtain ⟨a, ha, e1, e2⟩ := h.2.1 i hi
    exact ⟨a, ha, by rw [tk_app (Nat.le_refl _)]; exact e1, by rw [dp_app (Nat.le_refl _)]; exact e2⟩
  · rw [dp_app (Nat.le_refl _)]
    exact h.2.2 a ha
section KI
variable {As : List Nat} {p c : Nat} {L : ev_PL}
theorem pf_at_of {j : Nat} {z : Int32 × Int32} (h : L[j]? = some z) : pf_at L j = z := by
  unfold pf_at
  rw [List.getD_eq_getElem?_getD, h]
  rfl
theorem kI_find (h : kI As p c L) {a : Nat} (ha : a < 20) : pf_find L (nI a) = if ¬ dp As p a = 0 ∧ dp As p a ≤ c then some (L.length - dp As p a) else none := by
  obtain ⟨h1, h2, h3⟩ := h
  have key : ∀ j, j < L.length → (pf_at L j).1 = nI a → dp As p a = L.length - j := fun j hj e => by
    obtain ⟨b, hb, e1, e2⟩ := h2 j hj
    rw [pf_at_of e1] at e
    have : b = a := nI_inj (by omega) (by omega) e
    rw [← this]
    exact e2
  split
  · rename_i hd
    have h4 := h3 a ha hd.1 hd.2
    have hi : L.length - dp As p a < L.length := by omega
    obtain ⟨b, hb, e1, e2⟩ := h2 _ hi
    have eb : dp As p b = dp As p a := by omega
    have : b = a := Classical.byContradiction fun hn => dp_ne hn (by omega) hd.1 eb
    subst this
    refine pf_some hi (by rw [pf_at_of e1]) fun j hj e => ?_
    have := key j (by omega) e
    omega
  · rename_i hd
    refine pf_none fun j hj e => hd ?_
    have := key j hj e
    omega
theorem dp_n {a b : Nat} (e : As.getD p 0 = a) (hb : ¬ b = a) : dp As (p + 1) b = if dp As p b = 0 then 0 else if ¬ dp As p a = 0 ∧ dp As p a < dp As p b then dp As p b else dp As p b + 1 := by
  rw [dp_s, if_neg (fun z => hb (z.symm.trans e)), e]
theorem dp_1 {a : Nat} (e : As.getD p 0 = a) : dp As (p + 1) a = 1 := by rw [dp_s, if_pos e]
theorem tk_n {a b : Nat} (e : As.getD p 0 = a) (hb : ¬ b = a) : tk As c (p + 1) b = tk As c p b := by
  rw [tk_s, if_neg (fun z => hb (z.1.symm.trans e))]
theorem tk_h {a : Nat} (hd : ¬ dp As p a = 0 ∧ dp As p a ≤ c) : tk As c (p + 1) a = tk As c p a := by
  rw [tk_s, if_neg (fun z => z.2 hd)]
theorem tk_m {a : Nat} (e : As.getD p 0 = a) (hd : ¬ (¬ dp As p a = 0 ∧ dp As p a ≤ c)) : tk As c (p + 1) a = p := by
  rw [tk_s, if_pos ⟨e, hd⟩]
theorem kI_hit (h : kI As p c L) {a : Nat} (ha : a < 20) (e : As.getD p 0 = a) (hd : ¬ dp As p a = 0 ∧ dp As p a ≤ c) : kI As (p + 1) c (L.eraseIdx (L.length - dp As p a) ++ [pf_at L (L.length - dp As p a)]) := by
  obtain ⟨h1, h2, h3⟩ := h
  have h4 := h3 a ha hd.1 hd.2
  have hd1 := hd.1
  generalize hj : L.length - dp As p a = j
  have hjl : j < L.length := by omega
  have hle : (L.eraseIdx j).length = L.length - 1 := by rw [List.length_eraseIdx, if_pos hjl]
  have hlen : (L.eraseIdx j ++ [pf_at L j]).length = L.length := by
    rw [List.length_append, hle, List.length_singleton]; omega
  refine ⟨by rw [hlen]; exact h1, fun i hi => ?_, fun b hb b1 b2 => ?_⟩
  · rw [hlen] at hi ⊢
    by_cases hi2 : i < L.length - 1
    · rw [List.getElem?_append_left (by omega), List.getElem?_eraseIdx]
      by_cases hij : i < j
      · rw [if_pos hij]
        obtain ⟨b, hb, e1, e2⟩ := h2 i hi
        have hba : ¬ b = a := fun z => by rw [z] at e2; omega
        refine ⟨b, hb, by rw [tk_n e hba]; exact e1, ?_⟩
        rw [dp_n e hba]
        (repeat' split) <;> omega
      · rw [if_neg hij]
        obtain ⟨b, hb, e1, e2⟩ := h2 (i + 1) (by omega)
        have hba : ¬ b = a := fun z => by rw [z] at e2; omega
        refine ⟨b, hb, by rw [tk_n e hba]; exact e1, ?_⟩
        rw [dp_n e hba]
        (repeat' split) <;> omega
    · obtain ⟨b, hb, e1, e2⟩ := h2 j hjl
      have eb : dp As p b = dp As p a := by omega
      have : b = a := Classical.byContradiction fun hn => dp_ne hn (by omega) hd.1 eb
      subst this
      refine ⟨b, hb, ?_, by rw [dp_1 e]; omega⟩
      rw [List.getElem?_append_right (by omega), hle, show i - (L.length - 1) = 0 from by omega, tk_h hd, pf_at_of e1]
      rfl
  · rw [hlen]
    by_cases hba : b = a
    · rw [hba, dp_1 e]; omega
    · have h6 := h3 b hb
      have h7 := fun z => dp_ne (As := As) (p := p) hba z hd1
      rw [dp_n e hba] at b1 b2 ⊢
      (repeat' split at b1) <;> (repeat' split at b2) <;> (repeat' split) <;> omega
theorem kI_miss (h : kI As p c L) {a : Nat} (ha : a < 20) (e : As.getD p 0 = a) (hc : 1 ≤ c) (hd : ¬ (¬ dp As p a = 0 ∧ dp As p a ≤ c)) :
    (L.length < c → kI As (p + 1) c (L ++ [(nI a, nI p)])) ∧ (L.length = c → kI As (p + 1) c ((L ++ [(nI a, nI p)]).eraseIdx 0)) := by
  obtain ⟨h1, h2, h3⟩ := h
  have old : ∀ i, i < L.length → ∃ b, b < 20 ∧ L[i]? = some (nI b, nI (tk As c (p + 1) b)) ∧ dp As (p + 1) b = L.length + 1 - i := fun i hi => by
    obtain ⟨b, hb, e1, e2⟩ := h2 i hi
    have hba : ¬ b = a := fun z => by
      rw [z] at e2
      exact hd ⟨by omega, by omega⟩
    refine ⟨b, hb, by rw [tk_n e hba]; exact e1, ?_⟩
    rw [dp_n e hba]
    have hq : dp As p a = 0 ∨ c < dp As p a := by omega
    (repeat' split) <;> omega
  have bnd : ∀ b, b < 20 → ¬ b = a → ¬ dp As (p + 1) b = 0 → dp As (p + 1) b ≤ c → dp As (p + 1) b ≤ L.length + 1 := fun b hb hba b1 b2 => by
    have h6 := h3 b hb
    rw [dp_n e hba] at b1 b2 ⊢
    (repeat' split at b1) <;> (repeat' split at b2) <;> (repeat' split) <;> omega
  have hl1 : (L ++ [(nI a, nI p)]).length = L.length + 1 := by rw [List.length_append, List.length_singleton]
  refine ⟨fun hlt => ⟨by omega, fun i hi => ?_, fun b hb b1 b2 => ?_⟩, fun heq => ?_⟩
  · rw [hl1] at hi ⊢
    by_cases hi2 : i < L.length
    · rw [List.getElem?_append_left hi2]
      exact old i hi2
    · refine ⟨a, ha, ?_, by rw [dp_1 e]; omega⟩
      rw [List.getElem?_append_right (by omega), show i - L.length = 0 from by omega, tk_m e hd]
      rfl
  · rw [hl1]
    by_cases hba : b = a
    · rw [hba, dp_1 e]; omega
    · exact bnd b hb hba b1 b2
  · have hl2 : ((L ++ [(nI a, nI p)]).eraseIdx 0).length = L.length := by rw [List.length_eraseIdx, if_pos (by omega), hl1]; omega
    refine ⟨by omega, fun i hi => ?_, fun b hb b1 b2 => by omega⟩
    rw [hl2] at hi ⊢
    rw [List.getElem?_eraseIdx, if_neg (by omega)]
    by_cases hi2 : i + 1 < L.length
    · rw [List.getElem?_append_left hi2]
      obtain ⟨b, hb, e1, e2⟩ := old (i + 1) hi2
      exact ⟨b, hb, e1, by omega⟩
    · refine ⟨a, ha, ?_, by rw [dp_1 e]; omega⟩
      rw [List.getElem?_append_right (by omega), show i + 1 - L.length = 0 from by omega, tk_m e hd]
      rfl
/-- the row takes in an asking -/
theorem kI_step (h : kI As p c L) {a : Nat} (ha : a < 20) (e : As.getD p 0 = a) (hc : 1 ≤ c) {m lm ll : Int32} (hm : pr_above m (L.length + 1) ↔ c < L.length + 1) :
    kI As (p + 1) c (pr_fetchIn L 1 m lm ll (nI a) (nI p)).2.1 ∧ (pr_fetchIn L 1 m lm ll (nI a) (nI p)).1 = (if ¬ dp As p a = 0 ∧ dp As p a ≤ c then 1 else 0) ∧
    (pr_fetchIn L 1 m lm ll (nI a) (nI p)).2.2.2 = (if ¬ dp As p a = 0 ∧ dp As p a ≤ c then ll else if L.length = c then (pf_at L 0).1 else ll) ∧
    (pr_fetchIn L 1 m lm ll (nI a) (nI p)).2.1.length = (if ¬ dp As p a = 0 ∧ dp As p a ≤ c then L.length else if L.length = c then L.length else L.length + 1) := by
  have hf := kI_find h ha
  by_cases hd : ¬ dp As p a = 0 ∧ dp As p a ≤ c
  · have h4 := h.2.2 a ha hd.1 hd.2
    have hd1 := hd.1
    have hjl : L.length - dp As p a < L.length := by omega
    rw [if_pos hd] at hf ⊢
    unfold pr_fetchIn
    rw [hf]
    dsimp only
    have ea : pr_ask L 1 (L.length - dp As p a) = L.eraseIdx (L.length - dp As p a) ++ [pf_at L (L.length - dp As p a)] := by
      unfold pr_ask
      rw [if_neg (by decide)]
    rw [ea]
    refine ⟨kI_hit h ha e hd, rfl, by rw [if_pos hd], ?_⟩
    rw [if_pos hd, List.length_append, List.length_eraseIdx, if_pos hjl, List.length_singleton]
    omega
  · obtain ⟨k1, k2⟩ := kI_miss h ha e hc hd
    have hlc := h.1
    rw [if_neg hd] at hf ⊢
    unfold pr_fetchIn
    rw [hf]
    dsimp only
    rw [if_neg hd, if_neg hd]
    unfold pr_take
    by_cases hab : pr_above m (L.length + 1)
    · have hcl := hm.mp hab
      have heq : L.length = c := by omega
      rw [if_pos hab, if_pos heq, if_pos heq]
      dsimp only
      refine ⟨k2 heq, rfl, ?_, ?_⟩
      · unfold pf_at
        rw [List.getD_eq_getElem?_getD, List.getD_eq_getElem?_getD, List.getElem?_append_left (by omega)]
      · rw [List.length_eraseIdx, List.length_append, List.length_singleton, if_pos (by omega)]
        omega
    · have hlt : L.length < c := by
        have h9 : ¬ c < L.length + 1 := fun z => hab (hm.mpr z)
        omega
      rw [if_neg hab, if_neg (by omega), if_neg (by omega)]
      dsimp only
      exact ⟨k1 hlt, rfl, rfl, by rw [List.length_append, List.length_singleton]⟩
end KI
theorem dp_le {As : List Nat} : ∀ {p a : Nat}, dp As p a ≤ p := by
  intro p
  induction p with
  | zero => intro a; exact Nat.le_refl 0
  | succ p ih =>
    intro a
    have h1 := @ih a
    rw [dp_s]
    (repeat' split) <;> omega
theorem mh_dp {As : List Nat} {c k : Nat} : mh As c k = true ↔ (¬ dp As k (As.getD k 0) = 0 ∧ dp As k (As.getD k 0) ≤ c) := by
  unfold mh
  rw [md_dp, Bool.and_eq_true, decide_eq_true_iff, decide_eq_true_iff]
  omega
theorem mh_app {As : List Nat} {x c k : Nat} (h : k < As.length) : mh (As ++ [x]) c k = mh As c k := by
  unfold mh
  rw [md_dp, md_dp, getD_app h, dp_app (by omega)]
theorem mm_s {As : List Nat} {c : Nat} : ∀ d k, mm As c (d + 1) k = mm As c d k + (if mh As c (k + d) = true then 0 else 1) := by
  intro d
  induction d with
  | zero => intro k; show (if mh As c k = true then 0 else 1) + 0 = 0 + (if mh As c (k + 0) = true then 0 else 1); simp only [Nat.add_zero, Nat.zero_add]
  | succ d ih =>
    intro k
    show (if mh As c k = true then 0 else 1) + mm As c (d + 1) (k + 1) = (if mh As c k = true then 0 else 1) + mm As c d (k + 1) + (if mh As c (k + (d + 1)) = true then 0 else 1)
    rw [ih (k + 1), show k + 1 + d = k + (d + 1) from by omega]
    omega
theorem mm_app {As : List Nat} {x c : Nat} : ∀ d k, k + d ≤ As.length → mm (As ++ [x]) c d k = mm As c d k := by
  intro d
  induction d with
  | zero => intro k _; rfl
  | succ d ih =>
    intro k h
    show (if mh (As ++ [x]) c k = true then 0 else 1) + mm (As ++ [x]) c d (k + 1) = (if mh As c k = true then 0 else 1) + mm As c d (k + 1)
    rw [ih (k + 1) (by omega), mh_app (by omega)]
theorem mm_le {As : List Nat} {c : Nat} : ∀ d k, mm As c d k ≤ d := by
  intro d
  induction d with
  | zero => intro k; exact Nat.le_refl 0
  | succ d ih =>
    intro k
    have := ih k
    rw [mm_s]
    split <;> omega
theorem mb_app {As : List Nat} {x a : Nat} : ∀ {p : Nat}, p ≤ As.length → mb (As ++ [x]) a p = mb As a p := by
  intro p
  induction p with
  | zero => intro _; rfl
  | succ p ih =>
    intro hp
    rw [mb_s, mb_s, getD_app (by omega), ih (by omega)]
theorem mkw_s (As : List Nat) (d p e a : Nat) : mkw As d p (e + 1) a = if md As a p = d then some a else mkw As d p e (a + 1) := rfl
theorem mkw_app {As : List Nat} {x d p : Nat} (h : p ≤ As.length) : ∀ e a, mkw (As ++ [x]) d p e a = mkw As d p e a := by
  intro e
  induction e with
  | zero => intro a; rfl
  | succ e ih =>
    intro a
    rw [mkw_s, mkw_s, ih, md_dp, md_dp, dp_app h]
theorem mkw_none {As : List Nat} {d p : Nat} : ∀ e a, (∀ b, a ≤ b → b < a + e → ¬ dp As p b = d) → mkw As d p e a = none := by
  intro e
  induction e with
  | zero => intro a _; rfl
  | succ e ih =>
    intro a h
    rw [mkw_s, md_dp, if_neg (h a (Nat.le_refl a) (by omega))]
    exact ih (a + 1) (fun b h1 h2 => h b (by omega) (by omega))
theorem mkw_some {As : List Nat} {d p b : Nat} (hd : ¬ d = 0) (hb : dp As p b = d) : ∀ e a, a ≤ b → b < a + e → mkw As d p e a = some b := by
  intro e
  induction e with
  | zero => intro a h1 h2; omega
  | succ e ih =>
    intro a h1 h2
    rw [mkw_s, md_dp]
    by_cases e1 : dp As p a = d
    · have : a = b := Classical.byContradiction fun hn => dp_ne (As := As) (p := p) hn (by omega) (by omega) (by omega)
      rw [if_pos e1, this]
    · rw [if_neg e1]
      exact ih (a + 1) (by
        have : ¬ a = b := fun z => e1 (z ▸ hb)
        omega) (by omega)
theorem ml_s (As : List Nat) (c k : Nat) : ml_n As c (k + 1) = if mh As c k = true then ml_n As c k else (match mkw As c k 20 0 with
  | none => ml_n As c k
  | some a => some a) := rfl
theorem ml_app {As : List Nat} {x c : Nat} : ∀ {p : Nat}, p ≤ As.length → ml_n (As ++ [x]) c p = ml_n As c p := by
  intro p
  induction p with
  | zero => intro _; rfl
  | succ p ih =>
    intro h
    rw [ml_s, ml_s, ih (by omega), mh_app (by omega), mkw_app (by omega)]
theorem mu_app {As : List Nat} {x fr : Nat} : ∀ d k, k + d ≤ As.length → mu (As ++ [x]) fr d k = mu As fr d k := by
  intro d
  induction d with
  | zero => intro k _; rfl
  | succ d ih =>
    intro k h
    show mu_c (As ++ [x]) fr k + mu (As ++ [x]) fr d (k + 1) = mu_c As fr k + mu As fr d (k + 1)
    rw [ih (k + 1) (by omega)]
    unfold mu_c
    rw [getD_app (by omega), mb_app (by omega)]
section KI2
variable {As : List Nat} {p c : Nat} {L : ev_PL}
/-- which key the keeper let go last -/
theorem ml_step (h : kI As p c L) {a : Nat} (e : As.getD p 0 = a) (hc : 1 ≤ c) : nb (ml_n As c (p + 1)) = if ¬ dp As p a = 0 ∧ dp As p a ≤ c then nb (ml_n As c p) else if L.length = c then (pf_at L 0).1 else nb (ml_n As c p) := by
  rw [ml_s]
  by_cases hd : ¬ dp As p a = 0 ∧ dp As p a ≤ c
  · rw [if_pos hd, if_pos (mh_dp.mpr (by rw [e]; exact hd))]
  · rw [if_neg hd, if_neg (fun z => hd (by have := mh_dp.mp z; rw [e] at this; exact this))]
    by_cases hl : L.length = c
    · obtain ⟨b, hb, e1, e2⟩ := h.2.1 0 (by omega)
      rw [if_pos hl, mkw_some (by omega) (show dp As p b = c by omega) 20 0 (by omega) (by omega), pf_at_of e1]
      rfl
    · rw [if_neg hl, mkw_none 20 0 (fun b _ hb e2 => by
        have h1 := h.2.2 b (by omega) (by omega) (by omega)
        have h2 := h.1
        omega)]
end KI2
def jK (As : List Nat) (j : Nat) (s : ev_KS) : Prop := kI As As.length (j + 1) s.1 ∧ s.2.1 = nI (j + 1) ∧ s.2.2.2.1 = nb (ml_n As (j + 1) As.length) ∧ s.2.2.2.2.1 = nI (mm As (j + 1) As.length 0) ∧ s.2.2.2.2.2 = nI (As.length - mm As (j + 1) As.length 0)
/-- what the class' askings, stack and keepers are, told of the keys asked -/
def jR (G : ev_CS) (As : List Nat) : Prop := As.length = G.2.2.2.1.2.2 ∧ (∀ j, j < As.length → G.2.2.2.1.1 j = nI (As.getD j 0) ∧ G.2.2.2.1.2.1 j = nI (dp As j (As.getD j 0))) ∧
  (kI As As.length 100 G.2.1.1 ∧ G.2.1.1.length = mu As 0 As.length 0) ∧ ∀ j, j < 6 → jK As j (G.2.2.1 j)
theorem jK_fi {As : List Nat} {j a : Nat} {s : ev_KS} (h : jK As j s) (hj : j < 6) (ha : a < 20) :
    (pr_fetchIn s.1 1 s.2.1 s.2.2.1 s.2.2.2.1 (nI a) (nI As.length)).1 = (if ¬ dp As As.length a = 0 ∧ dp As As.length a ≤ j + 1 then 1 else 0) ∧ jK (As ++ [a]) j (pk_meet s (nI a) (nI As.length)) := by
  obtain ⟨h1, h2, h3, h4, h5⟩ := h
  have h1' := kI_app (x := a) h1
  have hlc := h1.1
  have hm : pr_above s.2.1 (s.1.length + 1) ↔ j + 1 < s.1.length + 1 := by
    unfold pr_above
    rw [h2, nI_leI (by omega) (by omega)]
    have := ev_nm1 (j := j + 1) (by omega)
    constructor
    · intro z
      have := fun w => z (Or.inr w)
      omega
    · intro z w
      rcases w with w | w
      · exact this w
      · omega
  obtain ⟨g1, g2, g3, -⟩ := kI_step h1' ha getD_new (by omega) (lm := s.2.2.1) (ll := s.2.2.2.1) hm
  have hl := ml_step h1' (a := a) getD_new (by omega)
  rw [dp_app (Nat.le_refl _)] at g2 g3 hl
  have hlen : (As ++ [a]).length = As.length + 1 := by rw [List.length_append, List.length_singleton]
  have hmh : (mh (As ++ [a]) (j + 1) As.length = true) = (¬ dp As As.length a = 0 ∧ dp As As.length a ≤ j + 1) := propext (by rw [mh_dp, getD_new, dp_app (Nat.le_refl _)])
  have hmm : mm (As ++ [a]) (j + 1) (As.length + 1) 0 = mm As (j + 1) As.length 0 + (if ¬ dp As As.length a = 0 ∧ dp As As.length a ≤ j + 1 then 0 else 1) := by
    rw [mm_s, mm_app _ _ (by omega), Nat.zero_add]
    simp only [hmh]
  have hle := mm_le (As := As) (c := j + 1) As.length 0
  refine ⟨g2, ?_⟩
  unfold jK pk_meet
  rw [hlen, hmm]
  refine ⟨g1, h2, ?_, ?_, ?_⟩
  · show (pr_fetchIn s.1 1 s.2.1 s.2.2.1 s.2.2.2.1 (nI a) (nI As.length)).2.2.2 = _
    rw [g3, hl, ml_app (Nat.le_refl _), h3]
  · show (if (pr_fetchIn s.1 1 s.2.1 s.2.2.1 s.2.2.2.1 (nI a) (nI As.length)).1 = 0 then s.2.2.2.2.1 + 1 else s.2.2.2.2.1) = _
    rw [g2, h4]
    by_cases hd : ¬ dp As As.length a = 0 ∧ dp As As.length a ≤ j + 1
    · rw [if_pos hd, if_pos hd, if_neg (by decide)]
      rfl
    · rw [if_neg hd, if_neg hd, if_pos rfl, nI_1]
  · show (if (pr_fetchIn s.1 1 s.2.1 s.2.2.1 s.2.2.2.1 (nI a) (nI As.length)).1 = 0 then s.2.2.2.2.2 else s.2.2.2.2.2 + 1) = _
    rw [g2, h5]
    by_cases hd : ¬ dp As As.length a = 0 ∧ dp As As.length a ≤ j + 1
    · rw [if_pos hd, if_pos hd, if_neg (by decide), nI_1]
      exact congrArg nI (by omega)
    · rw [if_neg hd, if_neg hd, if_pos rfl]
      exact congrArg nI (by omega)
theorem jR_depth {As : List Nat} {G : ev_CS} (h : jR G As) (hA : As.length ≤ 60) {a : Nat} (ha : a < 20) : pd_depth G.2.1.1 (nI a) = nI (dp As As.length a) := by
  obtain ⟨h0, h1, ⟨h2, h3⟩, h5⟩ := h
  have hl := dp_le (As := As) (p := As.length) (a := a)
  unfold pd_depth
  rw [kI_find h2 ha]
  by_cases hd : ¬ dp As As.length a = 0 ∧ dp As As.length a ≤ 100
  · have h6 := h2.2.2 a ha hd.1 hd.2
    rw [if_pos hd]
    exact congrArg nI (by omega)
  · rw [if_neg hd, show dp As As.length a = 0 by omega]
    rfl
theorem jR_ask {As : List Nat} {G : ev_CS} (h : jR G As) (hG : okG G) {a : Nat} (ha : a < 20) (hA : As.length < 60) : jR (pg_ask G (nI a)) (As ++ [a]) := by
  have hdep := jR_depth h (by omega) ha
  obtain ⟨h0, h1, ⟨h2, h3⟩, h5⟩ := h
  have h4 := okL_len hG.2.1
  have hlen : (As ++ [a]).length = As.length + 1 := by rw [List.length_append, List.length_singleton]
  have h2' := kI_app (x := a) h2
  have hm : pr_above (-1) (G.2.1.1.length + 1) ↔ 100 < G.2.1.1.length + 1 := by
    unfold pr_above
    constructor
    · intro z; exact absurd (Or.inl rfl) z
    · intro z; omega
  obtain ⟨g1, -, -, g4⟩ := kI_step h2' ha getD_new (by omega) (lm := G.2.1.2.1) (ll := G.2.1.2.2) hm
  rw [dp_app (Nat.le_refl _)] at g4
  have hmu : mu (As ++ [a]) 0 (As.length + 1) 0 = mu As 0 As.length 0 + (if dp As As.length a = 0 then 1 else 0) := by
    rw [mu_s, mu_app _ _ (by omega), Nat.zero_add]
    unfold mu_c
    rw [getD_new, mb_app (Nat.le_refl _)]
    rcases hb : mb As a As.length with _ | j
    · rw [if_pos (dp_mb.1 hb)]
    · rw [if_neg (dp_mb.2 j hb)]
      show mu As 0 As.length 0 + (if j < 0 then 1 else 0) = _
      rw [if_neg (Nat.not_lt_zero j)]
  have hdl := dp_le (As := As) (p := As.length) (a := a)
  have hq : (pr_fetchIn G.2.1.1 1 (-1) G.2.1.2.1 G.2.1.2.2 (nI a) (nI As.length)).2.1.length = G.2.1.1.length + (if dp As As.length a = 0 then 1 else 0) := by
    rw [g4]
    by_cases hz : dp As As.length a = 0
    · rw [if_neg (fun z => z.1 hz), if_neg (by omega), if_pos hz]
    · rw [if_pos ⟨hz, by omega⟩, if_neg hz]
      rfl
  unfold jR
  rw [hlen]
  refine ⟨by rw [h0]; rfl, fun j hj => ?_, ⟨?_, ?_⟩, fun j hj => ?_⟩
  · show ev_fu G.2.2.2.1.1 G.2.2.2.1.2.2 (nI a) j = _ ∧ ev_fu G.2.2.2.1.2.1 G.2.2.2.1.2.2 (pd_depth G.2.1.1 (nI a)) j = _
    unfold ev_fu
    by_cases hj2 : j = As.length
    · rw [if_pos (by omega), if_pos (by omega), hj2, getD_new, dp_app (Nat.le_refl _)]
      exact ⟨rfl, hdep⟩
    · rw [if_neg (by omega), if_neg (by omega), getD_app (by omega), dp_app (by omega)]
      exact h1 j (by omega)
  · show kI (As ++ [a]) (As.length + 1) 100 (pr_fetchIn G.2.1.1 1 (-1) G.2.1.2.1 G.2.1.2.2 (nI a) (nI G.2.2.2.1.2.2)).2.1
    rw [← h0]
    exact g1
  · show (pr_fetchIn G.2.1.1 1 (-1) G.2.1.2.1 G.2.1.2.2 (nI a) (nI G.2.2.2.1.2.2)).2.1.length = _
    rw [← h0, hq, hmu, h3]
  · show jK (As ++ [a]) j (if j < 6 then pk_meet (G.2.2.1 j) (nI a) (nI G.2.2.2.1.2.2) else G.2.2.1 j)
    rw [if_pos hj, ← h0]
    exact (jK_fi (h5 j hj) hj ha).2
theorem jR_same {As : List Nat} {G G1 : ev_CS} (h : jR G As) (e1 : G1.2.1 = G.2.1) (e2 : G1.2.2.1 = G.2.2.1) (e3 : G1.2.2.2.1 = G.2.2.2.1) : jR G1 As := by
  unfold jR at h ⊢
  rw [e1, e2, e3]
  exact h
theorem jR_rowd {a st : Nat} : ∀ (d i : Nat) (G : ev_CS) (As : List Nat), jR G As → okG G → As.length + d ≤ 60 → jR (pg_rowd a st d i G) (ms_row a st d i As) := by
  intro d
  induction d with
  | zero => intro i G As h _ _; exact h
  | succ d ih =>
    intro i G As h hG hl
    have hk : (a + i * st) % 20 < 20 := Nat.mod_lt _ (by omega)
    exact ih (i + 1) _ _ (jR_ask h hG hk (by omega)) (okG_ask hG (okL_key hk) (by have := h.1; omega)) (by rw [List.length_append, List.length_singleton]; omega)
theorem kI_nil {c : Nat} : kI [] 0 c [] := ⟨Nat.zero_le c, fun i hi => absurd hi (Nat.not_lt_zero i), fun a _ h => absurd rfl h⟩
theorem jR_F {As : List Nat} {G : ev_CS} (h : jR G As) : jR (pg_F (pg_F0 G) 6) [] := by
  refine ⟨rfl, fun j hj => absurd hj (Nat.not_lt_zero j), ⟨kI_nil, rfl⟩, fun j hj => ?_⟩
  show jK [] j (if j < 6 then pk_anew (G.2.2.1 j) else G.2.2.1 j)
  rw [if_pos hj]
  exact ⟨kI_nil, (h.2.2.2 j hj).2.1, rfl, rfl, rfl⟩
theorem jR_0 : jR g_0 [] := ⟨rfl, fun j hj => absurd hj (Nat.not_lt_zero j), ⟨kI_nil, rfl⟩, fun j hj => ⟨kI_nil, rfl, rfl, rfl, rfl⟩⟩
/-! what each call answers -/
theorem nI_sub' {a b : Nat} (h : b ≤ a) : nI a - nI b = nI (a - b) := by
  have : nI a = nI (a - b) + nI b := by rw [nI_add, Nat.sub_add_cancel h]
  rw [this, Int32.add_sub_cancel]
theorem jV_hits {As : List Nat} {G : ev_CS} (h : jR G As) {j : Nat} (hj : j < 6) : (G.2.2.1 j).2.2.2.2.2 = nI As.length - nI (mm As (j + 1) As.length 0) := by
  rw [nI_sub' (mm_le _ _)]
  exact (h.2.2.2 j hj).2.2.2.2
theorem mkp_dp {As : List Nat} {c a : Nat} : mkp As c a = decide (¬ dp As As.length a = 0 ∧ dp As As.length a ≤ c) := by
  unfold mkp
  rw [md_dp, ← Bool.decide_and]
  exact decide_eq_decide.mpr (by omega)
theorem jV_keeps {As : List Nat} {G : ev_CS} (h : jR G As) {j a : Nat} (hj : j < 6) (ha : a < 20) : (pf_find (G.2.2.1 j).1 (nI a)).isSome = mkp As (j + 1) a := by
  rw [kI_find (h.2.2.2 j hj).1 ha, mkp_dp]
  by_cases hd : ¬ dp As As.length a = 0 ∧ dp As As.length a ≤ j + 1
  · rw [if_pos hd]; exact (decide_eq_true hd).symm
  · rw [if_neg hd]; exact (decide_eq_false hd).symm
theorem tk_mb {As : List Nat} {c a k : Nat} : ∀ {p : Nat}, mb As a p = some k → tk As c p a = tk As c (k + 1) a := by
  intro p
  induction p with
  | zero => intro h; cases h
  | succ p ih =>
    intro h
    rw [mb_s] at h
    by_cases ea : As.getD p 0 = a
    · rw [if_pos ea] at h
      cases h
      rfl
    · rw [if_neg ea] at h
      rw [tk_s, if_neg (fun z => ea z.1)]
      exact ih h
theorem mt_l_tk {As : List Nat} {c a : Nat} : ∀ {f p k : Nat}, mb As a p = some k → k < f → mt_l As c a f k = tk As c p a := by
  intro f
  induction f with
  | zero => intro p k _ h; exact absurd h (Nat.not_lt_zero k)
  | succ f ih =>
    intro p k h hk
    have ea := mb_at h
    rw [tk_mb h, tk_s]
    show (if mh As c k = true then (match mb As a k with
      | none => k
      | some j => mt_l As c a f j) else k) = _
    by_cases hd : ¬ dp As k a = 0 ∧ dp As k a ≤ c
    · rw [if_pos (mh_dp.mpr (by rw [ea]; exact hd)), if_neg (fun z => z.2 hd)]
      rcases hb : mb As a k with _ | j
      · exact absurd (dp_mb.1 hb) hd.1
      · have := mb_lt hb
        exact ih hb (by omega)
    · rw [if_neg (fun z => hd (by have := mh_dp.mp z; rw [ea] at this; exact this)), if_pos ⟨ea, hd⟩]
theorem jV_taken {As : List Nat} {G : ev_CS} (h : jR G As) {j a : Nat} (hj : j < 6) (ha : a < 20) : pr_told (G.2.2.1 j).1 (pf_place (G.2.2.1 j).1 (nI a)) 1 = mt_n As (j + 1) a := by
  have h1 := (h.2.2.2 j hj).1
  have hlc := h1.1
  unfold pf_place mt_n
  rw [kI_find h1 ha, mkp_dp]
  by_cases hd : ¬ dp As As.length a = 0 ∧ dp As As.length a ≤ j + 1
  · have h4 := h1.2.2 a ha hd.1 hd.2
    have hi : (G.2.2.1 j).1.length - dp As As.length a < (G.2.2.1 j).1.length := by have := hd.1; omega
    rw [if_pos hd, if_pos (decide_eq_true hd)]
    dsimp only
    rw [pr_told_y hi (by omega), if_neg (by decide), if_pos rfl]
    obtain ⟨b, hb, e1, e2⟩ := h1.2.1 _ hi
    have eb : b = a := Classical.byContradiction fun hn => dp_ne (As := As) (p := As.length) hn (by omega) hd.1 (by omega)
    rw [pf_at_of e1, eb]
    rcases hm : mb As a As.length with _ | k
    · exact absurd (dp_mb.1 hm) hd.1
    · exact congrArg nI (mt_l_tk hm (by omega)).symm
  · rw [if_neg hd, if_neg (fun z => hd (of_decide_eq_true z))]
    dsimp only
    unfold pr_told
    rw [if_neg (fun z => absurd z.1 (by decide))]
theorem jV_with {As : List Nat} {G : ev_CS} (h : jR G As) {d : Int32} : pr_cnt G.2.2.2.1.2.1 (fun y => decide (y = d)) G.2.2.2.1.2.2 0 0 = nI (mwd As d As.length 0) := by
  have key : ∀ e k s, k + e ≤ As.length → pr_cnt G.2.2.2.1.2.1 (fun y => decide (y = d)) e k (nI s) = nI (s + mwd As d e k) := by
    intro e
    induction e with
    | zero => intro k s _; rfl
    | succ e ih =>
      intro k s hk
      show pr_cnt G.2.2.2.1.2.1 (fun y => decide (y = d)) e (k + 1) (if decide (G.2.2.2.1.2.1 k = d) = true then nI s + 1 else nI s) = nI (s + ((if nI (md As (As.getD k 0) k) = d then 1 else 0) + mwd As d e (k + 1)))
      rw [(h.2.1 k (by omega)).2, md_dp]
      by_cases hd : nI (dp As k (As.getD k 0)) = d
      · rw [if_pos (decide_eq_true hd), if_pos hd, nI_1, ih (k + 1) (s + 1) (by omega)]
        exact congrArg nI (by omega)
      · rw [if_neg (fun z => hd (of_decide_eq_true z)), if_neg hd, ih (k + 1) s (by omega)]
        exact congrArg nI (by omega)
  rw [← h.1]
  have := key As.length 0 0 (by omega)
  rw [Nat.zero_add] at this
  exact this
theorem jV_ask {As : List Nat} {G : ev_CS} (h : jR G As) {a : Nat} (ha : a < 20) : pk_hits G.2.2.1 (nI a) (nI G.2.2.2.1.2.2) 6 0 0 = mhits (md As a As.length) := by
  have f := fun j (hj : j < 6) => (jK_fi (h.2.2.2 j hj) hj ha).1
  rw [← h.1, md_dp]
  show pk_hits G.2.2.1 (nI a) (nI As.length) 6 0 0 = _
  unfold mhits
  simp only [pk_hits, f 0 (by omega), f 1 (by omega), f 2 (by omega), f 3 (by omega), f 4 (by omega), f 5 (by omega)]
  have hD : dp As As.length a = 0 ∨ dp As As.length a = 1 ∨ dp As As.length a = 2 ∨ dp As As.length a = 3 ∨ dp As As.length a = 4 ∨ dp As As.length a = 5 ∨ dp As As.length a = 6 ∨ 6 < dp As As.length a := by omega
  generalize dp As As.length a = D at hD ⊢
  rcases hD with rfl | rfl | rfl | rfl | rfl | rfl | rfl | hD
  · decide
  · decide
  · decide
  · decide
  · decide
  · decide
  · decide
  · rw [if_neg (show ¬ D = 0 by omega), if_neg (show ¬ D ≤ 6 by omega)]
    have z : ∀ j, j < 6 → (if ¬ D = 0 ∧ D ≤ j + 1 then (1 : Int32) else 0) = 0 := fun j hj => if_neg (fun w => by omega)
    rw [if_pos (z 5 (by omega)), if_pos (z 4 (by omega)), if_pos (z 3 (by omega)), if_pos (z 2 (by omega)), if_pos (z 1 (by omega)), if_pos (z 0 (by omega))]
theorem jV_rowd {a st : Nat} : ∀ (d i : Nat) (G : ev_CS) (As : List Nat) (s : Int32), jR G As → okG G → As.length + d ≤ 60 → pk_rowh a st d i G s = mh_row a st d i As s := by
  intro d
  induction d with
  | zero => intro i G As s _ _ _; rfl
  | succ d ih =>
    intro i G As s h hG hl
    have hk : (a + i * st) % 20 < 20 := Nat.mod_lt _ (by omega)
    show pk_rowh a st d (i + 1) (pg_ask G (nI ((a + i * st) % 20))) (s + pk_hits G.2.2.1 (nI ((a + i * st) % 20)) (nI G.2.2.2.1.2.2) 6 0 0) = _
    rw [jV_ask h hk]
    exact ih (i + 1) _ _ _ (jR_ask h hG hk (by omega)) (okG_ask hG (okL_key hk) (by have := h.1; omega)) (by rw [List.length_append, List.length_singleton]; omega)
end
section
/-! ===== last asked against the fewest: less, and never by much ===== -/
def kz (z : Int32 × Int32) : Nat := z.1.toNatClampNeg
def ph (B : Nat → Bool) : Nat → ev_PL → Nat
  | _, [] => 0
  | w, z :: l => (if B (kz z) = true then 0 else w) + ph B (w + 1) l
def pn (B : Nat → Bool) : ev_PL → Nat
  | [] => 0
  | z :: l => (if B (kz z) = true then 0 else 1) + pn B l
def tri : Nat → Nat
  | 0 => 0
  | n + 1 => tri n + (n + 1)
theorem tri_mono {a : Nat} : ∀ {b : Nat}, a ≤ b → tri a ≤ tri b := by
  intro b
  induction b with
  | zero => intro h; rw [Nat.le_zero.mp h]; exact Nat.le_refl _
  | succ b ih =>
    intro h
    by_cases e : a = b + 1
    · rw [e]; exact Nat.le_refl _
    · have := ih (by omega)
      show tri a ≤ tri b + (b + 1)
      omega
theorem ph_w {B : Nat → Bool} : ∀ (l : ev_PL) (w : Nat), ph B (w + 1) l = ph B w l + pn B l := by
  intro l
  induction l with
  | nil => intro w; rfl
  | cons z l ih =>
    intro w
    show (if B (kz z) = true then 0 else w + 1) + ph B (w + 1 + 1) l = (if B (kz z) = true then 0 else w) + ph B (w + 1) l + ((if B (kz z) = true then 0 else 1) + pn B l)
    rw [ih (w + 1)]
    split <;> omega
theorem ph_app {B : Nat → Bool} {r : ev_PL} : ∀ (l : ev_PL) (w : Nat), ph B w (l ++ r) = ph B w l + ph B (w + l.length) r := by
  intro l
  induction l with
  | nil => intro w; show ph B w r = 0 + ph B (w + 0) r; rw [Nat.zero_add, Nat.add_zero]
  | cons z l ih =>
    intro w
    show (if B (kz z) = true then 0 else w) + ph B (w + 1) (l ++ r) = (if B (kz z) = true then 0 else w) + ph B (w + 1) l + ph B (w + (l.length + 1)) r
    rw [ih (w + 1), show w + 1 + l.length = w + (l.length + 1) from by omega]
    omega
theorem ph_tri {B : Nat → Bool} {w : Nat} (hw : 1 ≤ w) : ∀ l : ev_PL, tri (pn B l) ≤ ph B w l := by
  intro l
  induction l with
  | nil => exact Nat.le_refl 0
  | cons z l ih =>
    show tri ((if B (kz z) = true then 0 else 1) + pn B l) ≤ (if B (kz z) = true then 0 else w) + ph B (w + 1) l
    rw [ph_w]
    split
    · rw [Nat.zero_add, Nat.zero_add]; omega
    · rw [Nat.add_comm 1]
      show tri (pn B l) + (pn B l + 1) ≤ _
      omega
theorem ph_erase {B : Nat → Bool} : ∀ (l : ev_PL) (w j : Nat), ph B w (l.eraseIdx j) ≤ ph B w l := by
  intro l
  induction l with
  | nil => intro w j; exact Nat.le_refl _
  | cons z l ih =>
    intro w j
    rcases j with _ | j
    · show ph B w l ≤ (if B (kz z) = true then 0 else w) + ph B (w + 1) l
      rw [ph_w]; omega
    · show (if B (kz z) = true then 0 else w) + ph B (w + 1) (l.eraseIdx j) ≤ (if B (kz z) = true then 0 else w) + ph B (w + 1) l
      have := ih (w + 1) j
      omega
theorem ph_sub {B B' : Nat → Bool} : ∀ (l : ev_PL) (w : Nat), (∀ z ∈ l, B (kz z) = true → B' (kz z) = true) → ph B' w l ≤ ph B w l := by
  intro l
  induction l with
  | nil => intro w _; exact Nat.le_refl _
  | cons z l ih =>
    intro w h
    show (if B' (kz z) = true then 0 else w) + ph B' (w + 1) l ≤ (if B (kz z) = true then 0 else w) + ph B (w + 1) l
    have h1 := ih (w + 1) (fun y hy => h y (List.mem_cons_of_mem _ hy))
    have h2 := h z List.mem_cons_self
    by_cases hb : B (kz z) = true
    · rw [if_pos hb, if_pos (h2 hb)]; omega
    · rw [if_neg hb]
      split <;> omega
theorem ph_out {B B' : Nat → Bool} {q : Nat} (h : ∀ a, ¬ a = q → B a = true → B' a = true) : ∀ (l : ev_PL) (w : Nat), 1 ≤ w → l.Pairwise (fun y z => ¬ kz y = kz z) → ph B' w l + 1 ≤ ph B w l + w + l.length := by
  intro l
  induction l with
  | nil => intro w hw _; show 0 + 1 ≤ 0 + w + 0; omega
  | cons z l ih =>
    intro w hw hp
    obtain ⟨p1, p2⟩ := List.pairwise_cons.mp hp
    show (if B' (kz z) = true then 0 else w) + ph B' (w + 1) l + 1 ≤ (if B (kz z) = true then 0 else w) + ph B (w + 1) l + w + (l.length + 1)
    by_cases hq : kz z = q
    · have h1 := ph_sub (B := B) (B' := B') l (w + 1) (fun y hy => h _ (fun e => p1 y hy (hq.trans e.symm)))
      split <;> split <;> omega
    · have h1 := ih (w + 1) (by omega) p2
      by_cases hb : B (kz z) = true
      · rw [if_pos hb, if_pos (h _ hq hb)]; omega
      · rw [if_neg hb]
        split <;> omega
theorem pn_one {B B' : Nat → Bool} {q : Nat} (h : ∀ a, ¬ a = q → B' a = true → B a = true) : ∀ l : ev_PL, l.Pairwise (fun y z => ¬ kz y = kz z) → pn B l ≤ pn B' l + 1 := by
  have hs : ∀ l : ev_PL, (∀ y ∈ l, ¬ kz y = q) → pn B l ≤ pn B' l := by
    intro l
    induction l with
    | nil => intro _; exact Nat.le_refl _
    | cons z l ih =>
      intro hy
      show (if B (kz z) = true then 0 else 1) + pn B l ≤ (if B' (kz z) = true then 0 else 1) + pn B' l
      have h1 := ih (fun y h2 => hy y (List.mem_cons_of_mem _ h2))
      by_cases hb : B' (kz z) = true
      · rw [if_pos hb, if_pos (h _ (hy z List.mem_cons_self) hb)]; omega
      · rw [if_neg hb]
        split <;> omega
  intro l
  induction l with
  | nil => intro _; exact Nat.zero_le _
  | cons z l ih =>
    intro hp
    obtain ⟨p1, p2⟩ := List.pairwise_cons.mp hp
    show (if B (kz z) = true then 0 else 1) + pn B l ≤ (if B' (kz z) = true then 0 else 1) + pn B' l + 1
    by_cases hq : kz z = q
    · have h1 := hs l (fun y hy e => p1 y hy (hq.trans e.symm))
      split <;> split <;> omega
    · have h1 := ih p2
      by_cases hb : B' (kz z) = true
      · rw [if_pos hb, if_pos (h _ hq hb)]; omega
      · rw [if_neg hb]
        split <;> omega
theorem pn_bk {xk : Nat → Nat} {l : ev_PL} (hp : l.Pairwise (fun y z => ¬ kz y = kz z)) : ∀ e, l.length ≤ pn (fun a => bk xk a e) l + e := by
  intro e
  induction e with
  | zero =>
    clear hp
    induction l with
    | nil => exact Nat.le_refl _
    | cons z l ih =>
      show l.length + 1 ≤ (if (false : Bool) = true then 0 else 1) + pn (fun a => bk xk a 0) l + 0
      rw [if_neg Bool.false_ne_true]
      omega
  | succ e ih =>
    have h1 := pn_one (B := fun a => bk xk a e) (B' := fun a => bk xk a (e + 1)) (q := xk e) (fun a ha hb => by
      obtain ⟨j, hj, e1⟩ := bk_iff.mp hb
      refine bk_iff.mpr ⟨j, Nat.lt_of_le_of_ne (by omega) (fun z => ?_), e1⟩
      rw [z] at e1
      exact ha e1.symm) l hp
    omega
section TH
variable {As : List Nat} {c k i : Nat} {L : ev_PL}
theorem kI_kz (h : kI As i c L) {j : Nat} (hj : j < L.length) : kz (pf_at L j) < 20 ∧ dp As i (kz (pf_at L j)) = L.length - j ∧ ∃ v, pf_at L j = (nI (kz (pf_at L j)), v) := by
  obtain ⟨a, ha, e1, e2⟩ := h.2.1 j hj
  have e3 := pf_at_of e1
  have e4 : kz (pf_at L j) = a := by
    rw [e3]
    exact nI_clamp (by omega)
  rw [e4]
  exact ⟨ha, e2, _, e3⟩
theorem kI_get {j : Nat} (hj : j < L.length) : L[j] = pf_at L j := (pf_at_of (List.getElem?_eq_getElem hj)).symm
theorem kI_pw (h : kI As i c L) : L.Pairwise (fun y z => ¬ kz y = kz z) := by
  refine List.pairwise_iff_getElem.mpr fun a b ha hb hab e => ?_
  rw [kI_get ha, kI_get hb] at e
  have h1 := (kI_kz h ha).2.1
  have h2 := (kI_kz h hb).2.1
  rw [e] at h1
  omega
theorem kI_mem (h : kI As i c L) {z : Int32 × Int32} (hz : z ∈ L) : kz z < 20 ∧ ¬ dp As i (kz z) = 0 ∧ dp As i (kz z) ≤ c := by
  obtain ⟨j, hj, e⟩ := List.getElem_of_mem hz
  rw [kI_get hj] at e
  obtain ⟨h1, h2, -⟩ := kI_kz h hj
  rw [e] at h1 h2
  have := h.1
  exact ⟨h1, by omega, by omega⟩
/-- how the run's holding changes -/
theorem bin_step (hk1 : 1 ≤ k) (hA : As.length ≤ 60) (hi : i < As.length) : bin As k (i + 1) (As.getD i 0) = true ∧
    ((gk As k i ∧ bin As k i (As.getD i 0) = true ∧ ∀ a, bin As k (i + 1) a = bin As k i a) ∨ (¬ gk As k i ∧ ¬ bin As k i (As.getD i 0) = true ∧ ∃ q, ∀ a, ¬ a = q → bin As k i a = true → bin As k (i + 1) a = true)) := by
  have hb := br_all (As := As) hk1 hA i (by omega)
  rcases (br_step hk1 hA hi hb).2 with ⟨f, f1, f2, f3, f4, f5⟩ | ⟨f1, f2, f3, f4, f5⟩ | ⟨f1, f2, f3, f4, f, f5, f6, f7⟩
  · have hs : ∀ a, bin As k (i + 1) a = bin As k i a := fun a => by unfold bin; rw [f4, f5]
    have hx : bin As k i (As.getD i 0) = true := bk_iff.mpr ⟨f, f1, f2⟩
    exact ⟨by rw [hs]; exact hx, Or.inl ⟨f3, hx, hs⟩⟩
  · refine ⟨bk_iff.mpr ⟨(br As k i).1, by rw [f4]; omega, by rw [f5, gu_s]⟩, Or.inr ⟨f2, fun z => f2 ((bin_gk hk1 hA hi).mp z), As.getD i 0, fun a _ z => ?_⟩⟩
    obtain ⟨j, hj, e⟩ := bk_iff.mp z
    exact bk_iff.mpr ⟨j, by rw [f4]; omega, by rw [f5, gu_o (by omega)]; exact e⟩
  · refine ⟨bk_iff.mpr ⟨f, by rw [f4]; exact f5, by rw [f7, gu_s]⟩, Or.inr ⟨f2, fun z => f2 ((bin_gk hk1 hA hi).mp z), (br As k i).2.1 f, fun a ha z => ?_⟩⟩
    obtain ⟨j, hj, e⟩ := bk_iff.mp z
    have hjf : ¬ j = f := fun w => ha (by rw [← e, w])
    exact bk_iff.mpr ⟨j, by rw [f4]; omega, by rw [f7, gu_o hjf]; exact e⟩
theorem bin_pn (hk1 : 1 ≤ k) (hA : As.length ≤ 60) (hi : i ≤ As.length) {l : ev_PL} (hp : l.Pairwise (fun y z => ¬ kz y = kz z)) : l.length ≤ pn (bin As k i) l + k := by
  have h1 := pn_bk (xk := (br As k i).2.1) hp (br As k i).1
  have h2 := (br_all (As := As) hk1 hA i hi).1
  have h3 : pn (fun a => bk (br As k i).2.1 a (br As k i).1) l = pn (bin As k i) l := rfl
  omega
theorem thm_all (hk1 : 1 ≤ k) (hkc : k ≤ c) (hA : As.length ≤ 60) (hA20 : ∀ i, i < As.length → As.getD i 0 < 20) : ∀ i, i ≤ As.length → ∃ L, kI As i c L ∧ (L.length < c → ∀ a, a < 20 → ¬ dp As i a = 0 → dp As i a ≤ L.length) ∧
    (c - k + 1) * mm As c i 0 + ph (bin As k i) 1 L ≤ c * (i - (gs As k i).2) + tri (L.length - k) := by
  intro i
  induction i with
  | zero => intro _; exact ⟨[], ⟨Nat.zero_le c, fun i hi => absurd hi (Nat.not_lt_zero i), fun a _ h => absurd rfl h⟩, fun _ a _ h => absurd rfl h, by show (c - k + 1) * 0 + 0 ≤ _; rw [Nat.mul_zero]; exact Nat.zero_le _⟩
  | succ i ih =>
    intro hi
    obtain ⟨L, hL, hF, hI⟩ := ih (by omega)
    have hx20 := hA20 i (by omega)
    obtain ⟨hbx, hbs⟩ := bin_step (k := k) hk1 hA (i := i) (by omega)
    have hgl := gs_le (As := As) (m := k) i
    have hpw := kI_pw hL
    have hpn := bin_pn (k := k) hk1 hA (i := i) (by omega) hpw
    have hmm : mm As c (i + 1) 0 = mm As c i 0 + (if mh As c (0 + i) = true then 0 else 1) := mm_s i 0
    rw [Nat.zero_add] at hmm
    have hgs1 : gk As k i → i + 1 - (gs As k (i + 1)).2 = i - (gs As k i).2 := fun ⟨b, g1, g2⟩ => by
      rw [gs_y g1 g2]
      show i + 1 - ((gs As k i).2 + 1) = _
      omega
    have hgs0 : ¬ gk As k i → i + 1 - (gs As k (i + 1)).2 = (i - (gs As k i).2) + 1 := fun hg => by
      rw [gs_n hg]; omega
    generalize hx : As.getD i 0 = x at *
    by_cases hd : ¬ dp As i x = 0 ∧ dp As i x ≤ c
    · -- held by the last asked
      have hmh : mh As c i = true := mh_dp.mpr (by rw [hx]; exact hd)
      rw [if_pos hmh, Nat.add_zero (mm As c i 0)] at hmm
      have hd3 := hL.2.2 x hx20 hd.1 hd.2
      have hL' := kI_hit hL hx20 hx hd
      generalize hj : L.length - dp As i x = j at hL'
      have hjl : j < L.length := by have := hd.1; omega
      obtain ⟨z1, z2, v, z3⟩ := kI_kz hL hjl
      have hkx : kz (pf_at L j) = x := Classical.byContradiction fun w => dp_ne w (by omega) hd.1 (by omega)
      have hel : (L.eraseIdx j).length = L.length - 1 := by rw [List.length_eraseIdx, if_pos hjl]
      have hlen : (L.eraseIdx j ++ [pf_at L j]).length = L.length := by rw [List.length_append, List.length_singleton]; omega
      have hphi : ph (bin As k (i + 1)) 1 (L.eraseIdx j ++ [pf_at L j]) = ph (bin As k (i + 1)) 1 (L.eraseIdx j) := by
        rw [ph_app]
        show _ + ((if bin As k (i + 1) (kz (pf_at L j)) = true then 0 else _) + 0) = _
        rw [hkx, if_pos hbx]
        rfl
      refine ⟨_, hL', fun hlt a ha h0 => ?_, ?_⟩
      · rw [hlen] at hlt ⊢
        by_cases hax : a = x
        · rw [hax, dp_1 hx]; omega
        · rw [dp_n hx hax] at h0 ⊢
          have hold := hF hlt a ha
          have hold2 := hF hlt x hx20 hd.1
          have hne := dp_ne (As := As) (p := i) hax
          (repeat' split at h0) <;> (repeat' split) <;> omega
      · rw [hphi, hmm]
        rw [hlen]
        have he := ph_erase (B := bin As k i) L 1 j
        rcases hbs with ⟨b1, b2, b3⟩ | ⟨b1, b2, q, b3⟩
        · rw [hgs1 b1, show bin As k (i + 1) = bin As k i from funext b3]
          omega
        · rw [hgs0 b1, Nat.mul_succ]
          have ho := ph_out b3 (L.eraseIdx j) 1 (Nat.le_refl 1) (hpw.sublist (List.eraseIdx_sublist L j))
          have := hL.1
          omega
    · have hmh : ¬ mh As c i = true := fun w => hd (by have := mh_dp.mp w; rw [hx] at this; exact this)
      rw [if_neg hmh] at hmm
      have hm2 := kI_miss hL hx20 hx (by omega) hd
      have hlc := hL.1
      have hdn : ∀ a, ¬ a = x → ¬ dp As i a = 0 → dp As i a ≤ c → dp As (i + 1) a = dp As i a + 1 := fun a hax h1 h2 => by
        rw [dp_n hx hax, if_neg h1, if_neg (fun w => hd ⟨w.1, by omega⟩)]
      by_cases hlt : L.length < c
      · have hx0 : dp As i x = 0 := Classical.byContradiction fun w => hd ⟨w, by have := hF hlt x hx20 w; omega⟩
        have hL' := hm2.1 hlt
        have hlen : (L ++ [(nI x, nI i)]).length = L.length + 1 := by rw [List.length_append, List.length_singleton]
        have hkn : kz (nI x, nI i) = x := nI_clamp (by omega)
        have hphi : ph (bin As k (i + 1)) 1 (L ++ [(nI x, nI i)]) = ph (bin As k (i + 1)) 1 L := by
          rw [ph_app]
          show _ + ((if bin As k (i + 1) (kz (nI x, nI i)) = true then 0 else _) + 0) = _
          rw [hkn, if_pos hbx]
          rfl
        refine ⟨_, hL', fun hlt2 a ha h0 => ?_, ?_⟩
        · rw [hlen] at hlt2 ⊢
          by_cases hax : a = x
          · rw [hax, dp_1 hx]; omega
          · rw [dp_n hx hax] at h0 ⊢
            have hold := hF hlt a ha
            (repeat' split at h0) <;> (repeat' split) <;> omega
        · rw [hlen, hphi, hmm]
          rcases hbs with ⟨b1, b2, b3⟩ | ⟨b1, b2, q, b3⟩
          · exfalso
            obtain ⟨j, hj, e⟩ := bk_iff.mp b2
            have hb := ((br_all (As := As) hk1 hA i (by omega)).2.1 j hj).1
            rw [e] at hb
            exact dp_mb.2 _ hb hx0
          · rw [hgs0 b1, Nat.mul_succ, Nat.mul_add, Nat.mul_one]
            have ho := ph_out b3 L 1 (Nat.le_refl 1) hpw
            by_cases hsk : k ≤ L.length
            · rw [show L.length + 1 - k = (L.length - k) + 1 from by omega]
              show _ ≤ _ + (tri (L.length - k) + (L.length - k + 1))
              omega
            · rw [show L.length + 1 - k = 0 from by omega]
              rw [show L.length - k = 0 from by omega] at hI
              omega
      · have hlen0 : L.length = c := by omega
        have hL' := hm2.2 hlen0
        rcases L with _ | ⟨z, t⟩
        · exfalso
          have : (0 : Nat) = c := hlen0
          omega
        · have hxn : ∀ y ∈ z :: t, ¬ kz y = x := fun y hy w => hd (by have := (kI_mem hL hy).2; rw [w] at this; exact this)
          have he : ((z :: t) ++ [(nI x, nI i)]).eraseIdx 0 = t ++ [(nI x, nI i)] := rfl
          rw [he] at hL'
          have htc : t.length + 1 = c := hlen0
          have hlen : (t ++ [(nI x, nI i)]).length = t.length + 1 := by rw [List.length_append, List.length_singleton]
          have hkn : kz (nI x, nI i) = x := nI_clamp (by omega)
          have hphi : ph (bin As k (i + 1)) 1 (t ++ [(nI x, nI i)]) = ph (bin As k (i + 1)) 1 t := by
            rw [ph_app]
            show _ + ((if bin As k (i + 1) (kz (nI x, nI i)) = true then 0 else _) + 0) = _
            rw [hkn, if_pos hbx]
            rfl
          have hold : ph (bin As k i) 1 (z :: t) = ph (bin As k i) 1 t + pn (bin As k i) (z :: t) := by
            show (if bin As k i (kz z) = true then 0 else 1) + ph (bin As k i) (1 + 1) t = _ + ((if bin As k i (kz z) = true then 0 else 1) + pn (bin As k i) t)
            rw [ph_w]
            omega
          have hl2 : (z :: t).length = t.length + 1 := rfl
          rw [hl2] at hI hpn
          refine ⟨_, hL', fun hlt2 => absurd hlt2 (by omega), ?_⟩
          rw [hlen, hphi, hmm, Nat.mul_add, Nat.mul_one]
          rw [hold] at hI
          rcases hbs with ⟨b1, b2, b3⟩ | ⟨b1, b2, q, b3⟩
          · rw [hgs1 b1, show bin As k (i + 1) = bin As k i from funext b3]
            have h5 := bin_pn (k := k) hk1 hA (i := i) (by omega) (l := (nI x, nI i) :: z :: t) (List.pairwise_cons.mpr ⟨fun y hy w => hxn y hy (w.symm.trans hkn), hpw⟩)
            have h6 : pn (bin As k i) ((nI x, nI i) :: z :: t) = pn (bin As k i) (z :: t) := by
              show (if bin As k i (kz (nI x, nI i)) = true then 0 else 1) + pn (bin As k i) (z :: t) = _
              rw [hkn, if_pos b2, Nat.zero_add]
            rw [h6] at h5
            have h7 : ((nI x, nI i) :: z :: t).length = t.length + 1 + 1 := rfl
            omega
          · rw [hgs0 b1, Nat.mul_succ]
            have ho := ph_out b3 t 1 (Nat.le_refl 1) (List.pairwise_cons.mp hpw).2
            omega
/-- the theorem: misses(c) * (c - k + 1) <= best(k) * c -/
theorem thm_end (hk1 : 1 ≤ k) (hkc : k ≤ c) (hA : As.length ≤ 60) (hA20 : ∀ i, i < As.length → As.getD i 0 < 20) : (c - k + 1) * mm As c As.length 0 ≤ c * (As.length - (gs As k As.length).2) := by
  obtain ⟨L, hL, -, hI⟩ := thm_all hk1 hkc hA hA20 As.length (Nat.le_refl _)
  have h1 := ph_tri (B := bin As k As.length) (Nat.le_refl 1) L
  have h2 := bin_pn (k := k) hk1 hA (Nat.le_refl _) (kI_pw hL)
  have h3 := tri_mono (a := L.length - k) (b := pn (bin As k As.length) L) (by omega)
  omega
/-- the fewest are no more than the last asked's -/
theorem thm_best (hc1 : 1 ≤ c) (hA : As.length ≤ 60) (hA20 : ∀ i, i < As.length → As.getD i 0 < 20) : As.length - (gs As c As.length).2 ≤ mm As c As.length 0 := by
  have hm : ∀ i, mm As c i 0 = ma As (fun i a => decide (¬ dp As i a = 0) && decide (dp As i a ≤ c)) i := by
    intro i
    induction i with
    | zero => rfl
    | succ i ih =>
      rw [mm_s, Nat.zero_add, ih]
      show _ + _ = _ + (if (decide (¬ dp As i (As.getD i 0) = 0) && decide (dp As i (As.getD i 0) ≤ c)) = true then 0 else 1)
      congr 1
      have : (mh As c i = true) = ((decide (¬ dp As i (As.getD i 0) = 0) && decide (dp As i (As.getD i 0) ≤ c)) = true) := by
        rw [mh_dp, Bool.and_eq_true, decide_eq_true_iff, decide_eq_true_iff]
      simp only [this]
  rw [hm]
  refine opt_le hc1 hA hA20 (fun a z => ?_) (fun i hi a z => ?_) (fun i hi => ?_) (fun i hi => ?_)
  · exact of_decide_eq_true (Bool.and_eq_true_iff.mp z).1 rfl
  · by_cases hax : a = As.getD i 0
    · exact Or.inl hax
    · refine Or.inr ?_
      rw [Bool.and_eq_true, decide_eq_true_iff, decide_eq_true_iff] at z ⊢
      rw [dp_n rfl hax] at z
      obtain ⟨z1, z2⟩ := z
      (repeat' split at z1) <;> (repeat' split at z2) <;> omega
  · rw [Bool.and_eq_true, decide_eq_true_iff, decide_eq_true_iff, dp_1 rfl]
    omega
  · have hcount : ∀ (n d : Nat), kc (fun a => decide (¬ dp As i a = 0) && decide (dp As i a ≤ d)) n ≤ d := by
      intro n d
      induction d with
      | zero =>
        rw [kc_zero n (fun a _ z => by
          rw [Bool.and_eq_true, decide_eq_true_iff, decide_eq_true_iff] at z
          omega)]
        exact Nat.le_refl 0
      | succ d ih =>
        by_cases hex : ∃ y, y < n ∧ dp As i y = d + 1
        · obtain ⟨y, hy, ey⟩ := hex
          rw [kc_split n hy]
          have h1 : kc (kx (fun a => decide (¬ dp As i a = 0) && decide (dp As i a ≤ d + 1)) y) n ≤ kc (fun a => decide (¬ dp As i a = 0) && decide (dp As i a ≤ d)) n := kc_mono n fun a _ z => by
            rw [kx_iff, Bool.and_eq_true, decide_eq_true_iff, decide_eq_true_iff] at z
            obtain ⟨⟨z1, z2⟩, z3⟩ := z
            have := dp_ne (As := As) (p := i) z3 z1 (by omega)
            rw [Bool.and_eq_true, decide_eq_true_iff, decide_eq_true_iff]
            omega
          split <;> omega
        · refine Nat.le_trans (kc_mono n fun a ha z => ?_) (Nat.le_succ_of_le ih)
          rw [Bool.and_eq_true, decide_eq_true_iff, decide_eq_true_iff] at z ⊢
          have : ¬ dp As i a = d + 1 := fun w => hex ⟨a, ha, w⟩
          omega
    exact hcount 20 c
/-- a greater size of the last asked misses no more -/
theorem thm_grow : ∀ i, mm As (c + 1) i 0 ≤ mm As c i 0 := by
  intro i
  induction i with
  | zero => exact Nat.le_refl _
  | succ i ih =>
    rw [mm_s, mm_s, Nat.zero_add]
    by_cases h : mh As c i = true
    · have h2 : mh As (c + 1) i = true := mh_dp.mpr (by have := mh_dp.mp h; omega)
      rw [if_pos h, if_pos h2]
      omega
    · rw [if_neg h]
      split <;> omega
end TH
end
section
/-! ===== the class: isSound, its answer ===== -/
theorem nI_mul9 {a b : Nat} : nI a * nI b = nI (a * b) := by
  induction b with
  | zero => rw [nI_0, Int32.mul_zero, Nat.mul_zero, nI_0]
  | succ b ih => rw [nI_succ, Int32.mul_add, ih, Int32.mul_one, nI_add, Nat.mul_succ]
theorem pr_cnt_mm {As : List Nat} {de : Nat → Int32} {c : Nat} (hc : c ≤ 60) : ∀ d i s, i + d ≤ As.length → As.length ≤ 60 → (∀ k, k < As.length → de k = nI (dp As k (As.getD k 0))) → pr_cnt de (fun y => decide (y = 0 ∨ nI c < y)) d i (nI s) = nI (s + mm As c d i) := by
  intro d
  induction d with
  | zero => intro i s _ _ _; rfl
  | succ d ih =>
    intro i s hi hA hde
    show pr_cnt de (fun y => decide (y = 0 ∨ nI c < y)) d (i + 1) (if decide (de i = 0 ∨ nI c < de i) = true then nI s + 1 else nI s) = nI (s + ((if mh As c i = true then 0 else 1) + mm As c d (i + 1)))
    have hdl := dp_le (As := As) (p := i) (a := As.getD i 0)
    have hiff : (decide (de i = 0 ∨ nI c < de i) = true) ↔ ¬ mh As c i = true := by
      rw [decide_eq_true_iff, hde i (by omega), mh_dp, show (0 : Int32) = nI 0 from rfl, nI_eq (by omega) (by omega), nI_ltI (by omega) (by omega)]
      omega
    by_cases h : mh As c i = true
    · rw [if_neg (fun z => hiff.mp z h), if_pos h, ih (i + 1) s (by omega) hA hde, Nat.zero_add]
    · rw [if_pos (hiff.mpr h), if_neg h, ← nI_succ, ih (i + 1) (s + 1) (by omega) hA hde, show s + 1 + mm As c d (i + 1) = s + (1 + mm As c d (i + 1)) from by omega]
theorem kI_last {As : List Nat} {p c : Nat} {L LO : ev_PL} (hp : p ≤ 60) (h : kI As p c L) (ho : kI As p 100 LO) : L.length ≤ LO.length ∧ (LO.length < c → L.length = LO.length) ∧ (c ≤ LO.length → L.length = c) ∧ ∀ i, i < L.length → (pf_at L i).1 = (pf_at LO (LO.length - L.length + i)).1 := by
  have h1 := h.1
  have hle : L.length ≤ LO.length := by
    rcases Nat.eq_zero_or_pos L.length with e | e
    · omega
    · obtain ⟨a, ha, e1, e2⟩ := h.2.1 0 e
      have h3 := ho.2.2 a ha (by omega) (by have := dp_le (As := As) (p := p) (a := a); omega)
      omega
  have hmax : L.length < LO.length → c ≤ L.length := fun hlt => by
    obtain ⟨a, ha, e1, e2⟩ := ho.2.1 (LO.length - L.length - 1) (by omega)
    refine Nat.le_of_not_lt fun hc => ?_
    have := h.2.2 a ha (by omega) (by omega)
    omega
  refine ⟨hle, fun hc => ?_, fun hc => ?_, fun i hi => ?_⟩
  · rcases Nat.lt_or_eq_of_le hle with e | e
    · have := hmax e; omega
    · exact e
  · rcases Nat.lt_or_eq_of_le hle with e | e
    · have := hmax e; omega
    · omega
  · obtain ⟨a, ha, e1, e2⟩ := h.2.1 i hi
    obtain ⟨b, hb, f1, f2⟩ := ho.2.1 (LO.length - L.length + i) (by omega)
    have hab : a = b := Classical.byContradiction fun z => dp_ne (As := As) (p := p) z (by omega) (by omega) (by omega)
    rw [pf_at_of e1, pf_at_of f1, hab]
section S78
variable {X : ev_E} {h H : ev_M} {r o : Nat} {b m lm ll bo mo lmo llo : Int32} {L LO : ev_PL} {n q : Nat} {P : ev_O → ev_M → Nat → Nat → Prop}
theorem R_lastOf1 (hH : ev_rL h r L b m lm ll H) (hO : ev_rL H o LO bo mo lmo llo H) (hl : L.length ≤ 20) (hlo : LO.length ≤ 20) (hE : nI L.length = (if nI LO.length < m then nI LO.length else m)) (hle : L.length ≤ LO.length) (hK : ∀ i, i < L.length → (pf_at L i).1 = (pf_at LO (LO.length - L.length + i)).1) (c : P (.inl (some (.int 1))) H n q) : ev_ok (ev_TT X) 93 0 [.ref r, .ref o, ev_J, ev_J] [] H n q P := by
  obtain ⟨kf, vf, h1, e⟩ := hH
  obtain ⟨ko, vo, h2, eo⟩ := hO
  have r0 : ev_lk X H r = _ := ev_lk_s ((congrFun e r).trans ev_row_0)
  have r1 : ev_lk X H (r + 1) = _ := ev_lk_s ((congrFun e (r + 1)).trans ev_row_1)
  have o0 : ev_lk X H o = _ := ev_lk_s ((congrFun eo o).trans ev_row_0)
  have o1 : ev_lk X H (o + 1) = _ := ev_lk_s ((congrFun eo (o + 1)).trans ev_row_1)
  have hmin := fun x y P n q => @r_min X n q P x y H
  have hs : nI LO.length - nI L.length = nI (LO.length - L.length) := pk_sub hle
  have key : ∀ d i, i + d = L.length → ev_ok (ev_TT X) 93 32 [.ref r, .ref o, .int (nI (LO.length - L.length)), .int (nI i)] [] H n q P := by
    intro d
    induction d with
    | zero =>
      intro i hi
      have hi2 : L.length ≤ i := by omega
      simp (disch := omega) only [t_X2_isLastOf_32, t_X2_isLastOf_33, t_X2_isLastOf_34, t_X2_isLastOf_37, t_X2_isLastOf_65, t_X2_isLastOf_66, ↓reduceIte, ev_nb_1, true_and, ev_fG_2, ev_isO_2, r0, nI_leI, hi2]
      exact c
    | succ d ih =>
      intro i hi
      have hi2 : ¬ L.length ≤ i := by omega
      have hp := nI_pos' (n := i) (by omega)
      have hp2 := nI_pos' (n := LO.length - L.length + i) (by omega)
      have h20 : i < 20 := by omega
      have h21 : LO.length - L.length + i < 20 := by omega
      have hI := ih (i + 1) (by omega)
      have hno : kf i = ko (LO.length - L.length + i) := by
        rw [(ev_RL_at h1 (show i < L.length by omega)).1, (ev_RL_at h2 (show LO.length - L.length + i < LO.length by omega)).1]
        exact hK i (by omega)
      rw [t_X2_isLastOf_32]
      simp (disch := omega) only [t_X2_isLastOf_33, t_X2_isLastOf_34, t_X2_isLastOf_37, t_X2_isLastOf_40, t_X2_isLastOf_41, t_X2_isLastOf_44, t_X2_isLastOf_45, t_X2_isLastOf_46, t_X2_isLastOf_47, t_X2_isLastOf_50, t_X2_isLastOf_51, t_X2_isLastOf_52, t_X2_isLastOf_53, t_X2_isLastOf_54, t_X2_isLastOf_59, t_X2_isLastOf_62, ↓reduceIte, ev_k_i, ev_aG_y, ev_inA_0, and_true, true_and, nI_1, ev_fG_0, ev_fG_2, ev_isO_0, ev_isO_2, r0, r1, o0, o1, nI_leI, hi2, hp, hp2, h20, h21, nI_add, nI_clamp, hno]
      first | exact hI | (split <;> (first | exact hI | exact c | (rename_i z; exfalso; first | exact z hno | exact hno z | exact Int32.not_le.mpr z hno | exact Int32.not_lt.mpr hno z | exact absurd hno (Int32.not_lt.mpr z))))
  have h9 := key L.length 0 (by omega)
  rw [nI_0] at h9
  simp (disch := omega) only [t_X2_isLastOf_0, t_X2_isLastOf_1, t_X2_isLastOf_4, t_X2_isLastOf_5, t_X2_isLastOf_8, t_X2_isLastOf_9, t_X2_isLastOf_12, t_X2_isLastOf_15, t_X2_isLastOf_20, t_X2_isLastOf_21, t_X2_isLastOf_24, t_X2_isLastOf_25, t_X2_isLastOf_28, t_X2_isLastOf_29, t_X2_isLastOf_30, t_X2_isLastOf_31, ↓reduceIte, ev_k_i, ev_k_r, ev_kr_1, true_and, ev_fG_2, ev_fG_4, ev_isO_2, ev_isO_4, r0, o0, hmin, hs, ← hE]
  exact h9
end S78
section C78
variable {X : ev_E} {x : Nat} {G : ev_CS} {As : List Nat} {H : ev_M} {n q : Nat} {P : ev_O → ev_M → Nat → Nat → Prop}
theorem C_aKeep1 (hl : jR G As) (hN60 : As.length ≤ 60) (hc : c_all x G H) (hG : okG G) (c : P (.inl (some (.int 1))) H n q) : ev_ok (ev_TT X) 146 0 [.ref x, ev_J, ev_J, ev_J, ev_J] [] H n q P := by
  have h0 := hc.1
  unfold c_top at h0
  have hst := hc.2.2.2.1
  have hls := okL_len hG.2.1
  have hG' : ∀ j, j < 6 → (G.2.2.1 j).1.length ≤ 20 := fun j hj => okL_len (hG.2.2.1 j hj)
  have ha0 := c_ask0 hc
  have hak : ev_isK (ev_lk X H (x + 2)) 5 = True := by rw [ev_lk_s ha0]; exact ev_isK_y
  obtain ⟨ne, hk1, hn1, hHa, hN⟩ := hc.2.2.1
  obtain ⟨f, h4, h4b⟩ := hc.2.2.2.2.1
  have key : ∀ d j w, j + d = 6 → ev_ok (ev_TT X) 146 10 [.ref x, .ref (x + 11), .int (nI 6), .int (nI j), w] [] H n q P := by
    intro d
    induction d with
    | zero =>
      intro j w hj
      have hi2 : 6 ≤ j := by omega
      simp (disch := omega) only [t_X5_areKeepersLastOfStack_10, t_X5_areKeepersLastOfStack_11, t_X5_areKeepersLastOfStack_12, t_X5_areKeepersLastOfStack_43, t_X5_areKeepersLastOfStack_44, ↓reduceIte, ev_nb_1, true_and, nI_leI, hi2]
      exact c
    | succ d ih =>
      intro j w hj
      have hj6 : j < 6 := by omega
      have hi2 : ¬ 6 ≤ j := by omega
      have hp := nI_pos' (n := j) (by omega)
      have hf := h4b j hj6
      obtain ⟨h7, h8⟩ := hc.2.2.2.2.2.2.2 j hj6
      unfold ev_kec at h7
      have h8k := ev_rL_k (X := X) h8
      have hI := ih (j + 1) (.ref (x + 33 + 4 * j)) (by omega)
      rw [t_X5_areKeepersLastOfStack_10]
      simp (disch := omega) only [t_X5_areKeepersLastOfStack_11, t_X5_areKeepersLastOfStack_12, t_X5_areKeepersLastOfStack_15, t_X5_areKeepersLastOfStack_16, t_X5_areKeepersLastOfStack_17, t_X5_areKeepersLastOfStack_18, t_X5_areKeepersLastOfStack_20, t_X5_areKeepersLastOfStack_22, t_X5_areKeepersLastOfStack_25, t_X5_areKeepersLastOfStack_26, t_X5_areKeepersLastOfStack_29, ↓reduceIte, ev_k_i, ev_aG_y, and_true, true_and, ev_fG_0, ev_fG_2, ev_isO_0, ev_isO_2, ev_lk_s h0, nI_leI, hi2, nI_clamp, hp, hj6, ev_lk_s h4, hf, ev_inA_4, ev_lk_s h7, h8k]
      obtain ⟨l1, l2, l3, l4⟩ := kI_last hN60 (hl.2.2.2 j hj6).1 hl.2.2.1.1
      refine R_lastOf1 h8 hst (hG' j hj6) hls ?_ l1 l4 ?_
      · rw [(hl.2.2.2 j hj6).2.1]
        by_cases z : G.2.1.1.length < j + 1
        · rw [if_pos ((nI_ltI (by omega) (by omega)).mpr z), l2 z]
        · rw [if_neg (fun w => z ((nI_ltI (by omega) (by omega)).mp w)), l3 (by omega)]
      · simp (disch := omega) only [t_X5_areKeepersLastOfStack_32, t_X5_areKeepersLastOfStack_37, t_X5_areKeepersLastOfStack_40, ↓reduceIte, ev_k_i, ev_kr_1, not_false_eq_true, nI_1, show ¬ (1 : Int32) = 0 from by decide]
        exact hI
  have h9 := key 6 0 ev_J (by omega)
  rw [nI_0] at h9
  simp (disch := omega) only [t_X5_areKeepersLastOfStack_0, t_X5_areKeepersLastOfStack_1, t_X5_areKeepersLastOfStack_4, t_X5_areKeepersLastOfStack_5, t_X5_areKeepersLastOfStack_6, t_X5_areKeepersLastOfStack_7, t_X5_areKeepersLastOfStack_8, t_X5_areKeepersLastOfStack_9, ev_k_i, ev_k_r, ev_aN_y, true_and, ev_fG_3, ev_isO_3, ev_ofN, ev_lk_s h0, ev_lk_s h4, ev_isA_4, ev_ofN]
  exact h9
theorem C_aMiss1 (hl : jR G As) (hN60 : As.length ≤ 60) (hc : c_all x G H) (hG : okG G) (c : P (.inl (some (.int 1))) H n q) : ev_ok (ev_TT X) 99 0 [.ref x, ev_J, ev_J, ev_J, ev_J] [] H n q P := by
  have h0 := hc.1
  unfold c_top at h0
  have hst := hc.2.2.2.1
  have hls := okL_len hG.2.1
  have hG' : ∀ j, j < 6 → (G.2.2.1 j).1.length ≤ 20 := fun j hj => okL_len (hG.2.2.1 j hj)
  have ha0 := c_ask0 hc
  have hak : ev_isK (ev_lk X H (x + 2)) 5 = True := by rw [ev_lk_s ha0]; exact ev_isK_y
  obtain ⟨ne, hk1, hn1, hHa, hN⟩ := hc.2.2.1
  obtain ⟨f, h4, h4b⟩ := hc.2.2.2.2.1
  have key : ∀ d j w, j + d = 6 → ev_ok (ev_TT X) 99 10 [.ref x, .ref (x + 11), .int (nI 6), .int (nI j), w] [] H n q P := by
    intro d
    induction d with
    | zero =>
      intro j w hj
      have hi2 : 6 ≤ j := by omega
      simp (disch := omega) only [t_X5_areMissesByDepth_10, t_X5_areMissesByDepth_11, t_X5_areMissesByDepth_12, t_X5_areMissesByDepth_51, t_X5_areMissesByDepth_52, ↓reduceIte, ev_nb_1, true_and, nI_leI, hi2]
      exact c
    | succ d ih =>
      intro j w hj
      have hj6 : j < 6 := by omega
      have hi2 : ¬ 6 ≤ j := by omega
      have hp := nI_pos' (n := j) (by omega)
      have hf := h4b j hj6
      obtain ⟨h7, h8⟩ := hc.2.2.2.2.2.2.2 j hj6
      unfold ev_kec at h7
      have h8k := ev_rL_k (X := X) h8
      have h8b := (ev_rL_b (X := X) h8).2.2.1
      have hI := ih (j + 1) (.ref (x + 33 + 4 * j)) (by omega)
      rw [t_X5_areMissesByDepth_10]
      simp (disch := omega) only [t_X5_areMissesByDepth_11, t_X5_areMissesByDepth_12, t_X5_areMissesByDepth_15, t_X5_areMissesByDepth_16, t_X5_areMissesByDepth_17, t_X5_areMissesByDepth_18, t_X5_areMissesByDepth_20, t_X5_areMissesByDepth_22, t_X5_areMissesByDepth_25, t_X5_areMissesByDepth_26, t_X5_areMissesByDepth_29, t_X5_areMissesByDepth_31, t_X5_areMissesByDepth_34, t_X5_areMissesByDepth_37, ↓reduceIte, ev_k_i, ev_aG_y, and_true, true_and, ev_fG_0, ev_fG_1, ev_isO_0, ev_isO_1, ev_lk_s h0, nI_leI, hi2, nI_clamp, hp, hj6, ev_lk_s h4, hf, ev_inA_4, ev_lk_s h7, hak, h8b.1, h8b.2]
      rw [hHa]
      refine A_cntO hG.2.2.2 ?_
      rw [← hHa]
      have hno : (G.2.2.1 j).2.2.2.2.1 = pr_cnt G.2.2.2.1.2.1 (fun y => decide (y = 0 ∨ (G.2.2.1 j).2.1 < y)) G.2.2.2.1.2.2 0 0 := by
        have h9 := pr_cnt_mm (As := As) (de := G.2.2.2.1.2.1) (c := j + 1) (by omega) As.length 0 0 (by omega) hN60 (fun k hk => (hl.2.1 k hk).2)
        rw [nI_0, Nat.zero_add] at h9
        rw [(hl.2.2.2 j hj6).2.1, ← hl.1, h9]
        exact (hl.2.2.2 j hj6).2.2.2.1
      simp (disch := omega) only [t_X5_areMissesByDepth_40, t_X5_areMissesByDepth_45, t_X5_areMissesByDepth_48, ↓reduceIte, ev_k_i, ev_kr_1, nI_1, ← hno]
      first | exact hI | (split <;> (first | exact hI | exact c | (rename_i z; exfalso; first | exact z hno | exact hno z | exact Int32.not_le.mpr z hno | exact Int32.not_lt.mpr hno z | exact absurd hno (Int32.not_lt.mpr z))))
  have h9 := key 6 0 ev_J (by omega)
  rw [nI_0] at h9
  simp (disch := omega) only [t_X5_areMissesByDepth_0, t_X5_areMissesByDepth_1, t_X5_areMissesByDepth_4, t_X5_areMissesByDepth_5, t_X5_areMissesByDepth_6, t_X5_areMissesByDepth_7, t_X5_areMissesByDepth_8, t_X5_areMissesByDepth_9, ev_k_i, ev_k_r, ev_aN_y, true_and, ev_fG_3, ev_isO_3, ev_ofN, ev_lk_s h0, ev_lk_s h4, ev_isA_4, ev_ofN]
  exact h9
theorem C_aBest1 (hc : c_all x G H) {be : Nat → Int32} (h5 : H (x + 12) = some (.inl (0, 6, fun i => .int (be i)))) (hno : ∀ j, j < 6 → be j ≤ (G.2.2.1 j).2.2.2.2.1) (c : P (.inl (some (.int 1))) H n q) : ev_ok (ev_TT X) 46 0 [.ref x, ev_J] [] H n q P := by
  have h0 := hc.1
  unfold c_top at h0
  obtain ⟨f, h4, h4b⟩ := hc.2.2.2.2.1
  have h6' : (6 : Int32) = nI 6 := rfl
  have key : ∀ d j, j + d = 6 → ev_ok (ev_TT X) 46 2 [.ref x, .int (nI j)] [] H n q P := by
    intro d
    induction d with
    | zero =>
      intro j hj
      have hi2 : 6 ≤ j := by omega
      simp (disch := omega) only [t_X5_areBestsWithinMisses_2, t_X5_areBestsWithinMisses_3, t_X5_areBestsWithinMisses_5, t_X5_areBestsWithinMisses_34, t_X5_areBestsWithinMisses_35, ↓reduceIte, ev_nb_1, true_and, nI_leI, hi2, h6']
      exact c
    | succ d ih =>
      intro j hj
      have hj6 : j < 6 := by omega
      have hi2 : ¬ 6 ≤ j := by omega
      have hp := nI_pos' (n := j) (by omega)
      have hf := h4b j hj6
      obtain ⟨h7, h8⟩ := hc.2.2.2.2.2.2.2 j hj6
      unfold ev_kec at h7
      have hI := ih (j + 1) (by omega)
      have hno := hno j hj6
      rw [t_X5_areBestsWithinMisses_2]
      simp (disch := omega) only [t_X5_areBestsWithinMisses_3, t_X5_areBestsWithinMisses_5, t_X5_areBestsWithinMisses_8, t_X5_areBestsWithinMisses_9, t_X5_areBestsWithinMisses_12, t_X5_areBestsWithinMisses_13, t_X5_areBestsWithinMisses_14, t_X5_areBestsWithinMisses_15, t_X5_areBestsWithinMisses_18, t_X5_areBestsWithinMisses_19, t_X5_areBestsWithinMisses_20, t_X5_areBestsWithinMisses_23, t_X5_areBestsWithinMisses_28, t_X5_areBestsWithinMisses_31, ↓reduceIte, ev_k_r, ev_aG_y, ev_inA_0, and_true, true_and, nI_1, ev_fG_1, ev_fG_3, ev_fG_4, ev_isO_1, ev_isO_3, ev_isO_4, h6', nI_leI, hi2, ev_lk_s h0, ev_lk_s h4, ev_lk_s h5, hf, hp, hj6, nI_clamp, ev_inA_4, ev_lk_s h7, hno]
      first | exact hI | (split <;> (first | exact hI | exact c | (rename_i z; exfalso; first | exact z hno | exact hno z | exact Int32.not_le.mpr z hno | exact Int32.not_lt.mpr hno z | exact absurd hno (Int32.not_lt.mpr z))))
  have h9 := key 6 0 (by omega)
  rw [nI_0] at h9
  simp (disch := omega) only [t_X5_areBestsWithinMisses_0, t_X5_areBestsWithinMisses_1, ev_k_r]
  exact h9
theorem C_aGrow1 (hc : c_all x G H) {be : Nat → Int32} (h5 : H (x + 12) = some (.inl (0, 6, fun i => .int (be i)))) (hno : ∀ j, j < 5 → (G.2.2.1 (j + 1)).2.2.2.2.1 ≤ (G.2.2.1 j).2.2.2.2.1 ∧ be (j + 1) ≤ be j) (c : P (.inl (some (.int 1))) H n q) : ev_ok (ev_TT X) 53 0 [.ref x, ev_J] [] H n q P := by
  have h0 := hc.1
  unfold c_top at h0
  obtain ⟨f, h4, h4b⟩ := hc.2.2.2.2.1
  have h6' : (6 : Int32) = nI 6 := rfl
  have key : ∀ d j, j + d = 5 → ev_ok (ev_TT X) 53 2 [.ref x, .int (nI (j + 1))] [] H n q P := by
    intro d
    induction d with
    | zero =>
      intro j hj
      have hi2 : 6 ≤ j + 1 := by omega
      simp (disch := omega) only [t_X5_isNoneGrowingWithSize_2, t_X5_isNoneGrowingWithSize_3, t_X5_isNoneGrowingWithSize_5, t_X5_isNoneGrowingWithSize_56, t_X5_isNoneGrowingWithSize_57, ↓reduceIte, ev_nb_1, true_and, nI_leI, hi2, h6']
      exact c
    | succ d ih =>
      intro j hj
      have hj6 : j < 6 := by omega
      have hj7 : j + 1 < 6 := by omega
      have hi2 : ¬ 6 ≤ j + 1 := by omega
      have hp := nI_pos' (n := j) (by omega)
      have hp1 := nI_pos' (n := j + 1) (by omega)
      have hf := h4b j hj6
      have hf1 := h4b (j + 1) hj7
      obtain ⟨h7, h8⟩ := hc.2.2.2.2.2.2.2 j hj6
      obtain ⟨h71, h81⟩ := hc.2.2.2.2.2.2.2 (j + 1) hj7
      unfold ev_kec at h7 h71
      have hI := ih (j + 1) (by omega)
      obtain ⟨hn1, hn2⟩ := hno j (by omega)
      have hn3 := Int32.not_lt.mpr hn1
      have hn4 := Int32.not_lt.mpr hn2
      rw [t_X5_isNoneGrowingWithSize_2]
      simp (disch := omega) only [t_X5_isNoneGrowingWithSize_3, t_X5_isNoneGrowingWithSize_5, t_X5_isNoneGrowingWithSize_8, t_X5_isNoneGrowingWithSize_9, t_X5_isNoneGrowingWithSize_12, t_X5_isNoneGrowingWithSize_13, t_X5_isNoneGrowingWithSize_14, t_X5_isNoneGrowingWithSize_17, t_X5_isNoneGrowingWithSize_18, t_X5_isNoneGrowingWithSize_21, t_X5_isNoneGrowingWithSize_22, t_X5_isNoneGrowingWithSize_23, t_X5_isNoneGrowingWithSize_24, t_X5_isNoneGrowingWithSize_25, t_X5_isNoneGrowingWithSize_28, t_X5_isNoneGrowingWithSize_31, t_X5_isNoneGrowingWithSize_32, t_X5_isNoneGrowingWithSize_35, t_X5_isNoneGrowingWithSize_36, t_X5_isNoneGrowingWithSize_37, t_X5_isNoneGrowingWithSize_38, t_X5_isNoneGrowingWithSize_41, t_X5_isNoneGrowingWithSize_42, t_X5_isNoneGrowingWithSize_43, t_X5_isNoneGrowingWithSize_44, t_X5_isNoneGrowingWithSize_45, t_X5_isNoneGrowingWithSize_50, t_X5_isNoneGrowingWithSize_53, ↓reduceIte, ev_k_r, ev_aG_y, ev_inA_0, and_true, true_and, nI_1, ev_fG_1, ev_fG_3, ev_fG_4, ev_isO_1, ev_isO_3, ev_isO_4, h6', nI_pred, nI_leI, hi2, ev_lk_s h0, ev_lk_s h4, ev_lk_s h5, hf, hf1, hp, hp1, hj6, hj7, nI_clamp, ev_inA_4, ev_lk_s h7, ev_lk_s h71, hn2, hn3]
      first | exact hI | (split <;> first | exact hI | (split <;> first | exact hI | (rename_i z; exfalso; first | exact z hn1 | exact z hn2 | exact hn3 z | exact hn4 z)) | (rename_i z; exfalso; first | exact z hn1 | exact z hn2 | exact hn3 z | exact hn4 z))
  have h9 := key 5 0 (by omega)
  rw [show nI (0 + 1) = 1 from rfl] at h9
  simp (disch := omega) only [t_X5_isNoneGrowingWithSize_0, t_X5_isNoneGrowingWithSize_1, ev_k_r]
  exact h9
theorem C_aThm1 (hc : c_all x G H) {be : Nat → Int32} (h5 : H (x + 12) = some (.inl (0, 6, fun i => .int (be i)))) (hno : ∀ j k, j < 6 → k ≤ j → (G.2.2.1 j).2.2.2.2.1 * (nI (j + 1) - nI (k + 1) + 1) ≤ be k * nI (j + 1)) (c : P (.inl (some (.int 1))) H n q) : ev_ok (ev_TT X) 54 0 [.ref x, ev_J, ev_J] [] H n q P := by
  have h0 := hc.1
  unfold c_top at h0
  obtain ⟨f, h4, h4b⟩ := hc.2.2.2.2.1
  have h6' : (6 : Int32) = nI 6 := rfl
  have key : ∀ d j w, j + d = 6 → ev_ok (ev_TT X) 54 2 [.ref x, .int (nI (j + 1)), w] [] H n q P := by
    intro d
    induction d with
    | zero =>
      intro j w hj
      have hi2 : 6 < j + 1 := by omega
      simp (disch := omega) only [t_X5_isTheoremKept_2, t_X5_isTheoremKept_3, t_X5_isTheoremKept_5, t_X5_isTheoremKept_59, t_X5_isTheoremKept_60, ↓reduceIte, ev_nb_1, true_and, nI_ltI, hi2, h6']
      exact c
    | succ d ih =>
      intro j w hj
      have hj6 : j < 6 := by omega
      have hi2 : ¬ 6 < j + 1 := by omega
      have hp := nI_pos' (n := j) (by omega)
      have hf := h4b j hj6
      obtain ⟨h7, h8⟩ := hc.2.2.2.2.2.2.2 j hj6
      unfold ev_kec at h7
      have inner : ∀ e k, k + e = j + 1 → ev_ok (ev_TT X) 54 10 [.ref x, .int (nI (j + 1)), .int (nI (k + 1))] [] H n q P := by
        intro e
        induction e with
        | zero =>
          intro k hk
          have hi3 : j + 1 < k + 1 := by omega
          have hI := ih (j + 1) (.int (nI (k + 1))) (by omega)
          simp (disch := omega) only [t_X5_isTheoremKept_10, t_X5_isTheoremKept_11, t_X5_isTheoremKept_12, t_X5_isTheoremKept_53, t_X5_isTheoremKept_56, ↓reduceIte, ev_k_r, nI_1, nI_ltI, hi3]
          exact hI
        | succ e ih2 =>
          intro k hk
          have hi3 : ¬ j + 1 < k + 1 := by omega
          have hj7 : k < 6 := by omega
          have hp1 := nI_pos' (n := k) (by omega)
          have hI := ih2 (k + 1) (by omega)
          have hno := hno j k hj6 (by omega)
          rw [t_X5_isTheoremKept_10]
          simp (disch := omega) only [t_X5_isTheoremKept_11, t_X5_isTheoremKept_12, t_X5_isTheoremKept_15, t_X5_isTheoremKept_16, t_X5_isTheoremKept_19, t_X5_isTheoremKept_20, t_X5_isTheoremKept_21, t_X5_isTheoremKept_22, t_X5_isTheoremKept_23, t_X5_isTheoremKept_26, t_X5_isTheoremKept_27, t_X5_isTheoremKept_28, t_X5_isTheoremKept_29, t_X5_isTheoremKept_30, t_X5_isTheoremKept_31, t_X5_isTheoremKept_32, t_X5_isTheoremKept_33, t_X5_isTheoremKept_36, t_X5_isTheoremKept_37, t_X5_isTheoremKept_38, t_X5_isTheoremKept_39, t_X5_isTheoremKept_40, t_X5_isTheoremKept_41, t_X5_isTheoremKept_42, t_X5_isTheoremKept_47, t_X5_isTheoremKept_50, ↓reduceIte, ev_k_i, ev_aG_y, ev_inA_0, and_true, true_and, nI_1, ev_fG_1, ev_fG_3, ev_fG_4, ev_isO_1, ev_isO_3, ev_isO_4, nI_pred, nI_ltI, ev_lk_s h0, ev_lk_s h4, ev_lk_s h5, hf, hp, hp1, hj6, hj7, nI_clamp, ev_inA_4, ev_lk_s h7, hi3, hno]
          first | exact hI | (split <;> (first | exact hI | exact c | (rename_i z; exfalso; first | exact z hno | exact hno z | exact Int32.not_le.mpr z hno | exact Int32.not_lt.mpr hno z | exact absurd hno (Int32.not_lt.mpr z))))
      have h9 := inner (j + 1) 0 (by omega)
      rw [show nI (0 + 1) = 1 from rfl] at h9
      rw [t_X5_isTheoremKept_2]
      simp (disch := omega) only [t_X5_isTheoremKept_3, t_X5_isTheoremKept_5, t_X5_isTheoremKept_8, t_X5_isTheoremKept_9, ↓reduceIte, ev_k_i, h6', nI_ltI, hi2]
      exact h9
  have h9 := key 6 0 ev_J (by omega)
  rw [show nI (0 + 1) = 1 from rfl] at h9
  simp (disch := omega) only [t_X5_isTheoremKept_0, t_X5_isTheoremKept_1, ev_k_r]
  exact h9
theorem C_aMost1 (hM : ∀ i, i < 4 → ¬ pr_above (G.1 i).2.1.2.1 (G.1 i).1.length) (hM2 : ∀ j, j < 6 → ¬ pr_above (G.2.2.1 j).2.1 (G.2.2.1 j).1.length) (hc : c_all x G H) (c : P (.inl (some (.int 1))) H n q) : ev_ok (ev_TT X) 106 0 [.ref x, ev_J, ev_J, ev_J, ev_J] [] H n q P := by
  have h0 := hc.1
  unfold c_top at h0
  obtain ⟨f, h4, h4b⟩ := hc.2.2.2.2.1
  obtain ⟨g, g4, g4b⟩ := hc.2.1
  have key : ∀ d j w l0, j + d = 6 → ev_ok (ev_TT X) 106 49 [l0, .ref (x + 11), .int (nI 6), .int (nI j), w] [] H n q P := by
    intro d
    induction d with
    | zero =>
      intro j w l0 hj
      have hi2 : 6 ≤ j := by omega
      simp (disch := omega) only [t_X5_isNoTableAboveMost_49, t_X5_isNoTableAboveMost_50, t_X5_isNoTableAboveMost_51, t_X5_isNoTableAboveMost_78, t_X5_isNoTableAboveMost_79, ↓reduceIte, ev_nb_1, true_and, nI_leI, hi2]
      exact c
    | succ d ih =>
      intro j w l0 hj
      have hj6 : j < 6 := by omega
      have hi2 : ¬ 6 ≤ j := by omega
      have hp := nI_pos' (n := j) (by omega)
      have hf := h4b j hj6
      obtain ⟨h7, h8⟩ := hc.2.2.2.2.2.2.2 j hj6
      unfold ev_kec at h7
      have h8k := ev_rL_k (X := X) h8
      have hI := fun l0 : Value => ih (j + 1) (.ref (x + 33 + 4 * j)) l0 (by omega)
      rw [t_X5_isNoTableAboveMost_49]
      simp (disch := omega) only [t_X5_isNoTableAboveMost_50, t_X5_isNoTableAboveMost_51, t_X5_isNoTableAboveMost_54, t_X5_isNoTableAboveMost_55, t_X5_isNoTableAboveMost_56, t_X5_isNoTableAboveMost_57, t_X5_isNoTableAboveMost_59, t_X5_isNoTableAboveMost_61, t_X5_isNoTableAboveMost_64, ↓reduceIte, ev_k_i, ev_aG_y, and_true, true_and, ev_fG_0, ev_isO_0, nI_leI, hi2, nI_clamp, hp, hj6, ev_lk_s h4, hf, ev_inA_4, ev_lk_s h7, h8k]
      refine R_abm h8 ?_
      rw [show @ev_b (pr_above (G.2.2.1 j).2.1 (G.2.2.1 j).1.length) (Classical.propDecidable _) = 0 from if_neg (hM2 j hj6)]
      simp (disch := omega) only [t_X5_isNoTableAboveMost_67, t_X5_isNoTableAboveMost_72, t_X5_isNoTableAboveMost_75, ↓reduceIte, ev_k_i, ev_kr_1, nI_1]
      exact hI _
  have key2 : ∀ d i w, i + d = 4 → ev_ok (ev_TT X) 106 10 [.ref x, .ref (x + 1), .int (nI 4), .int (nI i), w] [] H n q P := by
    intro d
    induction d with
    | zero =>
      intro j w hj
      have hi2 : 4 ≤ j := by omega
      have h9 := fun (w l0 : Value) => key 6 0 w l0 (by omega)
      rw [nI_0] at h9
      simp (disch := omega) only [t_X5_isNoTableAboveMost_10, t_X5_isNoTableAboveMost_11, t_X5_isNoTableAboveMost_12, t_X5_isNoTableAboveMost_39, t_X5_isNoTableAboveMost_40, t_X5_isNoTableAboveMost_43, t_X5_isNoTableAboveMost_44, t_X5_isNoTableAboveMost_45, t_X5_isNoTableAboveMost_46, t_X5_isNoTableAboveMost_47, t_X5_isNoTableAboveMost_48, ↓reduceIte, ev_k_i, ev_k_r, ev_aN_y, true_and, ev_fG_3, ev_isO_3, ev_ofN, nI_leI, hi2, ev_lk_s h0, ev_lk_s h4, ev_isA_4, ev_ofN]
      exact h9 _ _
    | succ d ih =>
      intro j w hj
      have hj6 : j < 4 := by omega
      have hi2 : ¬ 4 ≤ j := by omega
      have hp := nI_pos' (n := j) (by omega)
      have hf := g4b j hj6
      obtain ⟨h7, h8, h9⟩ := hc.2.2.2.2.2.2.1 j hj6
      unfold ev_tbc at h7
      have h8k := ev_rL_k (X := X) h8
      have hI := ih (j + 1) (.ref (x + 13 + 5 * j)) (by omega)
      rw [t_X5_isNoTableAboveMost_10]
      simp (disch := omega) only [t_X5_isNoTableAboveMost_11, t_X5_isNoTableAboveMost_12, t_X5_isNoTableAboveMost_15, t_X5_isNoTableAboveMost_16, t_X5_isNoTableAboveMost_17, t_X5_isNoTableAboveMost_18, t_X5_isNoTableAboveMost_20, t_X5_isNoTableAboveMost_22, t_X5_isNoTableAboveMost_25, ↓reduceIte, ev_k_i, ev_aG_y, and_true, true_and, ev_fG_0, ev_isO_0, nI_leI, hi2, nI_clamp, hp, hj6, ev_lk_s g4, hf, ev_inA_3, ev_lk_s h7, h8k]
      refine R_abm h8 ?_
      rw [show @ev_b (pr_above (G.1 j).2.1.2.1 (G.1 j).1.length) (Classical.propDecidable _) = 0 from if_neg (hM j hj6)]
      simp (disch := omega) only [t_X5_isNoTableAboveMost_28, t_X5_isNoTableAboveMost_33, t_X5_isNoTableAboveMost_36, ↓reduceIte, ev_k_i, ev_kr_1, nI_1]
      exact hI
  have h9 := key2 4 0 ev_J (by omega)
  rw [nI_0] at h9
  simp (disch := omega) only [t_X5_isNoTableAboveMost_0, t_X5_isNoTableAboveMost_1, t_X5_isNoTableAboveMost_4, t_X5_isNoTableAboveMost_5, t_X5_isNoTableAboveMost_6, t_X5_isNoTableAboveMost_7, t_X5_isNoTableAboveMost_8, t_X5_isNoTableAboveMost_9, ev_k_i, ev_k_r, ev_aN_y, true_and, ev_fG_0, ev_isO_0, ev_ofN, ev_lk_s h0, ev_lk_s g4, ev_isA_3, ev_ofN]
  exact h9
theorem C_sound1 (hl : jR G As) (hN60 : As.length ≤ 60) (hA : aR G As) (hM : ∀ i, i < 4 → ¬ pr_above (G.1 i).2.1.2.1 (G.1 i).1.length) (hc : c_all x G H) (hG : okG G) (c : ∀ H1, c_all x G H1 → c_fr x H H1 → P (.inl (some (.int 1))) H1 n q) : ev_ok (ev_TT X) 201 0 [.ref x, ev_J] [] H n q P := by
  have h6' : (6 : Int32) = nI 6 := rfl
  have hA20 : ∀ i, i < As.length → As.getD i 0 < 20 := fun i hi => (hA.2 i (by have := hA.1; omega)).2
  have hM2 : ∀ j, j < 6 → ¬ pr_above (G.2.2.1 j).2.1 (G.2.2.1 j).1.length := fun j hj => by
    unfold pr_above
    rw [(hl.2.2.2 j hj).2.1, nI_leI (by have := okL_len (hG.2.2.1 j hj); omega) (by omega)]
    exact fun z => z (Or.inr (hl.2.2.2 j hj).1.1)
  have rest : ∀ H1 (be : Nat → Int32), c_all x G H1 → c_fr x H H1 → H1 (x + 12) = some (.inl (0, 6, fun i => .int (be i))) → (∀ i, i < 6 → be i = nI (As.length - (gs As (i + 1) As.length).2)) → ev_ok (ev_TT X) 201 30 [.ref x, .int (nI 6)] [] H1 n q P := by
    intro H1 be hc1 hf1 h5 hbe
    have hk1 := c_all_k (X := X) hc1
    have hms : ∀ j, j < 6 → (G.2.2.1 j).2.2.2.2.1 = nI (mm As (j + 1) As.length 0) := fun j hj => (hl.2.2.2 j hj).2.2.2.1
    have hml : ∀ cc, mm As cc As.length 0 ≤ As.length := fun cc => mm_le _ _
    have hq1 : ∀ j, j < 6 → be j ≤ (G.2.2.1 j).2.2.2.2.1 := fun j hj => by
      rw [hbe j hj, hms j hj]
      exact nI_le (thm_best (by omega) hN60 hA20) (by have := hml (j + 1); omega)
    have hq2 : ∀ j, j < 5 → (G.2.2.1 (j + 1)).2.2.2.2.1 ≤ (G.2.2.1 j).2.2.2.2.1 ∧ be (j + 1) ≤ be j := fun j hj => by
      rw [hms (j + 1) (by omega), hms j (by omega), hbe (j + 1) (by omega), hbe j (by omega)]
      exact ⟨nI_le (thm_grow _) (by have := hml (j + 1); omega), nI_le (opt_grow (by omega) hN60 hA20) (by omega)⟩
    have hq3 : ∀ j k, j < 6 → k ≤ j → (G.2.2.1 j).2.2.2.2.1 * (nI (j + 1) - nI (k + 1) + 1) ≤ be k * nI (j + 1) := fun j k hj hk => by
      have h9 := thm_end (As := As) (c := j + 1) (k := k + 1) (by omega) (by omega) hN60 hA20
      have hb1 : (As.length - (gs As (k + 1) As.length).2) * (j + 1) ≤ 60 * 6 := Nat.mul_le_mul (by omega) (by omega)
      rw [hms j hj, hbe k (by omega), pk_sub (show k + 1 ≤ j + 1 by omega), ← nI_succ, nI_mul9, nI_mul9]
      refine nI_le ?_ (by omega)
      rw [Nat.mul_comm (mm As (j + 1) As.length 0), Nat.mul_comm (As.length - (gs As (k + 1) As.length).2)]
      exact h9
    simp (disch := omega) only [t_X5_isSound_30, t_X5_isSound_31, true_and, hk1]
    refine C_aMost1 hM hM2 hc1 ?_
    simp (disch := omega) only [t_X5_isSound_34, t_X5_isSound_37, t_X5_isSound_38, ↓reduceIte, ev_kr_1, true_and, show ¬ (1 : Int32) = 0 from by decide, hk1]
    refine C_aKeep1 hl hN60 hc1 hG ?_
    simp (disch := omega) only [t_X5_isSound_41, t_X5_isSound_44, t_X5_isSound_45, ↓reduceIte, ev_kr_1, true_and, show ¬ (1 : Int32) = 0 from by decide, hk1]
    refine C_aMiss1 hl hN60 hc1 hG ?_
    simp (disch := omega) only [t_X5_isSound_48, t_X5_isSound_51, t_X5_isSound_52, ↓reduceIte, ev_kr_1, true_and, show ¬ (1 : Int32) = 0 from by decide, hk1]
    refine C_aBest1 hc1 h5 hq1 ?_
    simp (disch := omega) only [t_X5_isSound_55, t_X5_isSound_58, t_X5_isSound_59, ↓reduceIte, ev_kr_1, true_and, show ¬ (1 : Int32) = 0 from by decide, hk1]
    refine C_aGrow1 hc1 h5 hq2 ?_
    simp (disch := omega) only [t_X5_isSound_62, t_X5_isSound_65, t_X5_isSound_66, ↓reduceIte, ev_kr_1, true_and, show ¬ (1 : Int32) = 0 from by decide, hk1]
    refine C_aThm1 hc1 h5 hq3 ?_
    simp (disch := omega) only [t_X5_isSound_69, t_X5_isSound_72, t_X5_isSound_73, t_X5_isSound_77, ↓reduceIte, ev_kr_1, ev_nb_1, true_and, show ¬ (1 : Int32) = 0 from by decide]
    exact c _ hc1 hf1
  have key : ∀ d j H1, j + d = 6 → c_all x G H1 → c_fr x H H1 → (∃ be : Nat → Int32, H1 (x + 12) = some (.inl (0, 6, fun i => .int (be i))) ∧ ∀ i, i < j → be i = nI (As.length - (gs As (i + 1) As.length).2)) → ev_ok (ev_TT X) 201 2 [.ref x, .int (nI j)] [] H1 n q P := by
    intro d
    induction d with
    | zero =>
      intro j H1 hj hc1 hf1 hbe
      have hi2 : 6 ≤ j := by omega
      have e : j = 6 := by omega
      subst e
      obtain ⟨be, b1, b2⟩ := hbe
      have h9 := rest H1 be hc1 hf1 b1 b2
      simp (disch := omega) only [t_X5_isSound_2, t_X5_isSound_3, t_X5_isSound_5, ↓reduceIte, nI_leI, hi2, h6']
      exact h9
    | succ d ih =>
      intro j H1 hj hc1 hf1 hbe
      have hj6 : j < 6 := by omega
      have hi2 : ¬ 6 ≤ j := by omega
      have hp := nI_pos' (n := j) (by omega)
      have h0 := hc1.1
      unfold c_top at h0
      have ha0 := c_ask0 hc1
      have hak : ev_isK (ev_lk X H1 (x + 2)) 5 = True := by rw [ev_lk_s ha0]; exact ev_isK_y
      obtain ⟨ne, hk1, hn1, hH, hN⟩ := hc1.2.2.1
      obtain ⟨be, b1, b2⟩ := hbe
      rw [t_X5_isSound_2]
      simp (disch := omega) only [t_X5_isSound_3, t_X5_isSound_5, t_X5_isSound_8, t_X5_isSound_9, t_X5_isSound_12, t_X5_isSound_13, t_X5_isSound_14, t_X5_isSound_17, t_X5_isSound_18, t_X5_isSound_19, t_X5_isSound_20, ↓reduceIte, true_and, nI_1, ev_fG_1, ev_fG_4, ev_isO_1, ev_isO_4, h6', nI_leI, hi2, ev_lk_s h0, hak]
      rw [hH]
      refine A_few (As := As) hG.2.2.2 hA.1 hA.2 hN hj6 fun hk' hn' => ?_
      rw [← hA.1]
      have ho : ∀ a, (a < x + 2 ∨ x + 8 ≤ a) → ev_ask H1 (x + 2) G.2.2.2.1.1 G.2.2.2.1.2.1 ne hk' hn' As.length a = H1 a := fun a ha => ev_ask_o (by omega)
      have hc2 := c_upA hc1 (s := G.2.2.2.1) ho ⟨ne, hk', hn', by rw [hA.1]; exact ev_ask_ask.symm, hN⟩
      have hf2 : c_fr x H (ev_ask H1 (x + 2) G.2.2.2.1.1 G.2.2.2.1.2.1 ne hk' hn' As.length) := fun a ha => (ho a (by omega)).trans (hf1 a ha)
      have h5 : ev_ask H1 (x + 2) G.2.2.2.1.1 G.2.2.2.1.2.1 ne hk' hn' As.length (x + 12) = some (.inl (0, 6, fun i => .int (be i))) := (ho (x + 12) (by omega)).trans b1
      generalize ev_ask H1 (x + 2) G.2.2.2.1.1 G.2.2.2.1.2.1 ne hk' hn' As.length = H2 at hc2 hf2 h5 ⊢
      generalize hv : nI (As.length - (gs As (j + 1) As.length).2) = v
      have hc3 := c_upB hc2 (be' := ev_fu be j v) (H1 := ev_up H2 (x + 12) (.inl (0, 6, fun i => .int (ev_fu be j v i)))) (fun a ha => ev_up_n (by omega)) ev_up_s
      have hf3 : c_fr x H (ev_up H2 (x + 12) (.inl (0, 6, fun i => .int (ev_fu be j v i)))) := fun a ha => (ev_up_n (by omega)).trans (hf2 a ha)
      have hI := ih (j + 1) _ (by omega) hc3 hf3 ⟨ev_fu be j v, ev_up_s, fun i hi => by
        unfold ev_fu
        by_cases hij : i = j
        · rw [if_pos hij, hij]; exact hv.symm
        · rw [if_neg hij]; exact b2 i (by omega)⟩
      have eu : updV (fun i => .int (be i)) j (.int v) = fun i => .int (ev_fu be j v i) := ev_updI
      simp (disch := omega) only [t_X5_isSound_23, t_X5_isSound_24, t_X5_isSound_27, ev_k_r, ev_kr_1, ev_aS_y, ev_inA_0, and_true, true_and, nI_1, h5, hp, hj6, nI_clamp, eu]
      exact hI
  have hbe0 := hc.2.2.2.2.2.1
  obtain ⟨be0, hb0⟩ := hbe0
  have h9 := key 6 0 H (by omega) hc (fun _ _ => rfl) ⟨be0, hb0, fun i hi => absurd hi (Nat.not_lt_zero i)⟩
  rw [nI_0] at h9
  simp (disch := omega) only [t_X5_isSound_0, t_X5_isSound_1, ev_k_r]
  exact h9
end C78
end
section
/-! ===== class and reference side by side ===== -/
section L79
variable {X : ev_E} {zf : Nat → Nat} {x : Nat} {r : Int32 × Int32 × Int32} {T : Nat → ev_TS} {G G0 G1 : ev_CS} {As As1 : List Nat} {H H1 H2 : ev_M} {ow : Nat → Nat} {n q n1 q1 n2 : Nat}
theorem m_aw_cl (hm : m_aw X zf (x + 57) r T As H n ow) (hx : m_cx X zf (x + 57) T As H n) (hxs : X.1.heap.size ≤ x) (hw2 : ev_low X H2) (e : ∀ a, (a < x ∨ x + 57 ≤ a) → ¬ a = x + 68 → a < n → H2 a = H a) (h1 : n ≤ n2) : m_aw X zf (x + 57) r T As H2 n2 ow := by
  obtain ⟨g1, ⟨f, g2, g2b⟩, g3, g4⟩ := hm
  obtain ⟨hZ, hw, hB, hn, hz, hT, hW⟩ := hx
  have hB1 := hB.1
  have hB2 := hB.2.2
  refine ⟨(e _ (by omega) (by omega) (by omega)).trans g1, ⟨f, (e _ (by omega) (by omega) (by omega)).trans g2, g2b⟩, fun j hj => ?_, ?_⟩
  · obtain ⟨a1, qs', a2, a3⟩ := g3 j hj
    refine ⟨(e _ (by omega) (by omega) (by omega)).trans a1, qs', m_lst_cg a2 h1 (fun a ha => ?_) (fun a a1 a2 a3 => a3), a3⟩
    rcases ha with rfl | ⟨a1, a2, a3⟩ | ⟨a1, a2⟩
    · exact e _ (by omega) (by omega) (by omega)
    · exact e _ (by omega) (by omega) (by omega)
    · exact e _ (by omega) (by omega) (by omega)
  · refine m_ask_cg g4 h1 (fun a ha => ?_) (fun a a1 a2 a3 => a3) (fun v hv _ => m_zel hZ hw2 v hv)
    rcases ha with rfl | ⟨a1, a2, a3⟩ | ⟨a1, a2⟩
    · exact e _ (by omega) (by omega) (by omega)
    · exact e _ (by omega) (by omega) (by omega)
    · exact e _ (by omega) (by omega) (by omega)
/-- the class (at G), the reference (at G0 and the askings As), the law's Out -/
def jM (X : ev_E) (zf : Nat → Nat) (x : Nat) (G G0 : ev_CS) (As : List Nat) (H : ev_M) (n : Nat) : Prop := c_all x G H ∧ jG G ∧ jG G0 ∧ (∃ r ow, r.2 = G0.2.2.2.2 ∧ m_aw X zf (x + 57) r G0.1 As H n ow) ∧ m_cx X zf (x + 57) G0.1 As H n ∧ m_ax X zf As ∧ jR G0 As ∧ (∃ l s, H (x + 68) = some (.inr (11, [.long l, s]))) ∧ X.1.heap.size ≤ x
theorem jM_class (h : jM X zf x G G0 As H n) (hc : c_all x G1 H1) (hJ : jG G1) (hf : ∀ a, (a < x ∨ x + 57 ≤ a) → ¬ a = x + 68 → a < n → H1 a = H a) (ho : ∃ l s, H1 (x + 68) = some (.inr (11, [.long l, s]))) (hz1 : ∀ a, n1 ≤ a → H1 a = none) (hn1 : n ≤ n1) : jM X zf x G1 G0 As H1 n1 := by
  obtain ⟨-, -, h3, ⟨r, ow, h4, h5⟩, h6, h7, h8, -, h10⟩ := h
  have hx := h6
  obtain ⟨hZ, hw, hB, hn, hz, hT, hW⟩ := hx
  have hw1 : ev_low X H1 := fun a ha => (hf a (by omega) (by omega) (by omega)).trans (hw a ha)
  exact ⟨hc, hJ, h3, ⟨r, ow, h4, m_aw_cl h5 h6 h10 hw1 hf hn1⟩, ⟨hZ, hw1, hB, by omega, hz1, hT, hW⟩, h7, h8, ho, h10⟩
theorem jM_ref (h : jM X zf x G G0 As H n) (hp : m_post X zf (x + 57) H n q r G.1 As1 H1 n1 q1) (hr : r.2 = G.2.2.2.2) (hA : m_ax X zf As1) (hl : jR G As1) : jM X zf x G G As1 H1 n1 := by
  obtain ⟨h1, h2, h3, -, h6, h7, h8, ⟨l, s, h9⟩, h10⟩ := h
  obtain ⟨⟨ow, p1⟩, p2, p3, p4, p5, p6, p7⟩ := hp
  obtain ⟨hZ, hw, hB, hn, hz, hT, hW⟩ := h6
  exact ⟨c_cg h1 (fun a ha hb => p2 a (by omega)), h2, h2, ⟨r, ow, hr, p1⟩, ⟨m_zok_of hA, fun a ha => (p2 a (by omega)).trans (hw a ha), hB, by omega, p3, h2.1.1, fun i hi => (h2.2.2 i hi).1⟩, hA, hl, ⟨l, s, (p2 _ (by omega)).trans h9⟩, h10⟩
theorem jM_low (h : jM X zf x G G0 As H n) : ev_low X H := h.2.2.2.2.1.2.1
theorem jM_z (h : jM X zf x G G0 As H n) : ∀ a, n ≤ a → H a = none := h.2.2.2.2.1.2.2.2.2.1
theorem jM_n (h : jM X zf x G G0 As H n) : x + 69 ≤ n := by have := h.2.2.2.2.1.2.2.2.1; omega
/-- the four numbers of the script from i on -/
def jS (X : ev_E) (S i : Nat) (v0 v1 v2 v3 : Int32) : Prop := ∀ H, ev_low X H → (ev_inA (ev_lk X H S) (nI i) ev_tI = True ∧ ev_aG (ev_lk X H S) (nI i) = .int v0) ∧ (ev_inA (ev_lk X H S) (nI (i + 1)) ev_tI = True ∧ ev_aG (ev_lk X H S) (nI (i + 1)) = .int v1) ∧ (ev_inA (ev_lk X H S) (nI i + 2) ev_tI = True ∧ ev_aG (ev_lk X H S) (nI i + 2) = .int v2) ∧ (ev_inA (ev_lk X H S) (nI i + 3) ev_tI = True ∧ ev_aG (ev_lk X H S) (nI i + 3) = .int v3)
/-- what the law does next, once a call is done -/
def jC (X : ev_E) (zf : Nat → Nat) (x S i n q : Nat) (P : ev_O → ev_M → Nat → Nat → Prop) : Prop := ∀ G1 As1 H1 n1 q1 a5 a6, jM X zf x G1 G1 As1 H1 n1 → n ≤ n1 → n1 ≤ n + 1000 → q ≤ q1 → q1 ≤ q + 12900 → ev_ok (ev_TT X) 309 1713 [.ref S, .ref x, .ref (x + 57), .ref (x + 68), .int (nI i), a5, a6] [] H1 n1 q1 P
end L79
end
section
/-! ===== the law's calls on tables ===== -/
section L80
variable {X : ev_E} {zf : Nat → Nat} {x S i : Nat} {G : ev_CS} {As : List Nat} {H : ev_M} {n q : Nat} {P : ev_O → ev_M → Nat → Nat → Prop} {v0 v1 v2 v3 : Int32}
theorem LP_make (hS : jS X S i v0 v1 v2 v3) (h : jM X zf x G G As H n) {a5 a6 : Value} (c : jC X zf x S i n q P) : ev_ok (ev_TT X) 309 236 [.ref S, .ref x, .ref (x + 57), .ref (x + 68), .int (nI i), a5, a6] [] H n q P := by
  have hn := jM_n h
  have hs := hS H (jM_low h)
  have h0 := h
  obtain ⟨hc, hJ, -, ⟨r, ow, hr, hm⟩, hx, hA, hl, ho, hxs⟩ := h0
  rcases (Classical.em (v2 = 0)).imp id id with e | e
  · have hbb : ev_isB 0 := Or.inl rfl
    simp (disch := omega) only [t_L_law_236, t_L_law_237, t_L_law_238, t_L_law_240, t_L_law_241, t_L_law_242, t_L_law_243, t_L_law_244, t_L_law_246, t_L_law_247, t_L_law_248, t_L_law_249, t_L_law_252, t_L_law_253, t_L_law_256, t_L_law_257, t_L_law_258, t_L_law_260, t_L_law_261, t_L_law_262, t_L_law_263, t_L_law_264, t_L_law_267, t_L_law_269, t_L_law_270, t_L_law_271, t_L_law_273, t_L_law_274, t_L_law_275, t_L_law_276, t_L_law_277, t_L_law_279, t_L_law_280, t_L_law_281, t_L_law_282, t_L_law_285, t_L_law_286, t_L_law_289, t_L_law_290, t_L_law_291, t_L_law_293, t_L_law_294, t_L_law_295, t_L_law_296, t_L_law_299, t_L_law_301, ↓reduceIte, ev_k_i, ev_k_r, ev_k_l, ev_k_J, ev_k_n, ev_kr_1, ev_kr_0, ev_isK_y, ev_aG_y, ev_aS_y, ev_aN_y, ev_inA_0, ev_isA_0, ev_ft_I, ev_ft_0, ev_ft_1, ev_ft_o, ev_ft_a, ev_nb_0, ev_nb_1, and_true, true_and, if_true, if_false, not_true_eq_false, not_false_eq_true, nI_1, ev_fG_0, ev_fG_1, ev_fG_2, ev_fG_3, ev_fG_4, ev_fG_5, ev_fG_6, ev_fG_7, ev_fG_8, ev_fS_0, ev_fS_1, ev_fS_2, ev_fS_3, ev_fS_4, ev_fS_5, ev_fS_6, ev_fS_7, ev_fS_8, ev_isO_0, ev_isO_1, ev_isO_2, ev_isO_3, ev_isO_4, ev_isO_5, ev_isO_6, ev_isO_7, ev_isO_8, ev_z0, ev_z1, ev_z2, eq_self, ev_ofN, show ¬ (1 : Int32) = 0 from by decide, show ¬ (2 : Int32) = 0 from by decide, show ¬ (2 : Int32) = 1 from by decide, show ¬ (0 : Int32) = 1 from by decide, show ¬ (0 : Int32) = 2 from by decide, show ¬ (1 : Int32) = 2 from by decide, show ¬ (0 : Int32) = -1 from by decide, show (0 : Int32) ≤ 1 from by decide, show (1 : Int32).toNatClampNeg = 1 from rfl, show (0 : Nat) < 2 from by omega, show (1 : Nat) < 2 from by omega, not_true_eq_false, ne_eq, not_false_eq_true, hs.1.1, hs.1.2, hs.2.1.1, hs.2.1.2, hs.2.2.1.1, hs.2.2.1.2, hs.2.2.2.1, hs.2.2.2.2, e]
    refine LW_make hc hJ.1 (by omega) (by omega) ho (jM_z h) hbb fun H1 n1 q1 hp => ?_
    have hj := JK_make (G := G) hJ (t := v1) (b1 := 0) (m1 := v3) hbb
    have hM1 := jM_class h hp.1 hj.1 hp.2.1 (by obtain ⟨l, s, h1, -⟩ := hp.2.2.1; exact ⟨l, s, h1⟩) hp.2.2.2.1 hp.2.2.2.2.1
    have hs1 := hS H1 (jM_low hM1)
    have h1 := hM1
    obtain ⟨hc1, hJ1, -, ⟨r1, ow1, hr1, hm1⟩, hx1, -, -, -, -⟩ := h1
    have hk13 := m_k13 hm1
    simp (disch := omega) only [t_L_law_236, t_L_law_237, t_L_law_238, t_L_law_240, t_L_law_241, t_L_law_242, t_L_law_243, t_L_law_244, t_L_law_246, t_L_law_247, t_L_law_248, t_L_law_249, t_L_law_252, t_L_law_253, t_L_law_256, t_L_law_257, t_L_law_258, t_L_law_260, t_L_law_261, t_L_law_262, t_L_law_263, t_L_law_264, t_L_law_267, t_L_law_269, t_L_law_270, t_L_law_271, t_L_law_273, t_L_law_274, t_L_law_275, t_L_law_276, t_L_law_277, t_L_law_279, t_L_law_280, t_L_law_281, t_L_law_282, t_L_law_285, t_L_law_286, t_L_law_289, t_L_law_290, t_L_law_291, t_L_law_293, t_L_law_294, t_L_law_295, t_L_law_296, t_L_law_299, t_L_law_301, ↓reduceIte, ev_k_i, ev_k_r, ev_k_l, ev_k_J, ev_k_n, ev_kr_1, ev_kr_0, ev_isK_y, ev_aG_y, ev_aS_y, ev_aN_y, ev_inA_0, ev_isA_0, ev_ft_I, ev_ft_0, ev_ft_1, ev_ft_o, ev_ft_a, ev_nb_0, ev_nb_1, and_true, true_and, if_true, if_false, not_true_eq_false, not_false_eq_true, nI_1, ev_fG_0, ev_fG_1, ev_fG_2, ev_fG_3, ev_fG_4, ev_fG_5, ev_fG_6, ev_fG_7, ev_fG_8, ev_fS_0, ev_fS_1, ev_fS_2, ev_fS_3, ev_fS_4, ev_fS_5, ev_fS_6, ev_fS_7, ev_fS_8, ev_isO_0, ev_isO_1, ev_isO_2, ev_isO_3, ev_isO_4, ev_isO_5, ev_isO_6, ev_isO_7, ev_isO_8, ev_z0, ev_z1, ev_z2, eq_self, ev_ofN, show ¬ (1 : Int32) = 0 from by decide, show ¬ (2 : Int32) = 0 from by decide, show ¬ (2 : Int32) = 1 from by decide, show ¬ (0 : Int32) = 1 from by decide, show ¬ (0 : Int32) = 2 from by decide, show ¬ (1 : Int32) = 2 from by decide, show ¬ (0 : Int32) = -1 from by decide, show (0 : Int32) ≤ 1 from by decide, show (1 : Int32).toNatClampNeg = 1 from rfl, show (0 : Nat) < 2 from by omega, show (1 : Nat) < 2 from by omega, not_true_eq_false, ne_eq, not_false_eq_true, hs1.1.1, hs1.1.2, hs1.2.1.1, hs1.2.1.2, hs1.2.2.1.1, hs1.2.2.1.2, hs1.2.2.2.1, hs1.2.2.2.2, hk13, e]
    refine MK_make hm1 hx1 hJ.1 hr1 hbb fun H2 n2 q2 hq => ?_
    simp (disch := omega) only [t_L_law_236, t_L_law_237, t_L_law_238, t_L_law_240, t_L_law_241, t_L_law_242, t_L_law_243, t_L_law_244, t_L_law_246, t_L_law_247, t_L_law_248, t_L_law_249, t_L_law_252, t_L_law_253, t_L_law_256, t_L_law_257, t_L_law_258, t_L_law_260, t_L_law_261, t_L_law_262, t_L_law_263, t_L_law_264, t_L_law_267, t_L_law_269, t_L_law_270, t_L_law_271, t_L_law_273, t_L_law_274, t_L_law_275, t_L_law_276, t_L_law_277, t_L_law_279, t_L_law_280, t_L_law_281, t_L_law_282, t_L_law_285, t_L_law_286, t_L_law_289, t_L_law_290, t_L_law_291, t_L_law_293, t_L_law_294, t_L_law_295, t_L_law_296, t_L_law_299, t_L_law_301, ↓reduceIte, ev_k_i, ev_k_r, ev_k_l, ev_k_J, ev_k_n, ev_kr_1, ev_kr_0, ev_isK_y, ev_aG_y, ev_aS_y, ev_aN_y, ev_inA_0, ev_isA_0, ev_ft_I, ev_ft_0, ev_ft_1, ev_ft_o, ev_ft_a, ev_nb_0, ev_nb_1, and_true, true_and, if_true, if_false, not_true_eq_false, not_false_eq_true, nI_1, ev_fG_0, ev_fG_1, ev_fG_2, ev_fG_3, ev_fG_4, ev_fG_5, ev_fG_6, ev_fG_7, ev_fG_8, ev_fS_0, ev_fS_1, ev_fS_2, ev_fS_3, ev_fS_4, ev_fS_5, ev_fS_6, ev_fS_7, ev_fS_8, ev_isO_0, ev_isO_1, ev_isO_2, ev_isO_3, ev_isO_4, ev_isO_5, ev_isO_6, ev_isO_7, ev_isO_8, ev_z0, ev_z1, ev_z2, eq_self, ev_ofN, show ¬ (1 : Int32) = 0 from by decide, show ¬ (2 : Int32) = 0 from by decide, show ¬ (2 : Int32) = 1 from by decide, show ¬ (0 : Int32) = 1 from by decide, show ¬ (0 : Int32) = 2 from by decide, show ¬ (1 : Int32) = 2 from by decide, show ¬ (0 : Int32) = -1 from by decide, show (0 : Int32) ≤ 1 from by decide, show (1 : Int32).toNatClampNeg = 1 from rfl, show (0 : Nat) < 2 from by omega, show (1 : Nat) < 2 from by omega, not_true_eq_false, ne_eq, not_false_eq_true, hs1.1.1, hs1.1.2, hs1.2.1.1, hs1.2.1.2, hs1.2.2.1.1, hs1.2.2.1.2, hs1.2.2.2.1, hs1.2.2.2.2, hk13]
    have b1 := hp.2.2.2.2
    have b2 := hq.2.2.2
    exact c _ _ H2 n2 q2 _ _ (jM_ref hM1 hq rfl hA (jR_same hl hj.2.1 hj.2.2.1 hj.2.2.2.1)) (by omega) (by omega) (by omega) (by omega)
  · have hbb : ev_isB 1 := Or.inr rfl
    simp (disch := omega) only [t_L_law_236, t_L_law_237, t_L_law_238, t_L_law_240, t_L_law_241, t_L_law_242, t_L_law_243, t_L_law_244, t_L_law_246, t_L_law_247, t_L_law_248, t_L_law_249, t_L_law_252, t_L_law_253, t_L_law_256, t_L_law_257, t_L_law_258, t_L_law_260, t_L_law_261, t_L_law_262, t_L_law_263, t_L_law_264, t_L_law_267, t_L_law_269, t_L_law_270, t_L_law_271, t_L_law_273, t_L_law_274, t_L_law_275, t_L_law_276, t_L_law_277, t_L_law_279, t_L_law_280, t_L_law_281, t_L_law_282, t_L_law_285, t_L_law_286, t_L_law_289, t_L_law_290, t_L_law_291, t_L_law_293, t_L_law_294, t_L_law_295, t_L_law_296, t_L_law_299, t_L_law_301, ↓reduceIte, ev_k_i, ev_k_r, ev_k_l, ev_k_J, ev_k_n, ev_kr_1, ev_kr_0, ev_isK_y, ev_aG_y, ev_aS_y, ev_aN_y, ev_inA_0, ev_isA_0, ev_ft_I, ev_ft_0, ev_ft_1, ev_ft_o, ev_ft_a, ev_nb_0, ev_nb_1, and_true, true_and, if_true, if_false, not_true_eq_false, not_false_eq_true, nI_1, ev_fG_0, ev_fG_1, ev_fG_2, ev_fG_3, ev_fG_4, ev_fG_5, ev_fG_6, ev_fG_7, ev_fG_8, ev_fS_0, ev_fS_1, ev_fS_2, ev_fS_3, ev_fS_4, ev_fS_5, ev_fS_6, ev_fS_7, ev_fS_8, ev_isO_0, ev_isO_1, ev_isO_2, ev_isO_3, ev_isO_4, ev_isO_5, ev_isO_6, ev_isO_7, ev_isO_8, ev_z0, ev_z1, ev_z2, eq_self, ev_ofN, show ¬ (1 : Int32) = 0 from by decide, show ¬ (2 : Int32) = 0 from by decide, show ¬ (2 : Int32) = 1 from by decide, show ¬ (0 : Int32) = 1 from by decide, show ¬ (0 : Int32) = 2 from by decide, show ¬ (1 : Int32) = 2 from by decide, show ¬ (0 : Int32) = -1 from by decide, show (0 : Int32) ≤ 1 from by decide, show (1 : Int32).toNatClampNeg = 1 from rfl, show (0 : Nat) < 2 from by omega, show (1 : Nat) < 2 from by omega, not_true_eq_false, ne_eq, not_false_eq_true, hs.1.1, hs.1.2, hs.2.1.1, hs.2.1.2, hs.2.2.1.1, hs.2.2.1.2, hs.2.2.2.1, hs.2.2.2.2, e]
    refine LW_make hc hJ.1 (by omega) (by omega) ho (jM_z h) hbb fun H1 n1 q1 hp => ?_
    have hj := JK_make (G := G) hJ (t := v1) (b1 := 1) (m1 := v3) hbb
    have hM1 := jM_class h hp.1 hj.1 hp.2.1 (by obtain ⟨l, s, h1, -⟩ := hp.2.2.1; exact ⟨l, s, h1⟩) hp.2.2.2.1 hp.2.2.2.2.1
    have hs1 := hS H1 (jM_low hM1)
    have h1 := hM1
    obtain ⟨hc1, hJ1, -, ⟨r1, ow1, hr1, hm1⟩, hx1, -, -, -, -⟩ := h1
    have hk13 := m_k13 hm1
    simp (disch := omega) only [t_L_law_236, t_L_law_237, t_L_law_238, t_L_law_240, t_L_law_241, t_L_law_242, t_L_law_243, t_L_law_244, t_L_law_246, t_L_law_247, t_L_law_248, t_L_law_249, t_L_law_252, t_L_law_253, t_L_law_256, t_L_law_257, t_L_law_258, t_L_law_260, t_L_law_261, t_L_law_262, t_L_law_263, t_L_law_264, t_L_law_267, t_L_law_269, t_L_law_270, t_L_law_271, t_L_law_273, t_L_law_274, t_L_law_275, t_L_law_276, t_L_law_277, t_L_law_279, t_L_law_280, t_L_law_281, t_L_law_282, t_L_law_285, t_L_law_286, t_L_law_289, t_L_law_290, t_L_law_291, t_L_law_293, t_L_law_294, t_L_law_295, t_L_law_296, t_L_law_299, t_L_law_301, ↓reduceIte, ev_k_i, ev_k_r, ev_k_l, ev_k_J, ev_k_n, ev_kr_1, ev_kr_0, ev_isK_y, ev_aG_y, ev_aS_y, ev_aN_y, ev_inA_0, ev_isA_0, ev_ft_I, ev_ft_0, ev_ft_1, ev_ft_o, ev_ft_a, ev_nb_0, ev_nb_1, and_true, true_and, if_true, if_false, not_true_eq_false, not_false_eq_true, nI_1, ev_fG_0, ev_fG_1, ev_fG_2, ev_fG_3, ev_fG_4, ev_fG_5, ev_fG_6, ev_fG_7, ev_fG_8, ev_fS_0, ev_fS_1, ev_fS_2, ev_fS_3, ev_fS_4, ev_fS_5, ev_fS_6, ev_fS_7, ev_fS_8, ev_isO_0, ev_isO_1, ev_isO_2, ev_isO_3, ev_isO_4, ev_isO_5, ev_isO_6, ev_isO_7, ev_isO_8, ev_z0, ev_z1, ev_z2, eq_self, ev_ofN, show ¬ (1 : Int32) = 0 from by decide, show ¬ (2 : Int32) = 0 from by decide, show ¬ (2 : Int32) = 1 from by decide, show ¬ (0 : Int32) = 1 from by decide, show ¬ (0 : Int32) = 2 from by decide, show ¬ (1 : Int32) = 2 from by decide, show ¬ (0 : Int32) = -1 from by decide, show (0 : Int32) ≤ 1 from by decide, show (1 : Int32).toNatClampNeg = 1 from rfl, show (0 : Nat) < 2 from by omega, show (1 : Nat) < 2 from by omega, not_true_eq_false, ne_eq, not_false_eq_true, hs1.1.1, hs1.1.2, hs1.2.1.1, hs1.2.1.2, hs1.2.2.1.1, hs1.2.2.1.2, hs1.2.2.2.1, hs1.2.2.2.2, hk13, e]
    refine MK_make hm1 hx1 hJ.1 hr1 hbb fun H2 n2 q2 hq => ?_
    simp (disch := omega) only [t_L_law_236, t_L_law_237, t_L_law_238, t_L_law_240, t_L_law_241, t_L_law_242, t_L_law_243, t_L_law_244, t_L_law_246, t_L_law_247, t_L_law_248, t_L_law_249, t_L_law_252, t_L_law_253, t_L_law_256, t_L_law_257, t_L_law_258, t_L_law_260, t_L_law_261, t_L_law_262, t_L_law_263, t_L_law_264, t_L_law_267, t_L_law_269, t_L_law_270, t_L_law_271, t_L_law_273, t_L_law_274, t_L_law_275, t_L_law_276, t_L_law_277, t_L_law_279, t_L_law_280, t_L_law_281, t_L_law_282, t_L_law_285, t_L_law_286, t_L_law_289, t_L_law_290, t_L_law_291, t_L_law_293, t_L_law_294, t_L_law_295, t_L_law_296, t_L_law_299, t_L_law_301, ↓reduceIte, ev_k_i, ev_k_r, ev_k_l, ev_k_J, ev_k_n, ev_kr_1, ev_kr_0, ev_isK_y, ev_aG_y, ev_aS_y, ev_aN_y, ev_inA_0, ev_isA_0, ev_ft_I, ev_ft_0, ev_ft_1, ev_ft_o, ev_ft_a, ev_nb_0, ev_nb_1, and_true, true_and, if_true, if_false, not_true_eq_false, not_false_eq_true, nI_1, ev_fG_0, ev_fG_1, ev_fG_2, ev_fG_3, ev_fG_4, ev_fG_5, ev_fG_6, ev_fG_7, ev_fG_8, ev_fS_0, ev_fS_1, ev_fS_2, ev_fS_3, ev_fS_4, ev_fS_5, ev_fS_6, ev_fS_7, ev_fS_8, ev_isO_0, ev_isO_1, ev_isO_2, ev_isO_3, ev_isO_4, ev_isO_5, ev_isO_6, ev_isO_7, ev_isO_8, ev_z0, ev_z1, ev_z2, eq_self, ev_ofN, show ¬ (1 : Int32) = 0 from by decide, show ¬ (2 : Int32) = 0 from by decide, show ¬ (2 : Int32) = 1 from by decide, show ¬ (0 : Int32) = 1 from by decide, show ¬ (0 : Int32) = 2 from by decide, show ¬ (1 : Int32) = 2 from by decide, show ¬ (0 : Int32) = -1 from by decide, show (0 : Int32) ≤ 1 from by decide, show (1 : Int32).toNatClampNeg = 1 from rfl, show (0 : Nat) < 2 from by omega, show (1 : Nat) < 2 from by omega, not_true_eq_false, ne_eq, not_false_eq_true, hs1.1.1, hs1.1.2, hs1.2.1.1, hs1.2.1.2, hs1.2.2.1.1, hs1.2.2.1.2, hs1.2.2.2.1, hs1.2.2.2.2, hk13]
    have b1 := hp.2.2.2.2
    have b2 := hq.2.2.2
    exact c _ _ H2 n2 q2 _ _ (jM_ref hM1 hq rfl hA (jR_same hl hj.2.1 hj.2.2.1 hj.2.2.2.1)) (by omega) (by omega) (by omega) (by omega)
theorem LP_put (hS : jS X S i v0 v1 v2 v3) (h : jM X zf x G G As H n) {a5 a6 : Value} (c : jC X zf x S i n q P) : ev_ok (ev_TT X) 309 304 [.ref S, .ref x, .ref (x + 57), .ref (x + 68), .int (nI i), a5, a6] [] H n q P := by
  have hn := jM_n h
  have hs := hS H (jM_low h)
  have h0 := h
  obtain ⟨hc, hJ, -, ⟨r, ow, hr, hm⟩, hx, hA, hl, ho, hxs⟩ := h0
  simp (disch := omega) only [t_L_law_304, t_L_law_305, t_L_law_306, t_L_law_308, t_L_law_309, t_L_law_310, t_L_law_311, t_L_law_312, t_L_law_314, t_L_law_315, t_L_law_316, t_L_law_317, t_L_law_318, t_L_law_320, t_L_law_321, t_L_law_322, t_L_law_323, t_L_law_324, t_L_law_327, t_L_law_329, t_L_law_330, t_L_law_331, t_L_law_333, t_L_law_334, t_L_law_335, t_L_law_336, t_L_law_337, t_L_law_339, t_L_law_340, t_L_law_341, t_L_law_342, t_L_law_343, t_L_law_345, t_L_law_346, t_L_law_347, t_L_law_348, t_L_law_351, t_L_law_353, ↓reduceIte, ev_k_i, ev_k_r, ev_k_l, ev_k_J, ev_k_n, ev_kr_1, ev_kr_0, ev_isK_y, ev_aG_y, ev_aS_y, ev_aN_y, ev_inA_0, ev_isA_0, ev_ft_I, ev_ft_0, ev_ft_1, ev_ft_o, ev_ft_a, ev_nb_0, ev_nb_1, and_true, true_and, if_true, if_false, not_true_eq_false, not_false_eq_true, nI_1, ev_fG_0, ev_fG_1, ev_fG_2, ev_fG_3, ev_fG_4, ev_fG_5, ev_fG_6, ev_fG_7, ev_fG_8, ev_fS_0, ev_fS_1, ev_fS_2, ev_fS_3, ev_fS_4, ev_fS_5, ev_fS_6, ev_fS_7, ev_fS_8, ev_isO_0, ev_isO_1, ev_isO_2, ev_isO_3, ev_isO_4, ev_isO_5, ev_isO_6, ev_isO_7, ev_isO_8, ev_z0, ev_z1, ev_z2, eq_self, ev_ofN, show ¬ (1 : Int32) = 0 from by decide, show ¬ (2 : Int32) = 0 from by decide, show ¬ (2 : Int32) = 1 from by decide, show ¬ (0 : Int32) = 1 from by decide, show ¬ (0 : Int32) = 2 from by decide, show ¬ (1 : Int32) = 2 from by decide, show ¬ (0 : Int32) = -1 from by decide, show (0 : Int32) ≤ 1 from by decide, show (1 : Int32).toNatClampNeg = 1 from rfl, show (0 : Nat) < 2 from by omega, show (1 : Nat) < 2 from by omega, not_true_eq_false, ne_eq, not_false_eq_true, hs.1.1, hs.1.2, hs.2.1.1, hs.2.1.2, hs.2.2.1.1, hs.2.2.1.2, hs.2.2.2.1, hs.2.2.2.2]
  refine LW_put hc hJ.1 (by omega) (by omega) ho (jM_z h) fun H1 n1 q1 hp => ?_
  have hj := JK_put (G := G) hJ (t := v1) (k := v2) (v := v3)
  have hM1 := jM_class h hp.1 hj.1 hp.2.1 (by obtain ⟨l, s, h1, -⟩ := hp.2.2.1; exact ⟨l, s, h1⟩) hp.2.2.2.1 hp.2.2.2.2.1
  have hs1 := hS H1 (jM_low hM1)
  have h1 := hM1
  obtain ⟨hc1, hJ1, -, ⟨r1, ow1, hr1, hm1⟩, hx1, -, -, -, -⟩ := h1
  have hk13 := m_k13 hm1
  simp (disch := omega) only [t_L_law_304, t_L_law_305, t_L_law_306, t_L_law_308, t_L_law_309, t_L_law_310, t_L_law_311, t_L_law_312, t_L_law_314, t_L_law_315, t_L_law_316, t_L_law_317, t_L_law_318, t_L_law_320, t_L_law_321, t_L_law_322, t_L_law_323, t_L_law_324, t_L_law_327, t_L_law_329, t_L_law_330, t_L_law_331, t_L_law_333, t_L_law_334, t_L_law_335, t_L_law_336, t_L_law_337, t_L_law_339, t_L_law_340, t_L_law_341, t_L_law_342, t_L_law_343, t_L_law_345, t_L_law_346, t_L_law_347, t_L_law_348, t_L_law_351, t_L_law_353, ↓reduceIte, ev_k_i, ev_k_r, ev_k_l, ev_k_J, ev_k_n, ev_kr_1, ev_kr_0, ev_isK_y, ev_aG_y, ev_aS_y, ev_aN_y, ev_inA_0, ev_isA_0, ev_ft_I, ev_ft_0, ev_ft_1, ev_ft_o, ev_ft_a, ev_nb_0, ev_nb_1, and_true, true_and, if_true, if_false, not_true_eq_false, not_false_eq_true, nI_1, ev_fG_0, ev_fG_1, ev_fG_2, ev_fG_3, ev_fG_4, ev_fG_5, ev_fG_6, ev_fG_7, ev_fG_8, ev_fS_0, ev_fS_1, ev_fS_2, ev_fS_3, ev_fS_4, ev_fS_5, ev_fS_6, ev_fS_7, ev_fS_8, ev_isO_0, ev_isO_1, ev_isO_2, ev_isO_3, ev_isO_4, ev_isO_5, ev_isO_6, ev_isO_7, ev_isO_8, ev_z0, ev_z1, ev_z2, eq_self, ev_ofN, show ¬ (1 : Int32) = 0 from by decide, show ¬ (2 : Int32) = 0 from by decide, show ¬ (2 : Int32) = 1 from by decide, show ¬ (0 : Int32) = 1 from by decide, show ¬ (0 : Int32) = 2 from by decide, show ¬ (1 : Int32) = 2 from by decide, show ¬ (0 : Int32) = -1 from by decide, show (0 : Int32) ≤ 1 from by decide, show (1 : Int32).toNatClampNeg = 1 from rfl, show (0 : Nat) < 2 from by omega, show (1 : Nat) < 2 from by omega, not_true_eq_false, ne_eq, not_false_eq_true, hs1.1.1, hs1.1.2, hs1.2.1.1, hs1.2.1.2, hs1.2.2.1.1, hs1.2.2.1.2, hs1.2.2.2.1, hs1.2.2.2.2, hk13]
  refine MK_put hm1 hx1 hJ.1 hr1 fun H2 n2 q2 hq => ?_
  simp (disch := omega) only [t_L_law_304, t_L_law_305, t_L_law_306, t_L_law_308, t_L_law_309, t_L_law_310, t_L_law_311, t_L_law_312, t_L_law_314, t_L_law_315, t_L_law_316, t_L_law_317, t_L_law_318, t_L_law_320, t_L_law_321, t_L_law_322, t_L_law_323, t_L_law_324, t_L_law_327, t_L_law_329, t_L_law_330, t_L_law_331, t_L_law_333, t_L_law_334, t_L_law_335, t_L_law_336, t_L_law_337, t_L_law_339, t_L_law_340, t_L_law_341, t_L_law_342, t_L_law_343, t_L_law_345, t_L_law_346, t_L_law_347, t_L_law_348, t_L_law_351, t_L_law_353, ↓reduceIte, ev_k_i, ev_k_r, ev_k_l, ev_k_J, ev_k_n, ev_kr_1, ev_kr_0, ev_isK_y, ev_aG_y, ev_aS_y, ev_aN_y, ev_inA_0, ev_isA_0, ev_ft_I, ev_ft_0, ev_ft_1, ev_ft_o, ev_ft_a, ev_nb_0, ev_nb_1, and_true, true_and, if_true, if_false, not_true_eq_false, not_false_eq_true, nI_1, ev_fG_0, ev_fG_1, ev_fG_2, ev_fG_3, ev_fG_4, ev_fG_5, ev_fG_6, ev_fG_7, ev_fG_8, ev_fS_0, ev_fS_1, ev_fS_2, ev_fS_3, ev_fS_4, ev_fS_5, ev_fS_6, ev_fS_7, ev_fS_8, ev_isO_0, ev_isO_1, ev_isO_2, ev_isO_3, ev_isO_4, ev_isO_5, ev_isO_6, ev_isO_7, ev_isO_8, ev_z0, ev_z1, ev_z2, eq_self, ev_ofN, show ¬ (1 : Int32) = 0 from by decide, show ¬ (2 : Int32) = 0 from by decide, show ¬ (2 : Int32) = 1 from by decide, show ¬ (0 : Int32) = 1 from by decide, show ¬ (0 : Int32) = 2 from by decide, show ¬ (1 : Int32) = 2 from by decide, show ¬ (0 : Int32) = -1 from by decide, show (0 : Int32) ≤ 1 from by decide, show (1 : Int32).toNatClampNeg = 1 from rfl, show (0 : Nat) < 2 from by omega, show (1 : Nat) < 2 from by omega, not_true_eq_false, ne_eq, not_false_eq_true, hs1.1.1, hs1.1.2, hs1.2.1.1, hs1.2.1.2, hs1.2.2.1.1, hs1.2.2.1.2, hs1.2.2.2.1, hs1.2.2.2.2, hk13]
  have b1 := hp.2.2.2.2
  have b2 := hq.2.2.2
  exact c _ _ H2 n2 q2 _ _ (jM_ref hM1 hq rfl hA (jR_same hl hj.2.1 hj.2.2.1 hj.2.2.2.1)) (by omega) (by omega) (by omega) (by omega)
theorem LP_putIfAbsent (hS : jS X S i v0 v1 v2 v3) (h : jM X zf x G G As H n) {a5 a6 : Value} (c : jC X zf x S i n q P) : ev_ok (ev_TT X) 309 356 [.ref S, .ref x, .ref (x + 57), .ref (x + 68), .int (nI i), a5, a6] [] H n q P := by
  have hn := jM_n h
  have hs := hS H (jM_low h)
  have h0 := h
  obtain ⟨hc, hJ, -, ⟨r, ow, hr, hm⟩, hx, hA, hl, ho, hxs⟩ := h0
  simp (disch := omega) only [t_L_law_356, t_L_law_357, t_L_law_358, t_L_law_360, t_L_law_361, t_L_law_362, t_L_law_363, t_L_law_364, t_L_law_366, t_L_law_367, t_L_law_368, t_L_law_369, t_L_law_370, t_L_law_372, t_L_law_373, t_L_law_374, t_L_law_375, t_L_law_376, t_L_law_379, t_L_law_381, t_L_law_382, t_L_law_383, t_L_law_385, t_L_law_386, t_L_law_387, t_L_law_388, t_L_law_389, t_L_law_391, t_L_law_392, t_L_law_393, t_L_law_394, t_L_law_395, t_L_law_397, t_L_law_398, t_L_law_399, t_L_law_400, t_L_law_403, t_L_law_405, ↓reduceIte, ev_k_i, ev_k_r, ev_k_l, ev_k_J, ev_k_n, ev_kr_1, ev_kr_0, ev_isK_y, ev_aG_y, ev_aS_y, ev_aN_y, ev_inA_0, ev_isA_0, ev_ft_I, ev_ft_0, ev_ft_1, ev_ft_o, ev_ft_a, ev_nb_0, ev_nb_1, and_true, true_and, if_true, if_false, not_true_eq_false, not_false_eq_true, nI_1, ev_fG_0, ev_fG_1, ev_fG_2, ev_fG_3, ev_fG_4, ev_fG_5, ev_fG_6, ev_fG_7, ev_fG_8, ev_fS_0, ev_fS_1, ev_fS_2, ev_fS_3, ev_fS_4, ev_fS_5, ev_fS_6, ev_fS_7, ev_fS_8, ev_isO_0, ev_isO_1, ev_isO_2, ev_isO_3, ev_isO_4, ev_isO_5, ev_isO_6, ev_isO_7, ev_isO_8, ev_z0, ev_z1, ev_z2, eq_self, ev_ofN, show ¬ (1 : Int32) = 0 from by decide, show ¬ (2 : Int32) = 0 from by decide, show ¬ (2 : Int32) = 1 from by decide, show ¬ (0 : Int32) = 1 from by decide, show ¬ (0 : Int32) = 2 from by decide, show ¬ (1 : Int32) = 2 from by decide, show ¬ (0 : Int32) = -1 from by decide, show (0 : Int32) ≤ 1 from by decide, show (1 : Int32).toNatClampNeg = 1 from rfl, show (0 : Nat) < 2 from by omega, show (1 : Nat) < 2 from by omega, not_true_eq_false, ne_eq, not_false_eq_true, hs.1.1, hs.1.2, hs.2.1.1, hs.2.1.2, hs.2.2.1.1, hs.2.2.1.2, hs.2.2.2.1, hs.2.2.2.2]
  refine LW_putIfAbsent hc hJ.1 (by omega) (by omega) ho (jM_z h) fun H1 n1 q1 hp => ?_
  have hj := JK_putIfAbsent (G := G) hJ (t := v1) (k := v2) (v := v3)
  have hM1 := jM_class h hp.1 hj.1 hp.2.1 (by obtain ⟨l, s, h1, -⟩ := hp.2.2.1; exact ⟨l, s, h1⟩) hp.2.2.2.1 hp.2.2.2.2.1
  have hs1 := hS H1 (jM_low hM1)
  have h1 := hM1
  obtain ⟨hc1, hJ1, -, ⟨r1, ow1, hr1, hm1⟩, hx1, -, -, -, -⟩ := h1
  have hk13 := m_k13 hm1
  simp (disch := omega) only [t_L_law_356, t_L_law_357, t_L_law_358, t_L_law_360, t_L_law_361, t_L_law_362, t_L_law_363, t_L_law_364, t_L_law_366, t_L_law_367, t_L_law_368, t_L_law_369, t_L_law_370, t_L_law_372, t_L_law_373, t_L_law_374, t_L_law_375, t_L_law_376, t_L_law_379, t_L_law_381, t_L_law_382, t_L_law_383, t_L_law_385, t_L_law_386, t_L_law_387, t_L_law_388, t_L_law_389, t_L_law_391, t_L_law_392, t_L_law_393, t_L_law_394, t_L_law_395, t_L_law_397, t_L_law_398, t_L_law_399, t_L_law_400, t_L_law_403, t_L_law_405, ↓reduceIte, ev_k_i, ev_k_r, ev_k_l, ev_k_J, ev_k_n, ev_kr_1, ev_kr_0, ev_isK_y, ev_aG_y, ev_aS_y, ev_aN_y, ev_inA_0, ev_isA_0, ev_ft_I, ev_ft_0, ev_ft_1, ev_ft_o, ev_ft_a, ev_nb_0, ev_nb_1, and_true, true_and, if_true, if_false, not_true_eq_false, not_false_eq_true, nI_1, ev_fG_0, ev_fG_1, ev_fG_2, ev_fG_3, ev_fG_4, ev_fG_5, ev_fG_6, ev_fG_7, ev_fG_8, ev_fS_0, ev_fS_1, ev_fS_2, ev_fS_3, ev_fS_4, ev_fS_5, ev_fS_6, ev_fS_7, ev_fS_8, ev_isO_0, ev_isO_1, ev_isO_2, ev_isO_3, ev_isO_4, ev_isO_5, ev_isO_6, ev_isO_7, ev_isO_8, ev_z0, ev_z1, ev_z2, eq_self, ev_ofN, show ¬ (1 : Int32) = 0 from by decide, show ¬ (2 : Int32) = 0 from by decide, show ¬ (2 : Int32) = 1 from by decide, show ¬ (0 : Int32) = 1 from by decide, show ¬ (0 : Int32) = 2 from by decide, show ¬ (1 : Int32) = 2 from by decide, show ¬ (0 : Int32) = -1 from by decide, show (0 : Int32) ≤ 1 from by decide, show (1 : Int32).toNatClampNeg = 1 from rfl, show (0 : Nat) < 2 from by omega, show (1 : Nat) < 2 from by omega, not_true_eq_false, ne_eq, not_false_eq_true, hs1.1.1, hs1.1.2, hs1.2.1.1, hs1.2.1.2, hs1.2.2.1.1, hs1.2.2.1.2, hs1.2.2.2.1, hs1.2.2.2.2, hk13]
  refine MK_putIfAbsent hm1 hx1 hJ.1 hr1 fun H2 n2 q2 hq => ?_
  simp (disch := omega) only [t_L_law_356, t_L_law_357, t_L_law_358, t_L_law_360, t_L_law_361, t_L_law_362, t_L_law_363, t_L_law_364, t_L_law_366, t_L_law_367, t_L_law_368, t_L_law_369, t_L_law_370, t_L_law_372, t_L_law_373, t_L_law_374, t_L_law_375, t_L_law_376, t_L_law_379, t_L_law_381, t_L_law_382, t_L_law_383, t_L_law_385, t_L_law_386, t_L_law_387, t_L_law_388, t_L_law_389, t_L_law_391, t_L_law_392, t_L_law_393, t_L_law_394, t_L_law_395, t_L_law_397, t_L_law_398, t_L_law_399, t_L_law_400, t_L_law_403, t_L_law_405, ↓reduceIte, ev_k_i, ev_k_r, ev_k_l, ev_k_J, ev_k_n, ev_kr_1, ev_kr_0, ev_isK_y, ev_aG_y, ev_aS_y, ev_aN_y, ev_inA_0, ev_isA_0, ev_ft_I, ev_ft_0, ev_ft_1, ev_ft_o, ev_ft_a, ev_nb_0, ev_nb_1, and_true, true_and, if_true, if_false, not_true_eq_false, not_false_eq_true, nI_1, ev_fG_0, ev_fG_1, ev_fG_2, ev_fG_3, ev_fG_4, ev_fG_5, ev_fG_6, ev_fG_7, ev_fG_8, ev_fS_0, ev_fS_1, ev_fS_2, ev_fS_3, ev_fS_4, ev_fS_5, ev_fS_6, ev_fS_7, ev_fS_8, ev_isO_0, ev_isO_1, ev_isO_2, ev_isO_3, ev_isO_4, ev_isO_5, ev_isO_6, ev_isO_7, ev_isO_8, ev_z0, ev_z1, ev_z2, eq_self, ev_ofN, show ¬ (1 : Int32) = 0 from by decide, show ¬ (2 : Int32) = 0 from by decide, show ¬ (2 : Int32) = 1 from by decide, show ¬ (0 : Int32) = 1 from by decide, show ¬ (0 : Int32) = 2 from by decide, show ¬ (1 : Int32) = 2 from by decide, show ¬ (0 : Int32) = -1 from by decide, show (0 : Int32) ≤ 1 from by decide, show (1 : Int32).toNatClampNeg = 1 from rfl, show (0 : Nat) < 2 from by omega, show (1 : Nat) < 2 from by omega, not_true_eq_false, ne_eq, not_false_eq_true, hs1.1.1, hs1.1.2, hs1.2.1.1, hs1.2.1.2, hs1.2.2.1.1, hs1.2.2.1.2, hs1.2.2.2.1, hs1.2.2.2.2, hk13]
  have b1 := hp.2.2.2.2
  have b2 := hq.2.2.2
  exact c _ _ H2 n2 q2 _ _ (jM_ref hM1 hq rfl hA (jR_same hl hj.2.1 hj.2.2.1 hj.2.2.2.1)) (by omega) (by omega) (by omega) (by omega)
theorem LP_get (hS : jS X S i v0 v1 v2 v3) (h : jM X zf x G G As H n) {a5 a6 : Value} (c : jC X zf x S i n q P) : ev_ok (ev_TT X) 309 408 [.ref S, .ref x, .ref (x + 57), .ref (x + 68), .int (nI i), a5, a6] [] H n q P := by
  have hn := jM_n h
  have hs := hS H (jM_low h)
  have h0 := h
  obtain ⟨hc, hJ, -, ⟨r, ow, hr, hm⟩, hx, hA, hl, ho, hxs⟩ := h0
  simp (disch := omega) only [t_L_law_408, t_L_law_409, t_L_law_410, t_L_law_412, t_L_law_413, t_L_law_414, t_L_law_415, t_L_law_416, t_L_law_418, t_L_law_419, t_L_law_420, t_L_law_421, t_L_law_422, t_L_law_425, t_L_law_427, t_L_law_428, t_L_law_429, t_L_law_431, t_L_law_432, t_L_law_433, t_L_law_434, t_L_law_435, t_L_law_437, t_L_law_438, t_L_law_439, t_L_law_440, t_L_law_443, t_L_law_445, ↓reduceIte, ev_k_i, ev_k_r, ev_k_l, ev_k_J, ev_k_n, ev_kr_1, ev_kr_0, ev_isK_y, ev_aG_y, ev_aS_y, ev_aN_y, ev_inA_0, ev_isA_0, ev_ft_I, ev_ft_0, ev_ft_1, ev_ft_o, ev_ft_a, ev_nb_0, ev_nb_1, and_true, true_and, if_true, if_false, not_true_eq_false, not_false_eq_true, nI_1, ev_fG_0, ev_fG_1, ev_fG_2, ev_fG_3, ev_fG_4, ev_fG_5, ev_fG_6, ev_fG_7, ev_fG_8, ev_fS_0, ev_fS_1, ev_fS_2, ev_fS_3, ev_fS_4, ev_fS_5, ev_fS_6, ev_fS_7, ev_fS_8, ev_isO_0, ev_isO_1, ev_isO_2, ev_isO_3, ev_isO_4, ev_isO_5, ev_isO_6, ev_isO_7, ev_isO_8, ev_z0, ev_z1, ev_z2, eq_self, ev_ofN, show ¬ (1 : Int32) = 0 from by decide, show ¬ (2 : Int32) = 0 from by decide, show ¬ (2 : Int32) = 1 from by decide, show ¬ (0 : Int32) = 1 from by decide, show ¬ (0 : Int32) = 2 from by decide, show ¬ (1 : Int32) = 2 from by decide, show ¬ (0 : Int32) = -1 from by decide, show (0 : Int32) ≤ 1 from by decide, show (1 : Int32).toNatClampNeg = 1 from rfl, show (0 : Nat) < 2 from by omega, show (1 : Nat) < 2 from by omega, not_true_eq_false, ne_eq, not_false_eq_true, hs.1.1, hs.1.2, hs.2.1.1, hs.2.1.2, hs.2.2.1.1, hs.2.2.1.2, hs.2.2.2.1, hs.2.2.2.2]
  refine LW_get hc hJ.1 (by omega) (by omega) ho (jM_z h) fun H1 n1 q1 hp => ?_
  have hj := JK_get (G := G) hJ (t := v1) (k := v2)
  have hM1 := jM_class h hp.1 hj.1 hp.2.1 (by obtain ⟨l, s, h1, -⟩ := hp.2.2.1; exact ⟨l, s, h1⟩) hp.2.2.2.1 hp.2.2.2.2.1
  have hs1 := hS H1 (jM_low hM1)
  have h1 := hM1
  obtain ⟨hc1, hJ1, -, ⟨r1, ow1, hr1, hm1⟩, hx1, -, -, -, -⟩ := h1
  have hk13 := m_k13 hm1
  simp (disch := omega) only [t_L_law_408, t_L_law_409, t_L_law_410, t_L_law_412, t_L_law_413, t_L_law_414, t_L_law_415, t_L_law_416, t_L_law_418, t_L_law_419, t_L_law_420, t_L_law_421, t_L_law_422, t_L_law_425, t_L_law_427, t_L_law_428, t_L_law_429, t_L_law_431, t_L_law_432, t_L_law_433, t_L_law_434, t_L_law_435, t_L_law_437, t_L_law_438, t_L_law_439, t_L_law_440, t_L_law_443, t_L_law_445, ↓reduceIte, ev_k_i, ev_k_r, ev_k_l, ev_k_J, ev_k_n, ev_kr_1, ev_kr_0, ev_isK_y, ev_aG_y, ev_aS_y, ev_aN_y, ev_inA_0, ev_isA_0, ev_ft_I, ev_ft_0, ev_ft_1, ev_ft_o, ev_ft_a, ev_nb_0, ev_nb_1, and_true, true_and, if_true, if_false, not_true_eq_false, not_false_eq_true, nI_1, ev_fG_0, ev_fG_1, ev_fG_2, ev_fG_3, ev_fG_4, ev_fG_5, ev_fG_6, ev_fG_7, ev_fG_8, ev_fS_0, ev_fS_1, ev_fS_2, ev_fS_3, ev_fS_4, ev_fS_5, ev_fS_6, ev_fS_7, ev_fS_8, ev_isO_0, ev_isO_1, ev_isO_2, ev_isO_3, ev_isO_4, ev_isO_5, ev_isO_6, ev_isO_7, ev_isO_8, ev_z0, ev_z1, ev_z2, eq_self, ev_ofN, show ¬ (1 : Int32) = 0 from by decide, show ¬ (2 : Int32) = 0 from by decide, show ¬ (2 : Int32) = 1 from by decide, show ¬ (0 : Int32) = 1 from by decide, show ¬ (0 : Int32) = 2 from by decide, show ¬ (1 : Int32) = 2 from by decide, show ¬ (0 : Int32) = -1 from by decide, show (0 : Int32) ≤ 1 from by decide, show (1 : Int32).toNatClampNeg = 1 from rfl, show (0 : Nat) < 2 from by omega, show (1 : Nat) < 2 from by omega, not_true_eq_false, ne_eq, not_false_eq_true, hs1.1.1, hs1.1.2, hs1.2.1.1, hs1.2.1.2, hs1.2.2.1.1, hs1.2.2.1.2, hs1.2.2.2.1, hs1.2.2.2.2, hk13]
  refine MK_get hm1 hx1 hJ.1 hr1 fun H2 n2 q2 hq => ?_
  simp (disch := omega) only [t_L_law_408, t_L_law_409, t_L_law_410, t_L_law_412, t_L_law_413, t_L_law_414, t_L_law_415, t_L_law_416, t_L_law_418, t_L_law_419, t_L_law_420, t_L_law_421, t_L_law_422, t_L_law_425, t_L_law_427, t_L_law_428, t_L_law_429, t_L_law_431, t_L_law_432, t_L_law_433, t_L_law_434, t_L_law_435, t_L_law_437, t_L_law_438, t_L_law_439, t_L_law_440, t_L_law_443, t_L_law_445, ↓reduceIte, ev_k_i, ev_k_r, ev_k_l, ev_k_J, ev_k_n, ev_kr_1, ev_kr_0, ev_isK_y, ev_aG_y, ev_aS_y, ev_aN_y, ev_inA_0, ev_isA_0, ev_ft_I, ev_ft_0, ev_ft_1, ev_ft_o, ev_ft_a, ev_nb_0, ev_nb_1, and_true, true_and, if_true, if_false, not_true_eq_false, not_false_eq_true, nI_1, ev_fG_0, ev_fG_1, ev_fG_2, ev_fG_3, ev_fG_4, ev_fG_5, ev_fG_6, ev_fG_7, ev_fG_8, ev_fS_0, ev_fS_1, ev_fS_2, ev_fS_3, ev_fS_4, ev_fS_5, ev_fS_6, ev_fS_7, ev_fS_8, ev_isO_0, ev_isO_1, ev_isO_2, ev_isO_3, ev_isO_4, ev_isO_5, ev_isO_6, ev_isO_7, ev_isO_8, ev_z0, ev_z1, ev_z2, eq_self, ev_ofN, show ¬ (1 : Int32) = 0 from by decide, show ¬ (2 : Int32) = 0 from by decide, show ¬ (2 : Int32) = 1 from by decide, show ¬ (0 : Int32) = 1 from by decide, show ¬ (0 : Int32) = 2 from by decide, show ¬ (1 : Int32) = 2 from by decide, show ¬ (0 : Int32) = -1 from by decide, show (0 : Int32) ≤ 1 from by decide, show (1 : Int32).toNatClampNeg = 1 from rfl, show (0 : Nat) < 2 from by omega, show (1 : Nat) < 2 from by omega, not_true_eq_false, ne_eq, not_false_eq_true, hs1.1.1, hs1.1.2, hs1.2.1.1, hs1.2.1.2, hs1.2.2.1.1, hs1.2.2.1.2, hs1.2.2.2.1, hs1.2.2.2.2, hk13]
  have b1 := hp.2.2.2.2
  have b2 := hq.2.2.2
  exact c _ _ H2 n2 q2 _ _ (jM_ref hM1 hq rfl hA (jR_same hl hj.2.1 hj.2.2.1 hj.2.2.2.1)) (by omega) (by omega) (by omega) (by omega)
theorem LP_getOr (hS : jS X S i v0 v1 v2 v3) (h : jM X zf x G G As H n) {a5 a6 : Value} (c : jC X zf x S i n q P) : ev_ok (ev_TT X) 309 448 [.ref S, .ref x, .ref (x + 57), .ref (x + 68), .int (nI i), a5, a6] [] H n q P := by
  have hn := jM_n h
  have hs := hS H (jM_low h)
  have h0 := h
  obtain ⟨hc, hJ, -, ⟨r, ow, hr, hm⟩, hx, hA, hl, ho, hxs⟩ := h0
  simp (disch := omega) only [t_L_law_448, t_L_law_449, t_L_law_450, t_L_law_452, t_L_law_453, t_L_law_454, t_L_law_455, t_L_law_456, t_L_law_458, t_L_law_459, t_L_law_460, t_L_law_461, t_L_law_462, t_L_law_464, t_L_law_465, t_L_law_466, t_L_law_467, t_L_law_468, t_L_law_471, t_L_law_473, t_L_law_474, t_L_law_475, t_L_law_477, t_L_law_478, t_L_law_479, t_L_law_480, t_L_law_481, t_L_law_483, t_L_law_484, t_L_law_485, t_L_law_486, t_L_law_487, t_L_law_489, t_L_law_490, t_L_law_491, t_L_law_492, t_L_law_495, t_L_law_497, ↓reduceIte, ev_k_i, ev_k_r, ev_k_l, ev_k_J, ev_k_n, ev_kr_1, ev_kr_0, ev_isK_y, ev_aG_y, ev_aS_y, ev_aN_y, ev_inA_0, ev_isA_0, ev_ft_I, ev_ft_0, ev_ft_1, ev_ft_o, ev_ft_a, ev_nb_0, ev_nb_1, and_true, true_and, if_true, if_false, not_true_eq_false, not_false_eq_true, nI_1, ev_fG_0, ev_fG_1, ev_fG_2, ev_fG_3, ev_fG_4, ev_fG_5, ev_fG_6, ev_fG_7, ev_fG_8, ev_fS_0, ev_fS_1, ev_fS_2, ev_fS_3, ev_fS_4, ev_fS_5, ev_fS_6, ev_fS_7, ev_fS_8, ev_isO_0, ev_isO_1, ev_isO_2, ev_isO_3, ev_isO_4, ev_isO_5, ev_isO_6, ev_isO_7, ev_isO_8, ev_z0, ev_z1, ev_z2, eq_self, ev_ofN, show ¬ (1 : Int32) = 0 from by decide, show ¬ (2 : Int32) = 0 from by decide, show ¬ (2 : Int32) = 1 from by decide, show ¬ (0 : Int32) = 1 from by decide, show ¬ (0 : Int32) = 2 from by decide, show ¬ (1 : Int32) = 2 from by decide, show ¬ (0 : Int32) = -1 from by decide, show (0 : Int32) ≤ 1 from by decide, show (1 : Int32).toNatClampNeg = 1 from rfl, show (0 : Nat) < 2 from by omega, show (1 : Nat) < 2 from by omega, not_true_eq_false, ne_eq, not_false_eq_true, hs.1.1, hs.1.2, hs.2.1.1, hs.2.1.2, hs.2.2.1.1, hs.2.2.1.2, hs.2.2.2.1, hs.2.2.2.2]
  refine LW_getOr hc hJ.1 (by omega) (by omega) ho (jM_z h) fun H1 n1 q1 hp => ?_
  have hj := JK_getOr (G := G) hJ (t := v1) (k := v2) (o1 := v3)
  have hM1 := jM_class h hp.1 hj.1 hp.2.1 (by obtain ⟨l, s, h1, -⟩ := hp.2.2.1; exact ⟨l, s, h1⟩) hp.2.2.2.1 hp.2.2.2.2.1
  have hs1 := hS H1 (jM_low hM1)
  have h1 := hM1
  obtain ⟨hc1, hJ1, -, ⟨r1, ow1, hr1, hm1⟩, hx1, -, -, -, -⟩ := h1
  have hk13 := m_k13 hm1
  simp (disch := omega) only [t_L_law_448, t_L_law_449, t_L_law_450, t_L_law_452, t_L_law_453, t_L_law_454, t_L_law_455, t_L_law_456, t_L_law_458, t_L_law_459, t_L_law_460, t_L_law_461, t_L_law_462, t_L_law_464, t_L_law_465, t_L_law_466, t_L_law_467, t_L_law_468, t_L_law_471, t_L_law_473, t_L_law_474, t_L_law_475, t_L_law_477, t_L_law_478, t_L_law_479, t_L_law_480, t_L_law_481, t_L_law_483, t_L_law_484, t_L_law_485, t_L_law_486, t_L_law_487, t_L_law_489, t_L_law_490, t_L_law_491, t_L_law_492, t_L_law_495, t_L_law_497, ↓reduceIte, ev_k_i, ev_k_r, ev_k_l, ev_k_J, ev_k_n, ev_kr_1, ev_kr_0, ev_isK_y, ev_aG_y, ev_aS_y, ev_aN_y, ev_inA_0, ev_isA_0, ev_ft_I, ev_ft_0, ev_ft_1, ev_ft_o, ev_ft_a, ev_nb_0, ev_nb_1, and_true, true_and, if_true, if_false, not_true_eq_false, not_false_eq_true, nI_1, ev_fG_0, ev_fG_1, ev_fG_2, ev_fG_3, ev_fG_4, ev_fG_5, ev_fG_6, ev_fG_7, ev_fG_8, ev_fS_0, ev_fS_1, ev_fS_2, ev_fS_3, ev_fS_4, ev_fS_5, ev_fS_6, ev_fS_7, ev_fS_8, ev_isO_0, ev_isO_1, ev_isO_2, ev_isO_3, ev_isO_4, ev_isO_5, ev_isO_6, ev_isO_7, ev_isO_8, ev_z0, ev_z1, ev_z2, eq_self, ev_ofN, show ¬ (1 : Int32) = 0 from by decide, show ¬ (2 : Int32) = 0 from by decide, show ¬ (2 : Int32) = 1 from by decide, show ¬ (0 : Int32) = 1 from by decide, show ¬ (0 : Int32) = 2 from by decide, show ¬ (1 : Int32) = 2 from by decide, show ¬ (0 : Int32) = -1 from by decide, show (0 : Int32) ≤ 1 from by decide, show (1 : Int32).toNatClampNeg = 1 from rfl, show (0 : Nat) < 2 from by omega, show (1 : Nat) < 2 from by omega, not_true_eq_false, ne_eq, not_false_eq_true, hs1.1.1, hs1.1.2, hs1.2.1.1, hs1.2.1.2, hs1.2.2.1.1, hs1.2.2.1.2, hs1.2.2.2.1, hs1.2.2.2.2, hk13]
  refine MK_getOr hm1 hx1 hJ.1 hr1 fun H2 n2 q2 hq => ?_
  simp (disch := omega) only [t_L_law_448, t_L_law_449, t_L_law_450, t_L_law_452, t_L_law_453, t_L_law_454, t_L_law_455, t_L_law_456, t_L_law_458, t_L_law_459, t_L_law_460, t_L_law_461, t_L_law_462, t_L_law_464, t_L_law_465, t_L_law_466, t_L_law_467, t_L_law_468, t_L_law_471, t_L_law_473, t_L_law_474, t_L_law_475, t_L_law_477, t_L_law_478, t_L_law_479, t_L_law_480, t_L_law_481, t_L_law_483, t_L_law_484, t_L_law_485, t_L_law_486, t_L_law_487, t_L_law_489, t_L_law_490, t_L_law_491, t_L_law_492, t_L_law_495, t_L_law_497, ↓reduceIte, ev_k_i, ev_k_r, ev_k_l, ev_k_J, ev_k_n, ev_kr_1, ev_kr_0, ev_isK_y, ev_aG_y, ev_aS_y, ev_aN_y, ev_inA_0, ev_isA_0, ev_ft_I, ev_ft_0, ev_ft_1, ev_ft_o, ev_ft_a, ev_nb_0, ev_nb_1, and_true, true_and, if_true, if_false, not_true_eq_false, not_false_eq_true, nI_1, ev_fG_0, ev_fG_1, ev_fG_2, ev_fG_3, ev_fG_4, ev_fG_5, ev_fG_6, ev_fG_7, ev_fG_8, ev_fS_0, ev_fS_1, ev_fS_2, ev_fS_3, ev_fS_4, ev_fS_5, ev_fS_6, ev_fS_7, ev_fS_8, ev_isO_0, ev_isO_1, ev_isO_2, ev_isO_3, ev_isO_4, ev_isO_5, ev_isO_6, ev_isO_7, ev_isO_8, ev_z0, ev_z1, ev_z2, eq_self, ev_ofN, show ¬ (1 : Int32) = 0 from by decide, show ¬ (2 : Int32) = 0 from by decide, show ¬ (2 : Int32) = 1 from by decide, show ¬ (0 : Int32) = 1 from by decide, show ¬ (0 : Int32) = 2 from by decide, show ¬ (1 : Int32) = 2 from by decide, show ¬ (0 : Int32) = -1 from by decide, show (0 : Int32) ≤ 1 from by decide, show (1 : Int32).toNatClampNeg = 1 from rfl, show (0 : Nat) < 2 from by omega, show (1 : Nat) < 2 from by omega, not_true_eq_false, ne_eq, not_false_eq_true, hs1.1.1, hs1.1.2, hs1.2.1.1, hs1.2.1.2, hs1.2.2.1.1, hs1.2.2.1.2, hs1.2.2.2.1, hs1.2.2.2.2, hk13]
  have b1 := hp.2.2.2.2
  have b2 := hq.2.2.2
  exact c _ _ H2 n2 q2 _ _ (jM_ref hM1 hq rfl hA (jR_same hl hj.2.1 hj.2.2.1 hj.2.2.2.1)) (by omega) (by omega) (by omega) (by omega)
theorem LP_remove (hS : jS X S i v0 v1 v2 v3) (h : jM X zf x G G As H n) {a5 a6 : Value} (c : jC X zf x S i n q P) : ev_ok (ev_TT X) 309 500 [.ref S, .ref x, .ref (x + 57), .ref (x + 68), .int (nI i), a5, a6] [] H n q P := by
  have hn := jM_n h
  have hs := hS H (jM_low h)
  have h0 := h
  obtain ⟨hc, hJ, -, ⟨r, ow, hr, hm⟩, hx, hA, hl, ho, hxs⟩ := h0
  simp (disch := omega) only [t_L_law_500, t_L_law_501, t_L_law_502, t_L_law_504, t_L_law_505, t_L_law_506, t_L_law_507, t_L_law_508, t_L_law_510, t_L_law_511, t_L_law_512, t_L_law_513, t_L_law_514, t_L_law_517, t_L_law_519, t_L_law_520, t_L_law_521, t_L_law_523, t_L_law_524, t_L_law_525, t_L_law_526, t_L_law_527, t_L_law_529, t_L_law_530, t_L_law_531, t_L_law_532, t_L_law_535, t_L_law_537, ↓reduceIte, ev_k_i, ev_k_r, ev_k_l, ev_k_J, ev_k_n, ev_kr_1, ev_kr_0, ev_isK_y, ev_aG_y, ev_aS_y, ev_aN_y, ev_inA_0, ev_isA_0, ev_ft_I, ev_ft_0, ev_ft_1, ev_ft_o, ev_ft_a, ev_nb_0, ev_nb_1, and_true, true_and, if_true, if_false, not_true_eq_false, not_false_eq_true, nI_1, ev_fG_0, ev_fG_1, ev_fG_2, ev_fG_3, ev_fG_4, ev_fG_5, ev_fG_6, ev_fG_7, ev_fG_8, ev_fS_0, ev_fS_1, ev_fS_2, ev_fS_3, ev_fS_4, ev_fS_5, ev_fS_6, ev_fS_7, ev_fS_8, ev_isO_0, ev_isO_1, ev_isO_2, ev_isO_3, ev_isO_4, ev_isO_5, ev_isO_6, ev_isO_7, ev_isO_8, ev_z0, ev_z1, ev_z2, eq_self, ev_ofN, show ¬ (1 : Int32) = 0 from by decide, show ¬ (2 : Int32) = 0 from by decide, show ¬ (2 : Int32) = 1 from by decide, show ¬ (0 : Int32) = 1 from by decide, show ¬ (0 : Int32) = 2 from by decide, show ¬ (1 : Int32) = 2 from by decide, show ¬ (0 : Int32) = -1 from by decide, show (0 : Int32) ≤ 1 from by decide, show (1 : Int32).toNatClampNeg = 1 from rfl, show (0 : Nat) < 2 from by omega, show (1 : Nat) < 2 from by omega, not_true_eq_false, ne_eq, not_false_eq_true, hs.1.1, hs.1.2, hs.2.1.1, hs.2.1.2, hs.2.2.1.1, hs.2.2.1.2, hs.2.2.2.1, hs.2.2.2.2]
  refine LW_remove hc hJ.1 (by omega) (by omega) ho (jM_z h) fun H1 n1 q1 hp => ?_
  have hj := JK_remove (G := G) hJ (t := v1) (k := v2)
  have hM1 := jM_class h hp.1 hj.1 hp.2.1 (by obtain ⟨l, s, h1, -⟩ := hp.2.2.1; exact ⟨l, s, h1⟩) hp.2.2.2.1 hp.2.2.2.2.1
  have hs1 := hS H1 (jM_low hM1)
  have h1 := hM1
  obtain ⟨hc1, hJ1, -, ⟨r1, ow1, hr1, hm1⟩, hx1, -, -, -, -⟩ := h1
  have hk13 := m_k13 hm1
  simp (disch := omega) only [t_L_law_500, t_L_law_501, t_L_law_502, t_L_law_504, t_L_law_505, t_L_law_506, t_L_law_507, t_L_law_508, t_L_law_510, t_L_law_511, t_L_law_512, t_L_law_513, t_L_law_514, t_L_law_517, t_L_law_519, t_L_law_520, t_L_law_521, t_L_law_523, t_L_law_524, t_L_law_525, t_L_law_526, t_L_law_527, t_L_law_529, t_L_law_530, t_L_law_531, t_L_law_532, t_L_law_535, t_L_law_537, ↓reduceIte, ev_k_i, ev_k_r, ev_k_l, ev_k_J, ev_k_n, ev_kr_1, ev_kr_0, ev_isK_y, ev_aG_y, ev_aS_y, ev_aN_y, ev_inA_0, ev_isA_0, ev_ft_I, ev_ft_0, ev_ft_1, ev_ft_o, ev_ft_a, ev_nb_0, ev_nb_1, and_true, true_and, if_true, if_false, not_true_eq_false, not_false_eq_true, nI_1, ev_fG_0, ev_fG_1, ev_fG_2, ev_fG_3, ev_fG_4, ev_fG_5, ev_fG_6, ev_fG_7, ev_fG_8, ev_fS_0, ev_fS_1, ev_fS_2, ev_fS_3, ev_fS_4, ev_fS_5, ev_fS_6, ev_fS_7, ev_fS_8, ev_isO_0, ev_isO_1, ev_isO_2, ev_isO_3, ev_isO_4, ev_isO_5, ev_isO_6, ev_isO_7, ev_isO_8, ev_z0, ev_z1, ev_z2, eq_self, ev_ofN, show ¬ (1 : Int32) = 0 from by decide, show ¬ (2 : Int32) = 0 from by decide, show ¬ (2 : Int32) = 1 from by decide, show ¬ (0 : Int32) = 1 from by decide, show ¬ (0 : Int32) = 2 from by decide, show ¬ (1 : Int32) = 2 from by decide, show ¬ (0 : Int32) = -1 from by decide, show (0 : Int32) ≤ 1 from by decide, show (1 : Int32).toNatClampNeg = 1 from rfl, show (0 : Nat) < 2 from by omega, show (1 : Nat) < 2 from by omega, not_true_eq_false, ne_eq, not_false_eq_true, hs1.1.1, hs1.1.2, hs1.2.1.1, hs1.2.1.2, hs1.2.2.1.1, hs1.2.2.1.2, hs1.2.2.2.1, hs1.2.2.2.2, hk13]
  refine MK_remove hm1 hx1 hJ.1 hr1 fun H2 n2 q2 hq => ?_
  simp (disch := omega) only [t_L_law_500, t_L_law_501, t_L_law_502, t_L_law_504, t_L_law_505, t_L_law_506, t_L_law_507, t_L_law_508, t_L_law_510, t_L_law_511, t_L_law_512, t_L_law_513, t_L_law_514, t_L_law_517, t_L_law_519, t_L_law_520, t_L_law_521, t_L_law_523, t_L_law_524, t_L_law_525, t_L_law_526, t_L_law_527, t_L_law_529, t_L_law_530, t_L_law_531, t_L_law_532, t_L_law_535, t_L_law_537, ↓reduceIte, ev_k_i, ev_k_r, ev_k_l, ev_k_J, ev_k_n, ev_kr_1, ev_kr_0, ev_isK_y, ev_aG_y, ev_aS_y, ev_aN_y, ev_inA_0, ev_isA_0, ev_ft_I, ev_ft_0, ev_ft_1, ev_ft_o, ev_ft_a, ev_nb_0, ev_nb_1, and_true, true_and, if_true, if_false, not_true_eq_false, not_false_eq_true, nI_1, ev_fG_0, ev_fG_1, ev_fG_2, ev_fG_3, ev_fG_4, ev_fG_5, ev_fG_6, ev_fG_7, ev_fG_8, ev_fS_0, ev_fS_1, ev_fS_2, ev_fS_3, ev_fS_4, ev_fS_5, ev_fS_6, ev_fS_7, ev_fS_8, ev_isO_0, ev_isO_1, ev_isO_2, ev_isO_3, ev_isO_4, ev_isO_5, ev_isO_6, ev_isO_7, ev_isO_8, ev_z0, ev_z1, ev_z2, eq_self, ev_ofN, show ¬ (1 : Int32) = 0 from by decide, show ¬ (2 : Int32) = 0 from by decide, show ¬ (2 : Int32) = 1 from by decide, show ¬ (0 : Int32) = 1 from by decide, show ¬ (0 : Int32) = 2 from by decide, show ¬ (1 : Int32) = 2 from by decide, show ¬ (0 : Int32) = -1 from by decide, show (0 : Int32) ≤ 1 from by decide, show (1 : Int32).toNatClampNeg = 1 from rfl, show (0 : Nat) < 2 from by omega, show (1 : Nat) < 2 from by omega, not_true_eq_false, ne_eq, not_false_eq_true, hs1.1.1, hs1.1.2, hs1.2.1.1, hs1.2.1.2, hs1.2.2.1.1, hs1.2.2.1.2, hs1.2.2.2.1, hs1.2.2.2.2, hk13]
  have b1 := hp.2.2.2.2
  have b2 := hq.2.2.2
  exact c _ _ H2 n2 q2 _ _ (jM_ref hM1 hq rfl hA (jR_same hl hj.2.1 hj.2.2.1 hj.2.2.2.1)) (by omega) (by omega) (by omega) (by omega)
theorem LP_has (hS : jS X S i v0 v1 v2 v3) (h : jM X zf x G G As H n) {a5 a6 : Value} (c : jC X zf x S i n q P) : ev_ok (ev_TT X) 309 660 [.ref S, .ref x, .ref (x + 57), .ref (x + 68), .int (nI i), a5, a6] [] H n q P := by
  have hn := jM_n h
  have hs := hS H (jM_low h)
  have h0 := h
  obtain ⟨hc, hJ, -, ⟨r, ow, hr, hm⟩, hx, hA, hl, ho, hxs⟩ := h0
  simp (disch := omega) only [t_L_law_660, t_L_law_661, t_L_law_662, t_L_law_664, t_L_law_665, t_L_law_666, t_L_law_667, t_L_law_668, t_L_law_670, t_L_law_671, t_L_law_672, t_L_law_673, t_L_law_674, t_L_law_677, t_L_law_679, t_L_law_680, t_L_law_681, t_L_law_683, t_L_law_684, t_L_law_685, t_L_law_686, t_L_law_687, t_L_law_689, t_L_law_690, t_L_law_691, t_L_law_692, t_L_law_695, t_L_law_697, ↓reduceIte, ev_k_i, ev_k_r, ev_k_l, ev_k_J, ev_k_n, ev_kr_1, ev_kr_0, ev_isK_y, ev_aG_y, ev_aS_y, ev_aN_y, ev_inA_0, ev_isA_0, ev_ft_I, ev_ft_0, ev_ft_1, ev_ft_o, ev_ft_a, ev_nb_0, ev_nb_1, and_true, true_and, if_true, if_false, not_true_eq_false, not_false_eq_true, nI_1, ev_fG_0, ev_fG_1, ev_fG_2, ev_fG_3, ev_fG_4, ev_fG_5, ev_fG_6, ev_fG_7, ev_fG_8, ev_fS_0, ev_fS_1, ev_fS_2, ev_fS_3, ev_fS_4, ev_fS_5, ev_fS_6, ev_fS_7, ev_fS_8, ev_isO_0, ev_isO_1, ev_isO_2, ev_isO_3, ev_isO_4, ev_isO_5, ev_isO_6, ev_isO_7, ev_isO_8, ev_z0, ev_z1, ev_z2, eq_self, ev_ofN, show ¬ (1 : Int32) = 0 from by decide, show ¬ (2 : Int32) = 0 from by decide, show ¬ (2 : Int32) = 1 from by decide, show ¬ (0 : Int32) = 1 from by decide, show ¬ (0 : Int32) = 2 from by decide, show ¬ (1 : Int32) = 2 from by decide, show ¬ (0 : Int32) = -1 from by decide, show (0 : Int32) ≤ 1 from by decide, show (1 : Int32).toNatClampNeg = 1 from rfl, show (0 : Nat) < 2 from by omega, show (1 : Nat) < 2 from by omega, not_true_eq_false, ne_eq, not_false_eq_true, hs.1.1, hs.1.2, hs.2.1.1, hs.2.1.2, hs.2.2.1.1, hs.2.2.1.2, hs.2.2.2.1, hs.2.2.2.2]
  refine LW_has hc hJ.1 (by omega) (by omega) ho (jM_z h) fun H1 n1 q1 hp => ?_
  have hj := JK_has (G := G) hJ (t := v1) (k := v2)
  have hM1 := jM_class h hp.1 hj.1 hp.2.1 (by obtain ⟨l, s, h1, -⟩ := hp.2.2.1; exact ⟨l, s, h1⟩) hp.2.2.2.1 hp.2.2.2.2.1
  have hs1 := hS H1 (jM_low hM1)
  have h1 := hM1
  obtain ⟨hc1, hJ1, -, ⟨r1, ow1, hr1, hm1⟩, hx1, -, -, -, -⟩ := h1
  have hk13 := m_k13 hm1
  simp (disch := omega) only [t_L_law_660, t_L_law_661, t_L_law_662, t_L_law_664, t_L_law_665, t_L_law_666, t_L_law_667, t_L_law_668, t_L_law_670, t_L_law_671, t_L_law_672, t_L_law_673, t_L_law_674, t_L_law_677, t_L_law_679, t_L_law_680, t_L_law_681, t_L_law_683, t_L_law_684, t_L_law_685, t_L_law_686, t_L_law_687, t_L_law_689, t_L_law_690, t_L_law_691, t_L_law_692, t_L_law_695, t_L_law_697, ↓reduceIte, ev_k_i, ev_k_r, ev_k_l, ev_k_J, ev_k_n, ev_kr_1, ev_kr_0, ev_isK_y, ev_aG_y, ev_aS_y, ev_aN_y, ev_inA_0, ev_isA_0, ev_ft_I, ev_ft_0, ev_ft_1, ev_ft_o, ev_ft_a, ev_nb_0, ev_nb_1, and_true, true_and, if_true, if_false, not_true_eq_false, not_false_eq_true, nI_1, ev_fG_0, ev_fG_1, ev_fG_2, ev_fG_3, ev_fG_4, ev_fG_5, ev_fG_6, ev_fG_7, ev_fG_8, ev_fS_0, ev_fS_1, ev_fS_2, ev_fS_3, ev_fS_4, ev_fS_5, ev_fS_6, ev_fS_7, ev_fS_8, ev_isO_0, ev_isO_1, ev_isO_2, ev_isO_3, ev_isO_4, ev_isO_5, ev_isO_6, ev_isO_7, ev_isO_8, ev_z0, ev_z1, ev_z2, eq_self, ev_ofN, show ¬ (1 : Int32) = 0 from by decide, show ¬ (2 : Int32) = 0 from by decide, show ¬ (2 : Int32) = 1 from by decide, show ¬ (0 : Int32) = 1 from by decide, show ¬ (0 : Int32) = 2 from by decide, show ¬ (1 : Int32) = 2 from by decide, show ¬ (0 : Int32) = -1 from by decide, show (0 : Int32) ≤ 1 from by decide, show (1 : Int32).toNatClampNeg = 1 from rfl, show (0 : Nat) < 2 from by omega, show (1 : Nat) < 2 from by omega, not_true_eq_false, ne_eq, not_false_eq_true, hs1.1.1, hs1.1.2, hs1.2.1.1, hs1.2.1.2, hs1.2.2.1.1, hs1.2.2.1.2, hs1.2.2.2.1, hs1.2.2.2.2, hk13]
  refine MK_has hm1 hx1 hJ.1 hr1 fun H2 n2 q2 hq => ?_
  simp (disch := omega) only [t_L_law_660, t_L_law_661, t_L_law_662, t_L_law_664, t_L_law_665, t_L_law_666, t_L_law_667, t_L_law_668, t_L_law_670, t_L_law_671, t_L_law_672, t_L_law_673, t_L_law_674, t_L_law_677, t_L_law_679, t_L_law_680, t_L_law_681, t_L_law_683, t_L_law_684, t_L_law_685, t_L_law_686, t_L_law_687, t_L_law_689, t_L_law_690, t_L_law_691, t_L_law_692, t_L_law_695, t_L_law_697, ↓reduceIte, ev_k_i, ev_k_r, ev_k_l, ev_k_J, ev_k_n, ev_kr_1, ev_kr_0, ev_isK_y, ev_aG_y, ev_aS_y, ev_aN_y, ev_inA_0, ev_isA_0, ev_ft_I, ev_ft_0, ev_ft_1, ev_ft_o, ev_ft_a, ev_nb_0, ev_nb_1, and_true, true_and, if_true, if_false, not_true_eq_false, not_false_eq_true, nI_1, ev_fG_0, ev_fG_1, ev_fG_2, ev_fG_3, ev_fG_4, ev_fG_5, ev_fG_6, ev_fG_7, ev_fG_8, ev_fS_0, ev_fS_1, ev_fS_2, ev_fS_3, ev_fS_4, ev_fS_5, ev_fS_6, ev_fS_7, ev_fS_8, ev_isO_0, ev_isO_1, ev_isO_2, ev_isO_3, ev_isO_4, ev_isO_5, ev_isO_6, ev_isO_7, ev_isO_8, ev_z0, ev_z1, ev_z2, eq_self, ev_ofN, show ¬ (1 : Int32) = 0 from by decide, show ¬ (2 : Int32) = 0 from by decide, show ¬ (2 : Int32) = 1 from by decide, show ¬ (0 : Int32) = 1 from by decide, show ¬ (0 : Int32) = 2 from by decide, show ¬ (1 : Int32) = 2 from by decide, show ¬ (0 : Int32) = -1 from by decide, show (0 : Int32) ≤ 1 from by decide, show (1 : Int32).toNatClampNeg = 1 from rfl, show (0 : Nat) < 2 from by omega, show (1 : Nat) < 2 from by omega, not_true_eq_false, ne_eq, not_false_eq_true, hs1.1.1, hs1.1.2, hs1.2.1.1, hs1.2.1.2, hs1.2.2.1.1, hs1.2.2.1.2, hs1.2.2.2.1, hs1.2.2.2.2, hk13]
  have b1 := hp.2.2.2.2
  have b2 := hq.2.2.2
  exact c _ _ H2 n2 q2 _ _ (jM_ref hM1 hq rfl hA (jR_same hl hj.2.1 hj.2.2.1 hj.2.2.2.1)) (by omega) (by omega) (by omega) (by omega)
theorem LP_placeOf (hS : jS X S i v0 v1 v2 v3) (h : jM X zf x G G As H n) {a5 a6 : Value} (c : jC X zf x S i n q P) : ev_ok (ev_TT X) 309 848 [.ref S, .ref x, .ref (x + 57), .ref (x + 68), .int (nI i), a5, a6] [] H n q P := by
  have hn := jM_n h
  have hs := hS H (jM_low h)
  have h0 := h
  obtain ⟨hc, hJ, -, ⟨r, ow, hr, hm⟩, hx, hA, hl, ho, hxs⟩ := h0
  simp (disch := omega) only [t_L_law_848, t_L_law_849, t_L_law_850, t_L_law_852, t_L_law_853, t_L_law_854, t_L_law_855, t_L_law_856, t_L_law_858, t_L_law_859, t_L_law_860, t_L_law_861, t_L_law_862, t_L_law_865, t_L_law_867, t_L_law_868, t_L_law_869, t_L_law_871, t_L_law_872, t_L_law_873, t_L_law_874, t_L_law_875, t_L_law_877, t_L_law_878, t_L_law_879, t_L_law_880, t_L_law_883, t_L_law_885, ↓reduceIte, ev_k_i, ev_k_r, ev_k_l, ev_k_J, ev_k_n, ev_kr_1, ev_kr_0, ev_isK_y, ev_aG_y, ev_aS_y, ev_aN_y, ev_inA_0, ev_isA_0, ev_ft_I, ev_ft_0, ev_ft_1, ev_ft_o, ev_ft_a, ev_nb_0, ev_nb_1, and_true, true_and, if_true, if_false, not_true_eq_false, not_false_eq_true, nI_1, ev_fG_0, ev_fG_1, ev_fG_2, ev_fG_3, ev_fG_4, ev_fG_5, ev_fG_6, ev_fG_7, ev_fG_8, ev_fS_0, ev_fS_1, ev_fS_2, ev_fS_3, ev_fS_4, ev_fS_5, ev_fS_6, ev_fS_7, ev_fS_8, ev_isO_0, ev_isO_1, ev_isO_2, ev_isO_3, ev_isO_4, ev_isO_5, ev_isO_6, ev_isO_7, ev_isO_8, ev_z0, ev_z1, ev_z2, eq_self, ev_ofN, show ¬ (1 : Int32) = 0 from by decide, show ¬ (2 : Int32) = 0 from by decide, show ¬ (2 : Int32) = 1 from by decide, show ¬ (0 : Int32) = 1 from by decide, show ¬ (0 : Int32) = 2 from by decide, show ¬ (1 : Int32) = 2 from by decide, show ¬ (0 : Int32) = -1 from by decide, show (0 : Int32) ≤ 1 from by decide, show (1 : Int32).toNatClampNeg = 1 from rfl, show (0 : Nat) < 2 from by omega, show (1 : Nat) < 2 from by omega, not_true_eq_false, ne_eq, not_false_eq_true, hs.1.1, hs.1.2, hs.2.1.1, hs.2.1.2, hs.2.2.1.1, hs.2.2.1.2, hs.2.2.2.1, hs.2.2.2.2]
  refine LW_placeOf hc hJ.1 (by omega) (by omega) ho (jM_z h) fun H1 n1 q1 hp => ?_
  have hj := JK_placeOf (G := G) hJ (t := v1) (k := v2)
  have hM1 := jM_class h hp.1 hj.1 hp.2.1 (by obtain ⟨l, s, h1, -⟩ := hp.2.2.1; exact ⟨l, s, h1⟩) hp.2.2.2.1 hp.2.2.2.2.1
  have hs1 := hS H1 (jM_low hM1)
  have h1 := hM1
  obtain ⟨hc1, hJ1, -, ⟨r1, ow1, hr1, hm1⟩, hx1, -, -, -, -⟩ := h1
  have hk13 := m_k13 hm1
  simp (disch := omega) only [t_L_law_848, t_L_law_849, t_L_law_850, t_L_law_852, t_L_law_853, t_L_law_854, t_L_law_855, t_L_law_856, t_L_law_858, t_L_law_859, t_L_law_860, t_L_law_861, t_L_law_862, t_L_law_865, t_L_law_867, t_L_law_868, t_L_law_869, t_L_law_871, t_L_law_872, t_L_law_873, t_L_law_874, t_L_law_875, t_L_law_877, t_L_law_878, t_L_law_879, t_L_law_880, t_L_law_883, t_L_law_885, ↓reduceIte, ev_k_i, ev_k_r, ev_k_l, ev_k_J, ev_k_n, ev_kr_1, ev_kr_0, ev_isK_y, ev_aG_y, ev_aS_y, ev_aN_y, ev_inA_0, ev_isA_0, ev_ft_I, ev_ft_0, ev_ft_1, ev_ft_o, ev_ft_a, ev_nb_0, ev_nb_1, and_true, true_and, if_true, if_false, not_true_eq_false, not_false_eq_true, nI_1, ev_fG_0, ev_fG_1, ev_fG_2, ev_fG_3, ev_fG_4, ev_fG_5, ev_fG_6, ev_fG_7, ev_fG_8, ev_fS_0, ev_fS_1, ev_fS_2, ev_fS_3, ev_fS_4, ev_fS_5, ev_fS_6, ev_fS_7, ev_fS_8, ev_isO_0, ev_isO_1, ev_isO_2, ev_isO_3, ev_isO_4, ev_isO_5, ev_isO_6, ev_isO_7, ev_isO_8, ev_z0, ev_z1, ev_z2, eq_self, ev_ofN, show ¬ (1 : Int32) = 0 from by decide, show ¬ (2 : Int32) = 0 from by decide, show ¬ (2 : Int32) = 1 from by decide, show ¬ (0 : Int32) = 1 from by decide, show ¬ (0 : Int32) = 2 from by decide, show ¬ (1 : Int32) = 2 from by decide, show ¬ (0 : Int32) = -1 from by decide, show (0 : Int32) ≤ 1 from by decide, show (1 : Int32).toNatClampNeg = 1 from rfl, show (0 : Nat) < 2 from by omega, show (1 : Nat) < 2 from by omega, not_true_eq_false, ne_eq, not_false_eq_true, hs1.1.1, hs1.1.2, hs1.2.1.1, hs1.2.1.2, hs1.2.2.1.1, hs1.2.2.1.2, hs1.2.2.2.1, hs1.2.2.2.2, hk13]
  refine MK_placeOf hm1 hx1 hJ.1 hr1 fun H2 n2 q2 hq => ?_
  simp (disch := omega) only [t_L_law_848, t_L_law_849, t_L_law_850, t_L_law_852, t_L_law_853, t_L_law_854, t_L_law_855, t_L_law_856, t_L_law_858, t_L_law_859, t_L_law_860, t_L_law_861, t_L_law_862, t_L_law_865, t_L_law_867, t_L_law_868, t_L_law_869, t_L_law_871, t_L_law_872, t_L_law_873, t_L_law_874, t_L_law_875, t_L_law_877, t_L_law_878, t_L_law_879, t_L_law_880, t_L_law_883, t_L_law_885, ↓reduceIte, ev_k_i, ev_k_r, ev_k_l, ev_k_J, ev_k_n, ev_kr_1, ev_kr_0, ev_isK_y, ev_aG_y, ev_aS_y, ev_aN_y, ev_inA_0, ev_isA_0, ev_ft_I, ev_ft_0, ev_ft_1, ev_ft_o, ev_ft_a, ev_nb_0, ev_nb_1, and_true, true_and, if_true, if_false, not_true_eq_false, not_false_eq_true, nI_1, ev_fG_0, ev_fG_1, ev_fG_2, ev_fG_3, ev_fG_4, ev_fG_5, ev_fG_6, ev_fG_7, ev_fG_8, ev_fS_0, ev_fS_1, ev_fS_2, ev_fS_3, ev_fS_4, ev_fS_5, ev_fS_6, ev_fS_7, ev_fS_8, ev_isO_0, ev_isO_1, ev_isO_2, ev_isO_3, ev_isO_4, ev_isO_5, ev_isO_6, ev_isO_7, ev_isO_8, ev_z0, ev_z1, ev_z2, eq_self, ev_ofN, show ¬ (1 : Int32) = 0 from by decide, show ¬ (2 : Int32) = 0 from by decide, show ¬ (2 : Int32) = 1 from by decide, show ¬ (0 : Int32) = 1 from by decide, show ¬ (0 : Int32) = 2 from by decide, show ¬ (1 : Int32) = 2 from by decide, show ¬ (0 : Int32) = -1 from by decide, show (0 : Int32) ≤ 1 from by decide, show (1 : Int32).toNatClampNeg = 1 from rfl, show (0 : Nat) < 2 from by omega, show (1 : Nat) < 2 from by omega, not_true_eq_false, ne_eq, not_false_eq_true, hs1.1.1, hs1.1.2, hs1.2.1.1, hs1.2.1.2, hs1.2.2.1.1, hs1.2.2.1.2, hs1.2.2.2.1, hs1.2.2.2.2, hk13]
  have b1 := hp.2.2.2.2
  have b2 := hq.2.2.2
  exact c _ _ H2 n2 q2 _ _ (jM_ref hM1 hq rfl hA (jR_same hl hj.2.1 hj.2.2.1 hj.2.2.2.1)) (by omega) (by omega) (by omega) (by omega)
theorem LP_clear (hS : jS X S i v0 v1 v2 v3) (h : jM X zf x G G As H n) {a5 a6 : Value} (c : jC X zf x S i n q P) : ev_ok (ev_TT X) 309 540 [.ref S, .ref x, .ref (x + 57), .ref (x + 68), .int (nI i), a5, a6] [] H n q P := by
  have hn := jM_n h
  have hs := hS H (jM_low h)
  have h0 := h
  obtain ⟨hc, hJ, -, ⟨r, ow, hr, hm⟩, hx, hA, hl, ho, hxs⟩ := h0
  simp (disch := omega) only [t_L_law_540, t_L_law_541, t_L_law_542, t_L_law_544, t_L_law_545, t_L_law_546, t_L_law_547, t_L_law_548, t_L_law_551, t_L_law_553, t_L_law_554, t_L_law_555, t_L_law_557, t_L_law_558, t_L_law_559, t_L_law_560, t_L_law_563, t_L_law_565, ↓reduceIte, ev_k_i, ev_k_r, ev_k_l, ev_k_J, ev_k_n, ev_kr_1, ev_kr_0, ev_isK_y, ev_aG_y, ev_aS_y, ev_aN_y, ev_inA_0, ev_isA_0, ev_ft_I, ev_ft_0, ev_ft_1, ev_ft_o, ev_ft_a, ev_nb_0, ev_nb_1, and_true, true_and, if_true, if_false, not_true_eq_false, not_false_eq_true, nI_1, ev_fG_0, ev_fG_1, ev_fG_2, ev_fG_3, ev_fG_4, ev_fG_5, ev_fG_6, ev_fG_7, ev_fG_8, ev_fS_0, ev_fS_1, ev_fS_2, ev_fS_3, ev_fS_4, ev_fS_5, ev_fS_6, ev_fS_7, ev_fS_8, ev_isO_0, ev_isO_1, ev_isO_2, ev_isO_3, ev_isO_4, ev_isO_5, ev_isO_6, ev_isO_7, ev_isO_8, ev_z0, ev_z1, ev_z2, eq_self, ev_ofN, show ¬ (1 : Int32) = 0 from by decide, show ¬ (2 : Int32) = 0 from by decide, show ¬ (2 : Int32) = 1 from by decide, show ¬ (0 : Int32) = 1 from by decide, show ¬ (0 : Int32) = 2 from by decide, show ¬ (1 : Int32) = 2 from by decide, show ¬ (0 : Int32) = -1 from by decide, show (0 : Int32) ≤ 1 from by decide, show (1 : Int32).toNatClampNeg = 1 from rfl, show (0 : Nat) < 2 from by omega, show (1 : Nat) < 2 from by omega, not_true_eq_false, ne_eq, not_false_eq_true, hs.1.1, hs.1.2, hs.2.1.1, hs.2.1.2, hs.2.2.1.1, hs.2.2.1.2, hs.2.2.2.1, hs.2.2.2.2]
  refine LW_clear hc hJ.1 (by omega) (by omega) ho (jM_z h) fun H1 n1 q1 hp => ?_
  have hj := JK_clear (G := G) hJ (t := v1)
  have hM1 := jM_class h hp.1 hj.1 hp.2.1 (by obtain ⟨l, s, h1, -⟩ := hp.2.2.1; exact ⟨l, s, h1⟩) hp.2.2.2.1 hp.2.2.2.2.1
  have hs1 := hS H1 (jM_low hM1)
  have h1 := hM1
  obtain ⟨hc1, hJ1, -, ⟨r1, ow1, hr1, hm1⟩, hx1, -, -, -, -⟩ := h1
  have hk13 := m_k13 hm1
  simp (disch := omega) only [t_L_law_540, t_L_law_541, t_L_law_542, t_L_law_544, t_L_law_545, t_L_law_546, t_L_law_547, t_L_law_548, t_L_law_551, t_L_law_553, t_L_law_554, t_L_law_555, t_L_law_557, t_L_law_558, t_L_law_559, t_L_law_560, t_L_law_563, t_L_law_565, ↓reduceIte, ev_k_i, ev_k_r, ev_k_l, ev_k_J, ev_k_n, ev_kr_1, ev_kr_0, ev_isK_y, ev_aG_y, ev_aS_y, ev_aN_y, ev_inA_0, ev_isA_0, ev_ft_I, ev_ft_0, ev_ft_1, ev_ft_o, ev_ft_a, ev_nb_0, ev_nb_1, and_true, true_and, if_true, if_false, not_true_eq_false, not_false_eq_true, nI_1, ev_fG_0, ev_fG_1, ev_fG_2, ev_fG_3, ev_fG_4, ev_fG_5, ev_fG_6, ev_fG_7, ev_fG_8, ev_fS_0, ev_fS_1, ev_fS_2, ev_fS_3, ev_fS_4, ev_fS_5, ev_fS_6, ev_fS_7, ev_fS_8, ev_isO_0, ev_isO_1, ev_isO_2, ev_isO_3, ev_isO_4, ev_isO_5, ev_isO_6, ev_isO_7, ev_isO_8, ev_z0, ev_z1, ev_z2, eq_self, ev_ofN, show ¬ (1 : Int32) = 0 from by decide, show ¬ (2 : Int32) = 0 from by decide, show ¬ (2 : Int32) = 1 from by decide, show ¬ (0 : Int32) = 1 from by decide, show ¬ (0 : Int32) = 2 from by decide, show ¬ (1 : Int32) = 2 from by decide, show ¬ (0 : Int32) = -1 from by decide, show (0 : Int32) ≤ 1 from by decide, show (1 : Int32).toNatClampNeg = 1 from rfl, show (0 : Nat) < 2 from by omega, show (1 : Nat) < 2 from by omega, not_true_eq_false, ne_eq, not_false_eq_true, hs1.1.1, hs1.1.2, hs1.2.1.1, hs1.2.1.2, hs1.2.2.1.1, hs1.2.2.1.2, hs1.2.2.2.1, hs1.2.2.2.2, hk13]
  refine MK_clear hm1 hx1 hJ.1 hr1 fun H2 n2 q2 hq => ?_
  simp (disch := omega) only [t_L_law_540, t_L_law_541, t_L_law_542, t_L_law_544, t_L_law_545, t_L_law_546, t_L_law_547, t_L_law_548, t_L_law_551, t_L_law_553, t_L_law_554, t_L_law_555, t_L_law_557, t_L_law_558, t_L_law_559, t_L_law_560, t_L_law_563, t_L_law_565, ↓reduceIte, ev_k_i, ev_k_r, ev_k_l, ev_k_J, ev_k_n, ev_kr_1, ev_kr_0, ev_isK_y, ev_aG_y, ev_aS_y, ev_aN_y, ev_inA_0, ev_isA_0, ev_ft_I, ev_ft_0, ev_ft_1, ev_ft_o, ev_ft_a, ev_nb_0, ev_nb_1, and_true, true_and, if_true, if_false, not_true_eq_false, not_false_eq_true, nI_1, ev_fG_0, ev_fG_1, ev_fG_2, ev_fG_3, ev_fG_4, ev_fG_5, ev_fG_6, ev_fG_7, ev_fG_8, ev_fS_0, ev_fS_1, ev_fS_2, ev_fS_3, ev_fS_4, ev_fS_5, ev_fS_6, ev_fS_7, ev_fS_8, ev_isO_0, ev_isO_1, ev_isO_2, ev_isO_3, ev_isO_4, ev_isO_5, ev_isO_6, ev_isO_7, ev_isO_8, ev_z0, ev_z1, ev_z2, eq_self, ev_ofN, show ¬ (1 : Int32) = 0 from by decide, show ¬ (2 : Int32) = 0 from by decide, show ¬ (2 : Int32) = 1 from by decide, show ¬ (0 : Int32) = 1 from by decide, show ¬ (0 : Int32) = 2 from by decide, show ¬ (1 : Int32) = 2 from by decide, show ¬ (0 : Int32) = -1 from by decide, show (0 : Int32) ≤ 1 from by decide, show (1 : Int32).toNatClampNeg = 1 from rfl, show (0 : Nat) < 2 from by omega, show (1 : Nat) < 2 from by omega, not_true_eq_false, ne_eq, not_false_eq_true, hs1.1.1, hs1.1.2, hs1.2.1.1, hs1.2.1.2, hs1.2.2.1.1, hs1.2.2.1.2, hs1.2.2.2.1, hs1.2.2.2.2, hk13]
  have b1 := hp.2.2.2.2
  have b2 := hq.2.2.2
  exact c _ _ H2 n2 q2 _ _ (jM_ref hM1 hq rfl hA (jR_same hl hj.2.1 hj.2.2.1 hj.2.2.2.1)) (by omega) (by omega) (by omega) (by omega)
theorem LP_size (hS : jS X S i v0 v1 v2 v3) (h : jM X zf x G G As H n) {a5 a6 : Value} (c : jC X zf x S i n q P) : ev_ok (ev_TT X) 309 700 [.ref S, .ref x, .ref (x + 57), .ref (x + 68), .int (nI i), a5, a6] [] H n q P := by
  have hn := jM_n h
  have hs := hS H (jM_low h)
  have h0 := h
  obtain ⟨hc, hJ, -, ⟨r, ow, hr, hm⟩, hx, hA, hl, ho, hxs⟩ := h0
  simp (disch := omega) only [t_L_law_700, t_L_law_701, t_L_law_702, t_L_law_704, t_L_law_705, t_L_law_706, t_L_law_707, t_L_law_708, t_L_law_711, t_L_law_713, t_L_law_714, t_L_law_715, t_L_law_717, t_L_law_718, t_L_law_719, t_L_law_720, t_L_law_723, t_L_law_725, ↓reduceIte, ev_k_i, ev_k_r, ev_k_l, ev_k_J, ev_k_n, ev_kr_1, ev_kr_0, ev_isK_y, ev_aG_y, ev_aS_y, ev_aN_y, ev_inA_0, ev_isA_0, ev_ft_I, ev_ft_0, ev_ft_1, ev_ft_o, ev_ft_a, ev_nb_0, ev_nb_1, and_true, true_and, if_true, if_false, not_true_eq_false, not_false_eq_true, nI_1, ev_fG_0, ev_fG_1, ev_fG_2, ev_fG_3, ev_fG_4, ev_fG_5, ev_fG_6, ev_fG_7, ev_fG_8, ev_fS_0, ev_fS_1, ev_fS_2, ev_fS_3, ev_fS_4, ev_fS_5, ev_fS_6, ev_fS_7, ev_fS_8, ev_isO_0, ev_isO_1, ev_isO_2, ev_isO_3, ev_isO_4, ev_isO_5, ev_isO_6, ev_isO_7, ev_isO_8, ev_z0, ev_z1, ev_z2, eq_self, ev_ofN, show ¬ (1 : Int32) = 0 from by decide, show ¬ (2 : Int32) = 0 from by decide, show ¬ (2 : Int32) = 1 from by decide, show ¬ (0 : Int32) = 1 from by decide, show ¬ (0 : Int32) = 2 from by decide, show ¬ (1 : Int32) = 2 from by decide, show ¬ (0 : Int32) = -1 from by decide, show (0 : Int32) ≤ 1 from by decide, show (1 : Int32).toNatClampNeg = 1 from rfl, show (0 : Nat) < 2 from by omega, show (1 : Nat) < 2 from by omega, not_true_eq_false, ne_eq, not_false_eq_true, hs.1.1, hs.1.2, hs.2.1.1, hs.2.1.2, hs.2.2.1.1, hs.2.2.1.2, hs.2.2.2.1, hs.2.2.2.2]
  refine LW_size hc hJ.1 (by omega) (by omega) ho (jM_z h) fun H1 n1 q1 hp => ?_
  have hj := JK_size (G := G) hJ (t := v1)
  have hM1 := jM_class h hp.1 hj.1 hp.2.1 (by obtain ⟨l, s, h1, -⟩ := hp.2.2.1; exact ⟨l, s, h1⟩) hp.2.2.2.1 hp.2.2.2.2.1
  have hs1 := hS H1 (jM_low hM1)
  have h1 := hM1
  obtain ⟨hc1, hJ1, -, ⟨r1, ow1, hr1, hm1⟩, hx1, -, -, -, -⟩ := h1
  have hk13 := m_k13 hm1
  simp (disch := omega) only [t_L_law_700, t_L_law_701, t_L_law_702, t_L_law_704, t_L_law_705, t_L_law_706, t_L_law_707, t_L_law_708, t_L_law_711, t_L_law_713, t_L_law_714, t_L_law_715, t_L_law_717, t_L_law_718, t_L_law_719, t_L_law_720, t_L_law_723, t_L_law_725, ↓reduceIte, ev_k_i, ev_k_r, ev_k_l, ev_k_J, ev_k_n, ev_kr_1, ev_kr_0, ev_isK_y, ev_aG_y, ev_aS_y, ev_aN_y, ev_inA_0, ev_isA_0, ev_ft_I, ev_ft_0, ev_ft_1, ev_ft_o, ev_ft_a, ev_nb_0, ev_nb_1, and_true, true_and, if_true, if_false, not_true_eq_false, not_false_eq_true, nI_1, ev_fG_0, ev_fG_1, ev_fG_2, ev_fG_3, ev_fG_4, ev_fG_5, ev_fG_6, ev_fG_7, ev_fG_8, ev_fS_0, ev_fS_1, ev_fS_2, ev_fS_3, ev_fS_4, ev_fS_5, ev_fS_6, ev_fS_7, ev_fS_8, ev_isO_0, ev_isO_1, ev_isO_2, ev_isO_3, ev_isO_4, ev_isO_5, ev_isO_6, ev_isO_7, ev_isO_8, ev_z0, ev_z1, ev_z2, eq_self, ev_ofN, show ¬ (1 : Int32) = 0 from by decide, show ¬ (2 : Int32) = 0 from by decide, show ¬ (2 : Int32) = 1 from by decide, show ¬ (0 : Int32) = 1 from by decide, show ¬ (0 : Int32) = 2 from by decide, show ¬ (1 : Int32) = 2 from by decide, show ¬ (0 : Int32) = -1 from by decide, show (0 : Int32) ≤ 1 from by decide, show (1 : Int32).toNatClampNeg = 1 from rfl, show (0 : Nat) < 2 from by omega, show (1 : Nat) < 2 from by omega, not_true_eq_false, ne_eq, not_false_eq_true, hs1.1.1, hs1.1.2, hs1.2.1.1, hs1.2.1.2, hs1.2.2.1.1, hs1.2.2.1.2, hs1.2.2.2.1, hs1.2.2.2.2, hk13]
  refine MK_size hm1 hx1 hJ.1 hr1 fun H2 n2 q2 hq => ?_
  simp (disch := omega) only [t_L_law_700, t_L_law_701, t_L_law_702, t_L_law_704, t_L_law_705, t_L_law_706, t_L_law_707, t_L_law_708, t_L_law_711, t_L_law_713, t_L_law_714, t_L_law_715, t_L_law_717, t_L_law_718, t_L_law_719, t_L_law_720, t_L_law_723, t_L_law_725, ↓reduceIte, ev_k_i, ev_k_r, ev_k_l, ev_k_J, ev_k_n, ev_kr_1, ev_kr_0, ev_isK_y, ev_aG_y, ev_aS_y, ev_aN_y, ev_inA_0, ev_isA_0, ev_ft_I, ev_ft_0, ev_ft_1, ev_ft_o, ev_ft_a, ev_nb_0, ev_nb_1, and_true, true_and, if_true, if_false, not_true_eq_false, not_false_eq_true, nI_1, ev_fG_0, ev_fG_1, ev_fG_2, ev_fG_3, ev_fG_4, ev_fG_5, ev_fG_6, ev_fG_7, ev_fG_8, ev_fS_0, ev_fS_1, ev_fS_2, ev_fS_3, ev_fS_4, ev_fS_5, ev_fS_6, ev_fS_7, ev_fS_8, ev_isO_0, ev_isO_1, ev_isO_2, ev_isO_3, ev_isO_4, ev_isO_5, ev_isO_6, ev_isO_7, ev_isO_8, ev_z0, ev_z1, ev_z2, eq_self, ev_ofN, show ¬ (1 : Int32) = 0 from by decide, show ¬ (2 : Int32) = 0 from by decide, show ¬ (2 : Int32) = 1 from by decide, show ¬ (0 : Int32) = 1 from by decide, show ¬ (0 : Int32) = 2 from by decide, show ¬ (1 : Int32) = 2 from by decide, show ¬ (0 : Int32) = -1 from by decide, show (0 : Int32) ≤ 1 from by decide, show (1 : Int32).toNatClampNeg = 1 from rfl, show (0 : Nat) < 2 from by omega, show (1 : Nat) < 2 from by omega, not_true_eq_false, ne_eq, not_false_eq_true, hs1.1.1, hs1.1.2, hs1.2.1.1, hs1.2.1.2, hs1.2.2.1.1, hs1.2.2.1.2, hs1.2.2.2.1, hs1.2.2.2.2, hk13]
  have b1 := hp.2.2.2.2
  have b2 := hq.2.2.2
  exact c _ _ H2 n2 q2 _ _ (jM_ref hM1 hq rfl hA (jR_same hl hj.2.1 hj.2.2.1 hj.2.2.2.1)) (by omega) (by omega) (by omega) (by omega)
theorem LP_keyAt (hS : jS X S i v0 v1 v2 v3) (h : jM X zf x G G As H n) {a5 a6 : Value} (c : jC X zf x S i n q P) : ev_ok (ev_TT X) 309 728 [.ref S, .ref x, .ref (x + 57), .ref (x + 68), .int (nI i), a5, a6] [] H n q P := by
  have hn := jM_n h
  have hs := hS H (jM_low h)
  have h0 := h
  obtain ⟨hc, hJ, -, ⟨r, ow, hr, hm⟩, hx, hA, hl, ho, hxs⟩ := h0
  simp (disch := omega) only [t_L_law_728, t_L_law_729, t_L_law_730, t_L_law_732, t_L_law_733, t_L_law_734, t_L_law_735, t_L_law_736, t_L_law_738, t_L_law_739, t_L_law_740, t_L_law_741, t_L_law_742, t_L_law_745, t_L_law_747, t_L_law_748, t_L_law_749, t_L_law_751, t_L_law_752, t_L_law_753, t_L_law_754, t_L_law_755, t_L_law_757, t_L_law_758, t_L_law_759, t_L_law_760, t_L_law_763, t_L_law_765, ↓reduceIte, ev_k_i, ev_k_r, ev_k_l, ev_k_J, ev_k_n, ev_kr_1, ev_kr_0, ev_isK_y, ev_aG_y, ev_aS_y, ev_aN_y, ev_inA_0, ev_isA_0, ev_ft_I, ev_ft_0, ev_ft_1, ev_ft_o, ev_ft_a, ev_nb_0, ev_nb_1, and_true, true_and, if_true, if_false, not_true_eq_false, not_false_eq_true, nI_1, ev_fG_0, ev_fG_1, ev_fG_2, ev_fG_3, ev_fG_4, ev_fG_5, ev_fG_6, ev_fG_7, ev_fG_8, ev_fS_0, ev_fS_1, ev_fS_2, ev_fS_3, ev_fS_4, ev_fS_5, ev_fS_6, ev_fS_7, ev_fS_8, ev_isO_0, ev_isO_1, ev_isO_2, ev_isO_3, ev_isO_4, ev_isO_5, ev_isO_6, ev_isO_7, ev_isO_8, ev_z0, ev_z1, ev_z2, eq_self, ev_ofN, show ¬ (1 : Int32) = 0 from by decide, show ¬ (2 : Int32) = 0 from by decide, show ¬ (2 : Int32) = 1 from by decide, show ¬ (0 : Int32) = 1 from by decide, show ¬ (0 : Int32) = 2 from by decide, show ¬ (1 : Int32) = 2 from by decide, show ¬ (0 : Int32) = -1 from by decide, show (0 : Int32) ≤ 1 from by decide, show (1 : Int32).toNatClampNeg = 1 from rfl, show (0 : Nat) < 2 from by omega, show (1 : Nat) < 2 from by omega, not_true_eq_false, ne_eq, not_false_eq_true, hs.1.1, hs.1.2, hs.2.1.1, hs.2.1.2, hs.2.2.1.1, hs.2.2.1.2, hs.2.2.2.1, hs.2.2.2.2]
  refine LW_keyAt hc hJ.1 (by omega) (by omega) ho (jM_z h) fun H1 n1 q1 hp => ?_
  have hj := JK_keyAt (G := G) hJ (t := v1) (p := v2)
  have hM1 := jM_class h hp.1 hj.1 hp.2.1 (by obtain ⟨l, s, h1, -⟩ := hp.2.2.1; exact ⟨l, s, h1⟩) hp.2.2.2.1 hp.2.2.2.2.1
  have hs1 := hS H1 (jM_low hM1)
  have h1 := hM1
  obtain ⟨hc1, hJ1, -, ⟨r1, ow1, hr1, hm1⟩, hx1, -, -, -, -⟩ := h1
  have hk13 := m_k13 hm1
  simp (disch := omega) only [t_L_law_728, t_L_law_729, t_L_law_730, t_L_law_732, t_L_law_733, t_L_law_734, t_L_law_735, t_L_law_736, t_L_law_738, t_L_law_739, t_L_law_740, t_L_law_741, t_L_law_742, t_L_law_745, t_L_law_747, t_L_law_748, t_L_law_749, t_L_law_751, t_L_law_752, t_L_law_753, t_L_law_754, t_L_law_755, t_L_law_757, t_L_law_758, t_L_law_759, t_L_law_760, t_L_law_763, t_L_law_765, ↓reduceIte, ev_k_i, ev_k_r, ev_k_l, ev_k_J, ev_k_n, ev_kr_1, ev_kr_0, ev_isK_y, ev_aG_y, ev_aS_y, ev_aN_y, ev_inA_0, ev_isA_0, ev_ft_I, ev_ft_0, ev_ft_1, ev_ft_o, ev_ft_a, ev_nb_0, ev_nb_1, and_true, true_and, if_true, if_false, not_true_eq_false, not_false_eq_true, nI_1, ev_fG_0, ev_fG_1, ev_fG_2, ev_fG_3, ev_fG_4, ev_fG_5, ev_fG_6, ev_fG_7, ev_fG_8, ev_fS_0, ev_fS_1, ev_fS_2, ev_fS_3, ev_fS_4, ev_fS_5, ev_fS_6, ev_fS_7, ev_fS_8, ev_isO_0, ev_isO_1, ev_isO_2, ev_isO_3, ev_isO_4, ev_isO_5, ev_isO_6, ev_isO_7, ev_isO_8, ev_z0, ev_z1, ev_z2, eq_self, ev_ofN, show ¬ (1 : Int32) = 0 from by decide, show ¬ (2 : Int32) = 0 from by decide, show ¬ (2 : Int32) = 1 from by decide, show ¬ (0 : Int32) = 1 from by decide, show ¬ (0 : Int32) = 2 from by decide, show ¬ (1 : Int32) = 2 from by decide, show ¬ (0 : Int32) = -1 from by decide, show (0 : Int32) ≤ 1 from by decide, show (1 : Int32).toNatClampNeg = 1 from rfl, show (0 : Nat) < 2 from by omega, show (1 : Nat) < 2 from by omega, not_true_eq_false, ne_eq, not_false_eq_true, hs1.1.1, hs1.1.2, hs1.2.1.1, hs1.2.1.2, hs1.2.2.1.1, hs1.2.2.1.2, hs1.2.2.2.1, hs1.2.2.2.2, hk13]
  refine MK_keyAt hm1 hx1 hJ.1 hr1 fun H2 n2 q2 hq => ?_
  simp (disch := omega) only [t_L_law_728, t_L_law_729, t_L_law_730, t_L_law_732, t_L_law_733, t_L_law_734, t_L_law_735, t_L_law_736, t_L_law_738, t_L_law_739, t_L_law_740, t_L_law_741, t_L_law_742, t_L_law_745, t_L_law_747, t_L_law_748, t_L_law_749, t_L_law_751, t_L_law_752, t_L_law_753, t_L_law_754, t_L_law_755, t_L_law_757, t_L_law_758, t_L_law_759, t_L_law_760, t_L_law_763, t_L_law_765, ↓reduceIte, ev_k_i, ev_k_r, ev_k_l, ev_k_J, ev_k_n, ev_kr_1, ev_kr_0, ev_isK_y, ev_aG_y, ev_aS_y, ev_aN_y, ev_inA_0, ev_isA_0, ev_ft_I, ev_ft_0, ev_ft_1, ev_ft_o, ev_ft_a, ev_nb_0, ev_nb_1, and_true, true_and, if_true, if_false, not_true_eq_false, not_false_eq_true, nI_1, ev_fG_0, ev_fG_1, ev_fG_2, ev_fG_3, ev_fG_4, ev_fG_5, ev_fG_6, ev_fG_7, ev_fG_8, ev_fS_0, ev_fS_1, ev_fS_2, ev_fS_3, ev_fS_4, ev_fS_5, ev_fS_6, ev_fS_7, ev_fS_8, ev_isO_0, ev_isO_1, ev_isO_2, ev_isO_3, ev_isO_4, ev_isO_5, ev_isO_6, ev_isO_7, ev_isO_8, ev_z0, ev_z1, ev_z2, eq_self, ev_ofN, show ¬ (1 : Int32) = 0 from by decide, show ¬ (2 : Int32) = 0 from by decide, show ¬ (2 : Int32) = 1 from by decide, show ¬ (0 : Int32) = 1 from by decide, show ¬ (0 : Int32) = 2 from by decide, show ¬ (1 : Int32) = 2 from by decide, show ¬ (0 : Int32) = -1 from by decide, show (0 : Int32) ≤ 1 from by decide, show (1 : Int32).toNatClampNeg = 1 from rfl, show (0 : Nat) < 2 from by omega, show (1 : Nat) < 2 from by omega, not_true_eq_false, ne_eq, not_false_eq_true, hs1.1.1, hs1.1.2, hs1.2.1.1, hs1.2.1.2, hs1.2.2.1.1, hs1.2.2.1.2, hs1.2.2.2.1, hs1.2.2.2.2, hk13]
  have b1 := hp.2.2.2.2
  have b2 := hq.2.2.2
  exact c _ _ H2 n2 q2 _ _ (jM_ref hM1 hq rfl hA (jR_same hl hj.2.1 hj.2.2.1 hj.2.2.2.1)) (by omega) (by omega) (by omega) (by omega)
theorem LP_valueAt (hS : jS X S i v0 v1 v2 v3) (h : jM X zf x G G As H n) {a5 a6 : Value} (c : jC X zf x S i n q P) : ev_ok (ev_TT X) 309 768 [.ref S, .ref x, .ref (x + 57), .ref (x + 68), .int (nI i), a5, a6] [] H n q P := by
  have hn := jM_n h
  have hs := hS H (jM_low h)
  have h0 := h
  obtain ⟨hc, hJ, -, ⟨r, ow, hr, hm⟩, hx, hA, hl, ho, hxs⟩ := h0
  simp (disch := omega) only [t_L_law_768, t_L_law_769, t_L_law_770, t_L_law_772, t_L_law_773, t_L_law_774, t_L_law_775, t_L_law_776, t_L_law_778, t_L_law_779, t_L_law_780, t_L_law_781, t_L_law_782, t_L_law_785, t_L_law_787, t_L_law_788, t_L_law_789, t_L_law_791, t_L_law_792, t_L_law_793, t_L_law_794, t_L_law_795, t_L_law_797, t_L_law_798, t_L_law_799, t_L_law_800, t_L_law_803, t_L_law_805, ↓reduceIte, ev_k_i, ev_k_r, ev_k_l, ev_k_J, ev_k_n, ev_kr_1, ev_kr_0, ev_isK_y, ev_aG_y, ev_aS_y, ev_aN_y, ev_inA_0, ev_isA_0, ev_ft_I, ev_ft_0, ev_ft_1, ev_ft_o, ev_ft_a, ev_nb_0, ev_nb_1, and_true, true_and, if_true, if_false, not_true_eq_false, not_false_eq_true, nI_1, ev_fG_0, ev_fG_1, ev_fG_2, ev_fG_3, ev_fG_4, ev_fG_5, ev_fG_6, ev_fG_7, ev_fG_8, ev_fS_0, ev_fS_1, ev_fS_2, ev_fS_3, ev_fS_4, ev_fS_5, ev_fS_6, ev_fS_7, ev_fS_8, ev_isO_0, ev_isO_1, ev_isO_2, ev_isO_3, ev_isO_4, ev_isO_5, ev_isO_6, ev_isO_7, ev_isO_8, ev_z0, ev_z1, ev_z2, eq_self, ev_ofN, show ¬ (1 : Int32) = 0 from by decide, show ¬ (2 : Int32) = 0 from by decide, show ¬ (2 : Int32) = 1 from by decide, show ¬ (0 : Int32) = 1 from by decide, show ¬ (0 : Int32) = 2 from by decide, show ¬ (1 : Int32) = 2 from by decide, show ¬ (0 : Int32) = -1 from by decide, show (0 : Int32) ≤ 1 from by decide, show (1 : Int32).toNatClampNeg = 1 from rfl, show (0 : Nat) < 2 from by omega, show (1 : Nat) < 2 from by omega, not_true_eq_false, ne_eq, not_false_eq_true, hs.1.1, hs.1.2, hs.2.1.1, hs.2.1.2, hs.2.2.1.1, hs.2.2.1.2, hs.2.2.2.1, hs.2.2.2.2]
  refine LW_valueAt hc hJ.1 (by omega) (by omega) ho (jM_z h) fun H1 n1 q1 hp => ?_
  have hj := JK_valueAt (G := G) hJ (t := v1) (p := v2)
  have hM1 := jM_class h hp.1 hj.1 hp.2.1 (by obtain ⟨l, s, h1, -⟩ := hp.2.2.1; exact ⟨l, s, h1⟩) hp.2.2.2.1 hp.2.2.2.2.1
  have hs1 := hS H1 (jM_low hM1)
  have h1 := hM1
  obtain ⟨hc1, hJ1, -, ⟨r1, ow1, hr1, hm1⟩, hx1, -, -, -, -⟩ := h1
  have hk13 := m_k13 hm1
  simp (disch := omega) only [t_L_law_768, t_L_law_769, t_L_law_770, t_L_law_772, t_L_law_773, t_L_law_774, t_L_law_775, t_L_law_776, t_L_law_778, t_L_law_779, t_L_law_780, t_L_law_781, t_L_law_782, t_L_law_785, t_L_law_787, t_L_law_788, t_L_law_789, t_L_law_791, t_L_law_792, t_L_law_793, t_L_law_794, t_L_law_795, t_L_law_797, t_L_law_798, t_L_law_799, t_L_law_800, t_L_law_803, t_L_law_805, ↓reduceIte, ev_k_i, ev_k_r, ev_k_l, ev_k_J, ev_k_n, ev_kr_1, ev_kr_0, ev_isK_y, ev_aG_y, ev_aS_y, ev_aN_y, ev_inA_0, ev_isA_0, ev_ft_I, ev_ft_0, ev_ft_1, ev_ft_o, ev_ft_a, ev_nb_0, ev_nb_1, and_true, true_and, if_true, if_false, not_true_eq_false, not_false_eq_true, nI_1, ev_fG_0, ev_fG_1, ev_fG_2, ev_fG_3, ev_fG_4, ev_fG_5, ev_fG_6, ev_fG_7, ev_fG_8, ev_fS_0, ev_fS_1, ev_fS_2, ev_fS_3, ev_fS_4, ev_fS_5, ev_fS_6, ev_fS_7, ev_fS_8, ev_isO_0, ev_isO_1, ev_isO_2, ev_isO_3, ev_isO_4, ev_isO_5, ev_isO_6, ev_isO_7, ev_isO_8, ev_z0, ev_z1, ev_z2, eq_self, ev_ofN, show ¬ (1 : Int32) = 0 from by decide, show ¬ (2 : Int32) = 0 from by decide, show ¬ (2 : Int32) = 1 from by decide, show ¬ (0 : Int32) = 1 from by decide, show ¬ (0 : Int32) = 2 from by decide, show ¬ (1 : Int32) = 2 from by decide, show ¬ (0 : Int32) = -1 from by decide, show (0 : Int32) ≤ 1 from by decide, show (1 : Int32).toNatClampNeg = 1 from rfl, show (0 : Nat) < 2 from by omega, show (1 : Nat) < 2 from by omega, not_true_eq_false, ne_eq, not_false_eq_true, hs1.1.1, hs1.1.2, hs1.2.1.1, hs1.2.1.2, hs1.2.2.1.1, hs1.2.2.1.2, hs1.2.2.2.1, hs1.2.2.2.2, hk13]
  refine MK_valueAt hm1 hx1 hJ.1 hr1 fun H2 n2 q2 hq => ?_
  simp (disch := omega) only [t_L_law_768, t_L_law_769, t_L_law_770, t_L_law_772, t_L_law_773, t_L_law_774, t_L_law_775, t_L_law_776, t_L_law_778, t_L_law_779, t_L_law_780, t_L_law_781, t_L_law_782, t_L_law_785, t_L_law_787, t_L_law_788, t_L_law_789, t_L_law_791, t_L_law_792, t_L_law_793, t_L_law_794, t_L_law_795, t_L_law_797, t_L_law_798, t_L_law_799, t_L_law_800, t_L_law_803, t_L_law_805, ↓reduceIte, ev_k_i, ev_k_r, ev_k_l, ev_k_J, ev_k_n, ev_kr_1, ev_kr_0, ev_isK_y, ev_aG_y, ev_aS_y, ev_aN_y, ev_inA_0, ev_isA_0, ev_ft_I, ev_ft_0, ev_ft_1, ev_ft_o, ev_ft_a, ev_nb_0, ev_nb_1, and_true, true_and, if_true, if_false, not_true_eq_false, not_false_eq_true, nI_1, ev_fG_0, ev_fG_1, ev_fG_2, ev_fG_3, ev_fG_4, ev_fG_5, ev_fG_6, ev_fG_7, ev_fG_8, ev_fS_0, ev_fS_1, ev_fS_2, ev_fS_3, ev_fS_4, ev_fS_5, ev_fS_6, ev_fS_7, ev_fS_8, ev_isO_0, ev_isO_1, ev_isO_2, ev_isO_3, ev_isO_4, ev_isO_5, ev_isO_6, ev_isO_7, ev_isO_8, ev_z0, ev_z1, ev_z2, eq_self, ev_ofN, show ¬ (1 : Int32) = 0 from by decide, show ¬ (2 : Int32) = 0 from by decide, show ¬ (2 : Int32) = 1 from by decide, show ¬ (0 : Int32) = 1 from by decide, show ¬ (0 : Int32) = 2 from by decide, show ¬ (1 : Int32) = 2 from by decide, show ¬ (0 : Int32) = -1 from by decide, show (0 : Int32) ≤ 1 from by decide, show (1 : Int32).toNatClampNeg = 1 from rfl, show (0 : Nat) < 2 from by omega, show (1 : Nat) < 2 from by omega, not_true_eq_false, ne_eq, not_false_eq_true, hs1.1.1, hs1.1.2, hs1.2.1.1, hs1.2.1.2, hs1.2.2.1.1, hs1.2.2.1.2, hs1.2.2.2.1, hs1.2.2.2.2, hk13]
  have b1 := hp.2.2.2.2
  have b2 := hq.2.2.2
  exact c _ _ H2 n2 q2 _ _ (jM_ref hM1 hq rfl hA (jR_same hl hj.2.1 hj.2.2.1 hj.2.2.2.1)) (by omega) (by omega) (by omega) (by omega)
theorem LP_pairAt (hS : jS X S i v0 v1 v2 v3) (h : jM X zf x G G As H n) {a5 a6 : Value} (c : jC X zf x S i n q P) : ev_ok (ev_TT X) 309 808 [.ref S, .ref x, .ref (x + 57), .ref (x + 68), .int (nI i), a5, a6] [] H n q P := by
  have hn := jM_n h
  have hs := hS H (jM_low h)
  have h0 := h
  obtain ⟨hc, hJ, -, ⟨r, ow, hr, hm⟩, hx, hA, hl, ho, hxs⟩ := h0
  simp (disch := omega) only [t_L_law_808, t_L_law_809, t_L_law_810, t_L_law_812, t_L_law_813, t_L_law_814, t_L_law_815, t_L_law_816, t_L_law_818, t_L_law_819, t_L_law_820, t_L_law_821, t_L_law_822, t_L_law_825, t_L_law_827, t_L_law_828, t_L_law_829, t_L_law_831, t_L_law_832, t_L_law_833, t_L_law_834, t_L_law_835, t_L_law_837, t_L_law_838, t_L_law_839, t_L_law_840, t_L_law_843, t_L_law_845, ↓reduceIte, ev_k_i, ev_k_r, ev_k_l, ev_k_J, ev_k_n, ev_kr_1, ev_kr_0, ev_isK_y, ev_aG_y, ev_aS_y, ev_aN_y, ev_inA_0, ev_isA_0, ev_ft_I, ev_ft_0, ev_ft_1, ev_ft_o, ev_ft_a, ev_nb_0, ev_nb_1, and_true, true_and, if_true, if_false, not_true_eq_false, not_false_eq_true, nI_1, ev_fG_0, ev_fG_1, ev_fG_2, ev_fG_3, ev_fG_4, ev_fG_5, ev_fG_6, ev_fG_7, ev_fG_8, ev_fS_0, ev_fS_1, ev_fS_2, ev_fS_3, ev_fS_4, ev_fS_5, ev_fS_6, ev_fS_7, ev_fS_8, ev_isO_0, ev_isO_1, ev_isO_2, ev_isO_3, ev_isO_4, ev_isO_5, ev_isO_6, ev_isO_7, ev_isO_8, ev_z0, ev_z1, ev_z2, eq_self, ev_ofN, show ¬ (1 : Int32) = 0 from by decide, show ¬ (2 : Int32) = 0 from by decide, show ¬ (2 : Int32) = 1 from by decide, show ¬ (0 : Int32) = 1 from by decide, show ¬ (0 : Int32) = 2 from by decide, show ¬ (1 : Int32) = 2 from by decide, show ¬ (0 : Int32) = -1 from by decide, show (0 : Int32) ≤ 1 from by decide, show (1 : Int32).toNatClampNeg = 1 from rfl, show (0 : Nat) < 2 from by omega, show (1 : Nat) < 2 from by omega, not_true_eq_false, ne_eq, not_false_eq_true, hs.1.1, hs.1.2, hs.2.1.1, hs.2.1.2, hs.2.2.1.1, hs.2.2.1.2, hs.2.2.2.1, hs.2.2.2.2]
  refine LW_pairAt hc hJ.1 (by omega) (by omega) ho (jM_z h) fun H1 n1 q1 hp => ?_
  have hj := JK_pairAt (G := G) hJ (t := v1) (p := v2)
  have hM1 := jM_class h hp.1 hj.1 hp.2.1 (by obtain ⟨l, s, h1, -⟩ := hp.2.2.1; exact ⟨l, s, h1⟩) hp.2.2.2.1 hp.2.2.2.2.1
  have hs1 := hS H1 (jM_low hM1)
  have h1 := hM1
  obtain ⟨hc1, hJ1, -, ⟨r1, ow1, hr1, hm1⟩, hx1, -, -, -, -⟩ := h1
  have hk13 := m_k13 hm1
  simp (disch := omega) only [t_L_law_808, t_L_law_809, t_L_law_810, t_L_law_812, t_L_law_813, t_L_law_814, t_L_law_815, t_L_law_816, t_L_law_818, t_L_law_819, t_L_law_820, t_L_law_821, t_L_law_822, t_L_law_825, t_L_law_827, t_L_law_828, t_L_law_829, t_L_law_831, t_L_law_832, t_L_law_833, t_L_law_834, t_L_law_835, t_L_law_837, t_L_law_838, t_L_law_839, t_L_law_840, t_L_law_843, t_L_law_845, ↓reduceIte, ev_k_i, ev_k_r, ev_k_l, ev_k_J, ev_k_n, ev_kr_1, ev_kr_0, ev_isK_y, ev_aG_y, ev_aS_y, ev_aN_y, ev_inA_0, ev_isA_0, ev_ft_I, ev_ft_0, ev_ft_1, ev_ft_o, ev_ft_a, ev_nb_0, ev_nb_1, and_true, true_and, if_true, if_false, not_true_eq_false, not_false_eq_true, nI_1, ev_fG_0, ev_fG_1, ev_fG_2, ev_fG_3, ev_fG_4, ev_fG_5, ev_fG_6, ev_fG_7, ev_fG_8, ev_fS_0, ev_fS_1, ev_fS_2, ev_fS_3, ev_fS_4, ev_fS_5, ev_fS_6, ev_fS_7, ev_fS_8, ev_isO_0, ev_isO_1, ev_isO_2, ev_isO_3, ev_isO_4, ev_isO_5, ev_isO_6, ev_isO_7, ev_isO_8, ev_z0, ev_z1, ev_z2, eq_self, ev_ofN, show ¬ (1 : Int32) = 0 from by decide, show ¬ (2 : Int32) = 0 from by decide, show ¬ (2 : Int32) = 1 from by decide, show ¬ (0 : Int32) = 1 from by decide, show ¬ (0 : Int32) = 2 from by decide, show ¬ (1 : Int32) = 2 from by decide, show ¬ (0 : Int32) = -1 from by decide, show (0 : Int32) ≤ 1 from by decide, show (1 : Int32).toNatClampNeg = 1 from rfl, show (0 : Nat) < 2 from by omega, show (1 : Nat) < 2 from by omega, not_true_eq_false, ne_eq, not_false_eq_true, hs1.1.1, hs1.1.2, hs1.2.1.1, hs1.2.1.2, hs1.2.2.1.1, hs1.2.2.1.2, hs1.2.2.2.1, hs1.2.2.2.2, hk13]
  refine MK_pairAt hm1 hx1 hJ.1 hr1 fun H2 n2 q2 hq => ?_
  simp (disch := omega) only [t_L_law_808, t_L_law_809, t_L_law_810, t_L_law_812, t_L_law_813, t_L_law_814, t_L_law_815, t_L_law_816, t_L_law_818, t_L_law_819, t_L_law_820, t_L_law_821, t_L_law_822, t_L_law_825, t_L_law_827, t_L_law_828, t_L_law_829, t_L_law_831, t_L_law_832, t_L_law_833, t_L_law_834, t_L_law_835, t_L_law_837, t_L_law_838, t_L_law_839, t_L_law_840, t_L_law_843, t_L_law_845, ↓reduceIte, ev_k_i, ev_k_r, ev_k_l, ev_k_J, ev_k_n, ev_kr_1, ev_kr_0, ev_isK_y, ev_aG_y, ev_aS_y, ev_aN_y, ev_inA_0, ev_isA_0, ev_ft_I, ev_ft_0, ev_ft_1, ev_ft_o, ev_ft_a, ev_nb_0, ev_nb_1, and_true, true_and, if_true, if_false, not_true_eq_false, not_false_eq_true, nI_1, ev_fG_0, ev_fG_1, ev_fG_2, ev_fG_3, ev_fG_4, ev_fG_5, ev_fG_6, ev_fG_7, ev_fG_8, ev_fS_0, ev_fS_1, ev_fS_2, ev_fS_3, ev_fS_4, ev_fS_5, ev_fS_6, ev_fS_7, ev_fS_8, ev_isO_0, ev_isO_1, ev_isO_2, ev_isO_3, ev_isO_4, ev_isO_5, ev_isO_6, ev_isO_7, ev_isO_8, ev_z0, ev_z1, ev_z2, eq_self, ev_ofN, show ¬ (1 : Int32) = 0 from by decide, show ¬ (2 : Int32) = 0 from by decide, show ¬ (2 : Int32) = 1 from by decide, show ¬ (0 : Int32) = 1 from by decide, show ¬ (0 : Int32) = 2 from by decide, show ¬ (1 : Int32) = 2 from by decide, show ¬ (0 : Int32) = -1 from by decide, show (0 : Int32) ≤ 1 from by decide, show (1 : Int32).toNatClampNeg = 1 from rfl, show (0 : Nat) < 2 from by omega, show (1 : Nat) < 2 from by omega, not_true_eq_false, ne_eq, not_false_eq_true, hs1.1.1, hs1.1.2, hs1.2.1.1, hs1.2.1.2, hs1.2.2.1.1, hs1.2.2.1.2, hs1.2.2.2.1, hs1.2.2.2.2, hk13]
  have b1 := hp.2.2.2.2
  have b2 := hq.2.2.2
  exact c _ _ H2 n2 q2 _ _ (jM_ref hM1 hq rfl hA (jR_same hl hj.2.1 hj.2.2.1 hj.2.2.2.1)) (by omega) (by omega) (by omega) (by omega)
theorem LP_eldest (hS : jS X S i v0 v1 v2 v3) (h : jM X zf x G G As H n) {a5 a6 : Value} (c : jC X zf x S i n q P) : ev_ok (ev_TT X) 309 888 [.ref S, .ref x, .ref (x + 57), .ref (x + 68), .int (nI i), a5, a6] [] H n q P := by
  have hn := jM_n h
  have hs := hS H (jM_low h)
  have h0 := h
  obtain ⟨hc, hJ, -, ⟨r, ow, hr, hm⟩, hx, hA, hl, ho, hxs⟩ := h0
  simp (disch := omega) only [t_L_law_888, t_L_law_889, t_L_law_890, t_L_law_892, t_L_law_893, t_L_law_894, t_L_law_895, t_L_law_896, t_L_law_899, t_L_law_901, t_L_law_902, t_L_law_903, t_L_law_905, t_L_law_906, t_L_law_907, t_L_law_908, t_L_law_911, t_L_law_913, ↓reduceIte, ev_k_i, ev_k_r, ev_k_l, ev_k_J, ev_k_n, ev_kr_1, ev_kr_0, ev_isK_y, ev_aG_y, ev_aS_y, ev_aN_y, ev_inA_0, ev_isA_0, ev_ft_I, ev_ft_0, ev_ft_1, ev_ft_o, ev_ft_a, ev_nb_0, ev_nb_1, and_true, true_and, if_true, if_false, not_true_eq_false, not_false_eq_true, nI_1, ev_fG_0, ev_fG_1, ev_fG_2, ev_fG_3, ev_fG_4, ev_fG_5, ev_fG_6, ev_fG_7, ev_fG_8, ev_fS_0, ev_fS_1, ev_fS_2, ev_fS_3, ev_fS_4, ev_fS_5, ev_fS_6, ev_fS_7, ev_fS_8, ev_isO_0, ev_isO_1, ev_isO_2, ev_isO_3, ev_isO_4, ev_isO_5, ev_isO_6, ev_isO_7, ev_isO_8, ev_z0, ev_z1, ev_z2, eq_self, ev_ofN, show ¬ (1 : Int32) = 0 from by decide, show ¬ (2 : Int32) = 0 from by decide, show ¬ (2 : Int32) = 1 from by decide, show ¬ (0 : Int32) = 1 from by decide, show ¬ (0 : Int32) = 2 from by decide, show ¬ (1 : Int32) = 2 from by decide, show ¬ (0 : Int32) = -1 from by decide, show (0 : Int32) ≤ 1 from by decide, show (1 : Int32).toNatClampNeg = 1 from rfl, show (0 : Nat) < 2 from by omega, show (1 : Nat) < 2 from by omega, not_true_eq_false, ne_eq, not_false_eq_true, hs.1.1, hs.1.2, hs.2.1.1, hs.2.1.2, hs.2.2.1.1, hs.2.2.1.2, hs.2.2.2.1, hs.2.2.2.2]
  refine LW_eldest hc hJ.1 (by omega) (by omega) ho (jM_z h) fun H1 n1 q1 hp => ?_
  have hj := JK_eldest (G := G) hJ (t := v1)
  have hM1 := jM_class h hp.1 hj.1 hp.2.1 (by obtain ⟨l, s, h1, -⟩ := hp.2.2.1; exact ⟨l, s, h1⟩) hp.2.2.2.1 hp.2.2.2.2.1
  have hs1 := hS H1 (jM_low hM1)
  have h1 := hM1
  obtain ⟨hc1, hJ1, -, ⟨r1, ow1, hr1, hm1⟩, hx1, -, -, -, -⟩ := h1
  have hk13 := m_k13 hm1
  simp (disch := omega) only [t_L_law_888, t_L_law_889, t_L_law_890, t_L_law_892, t_L_law_893, t_L_law_894, t_L_law_895, t_L_law_896, t_L_law_899, t_L_law_901, t_L_law_902, t_L_law_903, t_L_law_905, t_L_law_906, t_L_law_907, t_L_law_908, t_L_law_911, t_L_law_913, ↓reduceIte, ev_k_i, ev_k_r, ev_k_l, ev_k_J, ev_k_n, ev_kr_1, ev_kr_0, ev_isK_y, ev_aG_y, ev_aS_y, ev_aN_y, ev_inA_0, ev_isA_0, ev_ft_I, ev_ft_0, ev_ft_1, ev_ft_o, ev_ft_a, ev_nb_0, ev_nb_1, and_true, true_and, if_true, if_false, not_true_eq_false, not_false_eq_true, nI_1, ev_fG_0, ev_fG_1, ev_fG_2, ev_fG_3, ev_fG_4, ev_fG_5, ev_fG_6, ev_fG_7, ev_fG_8, ev_fS_0, ev_fS_1, ev_fS_2, ev_fS_3, ev_fS_4, ev_fS_5, ev_fS_6, ev_fS_7, ev_fS_8, ev_isO_0, ev_isO_1, ev_isO_2, ev_isO_3, ev_isO_4, ev_isO_5, ev_isO_6, ev_isO_7, ev_isO_8, ev_z0, ev_z1, ev_z2, eq_self, ev_ofN, show ¬ (1 : Int32) = 0 from by decide, show ¬ (2 : Int32) = 0 from by decide, show ¬ (2 : Int32) = 1 from by decide, show ¬ (0 : Int32) = 1 from by decide, show ¬ (0 : Int32) = 2 from by decide, show ¬ (1 : Int32) = 2 from by decide, show ¬ (0 : Int32) = -1 from by decide, show (0 : Int32) ≤ 1 from by decide, show (1 : Int32).toNatClampNeg = 1 from rfl, show (0 : Nat) < 2 from by omega, show (1 : Nat) < 2 from by omega, not_true_eq_false, ne_eq, not_false_eq_true, hs1.1.1, hs1.1.2, hs1.2.1.1, hs1.2.1.2, hs1.2.2.1.1, hs1.2.2.1.2, hs1.2.2.2.1, hs1.2.2.2.2, hk13]
  refine MK_eldest hm1 hx1 hJ.1 hr1 fun H2 n2 q2 hq => ?_
  simp (disch := omega) only [t_L_law_888, t_L_law_889, t_L_law_890, t_L_law_892, t_L_law_893, t_L_law_894, t_L_law_895, t_L_law_896, t_L_law_899, t_L_law_901, t_L_law_902, t_L_law_903, t_L_law_905, t_L_law_906, t_L_law_907, t_L_law_908, t_L_law_911, t_L_law_913, ↓reduceIte, ev_k_i, ev_k_r, ev_k_l, ev_k_J, ev_k_n, ev_kr_1, ev_kr_0, ev_isK_y, ev_aG_y, ev_aS_y, ev_aN_y, ev_inA_0, ev_isA_0, ev_ft_I, ev_ft_0, ev_ft_1, ev_ft_o, ev_ft_a, ev_nb_0, ev_nb_1, and_true, true_and, if_true, if_false, not_true_eq_false, not_false_eq_true, nI_1, ev_fG_0, ev_fG_1, ev_fG_2, ev_fG_3, ev_fG_4, ev_fG_5, ev_fG_6, ev_fG_7, ev_fG_8, ev_fS_0, ev_fS_1, ev_fS_2, ev_fS_3, ev_fS_4, ev_fS_5, ev_fS_6, ev_fS_7, ev_fS_8, ev_isO_0, ev_isO_1, ev_isO_2, ev_isO_3, ev_isO_4, ev_isO_5, ev_isO_6, ev_isO_7, ev_isO_8, ev_z0, ev_z1, ev_z2, eq_self, ev_ofN, show ¬ (1 : Int32) = 0 from by decide, show ¬ (2 : Int32) = 0 from by decide, show ¬ (2 : Int32) = 1 from by decide, show ¬ (0 : Int32) = 1 from by decide, show ¬ (0 : Int32) = 2 from by decide, show ¬ (1 : Int32) = 2 from by decide, show ¬ (0 : Int32) = -1 from by decide, show (0 : Int32) ≤ 1 from by decide, show (1 : Int32).toNatClampNeg = 1 from rfl, show (0 : Nat) < 2 from by omega, show (1 : Nat) < 2 from by omega, not_true_eq_false, ne_eq, not_false_eq_true, hs1.1.1, hs1.1.2, hs1.2.1.1, hs1.2.1.2, hs1.2.2.1.1, hs1.2.2.1.2, hs1.2.2.2.1, hs1.2.2.2.2, hk13]
  have b1 := hp.2.2.2.2
  have b2 := hq.2.2.2
  exact c _ _ H2 n2 q2 _ _ (jM_ref hM1 hq rfl hA (jR_same hl hj.2.1 hj.2.2.1 hj.2.2.2.1)) (by omega) (by omega) (by omega) (by omega)
theorem LP_latest (hS : jS X S i v0 v1 v2 v3) (h : jM X zf x G G As H n) {a5 a6 : Value} (c : jC X zf x S i n q P) : ev_ok (ev_TT X) 309 916 [.ref S, .ref x, .ref (x + 57), .ref (x + 68), .int (nI i), a5, a6] [] H n q P := by
  have hn := jM_n h
  have hs := hS H (jM_low h)
  have h0 := h
  obtain ⟨hc, hJ, -, ⟨r, ow, hr, hm⟩, hx, hA, hl, ho, hxs⟩ := h0
  simp (disch := omega) only [t_L_law_916, t_L_law_917, t_L_law_918, t_L_law_920, t_L_law_921, t_L_law_922, t_L_law_923, t_L_law_924, t_L_law_927, t_L_law_929, t_L_law_930, t_L_law_931, t_L_law_933, t_L_law_934, t_L_law_935, t_L_law_936, t_L_law_939, t_L_law_941, ↓reduceIte, ev_k_i, ev_k_r, ev_k_l, ev_k_J, ev_k_n, ev_kr_1, ev_kr_0, ev_isK_y, ev_aG_y, ev_aS_y, ev_aN_y, ev_inA_0, ev_isA_0, ev_ft_I, ev_ft_0, ev_ft_1, ev_ft_o, ev_ft_a, ev_nb_0, ev_nb_1, and_true, true_and, if_true, if_false, not_true_eq_false, not_false_eq_true, nI_1, ev_fG_0, ev_fG_1, ev_fG_2, ev_fG_3, ev_fG_4, ev_fG_5, ev_fG_6, ev_fG_7, ev_fG_8, ev_fS_0, ev_fS_1, ev_fS_2, ev_fS_3, ev_fS_4, ev_fS_5, ev_fS_6, ev_fS_7, ev_fS_8, ev_isO_0, ev_isO_1, ev_isO_2, ev_isO_3, ev_isO_4, ev_isO_5, ev_isO_6, ev_isO_7, ev_isO_8, ev_z0, ev_z1, ev_z2, eq_self, ev_ofN, show ¬ (1 : Int32) = 0 from by decide, show ¬ (2 : Int32) = 0 from by decide, show ¬ (2 : Int32) = 1 from by decide, show ¬ (0 : Int32) = 1 from by decide, show ¬ (0 : Int32) = 2 from by decide, show ¬ (1 : Int32) = 2 from by decide, show ¬ (0 : Int32) = -1 from by decide, show (0 : Int32) ≤ 1 from by decide, show (1 : Int32).toNatClampNeg = 1 from rfl, show (0 : Nat) < 2 from by omega, show (1 : Nat) < 2 from by omega, not_true_eq_false, ne_eq, not_false_eq_true, hs.1.1, hs.1.2, hs.2.1.1, hs.2.1.2, hs.2.2.1.1, hs.2.2.1.2, hs.2.2.2.1, hs.2.2.2.2]
  refine LW_latest hc hJ.1 (by omega) (by omega) ho (jM_z h) fun H1 n1 q1 hp => ?_
  have hj := JK_latest (G := G) hJ (t := v1)
  have hM1 := jM_class h hp.1 hj.1 hp.2.1 (by obtain ⟨l, s, h1, -⟩ := hp.2.2.1; exact ⟨l, s, h1⟩) hp.2.2.2.1 hp.2.2.2.2.1
  have hs1 := hS H1 (jM_low hM1)
  have h1 := hM1
  obtain ⟨hc1, hJ1, -, ⟨r1, ow1, hr1, hm1⟩, hx1, -, -, -, -⟩ := h1
  have hk13 := m_k13 hm1
  simp (disch := omega) only [t_L_law_916, t_L_law_917, t_L_law_918, t_L_law_920, t_L_law_921, t_L_law_922, t_L_law_923, t_L_law_924, t_L_law_927, t_L_law_929, t_L_law_930, t_L_law_931, t_L_law_933, t_L_law_934, t_L_law_935, t_L_law_936, t_L_law_939, t_L_law_941, ↓reduceIte, ev_k_i, ev_k_r, ev_k_l, ev_k_J, ev_k_n, ev_kr_1, ev_kr_0, ev_isK_y, ev_aG_y, ev_aS_y, ev_aN_y, ev_inA_0, ev_isA_0, ev_ft_I, ev_ft_0, ev_ft_1, ev_ft_o, ev_ft_a, ev_nb_0, ev_nb_1, and_true, true_and, if_true, if_false, not_true_eq_false, not_false_eq_true, nI_1, ev_fG_0, ev_fG_1, ev_fG_2, ev_fG_3, ev_fG_4, ev_fG_5, ev_fG_6, ev_fG_7, ev_fG_8, ev_fS_0, ev_fS_1, ev_fS_2, ev_fS_3, ev_fS_4, ev_fS_5, ev_fS_6, ev_fS_7, ev_fS_8, ev_isO_0, ev_isO_1, ev_isO_2, ev_isO_3, ev_isO_4, ev_isO_5, ev_isO_6, ev_isO_7, ev_isO_8, ev_z0, ev_z1, ev_z2, eq_self, ev_ofN, show ¬ (1 : Int32) = 0 from by decide, show ¬ (2 : Int32) = 0 from by decide, show ¬ (2 : Int32) = 1 from by decide, show ¬ (0 : Int32) = 1 from by decide, show ¬ (0 : Int32) = 2 from by decide, show ¬ (1 : Int32) = 2 from by decide, show ¬ (0 : Int32) = -1 from by decide, show (0 : Int32) ≤ 1 from by decide, show (1 : Int32).toNatClampNeg = 1 from rfl, show (0 : Nat) < 2 from by omega, show (1 : Nat) < 2 from by omega, not_true_eq_false, ne_eq, not_false_eq_true, hs1.1.1, hs1.1.2, hs1.2.1.1, hs1.2.1.2, hs1.2.2.1.1, hs1.2.2.1.2, hs1.2.2.2.1, hs1.2.2.2.2, hk13]
  refine MK_latest hm1 hx1 hJ.1 hr1 fun H2 n2 q2 hq => ?_
  simp (disch := omega) only [t_L_law_916, t_L_law_917, t_L_law_918, t_L_law_920, t_L_law_921, t_L_law_922, t_L_law_923, t_L_law_924, t_L_law_927, t_L_law_929, t_L_law_930, t_L_law_931, t_L_law_933, t_L_law_934, t_L_law_935, t_L_law_936, t_L_law_939, t_L_law_941, ↓reduceIte, ev_k_i, ev_k_r, ev_k_l, ev_k_J, ev_k_n, ev_kr_1, ev_kr_0, ev_isK_y, ev_aG_y, ev_aS_y, ev_aN_y, ev_inA_0, ev_isA_0, ev_ft_I, ev_ft_0, ev_ft_1, ev_ft_o, ev_ft_a, ev_nb_0, ev_nb_1, and_true, true_and, if_true, if_false, not_true_eq_false, not_false_eq_true, nI_1, ev_fG_0, ev_fG_1, ev_fG_2, ev_fG_3, ev_fG_4, ev_fG_5, ev_fG_6, ev_fG_7, ev_fG_8, ev_fS_0, ev_fS_1, ev_fS_2, ev_fS_3, ev_fS_4, ev_fS_5, ev_fS_6, ev_fS_7, ev_fS_8, ev_isO_0, ev_isO_1, ev_isO_2, ev_isO_3, ev_isO_4, ev_isO_5, ev_isO_6, ev_isO_7, ev_isO_8, ev_z0, ev_z1, ev_z2, eq_self, ev_ofN, show ¬ (1 : Int32) = 0 from by decide, show ¬ (2 : Int32) = 0 from by decide, show ¬ (2 : Int32) = 1 from by decide, show ¬ (0 : Int32) = 1 from by decide, show ¬ (0 : Int32) = 2 from by decide, show ¬ (1 : Int32) = 2 from by decide, show ¬ (0 : Int32) = -1 from by decide, show (0 : Int32) ≤ 1 from by decide, show (1 : Int32).toNatClampNeg = 1 from rfl, show (0 : Nat) < 2 from by omega, show (1 : Nat) < 2 from by omega, not_true_eq_false, ne_eq, not_false_eq_true, hs1.1.1, hs1.1.2, hs1.2.1.1, hs1.2.1.2, hs1.2.2.1.1, hs1.2.2.1.2, hs1.2.2.2.1, hs1.2.2.2.2, hk13]
  have b1 := hp.2.2.2.2
  have b2 := hq.2.2.2
  exact c _ _ H2 n2 q2 _ _ (jM_ref hM1 hq rfl hA (jR_same hl hj.2.1 hj.2.2.1 hj.2.2.2.1)) (by omega) (by omega) (by omega) (by omega)
theorem LP_hasMore (hS : jS X S i v0 v1 v2 v3) (h : jM X zf x G G As H n) {a5 a6 : Value} (c : jC X zf x S i n q P) : ev_ok (ev_TT X) 309 1120 [.ref S, .ref x, .ref (x + 57), .ref (x + 68), .int (nI i), a5, a6] [] H n q P := by
  have hn := jM_n h
  have hs := hS H (jM_low h)
  have h0 := h
  obtain ⟨hc, hJ, -, ⟨r, ow, hr, hm⟩, hx, hA, hl, ho, hxs⟩ := h0
  simp (disch := omega) only [t_L_law_1120, t_L_law_1121, t_L_law_1122, t_L_law_1124, t_L_law_1125, t_L_law_1126, t_L_law_1127, t_L_law_1128, t_L_law_1131, t_L_law_1133, t_L_law_1134, t_L_law_1135, t_L_law_1137, t_L_law_1138, t_L_law_1139, t_L_law_1140, t_L_law_1143, t_L_law_1145, ↓reduceIte, ev_k_i, ev_k_r, ev_k_l, ev_k_J, ev_k_n, ev_kr_1, ev_kr_0, ev_isK_y, ev_aG_y, ev_aS_y, ev_aN_y, ev_inA_0, ev_isA_0, ev_ft_I, ev_ft_0, ev_ft_1, ev_ft_o, ev_ft_a, ev_nb_0, ev_nb_1, and_true, true_and, if_true, if_false, not_true_eq_false, not_false_eq_true, nI_1, ev_fG_0, ev_fG_1, ev_fG_2, ev_fG_3, ev_fG_4, ev_fG_5, ev_fG_6, ev_fG_7, ev_fG_8, ev_fS_0, ev_fS_1, ev_fS_2, ev_fS_3, ev_fS_4, ev_fS_5, ev_fS_6, ev_fS_7, ev_fS_8, ev_isO_0, ev_isO_1, ev_isO_2, ev_isO_3, ev_isO_4, ev_isO_5, ev_isO_6, ev_isO_7, ev_isO_8, ev_z0, ev_z1, ev_z2, eq_self, ev_ofN, show ¬ (1 : Int32) = 0 from by decide, show ¬ (2 : Int32) = 0 from by decide, show ¬ (2 : Int32) = 1 from by decide, show ¬ (0 : Int32) = 1 from by decide, show ¬ (0 : Int32) = 2 from by decide, show ¬ (1 : Int32) = 2 from by decide, show ¬ (0 : Int32) = -1 from by decide, show (0 : Int32) ≤ 1 from by decide, show (1 : Int32).toNatClampNeg = 1 from rfl, show (0 : Nat) < 2 from by omega, show (1 : Nat) < 2 from by omega, not_true_eq_false, ne_eq, not_false_eq_true, hs.1.1, hs.1.2, hs.2.1.1, hs.2.1.2, hs.2.2.1.1, hs.2.2.1.2, hs.2.2.2.1, hs.2.2.2.2]
  refine LW_hasMore hc hJ.1 (by omega) (by omega) ho (jM_z h) fun H1 n1 q1 hp => ?_
  have hj := JK_hasMore (G := G) hJ (t := v1)
  have hM1 := jM_class h hp.1 hj.1 hp.2.1 (by obtain ⟨l, s, h1, -⟩ := hp.2.2.1; exact ⟨l, s, h1⟩) hp.2.2.2.1 hp.2.2.2.2.1
  have hs1 := hS H1 (jM_low hM1)
  have h1 := hM1
  obtain ⟨hc1, hJ1, -, ⟨r1, ow1, hr1, hm1⟩, hx1, -, -, -, -⟩ := h1
  have hk13 := m_k13 hm1
  simp (disch := omega) only [t_L_law_1120, t_L_law_1121, t_L_law_1122, t_L_law_1124, t_L_law_1125, t_L_law_1126, t_L_law_1127, t_L_law_1128, t_L_law_1131, t_L_law_1133, t_L_law_1134, t_L_law_1135, t_L_law_1137, t_L_law_1138, t_L_law_1139, t_L_law_1140, t_L_law_1143, t_L_law_1145, ↓reduceIte, ev_k_i, ev_k_r, ev_k_l, ev_k_J, ev_k_n, ev_kr_1, ev_kr_0, ev_isK_y, ev_aG_y, ev_aS_y, ev_aN_y, ev_inA_0, ev_isA_0, ev_ft_I, ev_ft_0, ev_ft_1, ev_ft_o, ev_ft_a, ev_nb_0, ev_nb_1, and_true, true_and, if_true, if_false, not_true_eq_false, not_false_eq_true, nI_1, ev_fG_0, ev_fG_1, ev_fG_2, ev_fG_3, ev_fG_4, ev_fG_5, ev_fG_6, ev_fG_7, ev_fG_8, ev_fS_0, ev_fS_1, ev_fS_2, ev_fS_3, ev_fS_4, ev_fS_5, ev_fS_6, ev_fS_7, ev_fS_8, ev_isO_0, ev_isO_1, ev_isO_2, ev_isO_3, ev_isO_4, ev_isO_5, ev_isO_6, ev_isO_7, ev_isO_8, ev_z0, ev_z1, ev_z2, eq_self, ev_ofN, show ¬ (1 : Int32) = 0 from by decide, show ¬ (2 : Int32) = 0 from by decide, show ¬ (2 : Int32) = 1 from by decide, show ¬ (0 : Int32) = 1 from by decide, show ¬ (0 : Int32) = 2 from by decide, show ¬ (1 : Int32) = 2 from by decide, show ¬ (0 : Int32) = -1 from by decide, show (0 : Int32) ≤ 1 from by decide, show (1 : Int32).toNatClampNeg = 1 from rfl, show (0 : Nat) < 2 from by omega, show (1 : Nat) < 2 from by omega, not_true_eq_false, ne_eq, not_false_eq_true, hs1.1.1, hs1.1.2, hs1.2.1.1, hs1.2.1.2, hs1.2.2.1.1, hs1.2.2.1.2, hs1.2.2.2.1, hs1.2.2.2.2, hk13]
  refine MK_hasMore hm1 hx1 hJ.1 hr1 fun H2 n2 q2 hq => ?_
  simp (disch := omega) only [t_L_law_1120, t_L_law_1121, t_L_law_1122, t_L_law_1124, t_L_law_1125, t_L_law_1126, t_L_law_1127, t_L_law_1128, t_L_law_1131, t_L_law_1133, t_L_law_1134, t_L_law_1135, t_L_law_1137, t_L_law_1138, t_L_law_1139, t_L_law_1140, t_L_law_1143, t_L_law_1145, ↓reduceIte, ev_k_i, ev_k_r, ev_k_l, ev_k_J, ev_k_n, ev_kr_1, ev_kr_0, ev_isK_y, ev_aG_y, ev_aS_y, ev_aN_y, ev_inA_0, ev_isA_0, ev_ft_I, ev_ft_0, ev_ft_1, ev_ft_o, ev_ft_a, ev_nb_0, ev_nb_1, and_true, true_and, if_true, if_false, not_true_eq_false, not_false_eq_true, nI_1, ev_fG_0, ev_fG_1, ev_fG_2, ev_fG_3, ev_fG_4, ev_fG_5, ev_fG_6, ev_fG_7, ev_fG_8, ev_fS_0, ev_fS_1, ev_fS_2, ev_fS_3, ev_fS_4, ev_fS_5, ev_fS_6, ev_fS_7, ev_fS_8, ev_isO_0, ev_isO_1, ev_isO_2, ev_isO_3, ev_isO_4, ev_isO_5, ev_isO_6, ev_isO_7, ev_isO_8, ev_z0, ev_z1, ev_z2, eq_self, ev_ofN, show ¬ (1 : Int32) = 0 from by decide, show ¬ (2 : Int32) = 0 from by decide, show ¬ (2 : Int32) = 1 from by decide, show ¬ (0 : Int32) = 1 from by decide, show ¬ (0 : Int32) = 2 from by decide, show ¬ (1 : Int32) = 2 from by decide, show ¬ (0 : Int32) = -1 from by decide, show (0 : Int32) ≤ 1 from by decide, show (1 : Int32).toNatClampNeg = 1 from rfl, show (0 : Nat) < 2 from by omega, show (1 : Nat) < 2 from by omega, not_true_eq_false, ne_eq, not_false_eq_true, hs1.1.1, hs1.1.2, hs1.2.1.1, hs1.2.1.2, hs1.2.2.1.1, hs1.2.2.1.2, hs1.2.2.2.1, hs1.2.2.2.2, hk13]
  have b1 := hp.2.2.2.2
  have b2 := hq.2.2.2
  exact c _ _ H2 n2 q2 _ _ (jM_ref hM1 hq rfl hA (jR_same hl hj.2.1 hj.2.2.1 hj.2.2.2.1)) (by omega) (by omega) (by omega) (by omega)
theorem LP_isStale (hS : jS X S i v0 v1 v2 v3) (h : jM X zf x G G As H n) {a5 a6 : Value} (c : jC X zf x S i n q P) : ev_ok (ev_TT X) 309 1148 [.ref S, .ref x, .ref (x + 57), .ref (x + 68), .int (nI i), a5, a6] [] H n q P := by
  have hn := jM_n h
  have hs := hS H (jM_low h)
  have h0 := h
  obtain ⟨hc, hJ, -, ⟨r, ow, hr, hm⟩, hx, hA, hl, ho, hxs⟩ := h0
  simp (disch := omega) only [t_L_law_1148, t_L_law_1149, t_L_law_1150, t_L_law_1152, t_L_law_1153, t_L_law_1154, t_L_law_1155, t_L_law_1156, t_L_law_1159, t_L_law_1161, t_L_law_1162, t_L_law_1163, t_L_law_1165, t_L_law_1166, t_L_law_1167, t_L_law_1168, t_L_law_1171, t_L_law_1173, ↓reduceIte, ev_k_i, ev_k_r, ev_k_l, ev_k_J, ev_k_n, ev_kr_1, ev_kr_0, ev_isK_y, ev_aG_y, ev_aS_y, ev_aN_y, ev_inA_0, ev_isA_0, ev_ft_I, ev_ft_0, ev_ft_1, ev_ft_o, ev_ft_a, ev_nb_0, ev_nb_1, and_true, true_and, if_true, if_false, not_true_eq_false, not_false_eq_true, nI_1, ev_fG_0, ev_fG_1, ev_fG_2, ev_fG_3, ev_fG_4, ev_fG_5, ev_fG_6, ev_fG_7, ev_fG_8, ev_fS_0, ev_fS_1, ev_fS_2, ev_fS_3, ev_fS_4, ev_fS_5, ev_fS_6, ev_fS_7, ev_fS_8, ev_isO_0, ev_isO_1, ev_isO_2, ev_isO_3, ev_isO_4, ev_isO_5, ev_isO_6, ev_isO_7, ev_isO_8, ev_z0, ev_z1, ev_z2, eq_self, ev_ofN, show ¬ (1 : Int32) = 0 from by decide, show ¬ (2 : Int32) = 0 from by decide, show ¬ (2 : Int32) = 1 from by decide, show ¬ (0 : Int32) = 1 from by decide, show ¬ (0 : Int32) = 2 from by decide, show ¬ (1 : Int32) = 2 from by decide, show ¬ (0 : Int32) = -1 from by decide, show (0 : Int32) ≤ 1 from by decide, show (1 : Int32).toNatClampNeg = 1 from rfl, show (0 : Nat) < 2 from by omega, show (1 : Nat) < 2 from by omega, not_true_eq_false, ne_eq, not_false_eq_true, hs.1.1, hs.1.2, hs.2.1.1, hs.2.1.2, hs.2.2.1.1, hs.2.2.1.2, hs.2.2.2.1, hs.2.2.2.2]
  refine LW_isStale hc hJ.1 (by omega) (by omega) ho (jM_z h) fun H1 n1 q1 hp => ?_
  have hj := JK_isStale (G := G) hJ (t := v1)
  have hM1 := jM_class h hp.1 hj.1 hp.2.1 (by obtain ⟨l, s, h1, -⟩ := hp.2.2.1; exact ⟨l, s, h1⟩) hp.2.2.2.1 hp.2.2.2.2.1
  have hs1 := hS H1 (jM_low hM1)
  have h1 := hM1
  obtain ⟨hc1, hJ1, -, ⟨r1, ow1, hr1, hm1⟩, hx1, -, -, -, -⟩ := h1
  have hk13 := m_k13 hm1
  simp (disch := omega) only [t_L_law_1148, t_L_law_1149, t_L_law_1150, t_L_law_1152, t_L_law_1153, t_L_law_1154, t_L_law_1155, t_L_law_1156, t_L_law_1159, t_L_law_1161, t_L_law_1162, t_L_law_1163, t_L_law_1165, t_L_law_1166, t_L_law_1167, t_L_law_1168, t_L_law_1171, t_L_law_1173, ↓reduceIte, ev_k_i, ev_k_r, ev_k_l, ev_k_J, ev_k_n, ev_kr_1, ev_kr_0, ev_isK_y, ev_aG_y, ev_aS_y, ev_aN_y, ev_inA_0, ev_isA_0, ev_ft_I, ev_ft_0, ev_ft_1, ev_ft_o, ev_ft_a, ev_nb_0, ev_nb_1, and_true, true_and, if_true, if_false, not_true_eq_false, not_false_eq_true, nI_1, ev_fG_0, ev_fG_1, ev_fG_2, ev_fG_3, ev_fG_4, ev_fG_5, ev_fG_6, ev_fG_7, ev_fG_8, ev_fS_0, ev_fS_1, ev_fS_2, ev_fS_3, ev_fS_4, ev_fS_5, ev_fS_6, ev_fS_7, ev_fS_8, ev_isO_0, ev_isO_1, ev_isO_2, ev_isO_3, ev_isO_4, ev_isO_5, ev_isO_6, ev_isO_7, ev_isO_8, ev_z0, ev_z1, ev_z2, eq_self, ev_ofN, show ¬ (1 : Int32) = 0 from by decide, show ¬ (2 : Int32) = 0 from by decide, show ¬ (2 : Int32) = 1 from by decide, show ¬ (0 : Int32) = 1 from by decide, show ¬ (0 : Int32) = 2 from by decide, show ¬ (1 : Int32) = 2 from by decide, show ¬ (0 : Int32) = -1 from by decide, show (0 : Int32) ≤ 1 from by decide, show (1 : Int32).toNatClampNeg = 1 from rfl, show (0 : Nat) < 2 from by omega, show (1 : Nat) < 2 from by omega, not_true_eq_false, ne_eq, not_false_eq_true, hs1.1.1, hs1.1.2, hs1.2.1.1, hs1.2.1.2, hs1.2.2.1.1, hs1.2.2.1.2, hs1.2.2.2.1, hs1.2.2.2.2, hk13]
  refine MK_isStale hm1 hx1 hJ.1 hr1 fun H2 n2 q2 hq => ?_
  simp (disch := omega) only [t_L_law_1148, t_L_law_1149, t_L_law_1150, t_L_law_1152, t_L_law_1153, t_L_law_1154, t_L_law_1155, t_L_law_1156, t_L_law_1159, t_L_law_1161, t_L_law_1162, t_L_law_1163, t_L_law_1165, t_L_law_1166, t_L_law_1167, t_L_law_1168, t_L_law_1171, t_L_law_1173, ↓reduceIte, ev_k_i, ev_k_r, ev_k_l, ev_k_J, ev_k_n, ev_kr_1, ev_kr_0, ev_isK_y, ev_aG_y, ev_aS_y, ev_aN_y, ev_inA_0, ev_isA_0, ev_ft_I, ev_ft_0, ev_ft_1, ev_ft_o, ev_ft_a, ev_nb_0, ev_nb_1, and_true, true_and, if_true, if_false, not_true_eq_false, not_false_eq_true, nI_1, ev_fG_0, ev_fG_1, ev_fG_2, ev_fG_3, ev_fG_4, ev_fG_5, ev_fG_6, ev_fG_7, ev_fG_8, ev_fS_0, ev_fS_1, ev_fS_2, ev_fS_3, ev_fS_4, ev_fS_5, ev_fS_6, ev_fS_7, ev_fS_8, ev_isO_0, ev_isO_1, ev_isO_2, ev_isO_3, ev_isO_4, ev_isO_5, ev_isO_6, ev_isO_7, ev_isO_8, ev_z0, ev_z1, ev_z2, eq_self, ev_ofN, show ¬ (1 : Int32) = 0 from by decide, show ¬ (2 : Int32) = 0 from by decide, show ¬ (2 : Int32) = 1 from by decide, show ¬ (0 : Int32) = 1 from by decide, show ¬ (0 : Int32) = 2 from by decide, show ¬ (1 : Int32) = 2 from by decide, show ¬ (0 : Int32) = -1 from by decide, show (0 : Int32) ≤ 1 from by decide, show (1 : Int32).toNatClampNeg = 1 from rfl, show (0 : Nat) < 2 from by omega, show (1 : Nat) < 2 from by omega, not_true_eq_false, ne_eq, not_false_eq_true, hs1.1.1, hs1.1.2, hs1.2.1.1, hs1.2.1.2, hs1.2.2.1.1, hs1.2.2.1.2, hs1.2.2.2.1, hs1.2.2.2.2, hk13]
  have b1 := hp.2.2.2.2
  have b2 := hq.2.2.2
  exact c _ _ H2 n2 q2 _ _ (jM_ref hM1 hq rfl hA (jR_same hl hj.2.1 hj.2.2.1 hj.2.2.2.1)) (by omega) (by omega) (by omega) (by omega)
theorem LP_set (hS : jS X S i v0 v1 v2 v3) (h : jM X zf x G G As H n) {a5 a6 : Value} (c : jC X zf x S i n q P) : ev_ok (ev_TT X) 309 568 [.ref S, .ref x, .ref (x + 57), .ref (x + 68), .int (nI i), a5, a6] [] H n q P := by
  have hn := jM_n h
  have hs := hS H (jM_low h)
  have h0 := h
  obtain ⟨hc, hJ, -, ⟨r, ow, hr, hm⟩, hx, hA, hl, ho, hxs⟩ := h0
  simp (disch := omega) only [t_L_law_568, t_L_law_569, t_L_law_570, t_L_law_572, t_L_law_573, t_L_law_574, t_L_law_575, t_L_law_576, t_L_law_578, t_L_law_579, t_L_law_580, t_L_law_581, t_L_law_582, t_L_law_584, t_L_law_585, t_L_law_586, t_L_law_587, t_L_law_588, t_L_law_591, t_L_law_593, t_L_law_594, t_L_law_595, t_L_law_597, t_L_law_598, t_L_law_599, t_L_law_600, t_L_law_601, t_L_law_603, t_L_law_604, t_L_law_605, t_L_law_606, t_L_law_607, t_L_law_609, t_L_law_610, t_L_law_611, t_L_law_612, t_L_law_615, t_L_law_617, ↓reduceIte, ev_k_i, ev_k_r, ev_k_l, ev_k_J, ev_k_n, ev_kr_1, ev_kr_0, ev_isK_y, ev_aG_y, ev_aS_y, ev_aN_y, ev_inA_0, ev_isA_0, ev_ft_I, ev_ft_0, ev_ft_1, ev_ft_o, ev_ft_a, ev_nb_0, ev_nb_1, and_true, true_and, if_true, if_false, not_true_eq_false, not_false_eq_true, nI_1, ev_fG_0, ev_fG_1, ev_fG_2, ev_fG_3, ev_fG_4, ev_fG_5, ev_fG_6, ev_fG_7, ev_fG_8, ev_fS_0, ev_fS_1, ev_fS_2, ev_fS_3, ev_fS_4, ev_fS_5, ev_fS_6, ev_fS_7, ev_fS_8, ev_isO_0, ev_isO_1, ev_isO_2, ev_isO_3, ev_isO_4, ev_isO_5, ev_isO_6, ev_isO_7, ev_isO_8, ev_z0, ev_z1, ev_z2, eq_self, ev_ofN, show ¬ (1 : Int32) = 0 from by decide, show ¬ (2 : Int32) = 0 from by decide, show ¬ (2 : Int32) = 1 from by decide, show ¬ (0 : Int32) = 1 from by decide, show ¬ (0 : Int32) = 2 from by decide, show ¬ (1 : Int32) = 2 from by decide, show ¬ (0 : Int32) = -1 from by decide, show (0 : Int32) ≤ 1 from by decide, show (1 : Int32).toNatClampNeg = 1 from rfl, show (0 : Nat) < 2 from by omega, show (1 : Nat) < 2 from by omega, not_true_eq_false, ne_eq, not_false_eq_true, hs.1.1, hs.1.2, hs.2.1.1, hs.2.1.2, hs.2.2.1.1, hs.2.2.1.2, hs.2.2.2.1, hs.2.2.2.2]
  refine LW_set hc hJ.1 (by omega) (by omega) ho (jM_z h) fun H1 n1 q1 hp => ?_
  have hj := JK_set (G := G) hJ (t := v1) (p := v2) (v := v3)
  have hM1 := jM_class h hp.1 hj.1 hp.2.1 (by obtain ⟨l, s, h1, -⟩ := hp.2.2.1; exact ⟨l, s, h1⟩) hp.2.2.2.1 hp.2.2.2.2.1
  have hs1 := hS H1 (jM_low hM1)
  have h1 := hM1
  obtain ⟨hc1, hJ1, -, ⟨r1, ow1, hr1, hm1⟩, hx1, -, -, -, -⟩ := h1
  have hk13 := m_k13 hm1
  simp (disch := omega) only [t_L_law_568, t_L_law_569, t_L_law_570, t_L_law_572, t_L_law_573, t_L_law_574, t_L_law_575, t_L_law_576, t_L_law_578, t_L_law_579, t_L_law_580, t_L_law_581, t_L_law_582, t_L_law_584, t_L_law_585, t_L_law_586, t_L_law_587, t_L_law_588, t_L_law_591, t_L_law_593, t_L_law_594, t_L_law_595, t_L_law_597, t_L_law_598, t_L_law_599, t_L_law_600, t_L_law_601, t_L_law_603, t_L_law_604, t_L_law_605, t_L_law_606, t_L_law_607, t_L_law_609, t_L_law_610, t_L_law_611, t_L_law_612, t_L_law_615, t_L_law_617, ↓reduceIte, ev_k_i, ev_k_r, ev_k_l, ev_k_J, ev_k_n, ev_kr_1, ev_kr_0, ev_isK_y, ev_aG_y, ev_aS_y, ev_aN_y, ev_inA_0, ev_isA_0, ev_ft_I, ev_ft_0, ev_ft_1, ev_ft_o, ev_ft_a, ev_nb_0, ev_nb_1, and_true, true_and, if_true, if_false, not_true_eq_false, not_false_eq_true, nI_1, ev_fG_0, ev_fG_1, ev_fG_2, ev_fG_3, ev_fG_4, ev_fG_5, ev_fG_6, ev_fG_7, ev_fG_8, ev_fS_0, ev_fS_1, ev_fS_2, ev_fS_3, ev_fS_4, ev_fS_5, ev_fS_6, ev_fS_7, ev_fS_8, ev_isO_0, ev_isO_1, ev_isO_2, ev_isO_3, ev_isO_4, ev_isO_5, ev_isO_6, ev_isO_7, ev_isO_8, ev_z0, ev_z1, ev_z2, eq_self, ev_ofN, show ¬ (1 : Int32) = 0 from by decide, show ¬ (2 : Int32) = 0 from by decide, show ¬ (2 : Int32) = 1 from by decide, show ¬ (0 : Int32) = 1 from by decide, show ¬ (0 : Int32) = 2 from by decide, show ¬ (1 : Int32) = 2 from by decide, show ¬ (0 : Int32) = -1 from by decide, show (0 : Int32) ≤ 1 from by decide, show (1 : Int32).toNatClampNeg = 1 from rfl, show (0 : Nat) < 2 from by omega, show (1 : Nat) < 2 from by omega, not_true_eq_false, ne_eq, not_false_eq_true, hs1.1.1, hs1.1.2, hs1.2.1.1, hs1.2.1.2, hs1.2.2.1.1, hs1.2.2.1.2, hs1.2.2.2.1, hs1.2.2.2.2, hk13]
  refine MK_set hm1 hx1 hJ.1 hr1 fun H2 n2 q2 hq => ?_
  simp (disch := omega) only [t_L_law_568, t_L_law_569, t_L_law_570, t_L_law_572, t_L_law_573, t_L_law_574, t_L_law_575, t_L_law_576, t_L_law_578, t_L_law_579, t_L_law_580, t_L_law_581, t_L_law_582, t_L_law_584, t_L_law_585, t_L_law_586, t_L_law_587, t_L_law_588, t_L_law_591, t_L_law_593, t_L_law_594, t_L_law_595, t_L_law_597, t_L_law_598, t_L_law_599, t_L_law_600, t_L_law_601, t_L_law_603, t_L_law_604, t_L_law_605, t_L_law_606, t_L_law_607, t_L_law_609, t_L_law_610, t_L_law_611, t_L_law_612, t_L_law_615, t_L_law_617, ↓reduceIte, ev_k_i, ev_k_r, ev_k_l, ev_k_J, ev_k_n, ev_kr_1, ev_kr_0, ev_isK_y, ev_aG_y, ev_aS_y, ev_aN_y, ev_inA_0, ev_isA_0, ev_ft_I, ev_ft_0, ev_ft_1, ev_ft_o, ev_ft_a, ev_nb_0, ev_nb_1, and_true, true_and, if_true, if_false, not_true_eq_false, not_false_eq_true, nI_1, ev_fG_0, ev_fG_1, ev_fG_2, ev_fG_3, ev_fG_4, ev_fG_5, ev_fG_6, ev_fG_7, ev_fG_8, ev_fS_0, ev_fS_1, ev_fS_2, ev_fS_3, ev_fS_4, ev_fS_5, ev_fS_6, ev_fS_7, ev_fS_8, ev_isO_0, ev_isO_1, ev_isO_2, ev_isO_3, ev_isO_4, ev_isO_5, ev_isO_6, ev_isO_7, ev_isO_8, ev_z0, ev_z1, ev_z2, eq_self, ev_ofN, show ¬ (1 : Int32) = 0 from by decide, show ¬ (2 : Int32) = 0 from by decide, show ¬ (2 : Int32) = 1 from by decide, show ¬ (0 : Int32) = 1 from by decide, show ¬ (0 : Int32) = 2 from by decide, show ¬ (1 : Int32) = 2 from by decide, show ¬ (0 : Int32) = -1 from by decide, show (0 : Int32) ≤ 1 from by decide, show (1 : Int32).toNatClampNeg = 1 from rfl, show (0 : Nat) < 2 from by omega, show (1 : Nat) < 2 from by omega, not_true_eq_false, ne_eq, not_false_eq_true, hs1.1.1, hs1.1.2, hs1.2.1.1, hs1.2.1.2, hs1.2.2.1.1, hs1.2.2.1.2, hs1.2.2.2.1, hs1.2.2.2.2, hk13]
  have b1 := hp.2.2.2.2
  have b2 := hq.2.2.2
  exact c _ _ H2 n2 q2 _ _ (jM_ref hM1 hq rfl hA (jR_same hl hj.2.1 hj.2.2.1 hj.2.2.2.1)) (by omega) (by omega) (by omega) (by omega)
theorem LP_walk (hS : jS X S i v0 v1 v2 v3) (h : jM X zf x G G As H n) {a5 a6 : Value} (c : jC X zf x S i n q P) : ev_ok (ev_TT X) 309 1024 [.ref S, .ref x, .ref (x + 57), .ref (x + 68), .int (nI i), a5, a6] [] H n q P := by
  have hn := jM_n h
  have hs := hS H (jM_low h)
  have h0 := h
  obtain ⟨hc, hJ, -, ⟨r, ow, hr, hm⟩, hx, hA, hl, ho, hxs⟩ := h0
  simp (disch := omega) only [t_L_law_1024, t_L_law_1025, t_L_law_1026, t_L_law_1028, t_L_law_1029, t_L_law_1030, t_L_law_1031, t_L_law_1032, t_L_law_1034, t_L_law_1035, t_L_law_1036, t_L_law_1037, t_L_law_1038, t_L_law_1041, t_L_law_1043, t_L_law_1044, t_L_law_1045, t_L_law_1047, t_L_law_1048, t_L_law_1049, t_L_law_1050, t_L_law_1051, t_L_law_1053, t_L_law_1054, t_L_law_1055, t_L_law_1056, t_L_law_1059, t_L_law_1061, ↓reduceIte, ev_k_i, ev_k_r, ev_k_l, ev_k_J, ev_k_n, ev_kr_1, ev_kr_0, ev_isK_y, ev_aG_y, ev_aS_y, ev_aN_y, ev_inA_0, ev_isA_0, ev_ft_I, ev_ft_0, ev_ft_1, ev_ft_o, ev_ft_a, ev_nb_0, ev_nb_1, and_true, true_and, if_true, if_false, not_true_eq_false, not_false_eq_true, nI_1, ev_fG_0, ev_fG_1, ev_fG_2, ev_fG_3, ev_fG_4, ev_fG_5, ev_fG_6, ev_fG_7, ev_fG_8, ev_fS_0, ev_fS_1, ev_fS_2, ev_fS_3, ev_fS_4, ev_fS_5, ev_fS_6, ev_fS_7, ev_fS_8, ev_isO_0, ev_isO_1, ev_isO_2, ev_isO_3, ev_isO_4, ev_isO_5, ev_isO_6, ev_isO_7, ev_isO_8, ev_z0, ev_z1, ev_z2, eq_self, ev_ofN, show ¬ (1 : Int32) = 0 from by decide, show ¬ (2 : Int32) = 0 from by decide, show ¬ (2 : Int32) = 1 from by decide, show ¬ (0 : Int32) = 1 from by decide, show ¬ (0 : Int32) = 2 from by decide, show ¬ (1 : Int32) = 2 from by decide, show ¬ (0 : Int32) = -1 from by decide, show (0 : Int32) ≤ 1 from by decide, show (1 : Int32).toNatClampNeg = 1 from rfl, show (0 : Nat) < 2 from by omega, show (1 : Nat) < 2 from by omega, not_true_eq_false, ne_eq, not_false_eq_true, hs.1.1, hs.1.2, hs.2.1.1, hs.2.1.2, hs.2.2.1.1, hs.2.2.1.2, hs.2.2.2.1, hs.2.2.2.2]
  refine LW_walk hc hJ.1 (by omega) (by omega) ho (jM_z h) fun H1 n1 q1 hp => ?_
  have hj := JK_walk (G := G) hJ (t := v1) (w := v2)
  have hM1 := jM_class h hp.1 hj.1 hp.2.1 (by obtain ⟨l, s, h1, -⟩ := hp.2.2.1; exact ⟨l, s, h1⟩) hp.2.2.2.1 hp.2.2.2.2.1
  have hs1 := hS H1 (jM_low hM1)
  have h1 := hM1
  obtain ⟨hc1, hJ1, -, ⟨r1, ow1, hr1, hm1⟩, hx1, -, -, -, -⟩ := h1
  have hk13 := m_k13 hm1
  simp (disch := omega) only [t_L_law_1024, t_L_law_1025, t_L_law_1026, t_L_law_1028, t_L_law_1029, t_L_law_1030, t_L_law_1031, t_L_law_1032, t_L_law_1034, t_L_law_1035, t_L_law_1036, t_L_law_1037, t_L_law_1038, t_L_law_1041, t_L_law_1043, t_L_law_1044, t_L_law_1045, t_L_law_1047, t_L_law_1048, t_L_law_1049, t_L_law_1050, t_L_law_1051, t_L_law_1053, t_L_law_1054, t_L_law_1055, t_L_law_1056, t_L_law_1059, t_L_law_1061, ↓reduceIte, ev_k_i, ev_k_r, ev_k_l, ev_k_J, ev_k_n, ev_kr_1, ev_kr_0, ev_isK_y, ev_aG_y, ev_aS_y, ev_aN_y, ev_inA_0, ev_isA_0, ev_ft_I, ev_ft_0, ev_ft_1, ev_ft_o, ev_ft_a, ev_nb_0, ev_nb_1, and_true, true_and, if_true, if_false, not_true_eq_false, not_false_eq_true, nI_1, ev_fG_0, ev_fG_1, ev_fG_2, ev_fG_3, ev_fG_4, ev_fG_5, ev_fG_6, ev_fG_7, ev_fG_8, ev_fS_0, ev_fS_1, ev_fS_2, ev_fS_3, ev_fS_4, ev_fS_5, ev_fS_6, ev_fS_7, ev_fS_8, ev_isO_0, ev_isO_1, ev_isO_2, ev_isO_3, ev_isO_4, ev_isO_5, ev_isO_6, ev_isO_7, ev_isO_8, ev_z0, ev_z1, ev_z2, eq_self, ev_ofN, show ¬ (1 : Int32) = 0 from by decide, show ¬ (2 : Int32) = 0 from by decide, show ¬ (2 : Int32) = 1 from by decide, show ¬ (0 : Int32) = 1 from by decide, show ¬ (0 : Int32) = 2 from by decide, show ¬ (1 : Int32) = 2 from by decide, show ¬ (0 : Int32) = -1 from by decide, show (0 : Int32) ≤ 1 from by decide, show (1 : Int32).toNatClampNeg = 1 from rfl, show (0 : Nat) < 2 from by omega, show (1 : Nat) < 2 from by omega, not_true_eq_false, ne_eq, not_false_eq_true, hs1.1.1, hs1.1.2, hs1.2.1.1, hs1.2.1.2, hs1.2.2.1.1, hs1.2.2.1.2, hs1.2.2.2.1, hs1.2.2.2.2, hk13]
  refine MK_walk hm1 hx1 hJ.1 hr1 fun H2 n2 q2 hq => ?_
  simp (disch := omega) only [t_L_law_1024, t_L_law_1025, t_L_law_1026, t_L_law_1028, t_L_law_1029, t_L_law_1030, t_L_law_1031, t_L_law_1032, t_L_law_1034, t_L_law_1035, t_L_law_1036, t_L_law_1037, t_L_law_1038, t_L_law_1041, t_L_law_1043, t_L_law_1044, t_L_law_1045, t_L_law_1047, t_L_law_1048, t_L_law_1049, t_L_law_1050, t_L_law_1051, t_L_law_1053, t_L_law_1054, t_L_law_1055, t_L_law_1056, t_L_law_1059, t_L_law_1061, ↓reduceIte, ev_k_i, ev_k_r, ev_k_l, ev_k_J, ev_k_n, ev_kr_1, ev_kr_0, ev_isK_y, ev_aG_y, ev_aS_y, ev_aN_y, ev_inA_0, ev_isA_0, ev_ft_I, ev_ft_0, ev_ft_1, ev_ft_o, ev_ft_a, ev_nb_0, ev_nb_1, and_true, true_and, if_true, if_false, not_true_eq_false, not_false_eq_true, nI_1, ev_fG_0, ev_fG_1, ev_fG_2, ev_fG_3, ev_fG_4, ev_fG_5, ev_fG_6, ev_fG_7, ev_fG_8, ev_fS_0, ev_fS_1, ev_fS_2, ev_fS_3, ev_fS_4, ev_fS_5, ev_fS_6, ev_fS_7, ev_fS_8, ev_isO_0, ev_isO_1, ev_isO_2, ev_isO_3, ev_isO_4, ev_isO_5, ev_isO_6, ev_isO_7, ev_isO_8, ev_z0, ev_z1, ev_z2, eq_self, ev_ofN, show ¬ (1 : Int32) = 0 from by decide, show ¬ (2 : Int32) = 0 from by decide, show ¬ (2 : Int32) = 1 from by decide, show ¬ (0 : Int32) = 1 from by decide, show ¬ (0 : Int32) = 2 from by decide, show ¬ (1 : Int32) = 2 from by decide, show ¬ (0 : Int32) = -1 from by decide, show (0 : Int32) ≤ 1 from by decide, show (1 : Int32).toNatClampNeg = 1 from rfl, show (0 : Nat) < 2 from by omega, show (1 : Nat) < 2 from by omega, not_true_eq_false, ne_eq, not_false_eq_true, hs1.1.1, hs1.1.2, hs1.2.1.1, hs1.2.1.2, hs1.2.2.1.1, hs1.2.2.1.2, hs1.2.2.2.1, hs1.2.2.2.2, hk13]
  have b1 := hp.2.2.2.2
  have b2 := hq.2.2.2
  exact c _ _ H2 n2 q2 _ _ (jM_ref hM1 hq rfl hA (jR_same hl hj.2.1 hj.2.2.1 hj.2.2.2.1)) (by omega) (by omega) (by omega) (by omega)
theorem LP_ofTable (hS : jS X S i v0 v1 v2 v3) (h : jM X zf x G G As H n) {a5 a6 : Value} (c : jC X zf x S i n q P) : ev_ok (ev_TT X) 309 984 [.ref S, .ref x, .ref (x + 57), .ref (x + 68), .int (nI i), a5, a6] [] H n q P := by
  have hn := jM_n h
  have hs := hS H (jM_low h)
  have h0 := h
  obtain ⟨hc, hJ, -, ⟨r, ow, hr, hm⟩, hx, hA, hl, ho, hxs⟩ := h0
  simp (disch := omega) only [t_L_law_984, t_L_law_985, t_L_law_986, t_L_law_988, t_L_law_989, t_L_law_990, t_L_law_991, t_L_law_992, t_L_law_994, t_L_law_995, t_L_law_996, t_L_law_997, t_L_law_998, t_L_law_1001, t_L_law_1003, t_L_law_1004, t_L_law_1005, t_L_law_1007, t_L_law_1008, t_L_law_1009, t_L_law_1010, t_L_law_1011, t_L_law_1013, t_L_law_1014, t_L_law_1015, t_L_law_1016, t_L_law_1019, t_L_law_1021, ↓reduceIte, ev_k_i, ev_k_r, ev_k_l, ev_k_J, ev_k_n, ev_kr_1, ev_kr_0, ev_isK_y, ev_aG_y, ev_aS_y, ev_aN_y, ev_inA_0, ev_isA_0, ev_ft_I, ev_ft_0, ev_ft_1, ev_ft_o, ev_ft_a, ev_nb_0, ev_nb_1, and_true, true_and, if_true, if_false, not_true_eq_false, not_false_eq_true, nI_1, ev_fG_0, ev_fG_1, ev_fG_2, ev_fG_3, ev_fG_4, ev_fG_5, ev_fG_6, ev_fG_7, ev_fG_8, ev_fS_0, ev_fS_1, ev_fS_2, ev_fS_3, ev_fS_4, ev_fS_5, ev_fS_6, ev_fS_7, ev_fS_8, ev_isO_0, ev_isO_1, ev_isO_2, ev_isO_3, ev_isO_4, ev_isO_5, ev_isO_6, ev_isO_7, ev_isO_8, ev_z0, ev_z1, ev_z2, eq_self, ev_ofN, show ¬ (1 : Int32) = 0 from by decide, show ¬ (2 : Int32) = 0 from by decide, show ¬ (2 : Int32) = 1 from by decide, show ¬ (0 : Int32) = 1 from by decide, show ¬ (0 : Int32) = 2 from by decide, show ¬ (1 : Int32) = 2 from by decide, show ¬ (0 : Int32) = -1 from by decide, show (0 : Int32) ≤ 1 from by decide, show (1 : Int32).toNatClampNeg = 1 from rfl, show (0 : Nat) < 2 from by omega, show (1 : Nat) < 2 from by omega, not_true_eq_false, ne_eq, not_false_eq_true, hs.1.1, hs.1.2, hs.2.1.1, hs.2.1.2, hs.2.2.1.1, hs.2.2.1.2, hs.2.2.2.1, hs.2.2.2.2]
  refine LW_ofTable hc hJ.1 (by omega) (by omega) ho (jM_z h) fun H1 n1 q1 hp => ?_
  have hj := JK_ofTable (G := G) hJ (t := v1) (w := v2)
  have hM1 := jM_class h hp.1 hj.1 hp.2.1 (by obtain ⟨l, s, h1, -⟩ := hp.2.2.1; exact ⟨l, s, h1⟩) hp.2.2.2.1 hp.2.2.2.2.1
  have hs1 := hS H1 (jM_low hM1)
  have h1 := hM1
  obtain ⟨hc1, hJ1, -, ⟨r1, ow1, hr1, hm1⟩, hx1, -, -, -, -⟩ := h1
  have hk13 := m_k13 hm1
  simp (disch := omega) only [t_L_law_984, t_L_law_985, t_L_law_986, t_L_law_988, t_L_law_989, t_L_law_990, t_L_law_991, t_L_law_992, t_L_law_994, t_L_law_995, t_L_law_996, t_L_law_997, t_L_law_998, t_L_law_1001, t_L_law_1003, t_L_law_1004, t_L_law_1005, t_L_law_1007, t_L_law_1008, t_L_law_1009, t_L_law_1010, t_L_law_1011, t_L_law_1013, t_L_law_1014, t_L_law_1015, t_L_law_1016, t_L_law_1019, t_L_law_1021, ↓reduceIte, ev_k_i, ev_k_r, ev_k_l, ev_k_J, ev_k_n, ev_kr_1, ev_kr_0, ev_isK_y, ev_aG_y, ev_aS_y, ev_aN_y, ev_inA_0, ev_isA_0, ev_ft_I, ev_ft_0, ev_ft_1, ev_ft_o, ev_ft_a, ev_nb_0, ev_nb_1, and_true, true_and, if_true, if_false, not_true_eq_false, not_false_eq_true, nI_1, ev_fG_0, ev_fG_1, ev_fG_2, ev_fG_3, ev_fG_4, ev_fG_5, ev_fG_6, ev_fG_7, ev_fG_8, ev_fS_0, ev_fS_1, ev_fS_2, ev_fS_3, ev_fS_4, ev_fS_5, ev_fS_6, ev_fS_7, ev_fS_8, ev_isO_0, ev_isO_1, ev_isO_2, ev_isO_3, ev_isO_4, ev_isO_5, ev_isO_6, ev_isO_7, ev_isO_8, ev_z0, ev_z1, ev_z2, eq_self, ev_ofN, show ¬ (1 : Int32) = 0 from by decide, show ¬ (2 : Int32) = 0 from by decide, show ¬ (2 : Int32) = 1 from by decide, show ¬ (0 : Int32) = 1 from by decide, show ¬ (0 : Int32) = 2 from by decide, show ¬ (1 : Int32) = 2 from by decide, show ¬ (0 : Int32) = -1 from by decide, show (0 : Int32) ≤ 1 from by decide, show (1 : Int32).toNatClampNeg = 1 from rfl, show (0 : Nat) < 2 from by omega, show (1 : Nat) < 2 from by omega, not_true_eq_false, ne_eq, not_false_eq_true, hs1.1.1, hs1.1.2, hs1.2.1.1, hs1.2.1.2, hs1.2.2.1.1, hs1.2.2.1.2, hs1.2.2.2.1, hs1.2.2.2.2, hk13]
  refine MK_ofTable hm1 hx1 hJ.1 hr1 fun H2 n2 q2 hq => ?_
  simp (disch := omega) only [t_L_law_984, t_L_law_985, t_L_law_986, t_L_law_988, t_L_law_989, t_L_law_990, t_L_law_991, t_L_law_992, t_L_law_994, t_L_law_995, t_L_law_996, t_L_law_997, t_L_law_998, t_L_law_1001, t_L_law_1003, t_L_law_1004, t_L_law_1005, t_L_law_1007, t_L_law_1008, t_L_law_1009, t_L_law_1010, t_L_law_1011, t_L_law_1013, t_L_law_1014, t_L_law_1015, t_L_law_1016, t_L_law_1019, t_L_law_1021, ↓reduceIte, ev_k_i, ev_k_r, ev_k_l, ev_k_J, ev_k_n, ev_kr_1, ev_kr_0, ev_isK_y, ev_aG_y, ev_aS_y, ev_aN_y, ev_inA_0, ev_isA_0, ev_ft_I, ev_ft_0, ev_ft_1, ev_ft_o, ev_ft_a, ev_nb_0, ev_nb_1, and_true, true_and, if_true, if_false, not_true_eq_false, not_false_eq_true, nI_1, ev_fG_0, ev_fG_1, ev_fG_2, ev_fG_3, ev_fG_4, ev_fG_5, ev_fG_6, ev_fG_7, ev_fG_8, ev_fS_0, ev_fS_1, ev_fS_2, ev_fS_3, ev_fS_4, ev_fS_5, ev_fS_6, ev_fS_7, ev_fS_8, ev_isO_0, ev_isO_1, ev_isO_2, ev_isO_3, ev_isO_4, ev_isO_5, ev_isO_6, ev_isO_7, ev_isO_8, ev_z0, ev_z1, ev_z2, eq_self, ev_ofN, show ¬ (1 : Int32) = 0 from by decide, show ¬ (2 : Int32) = 0 from by decide, show ¬ (2 : Int32) = 1 from by decide, show ¬ (0 : Int32) = 1 from by decide, show ¬ (0 : Int32) = 2 from by decide, show ¬ (1 : Int32) = 2 from by decide, show ¬ (0 : Int32) = -1 from by decide, show (0 : Int32) ≤ 1 from by decide, show (1 : Int32).toNatClampNeg = 1 from rfl, show (0 : Nat) < 2 from by omega, show (1 : Nat) < 2 from by omega, not_true_eq_false, ne_eq, not_false_eq_true, hs1.1.1, hs1.1.2, hs1.2.1.1, hs1.2.1.2, hs1.2.2.1.1, hs1.2.2.1.2, hs1.2.2.2.1, hs1.2.2.2.2, hk13]
  have b1 := hp.2.2.2.2
  have b2 := hq.2.2.2
  exact c _ _ H2 n2 q2 _ _ (jM_ref hM1 hq rfl hA (jR_same hl hj.2.1 hj.2.2.1 hj.2.2.2.1)) (by omega) (by omega) (by omega) (by omega)
theorem LP_step (hS : jS X S i v0 v1 v2 v3) (h : jM X zf x G G As H n) {a5 a6 : Value} (c : jC X zf x S i n q P) : ev_ok (ev_TT X) 309 1064 [.ref S, .ref x, .ref (x + 57), .ref (x + 68), .int (nI i), a5, a6] [] H n q P := by
  have hn := jM_n h
  have hs := hS H (jM_low h)
  have h0 := h
  obtain ⟨hc, hJ, -, ⟨r, ow, hr, hm⟩, hx, hA, hl, ho, hxs⟩ := h0
  simp (disch := omega) only [t_L_law_1064, t_L_law_1065, t_L_law_1066, t_L_law_1068, t_L_law_1069, t_L_law_1070, t_L_law_1071, t_L_law_1072, t_L_law_1075, t_L_law_1077, t_L_law_1078, t_L_law_1079, t_L_law_1081, t_L_law_1082, t_L_law_1083, t_L_law_1084, t_L_law_1087, t_L_law_1089, ↓reduceIte, ev_k_i, ev_k_r, ev_k_l, ev_k_J, ev_k_n, ev_kr_1, ev_kr_0, ev_isK_y, ev_aG_y, ev_aS_y, ev_aN_y, ev_inA_0, ev_isA_0, ev_ft_I, ev_ft_0, ev_ft_1, ev_ft_o, ev_ft_a, ev_nb_0, ev_nb_1, and_true, true_and, if_true, if_false, not_true_eq_false, not_false_eq_true, nI_1, ev_fG_0, ev_fG_1, ev_fG_2, ev_fG_3, ev_fG_4, ev_fG_5, ev_fG_6, ev_fG_7, ev_fG_8, ev_fS_0, ev_fS_1, ev_fS_2, ev_fS_3, ev_fS_4, ev_fS_5, ev_fS_6, ev_fS_7, ev_fS_8, ev_isO_0, ev_isO_1, ev_isO_2, ev_isO_3, ev_isO_4, ev_isO_5, ev_isO_6, ev_isO_7, ev_isO_8, ev_z0, ev_z1, ev_z2, eq_self, ev_ofN, show ¬ (1 : Int32) = 0 from by decide, show ¬ (2 : Int32) = 0 from by decide, show ¬ (2 : Int32) = 1 from by decide, show ¬ (0 : Int32) = 1 from by decide, show ¬ (0 : Int32) = 2 from by decide, show ¬ (1 : Int32) = 2 from by decide, show ¬ (0 : Int32) = -1 from by decide, show (0 : Int32) ≤ 1 from by decide, show (1 : Int32).toNatClampNeg = 1 from rfl, show (0 : Nat) < 2 from by omega, show (1 : Nat) < 2 from by omega, not_true_eq_false, ne_eq, not_false_eq_true, hs.1.1, hs.1.2, hs.2.1.1, hs.2.1.2, hs.2.2.1.1, hs.2.2.1.2, hs.2.2.2.1, hs.2.2.2.2]
  refine LW_step hc hJ.1 (by omega) (by omega) ho (jM_z h) fun H1 n1 q1 hp => ?_
  have hj := JK_step (G := G) hJ (t := v1)
  have hM1 := jM_class h hp.1 hj.1 hp.2.1 (by obtain ⟨l, s, h1, -⟩ := hp.2.2.1; exact ⟨l, s, h1⟩) hp.2.2.2.1 hp.2.2.2.2.1
  have hs1 := hS H1 (jM_low hM1)
  have h1 := hM1
  obtain ⟨hc1, hJ1, -, ⟨r1, ow1, hr1, hm1⟩, hx1, -, -, -, -⟩ := h1
  have hk13 := m_k13 hm1
  simp (disch := omega) only [t_L_law_1064, t_L_law_1065, t_L_law_1066, t_L_law_1068, t_L_law_1069, t_L_law_1070, t_L_law_1071, t_L_law_1072, t_L_law_1075, t_L_law_1077, t_L_law_1078, t_L_law_1079, t_L_law_1081, t_L_law_1082, t_L_law_1083, t_L_law_1084, t_L_law_1087, t_L_law_1089, ↓reduceIte, ev_k_i, ev_k_r, ev_k_l, ev_k_J, ev_k_n, ev_kr_1, ev_kr_0, ev_isK_y, ev_aG_y, ev_aS_y, ev_aN_y, ev_inA_0, ev_isA_0, ev_ft_I, ev_ft_0, ev_ft_1, ev_ft_o, ev_ft_a, ev_nb_0, ev_nb_1, and_true, true_and, if_true, if_false, not_true_eq_false, not_false_eq_true, nI_1, ev_fG_0, ev_fG_1, ev_fG_2, ev_fG_3, ev_fG_4, ev_fG_5, ev_fG_6, ev_fG_7, ev_fG_8, ev_fS_0, ev_fS_1, ev_fS_2, ev_fS_3, ev_fS_4, ev_fS_5, ev_fS_6, ev_fS_7, ev_fS_8, ev_isO_0, ev_isO_1, ev_isO_2, ev_isO_3, ev_isO_4, ev_isO_5, ev_isO_6, ev_isO_7, ev_isO_8, ev_z0, ev_z1, ev_z2, eq_self, ev_ofN, show ¬ (1 : Int32) = 0 from by decide, show ¬ (2 : Int32) = 0 from by decide, show ¬ (2 : Int32) = 1 from by decide, show ¬ (0 : Int32) = 1 from by decide, show ¬ (0 : Int32) = 2 from by decide, show ¬ (1 : Int32) = 2 from by decide, show ¬ (0 : Int32) = -1 from by decide, show (0 : Int32) ≤ 1 from by decide, show (1 : Int32).toNatClampNeg = 1 from rfl, show (0 : Nat) < 2 from by omega, show (1 : Nat) < 2 from by omega, not_true_eq_false, ne_eq, not_false_eq_true, hs1.1.1, hs1.1.2, hs1.2.1.1, hs1.2.1.2, hs1.2.2.1.1, hs1.2.2.1.2, hs1.2.2.2.1, hs1.2.2.2.2, hk13]
  refine MK_step hm1 hx1 hJ.1 hr1 fun H2 n2 q2 hq => ?_
  simp (disch := omega) only [t_L_law_1064, t_L_law_1065, t_L_law_1066, t_L_law_1068, t_L_law_1069, t_L_law_1070, t_L_law_1071, t_L_law_1072, t_L_law_1075, t_L_law_1077, t_L_law_1078, t_L_law_1079, t_L_law_1081, t_L_law_1082, t_L_law_1083, t_L_law_1084, t_L_law_1087, t_L_law_1089, ↓reduceIte, ev_k_i, ev_k_r, ev_k_l, ev_k_J, ev_k_n, ev_kr_1, ev_kr_0, ev_isK_y, ev_aG_y, ev_aS_y, ev_aN_y, ev_inA_0, ev_isA_0, ev_ft_I, ev_ft_0, ev_ft_1, ev_ft_o, ev_ft_a, ev_nb_0, ev_nb_1, and_true, true_and, if_true, if_false, not_true_eq_false, not_false_eq_true, nI_1, ev_fG_0, ev_fG_1, ev_fG_2, ev_fG_3, ev_fG_4, ev_fG_5, ev_fG_6, ev_fG_7, ev_fG_8, ev_fS_0, ev_fS_1, ev_fS_2, ev_fS_3, ev_fS_4, ev_fS_5, ev_fS_6, ev_fS_7, ev_fS_8, ev_isO_0, ev_isO_1, ev_isO_2, ev_isO_3, ev_isO_4, ev_isO_5, ev_isO_6, ev_isO_7, ev_isO_8, ev_z0, ev_z1, ev_z2, eq_self, ev_ofN, show ¬ (1 : Int32) = 0 from by decide, show ¬ (2 : Int32) = 0 from by decide, show ¬ (2 : Int32) = 1 from by decide, show ¬ (0 : Int32) = 1 from by decide, show ¬ (0 : Int32) = 2 from by decide, show ¬ (1 : Int32) = 2 from by decide, show ¬ (0 : Int32) = -1 from by decide, show (0 : Int32) ≤ 1 from by decide, show (1 : Int32).toNatClampNeg = 1 from rfl, show (0 : Nat) < 2 from by omega, show (1 : Nat) < 2 from by omega, not_true_eq_false, ne_eq, not_false_eq_true, hs1.1.1, hs1.1.2, hs1.2.1.1, hs1.2.1.2, hs1.2.2.1.1, hs1.2.2.1.2, hs1.2.2.2.1, hs1.2.2.2.2, hk13]
  have b1 := hp.2.2.2.2
  have b2 := hq.2.2.2
  exact c _ _ H2 n2 q2 _ _ (jM_ref hM1 hq rfl hA (jR_same hl hj.2.1 hj.2.2.1 hj.2.2.2.1)) (by omega) (by omega) (by omega) (by omega)
theorem LP_rest (hS : jS X S i v0 v1 v2 v3) (h : jM X zf x G G As H n) {a5 a6 : Value} (c : jC X zf x S i n q P) : ev_ok (ev_TT X) 309 1176 [.ref S, .ref x, .ref (x + 57), .ref (x + 68), .int (nI i), a5, a6] [] H n q P := by
  have hn := jM_n h
  have hs := hS H (jM_low h)
  have h0 := h
  obtain ⟨hc, hJ, -, ⟨r, ow, hr, hm⟩, hx, hA, hl, ho, hxs⟩ := h0
  simp (disch := omega) only [t_L_law_1176, t_L_law_1177, t_L_law_1178, t_L_law_1180, t_L_law_1181, t_L_law_1182, t_L_law_1183, t_L_law_1184, t_L_law_1187, t_L_law_1189, t_L_law_1190, t_L_law_1191, t_L_law_1193, t_L_law_1194, t_L_law_1195, t_L_law_1196, t_L_law_1199, t_L_law_1201, ↓reduceIte, ev_k_i, ev_k_r, ev_k_l, ev_k_J, ev_k_n, ev_kr_1, ev_kr_0, ev_isK_y, ev_aG_y, ev_aS_y, ev_aN_y, ev_inA_0, ev_isA_0, ev_ft_I, ev_ft_0, ev_ft_1, ev_ft_o, ev_ft_a, ev_nb_0, ev_nb_1, and_true, true_and, if_true, if_false, not_true_eq_false, not_false_eq_true, nI_1, ev_fG_0, ev_fG_1, ev_fG_2, ev_fG_3, ev_fG_4, ev_fG_5, ev_fG_6, ev_fG_7, ev_fG_8, ev_fS_0, ev_fS_1, ev_fS_2, ev_fS_3, ev_fS_4, ev_fS_5, ev_fS_6, ev_fS_7, ev_fS_8, ev_isO_0, ev_isO_1, ev_isO_2, ev_isO_3, ev_isO_4, ev_isO_5, ev_isO_6, ev_isO_7, ev_isO_8, ev_z0, ev_z1, ev_z2, eq_self, ev_ofN, show ¬ (1 : Int32) = 0 from by decide, show ¬ (2 : Int32) = 0 from by decide, show ¬ (2 : Int32) = 1 from by decide, show ¬ (0 : Int32) = 1 from by decide, show ¬ (0 : Int32) = 2 from by decide, show ¬ (1 : Int32) = 2 from by decide, show ¬ (0 : Int32) = -1 from by decide, show (0 : Int32) ≤ 1 from by decide, show (1 : Int32).toNatClampNeg = 1 from rfl, show (0 : Nat) < 2 from by omega, show (1 : Nat) < 2 from by omega, not_true_eq_false, ne_eq, not_false_eq_true, hs.1.1, hs.1.2, hs.2.1.1, hs.2.1.2, hs.2.2.1.1, hs.2.2.1.2, hs.2.2.2.1, hs.2.2.2.2]
  refine LW_rest hc hJ.1 (by omega) (by omega) ho (jM_z h) fun H1 n1 q1 hp => ?_
  have hj := JK_rest (G := G) hJ (t := v1)
  have hM1 := jM_class h hp.1 hj.1 hp.2.1 (by obtain ⟨l, s, h1, -⟩ := hp.2.2.1; exact ⟨l, s, h1⟩) hp.2.2.2.1 hp.2.2.2.2.1
  have hs1 := hS H1 (jM_low hM1)
  have h1 := hM1
  obtain ⟨hc1, hJ1, -, ⟨r1, ow1, hr1, hm1⟩, hx1, -, -, -, -⟩ := h1
  have hk13 := m_k13 hm1
  simp (disch := omega) only [t_L_law_1176, t_L_law_1177, t_L_law_1178, t_L_law_1180, t_L_law_1181, t_L_law_1182, t_L_law_1183, t_L_law_1184, t_L_law_1187, t_L_law_1189, t_L_law_1190, t_L_law_1191, t_L_law_1193, t_L_law_1194, t_L_law_1195, t_L_law_1196, t_L_law_1199, t_L_law_1201, ↓reduceIte, ev_k_i, ev_k_r, ev_k_l, ev_k_J, ev_k_n, ev_kr_1, ev_kr_0, ev_isK_y, ev_aG_y, ev_aS_y, ev_aN_y, ev_inA_0, ev_isA_0, ev_ft_I, ev_ft_0, ev_ft_1, ev_ft_o, ev_ft_a, ev_nb_0, ev_nb_1, and_true, true_and, if_true, if_false, not_true_eq_false, not_false_eq_true, nI_1, ev_fG_0, ev_fG_1, ev_fG_2, ev_fG_3, ev_fG_4, ev_fG_5, ev_fG_6, ev_fG_7, ev_fG_8, ev_fS_0, ev_fS_1, ev_fS_2, ev_fS_3, ev_fS_4, ev_fS_5, ev_fS_6, ev_fS_7, ev_fS_8, ev_isO_0, ev_isO_1, ev_isO_2, ev_isO_3, ev_isO_4, ev_isO_5, ev_isO_6, ev_isO_7, ev_isO_8, ev_z0, ev_z1, ev_z2, eq_self, ev_ofN, show ¬ (1 : Int32) = 0 from by decide, show ¬ (2 : Int32) = 0 from by decide, show ¬ (2 : Int32) = 1 from by decide, show ¬ (0 : Int32) = 1 from by decide, show ¬ (0 : Int32) = 2 from by decide, show ¬ (1 : Int32) = 2 from by decide, show ¬ (0 : Int32) = -1 from by decide, show (0 : Int32) ≤ 1 from by decide, show (1 : Int32).toNatClampNeg = 1 from rfl, show (0 : Nat) < 2 from by omega, show (1 : Nat) < 2 from by omega, not_true_eq_false, ne_eq, not_false_eq_true, hs1.1.1, hs1.1.2, hs1.2.1.1, hs1.2.1.2, hs1.2.2.1.1, hs1.2.2.1.2, hs1.2.2.2.1, hs1.2.2.2.2, hk13]
  refine MK_rest hm1 hx1 hJ.1 hr1 fun H2 n2 q2 hq => ?_
  simp (disch := omega) only [t_L_law_1176, t_L_law_1177, t_L_law_1178, t_L_law_1180, t_L_law_1181, t_L_law_1182, t_L_law_1183, t_L_law_1184, t_L_law_1187, t_L_law_1189, t_L_law_1190, t_L_law_1191, t_L_law_1193, t_L_law_1194, t_L_law_1195, t_L_law_1196, t_L_law_1199, t_L_law_1201, ↓reduceIte, ev_k_i, ev_k_r, ev_k_l, ev_k_J, ev_k_n, ev_kr_1, ev_kr_0, ev_isK_y, ev_aG_y, ev_aS_y, ev_aN_y, ev_inA_0, ev_isA_0, ev_ft_I, ev_ft_0, ev_ft_1, ev_ft_o, ev_ft_a, ev_nb_0, ev_nb_1, and_true, true_and, if_true, if_false, not_true_eq_false, not_false_eq_true, nI_1, ev_fG_0, ev_fG_1, ev_fG_2, ev_fG_3, ev_fG_4, ev_fG_5, ev_fG_6, ev_fG_7, ev_fG_8, ev_fS_0, ev_fS_1, ev_fS_2, ev_fS_3, ev_fS_4, ev_fS_5, ev_fS_6, ev_fS_7, ev_fS_8, ev_isO_0, ev_isO_1, ev_isO_2, ev_isO_3, ev_isO_4, ev_isO_5, ev_isO_6, ev_isO_7, ev_isO_8, ev_z0, ev_z1, ev_z2, eq_self, ev_ofN, show ¬ (1 : Int32) = 0 from by decide, show ¬ (2 : Int32) = 0 from by decide, show ¬ (2 : Int32) = 1 from by decide, show ¬ (0 : Int32) = 1 from by decide, show ¬ (0 : Int32) = 2 from by decide, show ¬ (1 : Int32) = 2 from by decide, show ¬ (0 : Int32) = -1 from by decide, show (0 : Int32) ≤ 1 from by decide, show (1 : Int32).toNatClampNeg = 1 from rfl, show (0 : Nat) < 2 from by omega, show (1 : Nat) < 2 from by omega, not_true_eq_false, ne_eq, not_false_eq_true, hs1.1.1, hs1.1.2, hs1.2.1.1, hs1.2.1.2, hs1.2.2.1.1, hs1.2.2.1.2, hs1.2.2.2.1, hs1.2.2.2.2, hk13]
  have b1 := hp.2.2.2.2
  have b2 := hq.2.2.2
  exact c _ _ H2 n2 q2 _ _ (jM_ref hM1 hq rfl hA (jR_same hl hj.2.1 hj.2.2.1 hj.2.2.2.1)) (by omega) (by omega) (by omega) (by omega)
theorem LP_cut (hS : jS X S i v0 v1 v2 v3) (h : jM X zf x G G As H n) {a5 a6 : Value} (c : jC X zf x S i n q P) : ev_ok (ev_TT X) 309 1092 [.ref S, .ref x, .ref (x + 57), .ref (x + 68), .int (nI i), a5, a6] [] H n q P := by
  have hn := jM_n h
  have hs := hS H (jM_low h)
  have h0 := h
  obtain ⟨hc, hJ, -, ⟨r, ow, hr, hm⟩, hx, hA, hl, ho, hxs⟩ := h0
  simp (disch := omega) only [t_L_law_1092, t_L_law_1093, t_L_law_1094, t_L_law_1096, t_L_law_1097, t_L_law_1098, t_L_law_1099, t_L_law_1100, t_L_law_1103, t_L_law_1105, t_L_law_1106, t_L_law_1107, t_L_law_1109, t_L_law_1110, t_L_law_1111, t_L_law_1112, t_L_law_1115, t_L_law_1117, ↓reduceIte, ev_k_i, ev_k_r, ev_k_l, ev_k_J, ev_k_n, ev_kr_1, ev_kr_0, ev_isK_y, ev_aG_y, ev_aS_y, ev_aN_y, ev_inA_0, ev_isA_0, ev_ft_I, ev_ft_0, ev_ft_1, ev_ft_o, ev_ft_a, ev_nb_0, ev_nb_1, and_true, true_and, if_true, if_false, not_true_eq_false, not_false_eq_true, nI_1, ev_fG_0, ev_fG_1, ev_fG_2, ev_fG_3, ev_fG_4, ev_fG_5, ev_fG_6, ev_fG_7, ev_fG_8, ev_fS_0, ev_fS_1, ev_fS_2, ev_fS_3, ev_fS_4, ev_fS_5, ev_fS_6, ev_fS_7, ev_fS_8, ev_isO_0, ev_isO_1, ev_isO_2, ev_isO_3, ev_isO_4, ev_isO_5, ev_isO_6, ev_isO_7, ev_isO_8, ev_z0, ev_z1, ev_z2, eq_self, ev_ofN, show ¬ (1 : Int32) = 0 from by decide, show ¬ (2 : Int32) = 0 from by decide, show ¬ (2 : Int32) = 1 from by decide, show ¬ (0 : Int32) = 1 from by decide, show ¬ (0 : Int32) = 2 from by decide, show ¬ (1 : Int32) = 2 from by decide, show ¬ (0 : Int32) = -1 from by decide, show (0 : Int32) ≤ 1 from by decide, show (1 : Int32).toNatClampNeg = 1 from rfl, show (0 : Nat) < 2 from by omega, show (1 : Nat) < 2 from by omega, not_true_eq_false, ne_eq, not_false_eq_true, hs.1.1, hs.1.2, hs.2.1.1, hs.2.1.2, hs.2.2.1.1, hs.2.2.1.2, hs.2.2.2.1, hs.2.2.2.2]
  refine LW_cut hc hJ.1 (by omega) (by omega) ho (jM_z h) fun H1 n1 q1 hp => ?_
  have hj := JK_cut (G := G) hJ (t := v1)
  have hM1 := jM_class h hp.1 hj.1 hp.2.1 (by obtain ⟨l, s, h1, -⟩ := hp.2.2.1; exact ⟨l, s, h1⟩) hp.2.2.2.1 hp.2.2.2.2.1
  have hs1 := hS H1 (jM_low hM1)
  have h1 := hM1
  obtain ⟨hc1, hJ1, -, ⟨r1, ow1, hr1, hm1⟩, hx1, -, -, -, -⟩ := h1
  have hk13 := m_k13 hm1
  simp (disch := omega) only [t_L_law_1092, t_L_law_1093, t_L_law_1094, t_L_law_1096, t_L_law_1097, t_L_law_1098, t_L_law_1099, t_L_law_1100, t_L_law_1103, t_L_law_1105, t_L_law_1106, t_L_law_1107, t_L_law_1109, t_L_law_1110, t_L_law_1111, t_L_law_1112, t_L_law_1115, t_L_law_1117, ↓reduceIte, ev_k_i, ev_k_r, ev_k_l, ev_k_J, ev_k_n, ev_kr_1, ev_kr_0, ev_isK_y, ev_aG_y, ev_aS_y, ev_aN_y, ev_inA_0, ev_isA_0, ev_ft_I, ev_ft_0, ev_ft_1, ev_ft_o, ev_ft_a, ev_nb_0, ev_nb_1, and_true, true_and, if_true, if_false, not_true_eq_false, not_false_eq_true, nI_1, ev_fG_0, ev_fG_1, ev_fG_2, ev_fG_3, ev_fG_4, ev_fG_5, ev_fG_6, ev_fG_7, ev_fG_8, ev_fS_0, ev_fS_1, ev_fS_2, ev_fS_3, ev_fS_4, ev_fS_5, ev_fS_6, ev_fS_7, ev_fS_8, ev_isO_0, ev_isO_1, ev_isO_2, ev_isO_3, ev_isO_4, ev_isO_5, ev_isO_6, ev_isO_7, ev_isO_8, ev_z0, ev_z1, ev_z2, eq_self, ev_ofN, show ¬ (1 : Int32) = 0 from by decide, show ¬ (2 : Int32) = 0 from by decide, show ¬ (2 : Int32) = 1 from by decide, show ¬ (0 : Int32) = 1 from by decide, show ¬ (0 : Int32) = 2 from by decide, show ¬ (1 : Int32) = 2 from by decide, show ¬ (0 : Int32) = -1 from by decide, show (0 : Int32) ≤ 1 from by decide, show (1 : Int32).toNatClampNeg = 1 from rfl, show (0 : Nat) < 2 from by omega, show (1 : Nat) < 2 from by omega, not_true_eq_false, ne_eq, not_false_eq_true, hs1.1.1, hs1.1.2, hs1.2.1.1, hs1.2.1.2, hs1.2.2.1.1, hs1.2.2.1.2, hs1.2.2.2.1, hs1.2.2.2.2, hk13]
  refine MK_cut hm1 hx1 hJ.1 hr1 fun H2 n2 q2 hq => ?_
  simp (disch := omega) only [t_L_law_1092, t_L_law_1093, t_L_law_1094, t_L_law_1096, t_L_law_1097, t_L_law_1098, t_L_law_1099, t_L_law_1100, t_L_law_1103, t_L_law_1105, t_L_law_1106, t_L_law_1107, t_L_law_1109, t_L_law_1110, t_L_law_1111, t_L_law_1112, t_L_law_1115, t_L_law_1117, ↓reduceIte, ev_k_i, ev_k_r, ev_k_l, ev_k_J, ev_k_n, ev_kr_1, ev_kr_0, ev_isK_y, ev_aG_y, ev_aS_y, ev_aN_y, ev_inA_0, ev_isA_0, ev_ft_I, ev_ft_0, ev_ft_1, ev_ft_o, ev_ft_a, ev_nb_0, ev_nb_1, and_true, true_and, if_true, if_false, not_true_eq_false, not_false_eq_true, nI_1, ev_fG_0, ev_fG_1, ev_fG_2, ev_fG_3, ev_fG_4, ev_fG_5, ev_fG_6, ev_fG_7, ev_fG_8, ev_fS_0, ev_fS_1, ev_fS_2, ev_fS_3, ev_fS_4, ev_fS_5, ev_fS_6, ev_fS_7, ev_fS_8, ev_isO_0, ev_isO_1, ev_isO_2, ev_isO_3, ev_isO_4, ev_isO_5, ev_isO_6, ev_isO_7, ev_isO_8, ev_z0, ev_z1, ev_z2, eq_self, ev_ofN, show ¬ (1 : Int32) = 0 from by decide, show ¬ (2 : Int32) = 0 from by decide, show ¬ (2 : Int32) = 1 from by decide, show ¬ (0 : Int32) = 1 from by decide, show ¬ (0 : Int32) = 2 from by decide, show ¬ (1 : Int32) = 2 from by decide, show ¬ (0 : Int32) = -1 from by decide, show (0 : Int32) ≤ 1 from by decide, show (1 : Int32).toNatClampNeg = 1 from rfl, show (0 : Nat) < 2 from by omega, show (1 : Nat) < 2 from by omega, not_true_eq_false, ne_eq, not_false_eq_true, hs1.1.1, hs1.1.2, hs1.2.1.1, hs1.2.1.2, hs1.2.2.1.1, hs1.2.2.1.2, hs1.2.2.2.1, hs1.2.2.2.2, hk13]
  have b1 := hp.2.2.2.2
  have b2 := hq.2.2.2
  exact c _ _ H2 n2 q2 _ _ (jM_ref hM1 hq rfl hA (jR_same hl hj.2.1 hj.2.2.1 hj.2.2.2.1)) (by omega) (by omega) (by omega) (by omega)
end L80
end
section
/-! ===== the class' other calls under the law's handlers ===== -/
theorem no_mn {j : Nat} (h : j < 12) : ¬ (nI (j + 1) < 1 ∨ (12 : Int32) < nI (j + 1)) := by
  intro e
  rcases e with e | e
  · exact nI_nlt (a := j + 1) (b := 1) (by omega) (by omega) e
  · exact nI_nlt (a := 12) (b := j + 1) (by omega) (by omega) e
def pA (G : ev_CS) : List Nat := (List.range G.2.2.2.1.2.2).map fun j => (G.2.2.2.1.1 j).toNatClampNeg
theorem pA_eq {G : ev_CS} {As : List Nat} (h : aR G As) : pA G = As := by
  refine List.ext_getElem? fun i => ?_
  unfold pA
  rw [List.getElem?_map]
  by_cases hi : i < G.2.2.2.1.2.2
  · obtain ⟨e, hl⟩ := h.2 i hi
    have h2 : i < As.length := by have := h.1; omega
    have hg : As.getD i 0 = As[i] := by rw [List.getD_eq_getElem?_getD, List.getElem?_eq_getElem h2]; rfl
    rw [List.getElem?_range hi, List.getElem?_eq_getElem h2]
    show some (G.2.2.2.1.1 i).toNatClampNeg = some As[i]
    rw [e, nI_clamp (by omega), hg]
  · rw [List.getElem?_eq_none (by rw [List.length_range]; omega), List.getElem?_eq_none (by have := h.1; omega)]
    rfl
noncomputable def k_copy (G : ev_CS) (t u : Int32) : Nat × Int32 × ev_CS := if (t < 0 ∨ nI 4 ≤ t) then (1, 0, G) else if (u < 0 ∨ nI 4 ≤ u) then (1, 0, G) else (0, (nI (G.1 t.toNatClampNeg).1.length), (pg_T G u.toNatClampNeg (ps_row (G.1 u.toNatClampNeg) (G.1 t.toNatClampNeg).1 0 (-1) 0 (-1))))
noncomputable def k_text (G : ev_CS) (t w : Int32) : Nat × Int32 × ev_CS := if (t < 0 ∨ nI 4 ≤ t) then (1, 0, G) else if (w < 0 ∨ nI 3 ≤ w) then (2, 0, G) else (0, 0, G)
noncomputable def k_ask (G : ev_CS) (k : Int32) : Nat × Int32 × ev_CS := if (k < 0 ∨ nI 20 ≤ k) then (1, 0, G) else if G.2.2.2.1.2.2 = 60 then (2, 0, G) else (0, (pk_hits G.2.2.1 k (nI G.2.2.2.1.2.2) 6 0 0), (pg_ask G k))
noncomputable def k_askRow (G : ev_CS) (f st mn : Int32) : Nat × Int32 × ev_CS := if ((f < 0 ∨ nI 20 ≤ f) ∨ (st < 0 ∨ nI 20 ≤ st) ∨ (mn < 1 ∨ 12 < mn)) then (1, 0, G) else if 60 < G.2.2.2.1.2.2 + mn.toNatClampNeg then (2, 0, G) else (0, (pk_rowh f.toNatClampNeg st.toNatClampNeg mn.toNatClampNeg 0 G 0), (pg_rowd f.toNatClampNeg st.toNatClampNeg mn.toNatClampNeg 0 G))
noncomputable def k_depth (G : ev_CS) (k : Int32) : Nat × Int32 × ev_CS := if (k < 0 ∨ nI 20 ≤ k) then (1, 0, G) else (0, (pd_depth G.2.1.1 k), G)
noncomputable def k_kept (G : ev_CS) (s : Int32) : Nat × Int32 × ev_CS := if (s < 1 ∨ 6 < s) then (1, 0, G) else (0, 0, G)
noncomputable def k_keeps (G : ev_CS) (s k : Int32) : Nat × Int32 × ev_CS := if (s < 1 ∨ 6 < s) then (1, 0, G) else if (k < 0 ∨ nI 20 ≤ k) then (1, 0, G) else (0, (ev_bb (pf_find (G.2.2.1 (s.toNatClampNeg - 1)).1 k).isSome), G)
noncomputable def k_takenAt (G : ev_CS) (s k : Int32) : Nat × Int32 × ev_CS := if (s < 1 ∨ 6 < s) then (1, 0, G) else if (k < 0 ∨ nI 20 ≤ k) then (1, 0, G) else (0, (pr_told (G.2.2.1 (s.toNatClampNeg - 1)).1 (pf_place (G.2.2.1 (s.toNatClampNeg - 1)).1 k) 1), G)
noncomputable def k_misses (G : ev_CS) (s : Int32) : Nat × Int32 × ev_CS := if (s < 1 ∨ 6 < s) then (1, 0, G) else (0, (G.2.2.1 (s.toNatClampNeg - 1)).2.2.2.2.1, G)
noncomputable def k_hits (G : ev_CS) (s : Int32) : Nat × Int32 × ev_CS := if (s < 1 ∨ 6 < s) then (1, 0, G) else (0, (G.2.2.1 (s.toNatClampNeg - 1)).2.2.2.2.2, G)
noncomputable def k_lost (G : ev_CS) (s : Int32) : Nat × Int32 × ev_CS := if (s < 1 ∨ 6 < s) then (1, 0, G) else (0, (G.2.2.1 (s.toNatClampNeg - 1)).2.2.2.1, G)
noncomputable def k_best (G : ev_CS) (s : Int32) : Nat × Int32 × ev_CS := if (s < 1 ∨ 6 < s) then (1, 0, G) else (0, (nI (G.2.2.2.1.2.2 - (gs (pA G) s.toNatClampNeg G.2.2.2.1.2.2).2)), G)
noncomputable def k_house (G : ev_CS) (w : Int32) : Nat × Int32 × ev_CS := if (w < 0 ∨ nI 5 ≤ w) then (1, 0, G) else (0, (ph_of G w.toNatClampNeg), G)
section L81
variable {X : ev_E} {x o : Nat} {G : ev_CS} {H : ev_M} {n q : Nat} {P : ev_O → ev_M → Nat → Nat → Prop}
theorem LW_copy (hc : c_all x G H) (hG : okG G) (hxo : x + 57 ≤ o) (hon : o < n) (ho : ∃ l s, H o = some (.inr (11, [.long l, s]))) (hz : ∀ a, n ≤ a → H a = none) {t u : Int32}
    (c : ∀ H1 n1 q1, lw_post true x o H n q (k_copy G t u) H1 n1 q1 → P (.inl (some (.int (nI (k_copy G t u).1)))) H1 n1 q1) : ev_ok (ev_TT X) 220 0 [.ref x, .int t, .int u, .ref o, ev_J] [] H n q P := by
  have hk := c_all_k (X := X) hc
  obtain ⟨l0, s0, ho⟩ := ho
  simp (disch := omega) only [t_L_copy_0, t_L_copy_1, t_L_copy_2, t_L_copy_3, t_L_copy_4, t_L_copy_7, t_L_copy_8, t_L_copy_11, t_L_copy_16, t_L_copy_17, t_L_copy_18, t_L_copy_19, x_L_copy_4_0, ↓reduceIte, ev_k_i, ev_k_r, ev_k_l, ev_k_J, ev_k_n, ev_kr_1, ev_kr_0, ev_isK_y, ev_aG_y, ev_aS_y, ev_aN_y, ev_inA_0, ev_isA_0, ev_ft_I, ev_ft_0, ev_ft_1, ev_ft_o, ev_ft_a, ev_nb_0, ev_nb_1, and_true, true_and, if_true, if_false, not_true_eq_false, not_false_eq_true, nI_1, ev_fG_0, ev_fG_1, ev_fG_2, ev_fG_3, ev_fG_4, ev_fG_5, ev_fG_6, ev_fG_7, ev_fG_8, ev_fS_0, ev_fS_1, ev_fS_2, ev_fS_3, ev_fS_4, ev_fS_5, ev_fS_6, ev_fS_7, ev_fS_8, ev_isO_0, ev_isO_1, ev_isO_2, ev_isO_3, ev_isO_4, ev_isO_5, ev_isO_6, ev_isO_7, ev_isO_8, ev_z0, ev_z1, ev_z2, eq_self, ev_ofN, show ¬ (1 : Int32) = 0 from by decide, show ¬ (2 : Int32) = 0 from by decide, show ¬ (2 : Int32) = 1 from by decide, show ¬ (0 : Int32) = 1 from by decide, show ¬ (0 : Int32) = 2 from by decide, show ¬ (1 : Int32) = 2 from by decide, show ¬ (0 : Int32) = -1 from by decide, show (0 : Int32) ≤ 1 from by decide, show (1 : Int32).toNatClampNeg = 1 from rfl, show (0 : Nat) < 2 from by omega, show (1 : Nat) < 2 from by omega, not_true_eq_false, ne_eq, not_false_eq_true, hk]
  refine C_copy hc hG (fun hb => ?_) (fun i hi e hb => ?_) (fun i j hi e hj e2 H1 hc1 hf1 => ?_)
  · skip
    have ek : k_copy G t u = (1, 0, G) := by
      unfold k_copy
      rw [if_pos hb]
    rw [ek] at c
    simp (disch := omega) only [t_L_copy_0, t_L_copy_1, t_L_copy_2, t_L_copy_3, t_L_copy_4, t_L_copy_7, t_L_copy_8, t_L_copy_11, t_L_copy_16, t_L_copy_17, t_L_copy_18, t_L_copy_19, x_L_copy_4_0, ↓reduceIte, ev_k_i, ev_k_r, ev_k_l, ev_k_J, ev_k_n, ev_kr_1, ev_kr_0, ev_isK_y, ev_aG_y, ev_aS_y, ev_aN_y, ev_inA_0, ev_isA_0, ev_ft_I, ev_ft_0, ev_ft_1, ev_ft_o, ev_ft_a, ev_nb_0, ev_nb_1, and_true, true_and, if_true, if_false, not_true_eq_false, not_false_eq_true, nI_1, ev_fG_0, ev_fG_1, ev_fG_2, ev_fG_3, ev_fG_4, ev_fG_5, ev_fG_6, ev_fG_7, ev_fG_8, ev_fS_0, ev_fS_1, ev_fS_2, ev_fS_3, ev_fS_4, ev_fS_5, ev_fS_6, ev_fS_7, ev_fS_8, ev_isO_0, ev_isO_1, ev_isO_2, ev_isO_3, ev_isO_4, ev_isO_5, ev_isO_6, ev_isO_7, ev_isO_8, ev_z0, ev_z1, ev_z2, eq_self, ev_ofN, show ¬ (1 : Int32) = 0 from by decide, show ¬ (2 : Int32) = 0 from by decide, show ¬ (2 : Int32) = 1 from by decide, show ¬ (0 : Int32) = 1 from by decide, show ¬ (0 : Int32) = 2 from by decide, show ¬ (1 : Int32) = 2 from by decide, show ¬ (0 : Int32) = -1 from by decide, show (0 : Int32) ≤ 1 from by decide, show (1 : Int32).toNatClampNeg = 1 from rfl, show (0 : Nat) < 2 from by omega, show (1 : Nat) < 2 from by omega, not_true_eq_false, ne_eq, not_false_eq_true, hk]
    exact c _ (n + 1) (q + 6) ⟨hc, fun _ _ _ _ => rfl, ⟨l0, s0, ho, fun _ z => by cases z⟩, fun a ha => hz a (by omega), by omega, by omega, by omega, by omega⟩
  · skip
    subst e
    have ek : k_copy G (nI i) u = (1, 0, G) := by
      unfold k_copy
      rw [nI_clamp (n := i) (by omega)]
      rw [if_neg (no_ix hi (by omega))]
      rw [if_pos hb]
    rw [ek] at c
    simp (disch := omega) only [t_L_copy_0, t_L_copy_1, t_L_copy_2, t_L_copy_3, t_L_copy_4, t_L_copy_7, t_L_copy_8, t_L_copy_11, t_L_copy_16, t_L_copy_17, t_L_copy_18, t_L_copy_19, x_L_copy_4_0, ↓reduceIte, ev_k_i, ev_k_r, ev_k_l, ev_k_J, ev_k_n, ev_kr_1, ev_kr_0, ev_isK_y, ev_aG_y, ev_aS_y, ev_aN_y, ev_inA_0, ev_isA_0, ev_ft_I, ev_ft_0, ev_ft_1, ev_ft_o, ev_ft_a, ev_nb_0, ev_nb_1, and_true, true_and, if_true, if_false, not_true_eq_false, not_false_eq_true, nI_1, ev_fG_0, ev_fG_1, ev_fG_2, ev_fG_3, ev_fG_4, ev_fG_5, ev_fG_6, ev_fG_7, ev_fG_8, ev_fS_0, ev_fS_1, ev_fS_2, ev_fS_3, ev_fS_4, ev_fS_5, ev_fS_6, ev_fS_7, ev_fS_8, ev_isO_0, ev_isO_1, ev_isO_2, ev_isO_3, ev_isO_4, ev_isO_5, ev_isO_6, ev_isO_7, ev_isO_8, ev_z0, ev_z1, ev_z2, eq_self, ev_ofN, show ¬ (1 : Int32) = 0 from by decide, show ¬ (2 : Int32) = 0 from by decide, show ¬ (2 : Int32) = 1 from by decide, show ¬ (0 : Int32) = 1 from by decide, show ¬ (0 : Int32) = 2 from by decide, show ¬ (1 : Int32) = 2 from by decide, show ¬ (0 : Int32) = -1 from by decide, show (0 : Int32) ≤ 1 from by decide, show (1 : Int32).toNatClampNeg = 1 from rfl, show (0 : Nat) < 2 from by omega, show (1 : Nat) < 2 from by omega, not_true_eq_false, ne_eq, not_false_eq_true, hk]
    exact c _ (n + 1) (q + 6) ⟨hc, fun _ _ _ _ => rfl, ⟨l0, s0, ho, fun _ z => by cases z⟩, fun a ha => hz a (by omega), by omega, by omega, by omega, by omega⟩
  · skip
    subst e
    subst e2
    have ek : k_copy G (nI i) (nI j) = (0, (nI (G.1 i).1.length), (pg_T G j (ps_row (G.1 j) (G.1 i).1 0 (-1) 0 (-1)))) := by
      unfold k_copy
      rw [nI_clamp (n := i) (by omega)]
      rw [nI_clamp (n := j) (by omega)]
      rw [if_neg (no_ix hi (by omega))]
      rw [if_neg (no_ix hj (by omega))]
    rw [ek] at c
    have ho1 : H1 o = some (.inr (11, [.long l0, s0])) := (hf1 o (by omega)).trans ho
    simp (disch := omega) only [t_L_copy_0, t_L_copy_1, t_L_copy_2, t_L_copy_3, t_L_copy_4, t_L_copy_7, t_L_copy_8, t_L_copy_11, t_L_copy_16, t_L_copy_17, t_L_copy_18, t_L_copy_19, x_L_copy_4_0, ↓reduceIte, ev_k_i, ev_k_r, ev_k_l, ev_k_J, ev_k_n, ev_kr_1, ev_kr_0, ev_isK_y, ev_aG_y, ev_aS_y, ev_aN_y, ev_inA_0, ev_isA_0, ev_ft_I, ev_ft_0, ev_ft_1, ev_ft_o, ev_ft_a, ev_nb_0, ev_nb_1, and_true, true_and, if_true, if_false, not_true_eq_false, not_false_eq_true, nI_1, ev_fG_0, ev_fG_1, ev_fG_2, ev_fG_3, ev_fG_4, ev_fG_5, ev_fG_6, ev_fG_7, ev_fG_8, ev_fS_0, ev_fS_1, ev_fS_2, ev_fS_3, ev_fS_4, ev_fS_5, ev_fS_6, ev_fS_7, ev_fS_8, ev_isO_0, ev_isO_1, ev_isO_2, ev_isO_3, ev_isO_4, ev_isO_5, ev_isO_6, ev_isO_7, ev_isO_8, ev_z0, ev_z1, ev_z2, eq_self, ev_ofN, show ¬ (1 : Int32) = 0 from by decide, show ¬ (2 : Int32) = 0 from by decide, show ¬ (2 : Int32) = 1 from by decide, show ¬ (0 : Int32) = 1 from by decide, show ¬ (0 : Int32) = 2 from by decide, show ¬ (1 : Int32) = 2 from by decide, show ¬ (0 : Int32) = -1 from by decide, show (0 : Int32) ≤ 1 from by decide, show (1 : Int32).toNatClampNeg = 1 from rfl, show (0 : Nat) < 2 from by omega, show (1 : Nat) < 2 from by omega, not_true_eq_false, ne_eq, not_false_eq_true, ev_lku_s, ev_lku_n, ev_up_s, ev_up_n, ho1, ev_ft_J]
    exact c _ n q ⟨c_cg hc1 (fun a ha hb => ev_up_n (by omega)), fun a ha hao han => (ev_up_n hao).trans (hf1 a ha), ⟨_, s0, ev_up_s, fun _ _ => rfl⟩, fun a ha => (ev_up_n (by omega)).trans ((hf1 a (by omega)).trans (hz a ha)), by omega, by omega, by omega, by omega⟩
theorem LW_text (hc : c_all x G H) (hG : okG G) (hV : ∀ i, i < 4 → okV (G.1 i).1) (hD : ev_DG X) (hxs : X.1.heap.size ≤ x) (hw0 : ev_low X H) (hxo : x + 57 ≤ o) (hon : o < n) (ho : ∃ l s, H o = some (.inr (11, [.long l, s]))) (hz : ∀ a, n ≤ a → H a = none) {t w : Int32}
    (c : ∀ H1 n1 q1, lw_post false x o H n q (k_text G t w) H1 n1 q1 → P (.inl (some (.int (nI (k_text G t w).1)))) H1 n1 q1) : ev_ok (ev_TT X) 305 0 [.ref x, .int t, .int w, .ref o, ev_J] [] H n q P := by
  have hk := c_all_k (X := X) hc
  obtain ⟨l0, s0, ho⟩ := ho
  simp (disch := omega) only [t_L_text_0, t_L_text_1, t_L_text_2, t_L_text_3, t_L_text_4, t_L_text_7, t_L_text_10, t_L_text_15, t_L_text_16, t_L_text_19, t_L_text_20, t_L_text_21, t_L_text_22, x_L_text_4_0, x_L_text_4_1, ↓reduceIte, ev_k_i, ev_k_r, ev_k_l, ev_k_J, ev_k_n, ev_kr_1, ev_kr_0, ev_isK_y, ev_aG_y, ev_aS_y, ev_aN_y, ev_inA_0, ev_isA_0, ev_ft_I, ev_ft_0, ev_ft_1, ev_ft_o, ev_ft_a, ev_nb_0, ev_nb_1, and_true, true_and, if_true, if_false, not_true_eq_false, not_false_eq_true, nI_1, ev_fG_0, ev_fG_1, ev_fG_2, ev_fG_3, ev_fG_4, ev_fG_5, ev_fG_6, ev_fG_7, ev_fG_8, ev_fS_0, ev_fS_1, ev_fS_2, ev_fS_3, ev_fS_4, ev_fS_5, ev_fS_6, ev_fS_7, ev_fS_8, ev_isO_0, ev_isO_1, ev_isO_2, ev_isO_3, ev_isO_4, ev_isO_5, ev_isO_6, ev_isO_7, ev_isO_8, ev_z0, ev_z1, ev_z2, eq_self, ev_ofN, show ¬ (1 : Int32) = 0 from by decide, show ¬ (2 : Int32) = 0 from by decide, show ¬ (2 : Int32) = 1 from by decide, show ¬ (0 : Int32) = 1 from by decide, show ¬ (0 : Int32) = 2 from by decide, show ¬ (1 : Int32) = 2 from by decide, show ¬ (0 : Int32) = -1 from by decide, show (0 : Int32) ≤ 1 from by decide, show (1 : Int32).toNatClampNeg = 1 from rfl, show (0 : Nat) < 2 from by omega, show (1 : Nat) < 2 from by omega, not_true_eq_false, ne_eq, not_false_eq_true, hk]
  refine C_text hc hG hV hD hxs hw0 (by omega) hz (fun hb => ?_) (fun i hi e hb => ?_) (fun i a hi e ha e2 H1 s k n1 q1 hSt g1 g2 g3 hf hz1 g4 g5 g6 g7 => ?_)
  · skip
    have ek : k_text G t w = (1, 0, G) := by
      unfold k_text
      rw [if_pos hb]
    rw [ek] at c
    simp (disch := omega) only [t_L_text_0, t_L_text_1, t_L_text_2, t_L_text_3, t_L_text_4, t_L_text_7, t_L_text_10, t_L_text_15, t_L_text_16, t_L_text_19, t_L_text_20, t_L_text_21, t_L_text_22, x_L_text_4_0, x_L_text_4_1, ↓reduceIte, ev_k_i, ev_k_r, ev_k_l, ev_k_J, ev_k_n, ev_kr_1, ev_kr_0, ev_isK_y, ev_aG_y, ev_aS_y, ev_aN_y, ev_inA_0, ev_isA_0, ev_ft_I, ev_ft_0, ev_ft_1, ev_ft_o, ev_ft_a, ev_nb_0, ev_nb_1, and_true, true_and, if_true, if_false, not_true_eq_false, not_false_eq_true, nI_1, ev_fG_0, ev_fG_1, ev_fG_2, ev_fG_3, ev_fG_4, ev_fG_5, ev_fG_6, ev_fG_7, ev_fG_8, ev_fS_0, ev_fS_1, ev_fS_2, ev_fS_3, ev_fS_4, ev_fS_5, ev_fS_6, ev_fS_7, ev_fS_8, ev_isO_0, ev_isO_1, ev_isO_2, ev_isO_3, ev_isO_4, ev_isO_5, ev_isO_6, ev_isO_7, ev_isO_8, ev_z0, ev_z1, ev_z2, eq_self, ev_ofN, show ¬ (1 : Int32) = 0 from by decide, show ¬ (2 : Int32) = 0 from by decide, show ¬ (2 : Int32) = 1 from by decide, show ¬ (0 : Int32) = 1 from by decide, show ¬ (0 : Int32) = 2 from by decide, show ¬ (1 : Int32) = 2 from by decide, show ¬ (0 : Int32) = -1 from by decide, show (0 : Int32) ≤ 1 from by decide, show (1 : Int32).toNatClampNeg = 1 from rfl, show (0 : Nat) < 2 from by omega, show (1 : Nat) < 2 from by omega, not_true_eq_false, ne_eq, not_false_eq_true, hk]
    exact c _ (n + 1) (q + 6) ⟨hc, fun _ _ _ _ => rfl, ⟨l0, s0, ho, fun _ z => by cases z⟩, fun a ha => hz a (by omega), by omega, by omega, by omega, by omega⟩
  · skip
    subst e
    have ek : k_text G (nI i) w = (2, 0, G) := by
      unfold k_text
      rw [if_neg (no_ix hi (by omega))]
      rw [if_pos hb]
    rw [ek] at c
    simp (disch := omega) only [t_L_text_0, t_L_text_1, t_L_text_2, t_L_text_3, t_L_text_4, t_L_text_7, t_L_text_10, t_L_text_15, t_L_text_16, t_L_text_19, t_L_text_20, t_L_text_21, t_L_text_22, x_L_text_4_0, x_L_text_4_1, ↓reduceIte, ev_k_i, ev_k_r, ev_k_l, ev_k_J, ev_k_n, ev_kr_1, ev_kr_0, ev_isK_y, ev_aG_y, ev_aS_y, ev_aN_y, ev_inA_0, ev_isA_0, ev_ft_I, ev_ft_0, ev_ft_1, ev_ft_o, ev_ft_a, ev_nb_0, ev_nb_1, and_true, true_and, if_true, if_false, not_true_eq_false, not_false_eq_true, nI_1, ev_fG_0, ev_fG_1, ev_fG_2, ev_fG_3, ev_fG_4, ev_fG_5, ev_fG_6, ev_fG_7, ev_fG_8, ev_fS_0, ev_fS_1, ev_fS_2, ev_fS_3, ev_fS_4, ev_fS_5, ev_fS_6, ev_fS_7, ev_fS_8, ev_isO_0, ev_isO_1, ev_isO_2, ev_isO_3, ev_isO_4, ev_isO_5, ev_isO_6, ev_isO_7, ev_isO_8, ev_z0, ev_z1, ev_z2, eq_self, ev_ofN, show ¬ (1 : Int32) = 0 from by decide, show ¬ (2 : Int32) = 0 from by decide, show ¬ (2 : Int32) = 1 from by decide, show ¬ (0 : Int32) = 1 from by decide, show ¬ (0 : Int32) = 2 from by decide, show ¬ (1 : Int32) = 2 from by decide, show ¬ (0 : Int32) = -1 from by decide, show (0 : Int32) ≤ 1 from by decide, show (1 : Int32).toNatClampNeg = 1 from rfl, show (0 : Nat) < 2 from by omega, show (1 : Nat) < 2 from by omega, not_true_eq_false, ne_eq, not_false_eq_true, hk]
    exact c _ (n + 1) (q + 6) ⟨hc, fun _ _ _ _ => rfl, ⟨l0, s0, ho, fun _ z => by cases z⟩, fun a ha => hz a (by omega), by omega, by omega, by omega, by omega⟩
  · skip
    subst e
    subst e2
    have ek : k_text G (nI i) (nI a) = (0, 0, G) := by
      unfold k_text
      rw [if_neg (no_ix hi (by omega))]
      rw [if_neg (no_ix ha (by omega))]
    rw [ek] at c
    have ho1 : H1 o = some (.inr (11, [.long l0, s0])) := (hf o (by omega)).trans ho
    simp (disch := omega) only [t_L_text_0, t_L_text_1, t_L_text_2, t_L_text_3, t_L_text_4, t_L_text_7, t_L_text_10, t_L_text_15, t_L_text_16, t_L_text_19, t_L_text_20, t_L_text_21, t_L_text_22, x_L_text_4_0, x_L_text_4_1, ↓reduceIte, ev_k_i, ev_k_r, ev_k_l, ev_k_J, ev_k_n, ev_kr_1, ev_kr_0, ev_isK_y, ev_aG_y, ev_aS_y, ev_aN_y, ev_inA_0, ev_isA_0, ev_ft_I, ev_ft_0, ev_ft_1, ev_ft_o, ev_ft_a, ev_nb_0, ev_nb_1, and_true, true_and, if_true, if_false, not_true_eq_false, not_false_eq_true, nI_1, ev_fG_0, ev_fG_1, ev_fG_2, ev_fG_3, ev_fG_4, ev_fG_5, ev_fG_6, ev_fG_7, ev_fG_8, ev_fS_0, ev_fS_1, ev_fS_2, ev_fS_3, ev_fS_4, ev_fS_5, ev_fS_6, ev_fS_7, ev_fS_8, ev_isO_0, ev_isO_1, ev_isO_2, ev_isO_3, ev_isO_4, ev_isO_5, ev_isO_6, ev_isO_7, ev_isO_8, ev_z0, ev_z1, ev_z2, eq_self, ev_ofN, show ¬ (1 : Int32) = 0 from by decide, show ¬ (2 : Int32) = 0 from by decide, show ¬ (2 : Int32) = 1 from by decide, show ¬ (0 : Int32) = 1 from by decide, show ¬ (0 : Int32) = 2 from by decide, show ¬ (1 : Int32) = 2 from by decide, show ¬ (0 : Int32) = -1 from by decide, show (0 : Int32) ≤ 1 from by decide, show (1 : Int32).toNatClampNeg = 1 from rfl, show (0 : Nat) < 2 from by omega, show (1 : Nat) < 2 from by omega, not_true_eq_false, ne_eq, not_false_eq_true, ev_lku_s, ev_lku_n, ev_up_s, ev_up_n, ho1, ev_ft_J, ev_ft_o, ev_ft_a]
    exact c _ n1 q1 ⟨c_cg hc (fun a ha hb => (ev_up_n (by omega)).trans (hf a (by omega))), fun a ha hao han => (ev_up_n hao).trans (hf a han), ⟨_, _, ev_up_s, fun z => by cases z⟩, fun a ha => (ev_up_n (by omega)).trans (hz1 a ha), by omega, by omega, by omega, by omega⟩
theorem LW_ask (hc : c_all x G H) (hG : okG G) (hxo : x + 57 ≤ o) (hon : o < n) (ho : ∃ l s, H o = some (.inr (11, [.long l, s]))) (hz : ∀ a, n ≤ a → H a = none) {k : Int32}
    (c : ∀ H1 n1 q1, lw_post true x o H n q (k_ask G k) H1 n1 q1 → P (.inl (some (.int (nI (k_ask G k).1)))) H1 n1 q1) : ev_ok (ev_TT X) 275 0 [.ref x, .int k, .ref o, ev_J] [] H n q P := by
  have hk := c_all_k (X := X) hc
  obtain ⟨l0, s0, ho⟩ := ho
  simp (disch := omega) only [t_L_ask_0, t_L_ask_1, t_L_ask_2, t_L_ask_3, t_L_ask_6, t_L_ask_7, t_L_ask_10, t_L_ask_14, t_L_ask_15, t_L_ask_17, t_L_ask_18, t_L_ask_19, t_L_ask_20, x_L_ask_3_1, x_L_ask_3_2, ↓reduceIte, ev_k_i, ev_k_r, ev_k_l, ev_k_J, ev_k_n, ev_kr_1, ev_kr_0, ev_isK_y, ev_aG_y, ev_aS_y, ev_aN_y, ev_inA_0, ev_isA_0, ev_ft_I, ev_ft_0, ev_ft_1, ev_ft_o, ev_ft_a, ev_nb_0, ev_nb_1, and_true, true_and, if_true, if_false, not_true_eq_false, not_false_eq_true, nI_1, ev_fG_0, ev_fG_1, ev_fG_2, ev_fG_3, ev_fG_4, ev_fG_5, ev_fG_6, ev_fG_7, ev_fG_8, ev_fS_0, ev_fS_1, ev_fS_2, ev_fS_3, ev_fS_4, ev_fS_5, ev_fS_6, ev_fS_7, ev_fS_8, ev_isO_0, ev_isO_1, ev_isO_2, ev_isO_3, ev_isO_4, ev_isO_5, ev_isO_6, ev_isO_7, ev_isO_8, ev_z0, ev_z1, ev_z2, eq_self, ev_ofN, show ¬ (1 : Int32) = 0 from by decide, show ¬ (2 : Int32) = 0 from by decide, show ¬ (2 : Int32) = 1 from by decide, show ¬ (0 : Int32) = 1 from by decide, show ¬ (0 : Int32) = 2 from by decide, show ¬ (1 : Int32) = 2 from by decide, show ¬ (0 : Int32) = -1 from by decide, show (0 : Int32) ≤ 1 from by decide, show (1 : Int32).toNatClampNeg = 1 from rfl, show (0 : Nat) < 2 from by omega, show (1 : Nat) < 2 from by omega, not_true_eq_false, ne_eq, not_false_eq_true, hk]
  refine C_ask hc hG (fun hb => ?_) (fun a ha e hb => ?_) (fun a ha e hb H1 hc1 hf1 => ?_)
  · skip
    have ek : k_ask G k = (1, 0, G) := by
      unfold k_ask
      rw [if_pos hb]
    rw [ek] at c
    simp (disch := omega) only [t_L_ask_0, t_L_ask_1, t_L_ask_2, t_L_ask_3, t_L_ask_6, t_L_ask_7, t_L_ask_10, t_L_ask_14, t_L_ask_15, t_L_ask_17, t_L_ask_18, t_L_ask_19, t_L_ask_20, x_L_ask_3_1, x_L_ask_3_2, ↓reduceIte, ev_k_i, ev_k_r, ev_k_l, ev_k_J, ev_k_n, ev_kr_1, ev_kr_0, ev_isK_y, ev_aG_y, ev_aS_y, ev_aN_y, ev_inA_0, ev_isA_0, ev_ft_I, ev_ft_0, ev_ft_1, ev_ft_o, ev_ft_a, ev_nb_0, ev_nb_1, and_true, true_and, if_true, if_false, not_true_eq_false, not_false_eq_true, nI_1, ev_fG_0, ev_fG_1, ev_fG_2, ev_fG_3, ev_fG_4, ev_fG_5, ev_fG_6, ev_fG_7, ev_fG_8, ev_fS_0, ev_fS_1, ev_fS_2, ev_fS_3, ev_fS_4, ev_fS_5, ev_fS_6, ev_fS_7, ev_fS_8, ev_isO_0, ev_isO_1, ev_isO_2, ev_isO_3, ev_isO_4, ev_isO_5, ev_isO_6, ev_isO_7, ev_isO_8, ev_z0, ev_z1, ev_z2, eq_self, ev_ofN, show ¬ (1 : Int32) = 0 from by decide, show ¬ (2 : Int32) = 0 from by decide, show ¬ (2 : Int32) = 1 from by decide, show ¬ (0 : Int32) = 1 from by decide, show ¬ (0 : Int32) = 2 from by decide, show ¬ (1 : Int32) = 2 from by decide, show ¬ (0 : Int32) = -1 from by decide, show (0 : Int32) ≤ 1 from by decide, show (1 : Int32).toNatClampNeg = 1 from rfl, show (0 : Nat) < 2 from by omega, show (1 : Nat) < 2 from by omega, not_true_eq_false, ne_eq, not_false_eq_true, hk]
    exact c _ (n + 1) (q + 6) ⟨hc, fun _ _ _ _ => rfl, ⟨l0, s0, ho, fun _ z => by cases z⟩, fun a ha => hz a (by omega), by omega, by omega, by omega, by omega⟩
  · skip
    subst e
    have ek : k_ask G (nI a) = (2, 0, G) := by
      unfold k_ask
      rw [if_neg (no_ix ha (by omega))]
      rw [if_pos hb]
    rw [ek] at c
    simp (disch := omega) only [t_L_ask_0, t_L_ask_1, t_L_ask_2, t_L_ask_3, t_L_ask_6, t_L_ask_7, t_L_ask_10, t_L_ask_14, t_L_ask_15, t_L_ask_17, t_L_ask_18, t_L_ask_19, t_L_ask_20, x_L_ask_3_1, x_L_ask_3_2, ↓reduceIte, ev_k_i, ev_k_r, ev_k_l, ev_k_J, ev_k_n, ev_kr_1, ev_kr_0, ev_isK_y, ev_aG_y, ev_aS_y, ev_aN_y, ev_inA_0, ev_isA_0, ev_ft_I, ev_ft_0, ev_ft_1, ev_ft_o, ev_ft_a, ev_nb_0, ev_nb_1, and_true, true_and, if_true, if_false, not_true_eq_false, not_false_eq_true, nI_1, ev_fG_0, ev_fG_1, ev_fG_2, ev_fG_3, ev_fG_4, ev_fG_5, ev_fG_6, ev_fG_7, ev_fG_8, ev_fS_0, ev_fS_1, ev_fS_2, ev_fS_3, ev_fS_4, ev_fS_5, ev_fS_6, ev_fS_7, ev_fS_8, ev_isO_0, ev_isO_1, ev_isO_2, ev_isO_3, ev_isO_4, ev_isO_5, ev_isO_6, ev_isO_7, ev_isO_8, ev_z0, ev_z1, ev_z2, eq_self, ev_ofN, show ¬ (1 : Int32) = 0 from by decide, show ¬ (2 : Int32) = 0 from by decide, show ¬ (2 : Int32) = 1 from by decide, show ¬ (0 : Int32) = 1 from by decide, show ¬ (0 : Int32) = 2 from by decide, show ¬ (1 : Int32) = 2 from by decide, show ¬ (0 : Int32) = -1 from by decide, show (0 : Int32) ≤ 1 from by decide, show (1 : Int32).toNatClampNeg = 1 from rfl, show (0 : Nat) < 2 from by omega, show (1 : Nat) < 2 from by omega, not_true_eq_false, ne_eq, not_false_eq_true, hk]
    exact c _ (n + 1) (q + 6) ⟨hc, fun _ _ _ _ => rfl, ⟨l0, s0, ho, fun _ z => by cases z⟩, fun a ha => hz a (by omega), by omega, by omega, by omega, by omega⟩
  · skip
    subst e
    have ek : k_ask G (nI a) = (0, (pk_hits G.2.2.1 (nI a) (nI G.2.2.2.1.2.2) 6 0 0), (pg_ask G (nI a))) := by
      unfold k_ask
      rw [if_neg (no_ix ha (by omega))]
      rw [if_neg (fun z => by omega)]
    rw [ek] at c
    have ho1 : H1 o = some (.inr (11, [.long l0, s0])) := (hf1 o (by omega)).trans ho
    simp (disch := omega) only [t_L_ask_0, t_L_ask_1, t_L_ask_2, t_L_ask_3, t_L_ask_6, t_L_ask_7, t_L_ask_10, t_L_ask_14, t_L_ask_15, t_L_ask_17, t_L_ask_18, t_L_ask_19, t_L_ask_20, x_L_ask_3_1, x_L_ask_3_2, ↓reduceIte, ev_k_i, ev_k_r, ev_k_l, ev_k_J, ev_k_n, ev_kr_1, ev_kr_0, ev_isK_y, ev_aG_y, ev_aS_y, ev_aN_y, ev_inA_0, ev_isA_0, ev_ft_I, ev_ft_0, ev_ft_1, ev_ft_o, ev_ft_a, ev_nb_0, ev_nb_1, and_true, true_and, if_true, if_false, not_true_eq_false, not_false_eq_true, nI_1, ev_fG_0, ev_fG_1, ev_fG_2, ev_fG_3, ev_fG_4, ev_fG_5, ev_fG_6, ev_fG_7, ev_fG_8, ev_fS_0, ev_fS_1, ev_fS_2, ev_fS_3, ev_fS_4, ev_fS_5, ev_fS_6, ev_fS_7, ev_fS_8, ev_isO_0, ev_isO_1, ev_isO_2, ev_isO_3, ev_isO_4, ev_isO_5, ev_isO_6, ev_isO_7, ev_isO_8, ev_z0, ev_z1, ev_z2, eq_self, ev_ofN, show ¬ (1 : Int32) = 0 from by decide, show ¬ (2 : Int32) = 0 from by decide, show ¬ (2 : Int32) = 1 from by decide, show ¬ (0 : Int32) = 1 from by decide, show ¬ (0 : Int32) = 2 from by decide, show ¬ (1 : Int32) = 2 from by decide, show ¬ (0 : Int32) = -1 from by decide, show (0 : Int32) ≤ 1 from by decide, show (1 : Int32).toNatClampNeg = 1 from rfl, show (0 : Nat) < 2 from by omega, show (1 : Nat) < 2 from by omega, not_true_eq_false, ne_eq, not_false_eq_true, ev_lku_s, ev_lku_n, ev_up_s, ev_up_n, ho1, ev_ft_J]
    exact c _ n q ⟨c_cg hc1 (fun a ha hb => ev_up_n (by omega)), fun a ha hao han => (ev_up_n hao).trans (hf1 a ha), ⟨_, s0, ev_up_s, fun _ _ => rfl⟩, fun a ha => (ev_up_n (by omega)).trans ((hf1 a (by omega)).trans (hz a ha)), by omega, by omega, by omega, by omega⟩
theorem LW_askRow (hc : c_all x G H) (hG : okG G) (hxo : x + 57 ≤ o) (hon : o < n) (ho : ∃ l s, H o = some (.inr (11, [.long l, s]))) (hz : ∀ a, n ≤ a → H a = none) {f st mn : Int32}
    (c : ∀ H1 n1 q1, lw_post true x o H n q (k_askRow G f st mn) H1 n1 q1 → P (.inl (some (.int (nI (k_askRow G f st mn).1)))) H1 n1 q1) : ev_ok (ev_TT X) 276 0 [.ref x, .int f, .int st, .int mn, .ref o, ev_J] [] H n q P := by
  have hk := c_all_k (X := X) hc
  obtain ⟨l0, s0, ho⟩ := ho
  simp (disch := omega) only [t_L_askRow_0, t_L_askRow_2, t_L_askRow_3, t_L_askRow_4, t_L_askRow_5, t_L_askRow_6, t_L_askRow_9, t_L_askRow_10, t_L_askRow_13, t_L_askRow_18, t_L_askRow_19, t_L_askRow_22, t_L_askRow_23, t_L_askRow_24, t_L_askRow_25, x_L_askRow_6_1, x_L_askRow_6_2, ↓reduceIte, ev_k_i, ev_k_r, ev_k_l, ev_k_J, ev_k_n, ev_kr_1, ev_kr_0, ev_isK_y, ev_aG_y, ev_aS_y, ev_aN_y, ev_inA_0, ev_isA_0, ev_ft_I, ev_ft_0, ev_ft_1, ev_ft_o, ev_ft_a, ev_nb_0, ev_nb_1, and_true, true_and, if_true, if_false, not_true_eq_false, not_false_eq_true, nI_1, ev_fG_0, ev_fG_1, ev_fG_2, ev_fG_3, ev_fG_4, ev_fG_5, ev_fG_6, ev_fG_7, ev_fG_8, ev_fS_0, ev_fS_1, ev_fS_2, ev_fS_3, ev_fS_4, ev_fS_5, ev_fS_6, ev_fS_7, ev_fS_8, ev_isO_0, ev_isO_1, ev_isO_2, ev_isO_3, ev_isO_4, ev_isO_5, ev_isO_6, ev_isO_7, ev_isO_8, ev_z0, ev_z1, ev_z2, eq_self, ev_ofN, show ¬ (1 : Int32) = 0 from by decide, show ¬ (2 : Int32) = 0 from by decide, show ¬ (2 : Int32) = 1 from by decide, show ¬ (0 : Int32) = 1 from by decide, show ¬ (0 : Int32) = 2 from by decide, show ¬ (1 : Int32) = 2 from by decide, show ¬ (0 : Int32) = -1 from by decide, show (0 : Int32) ≤ 1 from by decide, show (1 : Int32).toNatClampNeg = 1 from rfl, show (0 : Nat) < 2 from by omega, show (1 : Nat) < 2 from by omega, not_true_eq_false, ne_eq, not_false_eq_true, hk]
  refine C_askRow hc hG (fun hb => ?_) (fun a b d ha e hb e2 hd e3 hle => ?_) (fun a b d ha e hb e2 hd e3 hle H1 hc1 hf1 => ?_)
  · skip
    have ek : k_askRow G f st mn = (1, 0, G) := by
      unfold k_askRow
      rw [if_pos hb]
    rw [ek] at c
    simp (disch := omega) only [t_L_askRow_0, t_L_askRow_2, t_L_askRow_3, t_L_askRow_4, t_L_askRow_5, t_L_askRow_6, t_L_askRow_9, t_L_askRow_10, t_L_askRow_13, t_L_askRow_18, t_L_askRow_19, t_L_askRow_22, t_L_askRow_23, t_L_askRow_24, t_L_askRow_25, x_L_askRow_6_1, x_L_askRow_6_2, ↓reduceIte, ev_k_i, ev_k_r, ev_k_l, ev_k_J, ev_k_n, ev_kr_1, ev_kr_0, ev_isK_y, ev_aG_y, ev_aS_y, ev_aN_y, ev_inA_0, ev_isA_0, ev_ft_I, ev_ft_0, ev_ft_1, ev_ft_o, ev_ft_a, ev_nb_0, ev_nb_1, and_true, true_and, if_true, if_false, not_true_eq_false, not_false_eq_true, nI_1, ev_fG_0, ev_fG_1, ev_fG_2, ev_fG_3, ev_fG_4, ev_fG_5, ev_fG_6, ev_fG_7, ev_fG_8, ev_fS_0, ev_fS_1, ev_fS_2, ev_fS_3, ev_fS_4, ev_fS_5, ev_fS_6, ev_fS_7, ev_fS_8, ev_isO_0, ev_isO_1, ev_isO_2, ev_isO_3, ev_isO_4, ev_isO_5, ev_isO_6, ev_isO_7, ev_isO_8, ev_z0, ev_z1, ev_z2, eq_self, ev_ofN, show ¬ (1 : Int32) = 0 from by decide, show ¬ (2 : Int32) = 0 from by decide, show ¬ (2 : Int32) = 1 from by decide, show ¬ (0 : Int32) = 1 from by decide, show ¬ (0 : Int32) = 2 from by decide, show ¬ (1 : Int32) = 2 from by decide, show ¬ (0 : Int32) = -1 from by decide, show (0 : Int32) ≤ 1 from by decide, show (1 : Int32).toNatClampNeg = 1 from rfl, show (0 : Nat) < 2 from by omega, show (1 : Nat) < 2 from by omega, not_true_eq_false, ne_eq, not_false_eq_true, hk]
    exact c _ (n + 1) (q + 6) ⟨hc, fun _ _ _ _ => rfl, ⟨l0, s0, ho, fun _ z => by cases z⟩, fun a ha => hz a (by omega), by omega, by omega, by omega, by omega⟩
  · skip
    subst e
    subst e2
    subst e3
    have ek : k_askRow G (nI a) (nI b) (nI (d + 1)) = (2, 0, G) := by
      unfold k_askRow
      rw [nI_clamp (n := a) (by omega)]
      rw [nI_clamp (n := b) (by omega)]
      rw [nI_clamp (n := d + 1) (by omega)]
      rw [if_neg (fun z => z.elim (no_ix ha (by omega)) (fun z => z.elim (no_ix hb (by omega)) (no_mn hd)))]
      rw [if_pos hle]
    rw [ek] at c
    simp (disch := omega) only [t_L_askRow_0, t_L_askRow_2, t_L_askRow_3, t_L_askRow_4, t_L_askRow_5, t_L_askRow_6, t_L_askRow_9, t_L_askRow_10, t_L_askRow_13, t_L_askRow_18, t_L_askRow_19, t_L_askRow_22, t_L_askRow_23, t_L_askRow_24, t_L_askRow_25, x_L_askRow_6_1, x_L_askRow_6_2, ↓reduceIte, ev_k_i, ev_k_r, ev_k_l, ev_k_J, ev_k_n, ev_kr_1, ev_kr_0, ev_isK_y, ev_aG_y, ev_aS_y, ev_aN_y, ev_inA_0, ev_isA_0, ev_ft_I, ev_ft_0, ev_ft_1, ev_ft_o, ev_ft_a, ev_nb_0, ev_nb_1, and_true, true_and, if_true, if_false, not_true_eq_false, not_false_eq_true, nI_1, ev_fG_0, ev_fG_1, ev_fG_2, ev_fG_3, ev_fG_4, ev_fG_5, ev_fG_6, ev_fG_7, ev_fG_8, ev_fS_0, ev_fS_1, ev_fS_2, ev_fS_3, ev_fS_4, ev_fS_5, ev_fS_6, ev_fS_7, ev_fS_8, ev_isO_0, ev_isO_1, ev_isO_2, ev_isO_3, ev_isO_4, ev_isO_5, ev_isO_6, ev_isO_7, ev_isO_8, ev_z0, ev_z1, ev_z2, eq_self, ev_ofN, show ¬ (1 : Int32) = 0 from by decide, show ¬ (2 : Int32) = 0 from by decide, show ¬ (2 : Int32) = 1 from by decide, show ¬ (0 : Int32) = 1 from by decide, show ¬ (0 : Int32) = 2 from by decide, show ¬ (1 : Int32) = 2 from by decide, show ¬ (0 : Int32) = -1 from by decide, show (0 : Int32) ≤ 1 from by decide, show (1 : Int32).toNatClampNeg = 1 from rfl, show (0 : Nat) < 2 from by omega, show (1 : Nat) < 2 from by omega, not_true_eq_false, ne_eq, not_false_eq_true, hk]
    exact c _ (n + 1) (q + 6) ⟨hc, fun _ _ _ _ => rfl, ⟨l0, s0, ho, fun _ z => by cases z⟩, fun a ha => hz a (by omega), by omega, by omega, by omega, by omega⟩
  · skip
    subst e
    subst e2
    subst e3
    have ek : k_askRow G (nI a) (nI b) (nI (d + 1)) = (0, (pk_rowh a b (d + 1) 0 G 0), (pg_rowd a b (d + 1) 0 G)) := by
      unfold k_askRow
      rw [nI_clamp (n := a) (by omega)]
      rw [nI_clamp (n := b) (by omega)]
      rw [nI_clamp (n := d + 1) (by omega)]
      rw [if_neg (fun z => z.elim (no_ix ha (by omega)) (fun z => z.elim (no_ix hb (by omega)) (no_mn hd)))]
      rw [if_neg (fun z => by omega)]
    rw [ek] at c
    have ho1 : H1 o = some (.inr (11, [.long l0, s0])) := (hf1 o (by omega)).trans ho
    simp (disch := omega) only [t_L_askRow_0, t_L_askRow_2, t_L_askRow_3, t_L_askRow_4, t_L_askRow_5, t_L_askRow_6, t_L_askRow_9, t_L_askRow_10, t_L_askRow_13, t_L_askRow_18, t_L_askRow_19, t_L_askRow_22, t_L_askRow_23, t_L_askRow_24, t_L_askRow_25, x_L_askRow_6_1, x_L_askRow_6_2, ↓reduceIte, ev_k_i, ev_k_r, ev_k_l, ev_k_J, ev_k_n, ev_kr_1, ev_kr_0, ev_isK_y, ev_aG_y, ev_aS_y, ev_aN_y, ev_inA_0, ev_isA_0, ev_ft_I, ev_ft_0, ev_ft_1, ev_ft_o, ev_ft_a, ev_nb_0, ev_nb_1, and_true, true_and, if_true, if_false, not_true_eq_false, not_false_eq_true, nI_1, ev_fG_0, ev_fG_1, ev_fG_2, ev_fG_3, ev_fG_4, ev_fG_5, ev_fG_6, ev_fG_7, ev_fG_8, ev_fS_0, ev_fS_1, ev_fS_2, ev_fS_3, ev_fS_4, ev_fS_5, ev_fS_6, ev_fS_7, ev_fS_8, ev_isO_0, ev_isO_1, ev_isO_2, ev_isO_3, ev_isO_4, ev_isO_5, ev_isO_6, ev_isO_7, ev_isO_8, ev_z0, ev_z1, ev_z2, eq_self, ev_ofN, show ¬ (1 : Int32) = 0 from by decide, show ¬ (2 : Int32) = 0 from by decide, show ¬ (2 : Int32) = 1 from by decide, show ¬ (0 : Int32) = 1 from by decide, show ¬ (0 : Int32) = 2 from by decide, show ¬ (1 : Int32) = 2 from by decide, show ¬ (0 : Int32) = -1 from by decide, show (0 : Int32) ≤ 1 from by decide, show (1 : Int32).toNatClampNeg = 1 from rfl, show (0 : Nat) < 2 from by omega, show (1 : Nat) < 2 from by omega, not_true_eq_false, ne_eq, not_false_eq_true, ev_lku_s, ev_lku_n, ev_up_s, ev_up_n, ho1, ev_ft_J]
    exact c _ n q ⟨c_cg hc1 (fun a ha hb => ev_up_n (by omega)), fun a ha hao han => (ev_up_n hao).trans (hf1 a ha), ⟨_, s0, ev_up_s, fun _ _ => rfl⟩, fun a ha => (ev_up_n (by omega)).trans ((hf1 a (by omega)).trans (hz a ha)), by omega, by omega, by omega, by omega⟩
theorem LW_depth (hc : c_all x G H) (hG : okG G) (hxo : x + 57 ≤ o) (hon : o < n) (ho : ∃ l s, H o = some (.inr (11, [.long l, s]))) (hz : ∀ a, n ≤ a → H a = none) {k : Int32}
    (c : ∀ H1 n1 q1, lw_post true x o H n q (k_depth G k) H1 n1 q1 → P (.inl (some (.int (nI (k_depth G k).1)))) H1 n1 q1) : ev_ok (ev_TT X) 180 0 [.ref x, .int k, .ref o, ev_J] [] H n q P := by
  have hk := c_all_k (X := X) hc
  obtain ⟨l0, s0, ho⟩ := ho
  simp (disch := omega) only [t_L_depth_0, t_L_depth_1, t_L_depth_2, t_L_depth_3, t_L_depth_6, t_L_depth_7, t_L_depth_10, t_L_depth_14, t_L_depth_15, t_L_depth_16, t_L_depth_17, x_L_depth_3_1, ↓reduceIte, ev_k_i, ev_k_r, ev_k_l, ev_k_J, ev_k_n, ev_kr_1, ev_kr_0, ev_isK_y, ev_aG_y, ev_aS_y, ev_aN_y, ev_inA_0, ev_isA_0, ev_ft_I, ev_ft_0, ev_ft_1, ev_ft_o, ev_ft_a, ev_nb_0, ev_nb_1, and_true, true_and, if_true, if_false, not_true_eq_false, not_false_eq_true, nI_1, ev_fG_0, ev_fG_1, ev_fG_2, ev_fG_3, ev_fG_4, ev_fG_5, ev_fG_6, ev_fG_7, ev_fG_8, ev_fS_0, ev_fS_1, ev_fS_2, ev_fS_3, ev_fS_4, ev_fS_5, ev_fS_6, ev_fS_7, ev_fS_8, ev_isO_0, ev_isO_1, ev_isO_2, ev_isO_3, ev_isO_4, ev_isO_5, ev_isO_6, ev_isO_7, ev_isO_8, ev_z0, ev_z1, ev_z2, eq_self, ev_ofN, show ¬ (1 : Int32) = 0 from by decide, show ¬ (2 : Int32) = 0 from by decide, show ¬ (2 : Int32) = 1 from by decide, show ¬ (0 : Int32) = 1 from by decide, show ¬ (0 : Int32) = 2 from by decide, show ¬ (1 : Int32) = 2 from by decide, show ¬ (0 : Int32) = -1 from by decide, show (0 : Int32) ≤ 1 from by decide, show (1 : Int32).toNatClampNeg = 1 from rfl, show (0 : Nat) < 2 from by omega, show (1 : Nat) < 2 from by omega, not_true_eq_false, ne_eq, not_false_eq_true, hk]
  refine C_depth hc hG (fun hb => ?_) (fun a ha e => ?_)
  · skip
    have ek : k_depth G k = (1, 0, G) := by
      unfold k_depth
      rw [if_pos hb]
    rw [ek] at c
    simp (disch := omega) only [t_L_depth_0, t_L_depth_1, t_L_depth_2, t_L_depth_3, t_L_depth_6, t_L_depth_7, t_L_depth_10, t_L_depth_14, t_L_depth_15, t_L_depth_16, t_L_depth_17, x_L_depth_3_1, ↓reduceIte, ev_k_i, ev_k_r, ev_k_l, ev_k_J, ev_k_n, ev_kr_1, ev_kr_0, ev_isK_y, ev_aG_y, ev_aS_y, ev_aN_y, ev_inA_0, ev_isA_0, ev_ft_I, ev_ft_0, ev_ft_1, ev_ft_o, ev_ft_a, ev_nb_0, ev_nb_1, and_true, true_and, if_true, if_false, not_true_eq_false, not_false_eq_true, nI_1, ev_fG_0, ev_fG_1, ev_fG_2, ev_fG_3, ev_fG_4, ev_fG_5, ev_fG_6, ev_fG_7, ev_fG_8, ev_fS_0, ev_fS_1, ev_fS_2, ev_fS_3, ev_fS_4, ev_fS_5, ev_fS_6, ev_fS_7, ev_fS_8, ev_isO_0, ev_isO_1, ev_isO_2, ev_isO_3, ev_isO_4, ev_isO_5, ev_isO_6, ev_isO_7, ev_isO_8, ev_z0, ev_z1, ev_z2, eq_self, ev_ofN, show ¬ (1 : Int32) = 0 from by decide, show ¬ (2 : Int32) = 0 from by decide, show ¬ (2 : Int32) = 1 from by decide, show ¬ (0 : Int32) = 1 from by decide, show ¬ (0 : Int32) = 2 from by decide, show ¬ (1 : Int32) = 2 from by decide, show ¬ (0 : Int32) = -1 from by decide, show (0 : Int32) ≤ 1 from by decide, show (1 : Int32).toNatClampNeg = 1 from rfl, show (0 : Nat) < 2 from by omega, show (1 : Nat) < 2 from by omega, not_true_eq_false, ne_eq, not_false_eq_true, hk]
    exact c _ (n + 1) (q + 6) ⟨hc, fun _ _ _ _ => rfl, ⟨l0, s0, ho, fun _ z => by cases z⟩, fun a ha => hz a (by omega), by omega, by omega, by omega, by omega⟩
  · skip
    subst e
    have ek : k_depth G (nI a) = (0, (pd_depth G.2.1.1 (nI a)), G) := by
      unfold k_depth
      rw [if_neg (no_ix ha (by omega))]
    rw [ek] at c
    have ho1 := ho
    simp (disch := omega) only [t_L_depth_0, t_L_depth_1, t_L_depth_2, t_L_depth_3, t_L_depth_6, t_L_depth_7, t_L_depth_10, t_L_depth_14, t_L_depth_15, t_L_depth_16, t_L_depth_17, x_L_depth_3_1, ↓reduceIte, ev_k_i, ev_k_r, ev_k_l, ev_k_J, ev_k_n, ev_kr_1, ev_kr_0, ev_isK_y, ev_aG_y, ev_aS_y, ev_aN_y, ev_inA_0, ev_isA_0, ev_ft_I, ev_ft_0, ev_ft_1, ev_ft_o, ev_ft_a, ev_nb_0, ev_nb_1, and_true, true_and, if_true, if_false, not_true_eq_false, not_false_eq_true, nI_1, ev_fG_0, ev_fG_1, ev_fG_2, ev_fG_3, ev_fG_4, ev_fG_5, ev_fG_6, ev_fG_7, ev_fG_8, ev_fS_0, ev_fS_1, ev_fS_2, ev_fS_3, ev_fS_4, ev_fS_5, ev_fS_6, ev_fS_7, ev_fS_8, ev_isO_0, ev_isO_1, ev_isO_2, ev_isO_3, ev_isO_4, ev_isO_5, ev_isO_6, ev_isO_7, ev_isO_8, ev_z0, ev_z1, ev_z2, eq_self, ev_ofN, show ¬ (1 : Int32) = 0 from by decide, show ¬ (2 : Int32) = 0 from by decide, show ¬ (2 : Int32) = 1 from by decide, show ¬ (0 : Int32) = 1 from by decide, show ¬ (0 : Int32) = 2 from by decide, show ¬ (1 : Int32) = 2 from by decide, show ¬ (0 : Int32) = -1 from by decide, show (0 : Int32) ≤ 1 from by decide, show (1 : Int32).toNatClampNeg = 1 from rfl, show (0 : Nat) < 2 from by omega, show (1 : Nat) < 2 from by omega, not_true_eq_false, ne_eq, not_false_eq_true, ev_lku_s, ev_lku_n, ev_up_s, ev_up_n, ho1, ev_ft_J]
    exact c _ n q ⟨c_cg hc (fun a ha hb => ev_up_n (by omega)), fun a ha hao han => (ev_up_n hao), ⟨_, s0, ev_up_s, fun _ _ => rfl⟩, fun a ha => (ev_up_n (by omega)).trans (hz a ha), by omega, by omega, by omega, by omega⟩
theorem LW_kept (hc : c_all x G H) (hG : okG G) (hD : ev_DG X) (hxs : X.1.heap.size ≤ x) (hw0 : ev_low X H) (hxo : x + 57 ≤ o) (hon : o < n) (ho : ∃ l s, H o = some (.inr (11, [.long l, s]))) (hz : ∀ a, n ≤ a → H a = none) {s : Int32}
    (c : ∀ H1 n1 q1, lw_post false x o H n q (k_kept G s) H1 n1 q1 → P (.inl (some (.int (nI (k_kept G s).1)))) H1 n1 q1) : ev_ok (ev_TT X) 304 0 [.ref x, .int s, .ref o, ev_J] [] H n q P := by
  have hk := c_all_k (X := X) hc
  obtain ⟨l0, s0, ho⟩ := ho
  simp (disch := omega) only [t_L_kept_0, t_L_kept_1, t_L_kept_2, t_L_kept_3, t_L_kept_6, t_L_kept_9, t_L_kept_13, t_L_kept_14, t_L_kept_15, t_L_kept_16, x_L_kept_3_1, ↓reduceIte, ev_k_i, ev_k_r, ev_k_l, ev_k_J, ev_k_n, ev_kr_1, ev_kr_0, ev_isK_y, ev_aG_y, ev_aS_y, ev_aN_y, ev_inA_0, ev_isA_0, ev_ft_I, ev_ft_0, ev_ft_1, ev_ft_o, ev_ft_a, ev_nb_0, ev_nb_1, and_true, true_and, if_true, if_false, not_true_eq_false, not_false_eq_true, nI_1, ev_fG_0, ev_fG_1, ev_fG_2, ev_fG_3, ev_fG_4, ev_fG_5, ev_fG_6, ev_fG_7, ev_fG_8, ev_fS_0, ev_fS_1, ev_fS_2, ev_fS_3, ev_fS_4, ev_fS_5, ev_fS_6, ev_fS_7, ev_fS_8, ev_isO_0, ev_isO_1, ev_isO_2, ev_isO_3, ev_isO_4, ev_isO_5, ev_isO_6, ev_isO_7, ev_isO_8, ev_z0, ev_z1, ev_z2, eq_self, ev_ofN, show ¬ (1 : Int32) = 0 from by decide, show ¬ (2 : Int32) = 0 from by decide, show ¬ (2 : Int32) = 1 from by decide, show ¬ (0 : Int32) = 1 from by decide, show ¬ (0 : Int32) = 2 from by decide, show ¬ (1 : Int32) = 2 from by decide, show ¬ (0 : Int32) = -1 from by decide, show (0 : Int32) ≤ 1 from by decide, show (1 : Int32).toNatClampNeg = 1 from rfl, show (0 : Nat) < 2 from by omega, show (1 : Nat) < 2 from by omega, not_true_eq_false, ne_eq, not_false_eq_true, hk]
  refine C_kept hc hG hD hxs hw0 (by omega) hz (fun hb => ?_) (fun j hj e H1 s k n1 q1 hSt g1 g2 g3 hf hz1 g4 g5 g6 g7 => ?_)
  · skip
    have ek : k_kept G s = (1, 0, G) := by
      unfold k_kept
      rw [if_pos hb]
    rw [ek] at c
    simp (disch := omega) only [t_L_kept_0, t_L_kept_1, t_L_kept_2, t_L_kept_3, t_L_kept_6, t_L_kept_9, t_L_kept_13, t_L_kept_14, t_L_kept_15, t_L_kept_16, x_L_kept_3_1, ↓reduceIte, ev_k_i, ev_k_r, ev_k_l, ev_k_J, ev_k_n, ev_kr_1, ev_kr_0, ev_isK_y, ev_aG_y, ev_aS_y, ev_aN_y, ev_inA_0, ev_isA_0, ev_ft_I, ev_ft_0, ev_ft_1, ev_ft_o, ev_ft_a, ev_nb_0, ev_nb_1, and_true, true_and, if_true, if_false, not_true_eq_false, not_false_eq_true, nI_1, ev_fG_0, ev_fG_1, ev_fG_2, ev_fG_3, ev_fG_4, ev_fG_5, ev_fG_6, ev_fG_7, ev_fG_8, ev_fS_0, ev_fS_1, ev_fS_2, ev_fS_3, ev_fS_4, ev_fS_5, ev_fS_6, ev_fS_7, ev_fS_8, ev_isO_0, ev_isO_1, ev_isO_2, ev_isO_3, ev_isO_4, ev_isO_5, ev_isO_6, ev_isO_7, ev_isO_8, ev_z0, ev_z1, ev_z2, eq_self, ev_ofN, show ¬ (1 : Int32) = 0 from by decide, show ¬ (2 : Int32) = 0 from by decide, show ¬ (2 : Int32) = 1 from by decide, show ¬ (0 : Int32) = 1 from by decide, show ¬ (0 : Int32) = 2 from by decide, show ¬ (1 : Int32) = 2 from by decide, show ¬ (0 : Int32) = -1 from by decide, show (0 : Int32) ≤ 1 from by decide, show (1 : Int32).toNatClampNeg = 1 from rfl, show (0 : Nat) < 2 from by omega, show (1 : Nat) < 2 from by omega, not_true_eq_false, ne_eq, not_false_eq_true, hk]
    exact c _ (n + 1) (q + 6) ⟨hc, fun _ _ _ _ => rfl, ⟨l0, s0, ho, fun _ z => by cases z⟩, fun a ha => hz a (by omega), by omega, by omega, by omega, by omega⟩
  · skip
    subst e
    have ek : k_kept G (nI (j + 1)) = (0, 0, G) := by
      unfold k_kept
      rw [if_neg (no_sz hj)]
    rw [ek] at c
    have ho1 : H1 o = some (.inr (11, [.long l0, s0])) := (hf o (by omega)).trans ho
    simp (disch := omega) only [t_L_kept_0, t_L_kept_1, t_L_kept_2, t_L_kept_3, t_L_kept_6, t_L_kept_9, t_L_kept_13, t_L_kept_14, t_L_kept_15, t_L_kept_16, x_L_kept_3_1, ↓reduceIte, ev_k_i, ev_k_r, ev_k_l, ev_k_J, ev_k_n, ev_kr_1, ev_kr_0, ev_isK_y, ev_aG_y, ev_aS_y, ev_aN_y, ev_inA_0, ev_isA_0, ev_ft_I, ev_ft_0, ev_ft_1, ev_ft_o, ev_ft_a, ev_nb_0, ev_nb_1, and_true, true_and, if_true, if_false, not_true_eq_false, not_false_eq_true, nI_1, ev_fG_0, ev_fG_1, ev_fG_2, ev_fG_3, ev_fG_4, ev_fG_5, ev_fG_6, ev_fG_7, ev_fG_8, ev_fS_0, ev_fS_1, ev_fS_2, ev_fS_3, ev_fS_4, ev_fS_5, ev_fS_6, ev_fS_7, ev_fS_8, ev_isO_0, ev_isO_1, ev_isO_2, ev_isO_3, ev_isO_4, ev_isO_5, ev_isO_6, ev_isO_7, ev_isO_8, ev_z0, ev_z1, ev_z2, eq_self, ev_ofN, show ¬ (1 : Int32) = 0 from by decide, show ¬ (2 : Int32) = 0 from by decide, show ¬ (2 : Int32) = 1 from by decide, show ¬ (0 : Int32) = 1 from by decide, show ¬ (0 : Int32) = 2 from by decide, show ¬ (1 : Int32) = 2 from by decide, show ¬ (0 : Int32) = -1 from by decide, show (0 : Int32) ≤ 1 from by decide, show (1 : Int32).toNatClampNeg = 1 from rfl, show (0 : Nat) < 2 from by omega, show (1 : Nat) < 2 from by omega, not_true_eq_false, ne_eq, not_false_eq_true, ev_lku_s, ev_lku_n, ev_up_s, ev_up_n, ho1, ev_ft_J, ev_ft_o, ev_ft_a]
    exact c _ n1 q1 ⟨c_cg hc (fun a ha hb => (ev_up_n (by omega)).trans (hf a (by omega))), fun a ha hao han => (ev_up_n hao).trans (hf a han), ⟨_, _, ev_up_s, fun z => by cases z⟩, fun a ha => (ev_up_n (by omega)).trans (hz1 a ha), by omega, by omega, by omega, by omega⟩
theorem LW_keeps (hc : c_all x G H) (hG : okG G) (hxo : x + 57 ≤ o) (hon : o < n) (ho : ∃ l s, H o = some (.inr (11, [.long l, s]))) (hz : ∀ a, n ≤ a → H a = none) {s k : Int32}
    (c : ∀ H1 n1 q1, lw_post true x o H n q (k_keeps G s k) H1 n1 q1 → P (.inl (some (.int (nI (k_keeps G s k).1)))) H1 n1 q1) : ev_ok (ev_TT X) 184 0 [.ref x, .int s, .int k, .ref o, ev_J] [] H n q P := by
  have hk := c_all_k (X := X) hc
  obtain ⟨l0, s0, ho⟩ := ho
  simp (disch := omega) only [t_L_keeps_0, t_L_keeps_1, t_L_keeps_2, t_L_keeps_3, t_L_keeps_4, t_L_keeps_7, t_L_keeps_10, t_L_keeps_11, t_L_keeps_14, t_L_keeps_15, t_L_keeps_18, t_L_keeps_23, t_L_keeps_24, t_L_keeps_25, t_L_keeps_26, x_L_keeps_4_1, ↓reduceIte, ev_k_i, ev_k_r, ev_k_l, ev_k_J, ev_k_n, ev_kr_1, ev_kr_0, ev_isK_y, ev_aG_y, ev_aS_y, ev_aN_y, ev_inA_0, ev_isA_0, ev_ft_I, ev_ft_0, ev_ft_1, ev_ft_o, ev_ft_a, ev_nb_0, ev_nb_1, and_true, true_and, if_true, if_false, not_true_eq_false, not_false_eq_true, nI_1, ev_fG_0, ev_fG_1, ev_fG_2, ev_fG_3, ev_fG_4, ev_fG_5, ev_fG_6, ev_fG_7, ev_fG_8, ev_fS_0, ev_fS_1, ev_fS_2, ev_fS_3, ev_fS_4, ev_fS_5, ev_fS_6, ev_fS_7, ev_fS_8, ev_isO_0, ev_isO_1, ev_isO_2, ev_isO_3, ev_isO_4, ev_isO_5, ev_isO_6, ev_isO_7, ev_isO_8, ev_z0, ev_z1, ev_z2, eq_self, ev_ofN, show ¬ (1 : Int32) = 0 from by decide, show ¬ (2 : Int32) = 0 from by decide, show ¬ (2 : Int32) = 1 from by decide, show ¬ (0 : Int32) = 1 from by decide, show ¬ (0 : Int32) = 2 from by decide, show ¬ (1 : Int32) = 2 from by decide, show ¬ (0 : Int32) = -1 from by decide, show (0 : Int32) ≤ 1 from by decide, show (1 : Int32).toNatClampNeg = 1 from rfl, show (0 : Nat) < 2 from by omega, show (1 : Nat) < 2 from by omega, not_true_eq_false, ne_eq, not_false_eq_true, hk]
  refine C_keeps hc hG (fun hb => ?_) (fun j hj e hb => ?_) (fun j a hj e ha e2 => ?_)
  · skip
    have ek : k_keeps G s k = (1, 0, G) := by
      unfold k_keeps
      rw [if_pos hb]
    rw [ek] at c
    simp (disch := omega) only [t_L_keeps_0, t_L_keeps_1, t_L_keeps_2, t_L_keeps_3, t_L_keeps_4, t_L_keeps_7, t_L_keeps_10, t_L_keeps_11, t_L_keeps_14, t_L_keeps_15, t_L_keeps_18, t_L_keeps_23, t_L_keeps_24, t_L_keeps_25, t_L_keeps_26, x_L_keeps_4_1, ↓reduceIte, ev_k_i, ev_k_r, ev_k_l, ev_k_J, ev_k_n, ev_kr_1, ev_kr_0, ev_isK_y, ev_aG_y, ev_aS_y, ev_aN_y, ev_inA_0, ev_isA_0, ev_ft_I, ev_ft_0, ev_ft_1, ev_ft_o, ev_ft_a, ev_nb_0, ev_nb_1, and_true, true_and, if_true, if_false, not_true_eq_false, not_false_eq_true, nI_1, ev_fG_0, ev_fG_1, ev_fG_2, ev_fG_3, ev_fG_4, ev_fG_5, ev_fG_6, ev_fG_7, ev_fG_8, ev_fS_0, ev_fS_1, ev_fS_2, ev_fS_3, ev_fS_4, ev_fS_5, ev_fS_6, ev_fS_7, ev_fS_8, ev_isO_0, ev_isO_1, ev_isO_2, ev_isO_3, ev_isO_4, ev_isO_5, ev_isO_6, ev_isO_7, ev_isO_8, ev_z0, ev_z1, ev_z2, eq_self, ev_ofN, show ¬ (1 : Int32) = 0 from by decide, show ¬ (2 : Int32) = 0 from by decide, show ¬ (2 : Int32) = 1 from by decide, show ¬ (0 : Int32) = 1 from by decide, show ¬ (0 : Int32) = 2 from by decide, show ¬ (1 : Int32) = 2 from by decide, show ¬ (0 : Int32) = -1 from by decide, show (0 : Int32) ≤ 1 from by decide, show (1 : Int32).toNatClampNeg = 1 from rfl, show (0 : Nat) < 2 from by omega, show (1 : Nat) < 2 from by omega, not_true_eq_false, ne_eq, not_false_eq_true, hk]
    exact c _ (n + 1) (q + 6) ⟨hc, fun _ _ _ _ => rfl, ⟨l0, s0, ho, fun _ z => by cases z⟩, fun a ha => hz a (by omega), by omega, by omega, by omega, by omega⟩
  · skip
    subst e
    have ek : k_keeps G (nI (j + 1)) k = (1, 0, G) := by
      unfold k_keeps
      rw [nI_clamp (n := j + 1) (by omega)]
      rw [Nat.add_sub_cancel]
      rw [if_neg (no_sz hj)]
      rw [if_pos hb]
    rw [ek] at c
    simp (disch := omega) only [t_L_keeps_0, t_L_keeps_1, t_L_keeps_2, t_L_keeps_3, t_L_keeps_4, t_L_keeps_7, t_L_keeps_10, t_L_keeps_11, t_L_keeps_14, t_L_keeps_15, t_L_keeps_18, t_L_keeps_23, t_L_keeps_24, t_L_keeps_25, t_L_keeps_26, x_L_keeps_4_1, ↓reduceIte, ev_k_i, ev_k_r, ev_k_l, ev_k_J, ev_k_n, ev_kr_1, ev_kr_0, ev_isK_y, ev_aG_y, ev_aS_y, ev_aN_y, ev_inA_0, ev_isA_0, ev_ft_I, ev_ft_0, ev_ft_1, ev_ft_o, ev_ft_a, ev_nb_0, ev_nb_1, and_true, true_and, if_true, if_false, not_true_eq_false, not_false_eq_true, nI_1, ev_fG_0, ev_fG_1, ev_fG_2, ev_fG_3, ev_fG_4, ev_fG_5, ev_fG_6, ev_fG_7, ev_fG_8, ev_fS_0, ev_fS_1, ev_fS_2, ev_fS_3, ev_fS_4, ev_fS_5, ev_fS_6, ev_fS_7, ev_fS_8, ev_isO_0, ev_isO_1, ev_isO_2, ev_isO_3, ev_isO_4, ev_isO_5, ev_isO_6, ev_isO_7, ev_isO_8, ev_z0, ev_z1, ev_z2, eq_self, ev_ofN, show ¬ (1 : Int32) = 0 from by decide, show ¬ (2 : Int32) = 0 from by decide, show ¬ (2 : Int32) = 1 from by decide, show ¬ (0 : Int32) = 1 from by decide, show ¬ (0 : Int32) = 2 from by decide, show ¬ (1 : Int32) = 2 from by decide, show ¬ (0 : Int32) = -1 from by decide, show (0 : Int32) ≤ 1 from by decide, show (1 : Int32).toNatClampNeg = 1 from rfl, show (0 : Nat) < 2 from by omega, show (1 : Nat) < 2 from by omega, not_true_eq_false, ne_eq, not_false_eq_true, hk]
    exact c _ (n + 1) (q + 6) ⟨hc, fun _ _ _ _ => rfl, ⟨l0, s0, ho, fun _ z => by cases z⟩, fun a ha => hz a (by omega), by omega, by omega, by omega, by omega⟩
  · skip
    subst e
    subst e2
    have ek : k_keeps G (nI (j + 1)) (nI a) = (0, (ev_bb (pf_find (G.2.2.1 j).1 (nI a)).isSome), G) := by
      unfold k_keeps
      rw [nI_clamp (n := j + 1) (by omega)]
      rw [Nat.add_sub_cancel]
      rw [if_neg (no_sz hj)]
      rw [if_neg (no_ix ha (by omega))]
    rw [ek] at c
    have ho1 := ho
    dsimp only at c
    rcases hbb : (pf_find (G.2.2.1 j).1 (nI a)).isSome with _ | _ <;> (
      rw [hbb] at c
      simp (disch := omega) only [t_L_keeps_0, t_L_keeps_1, t_L_keeps_2, t_L_keeps_3, t_L_keeps_4, t_L_keeps_7, t_L_keeps_10, t_L_keeps_11, t_L_keeps_14, t_L_keeps_15, t_L_keeps_18, t_L_keeps_23, t_L_keeps_24, t_L_keeps_25, t_L_keeps_26, x_L_keeps_4_1, ↓reduceIte, ev_k_i, ev_k_r, ev_k_l, ev_k_J, ev_k_n, ev_kr_1, ev_kr_0, ev_isK_y, ev_aG_y, ev_aS_y, ev_aN_y, ev_inA_0, ev_isA_0, ev_ft_I, ev_ft_0, ev_ft_1, ev_ft_o, ev_ft_a, ev_nb_0, ev_nb_1, and_true, true_and, if_true, if_false, not_true_eq_false, not_false_eq_true, nI_1, ev_fG_0, ev_fG_1, ev_fG_2, ev_fG_3, ev_fG_4, ev_fG_5, ev_fG_6, ev_fG_7, ev_fG_8, ev_fS_0, ev_fS_1, ev_fS_2, ev_fS_3, ev_fS_4, ev_fS_5, ev_fS_6, ev_fS_7, ev_fS_8, ev_isO_0, ev_isO_1, ev_isO_2, ev_isO_3, ev_isO_4, ev_isO_5, ev_isO_6, ev_isO_7, ev_isO_8, ev_z0, ev_z1, ev_z2, eq_self, ev_ofN, show ¬ (1 : Int32) = 0 from by decide, show ¬ (2 : Int32) = 0 from by decide, show ¬ (2 : Int32) = 1 from by decide, show ¬ (0 : Int32) = 1 from by decide, show ¬ (0 : Int32) = 2 from by decide, show ¬ (1 : Int32) = 2 from by decide, show ¬ (0 : Int32) = -1 from by decide, show (0 : Int32) ≤ 1 from by decide, show (1 : Int32).toNatClampNeg = 1 from rfl, show (0 : Nat) < 2 from by omega, show (1 : Nat) < 2 from by omega, not_true_eq_false, ne_eq, not_false_eq_true, ev_lku_s, ev_lku_n, ev_up_s, ev_up_n, ho1, ev_bb_t, ev_bb_f, ev_ft_J]
      exact c _ n q ⟨c_cg hc (fun a ha hb => ev_up_n (by omega)), fun a ha hao han => (ev_up_n hao), ⟨_, s0, ev_up_s, fun _ _ => rfl⟩, fun a ha => (ev_up_n (by omega)).trans (hz a ha), by omega, by omega, by omega, by omega⟩)
theorem LW_takenAt (hc : c_all x G H) (hG : okG G) (hxo : x + 57 ≤ o) (hon : o < n) (ho : ∃ l s, H o = some (.inr (11, [.long l, s]))) (hz : ∀ a, n ≤ a → H a = none) {s k : Int32}
    (c : ∀ H1 n1 q1, lw_post true x o H n q (k_takenAt G s k) H1 n1 q1 → P (.inl (some (.int (nI (k_takenAt G s k).1)))) H1 n1 q1) : ev_ok (ev_TT X) 192 0 [.ref x, .int s, .int k, .ref o, ev_J] [] H n q P := by
  have hk := c_all_k (X := X) hc
  obtain ⟨l0, s0, ho⟩ := ho
  simp (disch := omega) only [t_L_takenAt_0, t_L_takenAt_1, t_L_takenAt_2, t_L_takenAt_3, t_L_takenAt_4, t_L_takenAt_7, t_L_takenAt_8, t_L_takenAt_11, t_L_takenAt_16, t_L_takenAt_17, t_L_takenAt_18, t_L_takenAt_19, x_L_takenAt_4_1, ↓reduceIte, ev_k_i, ev_k_r, ev_k_l, ev_k_J, ev_k_n, ev_kr_1, ev_kr_0, ev_isK_y, ev_aG_y, ev_aS_y, ev_aN_y, ev_inA_0, ev_isA_0, ev_ft_I, ev_ft_0, ev_ft_1, ev_ft_o, ev_ft_a, ev_nb_0, ev_nb_1, and_true, true_and, if_true, if_false, not_true_eq_false, not_false_eq_true, nI_1, ev_fG_0, ev_fG_1, ev_fG_2, ev_fG_3, ev_fG_4, ev_fG_5, ev_fG_6, ev_fG_7, ev_fG_8, ev_fS_0, ev_fS_1, ev_fS_2, ev_fS_3, ev_fS_4, ev_fS_5, ev_fS_6, ev_fS_7, ev_fS_8, ev_isO_0, ev_isO_1, ev_isO_2, ev_isO_3, ev_isO_4, ev_isO_5, ev_isO_6, ev_isO_7, ev_isO_8, ev_z0, ev_z1, ev_z2, eq_self, ev_ofN, show ¬ (1 : Int32) = 0 from by decide, show ¬ (2 : Int32) = 0 from by decide, show ¬ (2 : Int32) = 1 from by decide, show ¬ (0 : Int32) = 1 from by decide, show ¬ (0 : Int32) = 2 from by decide, show ¬ (1 : Int32) = 2 from by decide, show ¬ (0 : Int32) = -1 from by decide, show (0 : Int32) ≤ 1 from by decide, show (1 : Int32).toNatClampNeg = 1 from rfl, show (0 : Nat) < 2 from by omega, show (1 : Nat) < 2 from by omega, not_true_eq_false, ne_eq, not_false_eq_true, hk]
  refine C_takenAt hc hG (fun hb => ?_) (fun j hj e hb => ?_) (fun j a hj e ha e2 => ?_)
  · skip
    have ek : k_takenAt G s k = (1, 0, G) := by
      unfold k_takenAt
      rw [if_pos hb]
    rw [ek] at c
    simp (disch := omega) only [t_L_takenAt_0, t_L_takenAt_1, t_L_takenAt_2, t_L_takenAt_3, t_L_takenAt_4, t_L_takenAt_7, t_L_takenAt_8, t_L_takenAt_11, t_L_takenAt_16, t_L_takenAt_17, t_L_takenAt_18, t_L_takenAt_19, x_L_takenAt_4_1, ↓reduceIte, ev_k_i, ev_k_r, ev_k_l, ev_k_J, ev_k_n, ev_kr_1, ev_kr_0, ev_isK_y, ev_aG_y, ev_aS_y, ev_aN_y, ev_inA_0, ev_isA_0, ev_ft_I, ev_ft_0, ev_ft_1, ev_ft_o, ev_ft_a, ev_nb_0, ev_nb_1, and_true, true_and, if_true, if_false, not_true_eq_false, not_false_eq_true, nI_1, ev_fG_0, ev_fG_1, ev_fG_2, ev_fG_3, ev_fG_4, ev_fG_5, ev_fG_6, ev_fG_7, ev_fG_8, ev_fS_0, ev_fS_1, ev_fS_2, ev_fS_3, ev_fS_4, ev_fS_5, ev_fS_6, ev_fS_7, ev_fS_8, ev_isO_0, ev_isO_1, ev_isO_2, ev_isO_3, ev_isO_4, ev_isO_5, ev_isO_6, ev_isO_7, ev_isO_8, ev_z0, ev_z1, ev_z2, eq_self, ev_ofN, show ¬ (1 : Int32) = 0 from by decide, show ¬ (2 : Int32) = 0 from by decide, show ¬ (2 : Int32) = 1 from by decide, show ¬ (0 : Int32) = 1 from by decide, show ¬ (0 : Int32) = 2 from by decide, show ¬ (1 : Int32) = 2 from by decide, show ¬ (0 : Int32) = -1 from by decide, show (0 : Int32) ≤ 1 from by decide, show (1 : Int32).toNatClampNeg = 1 from rfl, show (0 : Nat) < 2 from by omega, show (1 : Nat) < 2 from by omega, not_true_eq_false, ne_eq, not_false_eq_true, hk]
    exact c _ (n + 1) (q + 6) ⟨hc, fun _ _ _ _ => rfl, ⟨l0, s0, ho, fun _ z => by cases z⟩, fun a ha => hz a (by omega), by omega, by omega, by omega, by omega⟩
  · skip
    subst e
    have ek : k_takenAt G (nI (j + 1)) k = (1, 0, G) := by
      unfold k_takenAt
      rw [nI_clamp (n := j + 1) (by omega)]
      rw [Nat.add_sub_cancel]
      rw [if_neg (no_sz hj)]
      rw [if_pos hb]
    rw [ek] at c
    simp (disch := omega) only [t_L_takenAt_0, t_L_takenAt_1, t_L_takenAt_2, t_L_takenAt_3, t_L_takenAt_4, t_L_takenAt_7, t_L_takenAt_8, t_L_takenAt_11, t_L_takenAt_16, t_L_takenAt_17, t_L_takenAt_18, t_L_takenAt_19, x_L_takenAt_4_1, ↓reduceIte, ev_k_i, ev_k_r, ev_k_l, ev_k_J, ev_k_n, ev_kr_1, ev_kr_0, ev_isK_y, ev_aG_y, ev_aS_y, ev_aN_y, ev_inA_0, ev_isA_0, ev_ft_I, ev_ft_0, ev_ft_1, ev_ft_o, ev_ft_a, ev_nb_0, ev_nb_1, and_true, true_and, if_true, if_false, not_true_eq_false, not_false_eq_true, nI_1, ev_fG_0, ev_fG_1, ev_fG_2, ev_fG_3, ev_fG_4, ev_fG_5, ev_fG_6, ev_fG_7, ev_fG_8, ev_fS_0, ev_fS_1, ev_fS_2, ev_fS_3, ev_fS_4, ev_fS_5, ev_fS_6, ev_fS_7, ev_fS_8, ev_isO_0, ev_isO_1, ev_isO_2, ev_isO_3, ev_isO_4, ev_isO_5, ev_isO_6, ev_isO_7, ev_isO_8, ev_z0, ev_z1, ev_z2, eq_self, ev_ofN, show ¬ (1 : Int32) = 0 from by decide, show ¬ (2 : Int32) = 0 from by decide, show ¬ (2 : Int32) = 1 from by decide, show ¬ (0 : Int32) = 1 from by decide, show ¬ (0 : Int32) = 2 from by decide, show ¬ (1 : Int32) = 2 from by decide, show ¬ (0 : Int32) = -1 from by decide, show (0 : Int32) ≤ 1 from by decide, show (1 : Int32).toNatClampNeg = 1 from rfl, show (0 : Nat) < 2 from by omega, show (1 : Nat) < 2 from by omega, not_true_eq_false, ne_eq, not_false_eq_true, hk]
    exact c _ (n + 1) (q + 6) ⟨hc, fun _ _ _ _ => rfl, ⟨l0, s0, ho, fun _ z => by cases z⟩, fun a ha => hz a (by omega), by omega, by omega, by omega, by omega⟩
  · skip
    subst e
    subst e2
    have ek : k_takenAt G (nI (j + 1)) (nI a) = (0, (pr_told (G.2.2.1 j).1 (pf_place (G.2.2.1 j).1 (nI a)) 1), G) := by
      unfold k_takenAt
      rw [nI_clamp (n := j + 1) (by omega)]
      rw [Nat.add_sub_cancel]
      rw [if_neg (no_sz hj)]
      rw [if_neg (no_ix ha (by omega))]
    rw [ek] at c
    have ho1 := ho
    simp (disch := omega) only [t_L_takenAt_0, t_L_takenAt_1, t_L_takenAt_2, t_L_takenAt_3, t_L_takenAt_4, t_L_takenAt_7, t_L_takenAt_8, t_L_takenAt_11, t_L_takenAt_16, t_L_takenAt_17, t_L_takenAt_18, t_L_takenAt_19, x_L_takenAt_4_1, ↓reduceIte, ev_k_i, ev_k_r, ev_k_l, ev_k_J, ev_k_n, ev_kr_1, ev_kr_0, ev_isK_y, ev_aG_y, ev_aS_y, ev_aN_y, ev_inA_0, ev_isA_0, ev_ft_I, ev_ft_0, ev_ft_1, ev_ft_o, ev_ft_a, ev_nb_0, ev_nb_1, and_true, true_and, if_true, if_false, not_true_eq_false, not_false_eq_true, nI_1, ev_fG_0, ev_fG_1, ev_fG_2, ev_fG_3, ev_fG_4, ev_fG_5, ev_fG_6, ev_fG_7, ev_fG_8, ev_fS_0, ev_fS_1, ev_fS_2, ev_fS_3, ev_fS_4, ev_fS_5, ev_fS_6, ev_fS_7, ev_fS_8, ev_isO_0, ev_isO_1, ev_isO_2, ev_isO_3, ev_isO_4, ev_isO_5, ev_isO_6, ev_isO_7, ev_isO_8, ev_z0, ev_z1, ev_z2, eq_self, ev_ofN, show ¬ (1 : Int32) = 0 from by decide, show ¬ (2 : Int32) = 0 from by decide, show ¬ (2 : Int32) = 1 from by decide, show ¬ (0 : Int32) = 1 from by decide, show ¬ (0 : Int32) = 2 from by decide, show ¬ (1 : Int32) = 2 from by decide, show ¬ (0 : Int32) = -1 from by decide, show (0 : Int32) ≤ 1 from by decide, show (1 : Int32).toNatClampNeg = 1 from rfl, show (0 : Nat) < 2 from by omega, show (1 : Nat) < 2 from by omega, not_true_eq_false, ne_eq, not_false_eq_true, ev_lku_s, ev_lku_n, ev_up_s, ev_up_n, ho1, ev_ft_J]
    exact c _ n q ⟨c_cg hc (fun a ha hb => ev_up_n (by omega)), fun a ha hao han => (ev_up_n hao), ⟨_, s0, ev_up_s, fun _ _ => rfl⟩, fun a ha => (ev_up_n (by omega)).trans (hz a ha), by omega, by omega, by omega, by omega⟩
theorem LW_misses (hc : c_all x G H) (hG : okG G) (hxo : x + 57 ≤ o) (hon : o < n) (ho : ∃ l s, H o = some (.inr (11, [.long l, s]))) (hz : ∀ a, n ≤ a → H a = none) {s : Int32}
    (c : ∀ H1 n1 q1, lw_post true x o H n q (k_misses G s) H1 n1 q1 → P (.inl (some (.int (nI (k_misses G s).1)))) H1 n1 q1) : ev_ok (ev_TT X) 189 0 [.ref x, .int s, .ref o, ev_J] [] H n q P := by
  have hk := c_all_k (X := X) hc
  obtain ⟨l0, s0, ho⟩ := ho
  simp (disch := omega) only [t_L_misses_0, t_L_misses_1, t_L_misses_2, t_L_misses_3, t_L_misses_6, t_L_misses_7, t_L_misses_10, t_L_misses_14, t_L_misses_15, t_L_misses_16, t_L_misses_17, x_L_misses_3_1, ↓reduceIte, ev_k_i, ev_k_r, ev_k_l, ev_k_J, ev_k_n, ev_kr_1, ev_kr_0, ev_isK_y, ev_aG_y, ev_aS_y, ev_aN_y, ev_inA_0, ev_isA_0, ev_ft_I, ev_ft_0, ev_ft_1, ev_ft_o, ev_ft_a, ev_nb_0, ev_nb_1, and_true, true_and, if_true, if_false, not_true_eq_false, not_false_eq_true, nI_1, ev_fG_0, ev_fG_1, ev_fG_2, ev_fG_3, ev_fG_4, ev_fG_5, ev_fG_6, ev_fG_7, ev_fG_8, ev_fS_0, ev_fS_1, ev_fS_2, ev_fS_3, ev_fS_4, ev_fS_5, ev_fS_6, ev_fS_7, ev_fS_8, ev_isO_0, ev_isO_1, ev_isO_2, ev_isO_3, ev_isO_4, ev_isO_5, ev_isO_6, ev_isO_7, ev_isO_8, ev_z0, ev_z1, ev_z2, eq_self, ev_ofN, show ¬ (1 : Int32) = 0 from by decide, show ¬ (2 : Int32) = 0 from by decide, show ¬ (2 : Int32) = 1 from by decide, show ¬ (0 : Int32) = 1 from by decide, show ¬ (0 : Int32) = 2 from by decide, show ¬ (1 : Int32) = 2 from by decide, show ¬ (0 : Int32) = -1 from by decide, show (0 : Int32) ≤ 1 from by decide, show (1 : Int32).toNatClampNeg = 1 from rfl, show (0 : Nat) < 2 from by omega, show (1 : Nat) < 2 from by omega, not_true_eq_false, ne_eq, not_false_eq_true, hk]
  refine C_misses hc hG (fun hb => ?_) (fun j hj e => ?_)
  · skip
    have ek : k_misses G s = (1, 0, G) := by
      unfold k_misses
      rw [if_pos hb]
    rw [ek] at c
    simp (disch := omega) only [t_L_misses_0, t_L_misses_1, t_L_misses_2, t_L_misses_3, t_L_misses_6, t_L_misses_7, t_L_misses_10, t_L_misses_14, t_L_misses_15, t_L_misses_16, t_L_misses_17, x_L_misses_3_1, ↓reduceIte, ev_k_i, ev_k_r, ev_k_l, ev_k_J, ev_k_n, ev_kr_1, ev_kr_0, ev_isK_y, ev_aG_y, ev_aS_y, ev_aN_y, ev_inA_0, ev_isA_0, ev_ft_I, ev_ft_0, ev_ft_1, ev_ft_o, ev_ft_a, ev_nb_0, ev_nb_1, and_true, true_and, if_true, if_false, not_true_eq_false, not_false_eq_true, nI_1, ev_fG_0, ev_fG_1, ev_fG_2, ev_fG_3, ev_fG_4, ev_fG_5, ev_fG_6, ev_fG_7, ev_fG_8, ev_fS_0, ev_fS_1, ev_fS_2, ev_fS_3, ev_fS_4, ev_fS_5, ev_fS_6, ev_fS_7, ev_fS_8, ev_isO_0, ev_isO_1, ev_isO_2, ev_isO_3, ev_isO_4, ev_isO_5, ev_isO_6, ev_isO_7, ev_isO_8, ev_z0, ev_z1, ev_z2, eq_self, ev_ofN, show ¬ (1 : Int32) = 0 from by decide, show ¬ (2 : Int32) = 0 from by decide, show ¬ (2 : Int32) = 1 from by decide, show ¬ (0 : Int32) = 1 from by decide, show ¬ (0 : Int32) = 2 from by decide, show ¬ (1 : Int32) = 2 from by decide, show ¬ (0 : Int32) = -1 from by decide, show (0 : Int32) ≤ 1 from by decide, show (1 : Int32).toNatClampNeg = 1 from rfl, show (0 : Nat) < 2 from by omega, show (1 : Nat) < 2 from by omega, not_true_eq_false, ne_eq, not_false_eq_true, hk]
    exact c _ (n + 1) (q + 6) ⟨hc, fun _ _ _ _ => rfl, ⟨l0, s0, ho, fun _ z => by cases z⟩, fun a ha => hz a (by omega), by omega, by omega, by omega, by omega⟩
  · skip
    subst e
    have ek : k_misses G (nI (j + 1)) = (0, (G.2.2.1 j).2.2.2.2.1, G) := by
      unfold k_misses
      rw [nI_clamp (n := j + 1) (by omega)]
      rw [Nat.add_sub_cancel]
      rw [if_neg (no_sz hj)]
    rw [ek] at c
    have ho1 := ho
    simp (disch := omega) only [t_L_misses_0, t_L_misses_1, t_L_misses_2, t_L_misses_3, t_L_misses_6, t_L_misses_7, t_L_misses_10, t_L_misses_14, t_L_misses_15, t_L_misses_16, t_L_misses_17, x_L_misses_3_1, ↓reduceIte, ev_k_i, ev_k_r, ev_k_l, ev_k_J, ev_k_n, ev_kr_1, ev_kr_0, ev_isK_y, ev_aG_y, ev_aS_y, ev_aN_y, ev_inA_0, ev_isA_0, ev_ft_I, ev_ft_0, ev_ft_1, ev_ft_o, ev_ft_a, ev_nb_0, ev_nb_1, and_true, true_and, if_true, if_false, not_true_eq_false, not_false_eq_true, nI_1, ev_fG_0, ev_fG_1, ev_fG_2, ev_fG_3, ev_fG_4, ev_fG_5, ev_fG_6, ev_fG_7, ev_fG_8, ev_fS_0, ev_fS_1, ev_fS_2, ev_fS_3, ev_fS_4, ev_fS_5, ev_fS_6, ev_fS_7, ev_fS_8, ev_isO_0, ev_isO_1, ev_isO_2, ev_isO_3, ev_isO_4, ev_isO_5, ev_isO_6, ev_isO_7, ev_isO_8, ev_z0, ev_z1, ev_z2, eq_self, ev_ofN, show ¬ (1 : Int32) = 0 from by decide, show ¬ (2 : Int32) = 0 from by decide, show ¬ (2 : Int32) = 1 from by decide, show ¬ (0 : Int32) = 1 from by decide, show ¬ (0 : Int32) = 2 from by decide, show ¬ (1 : Int32) = 2 from by decide, show ¬ (0 : Int32) = -1 from by decide, show (0 : Int32) ≤ 1 from by decide, show (1 : Int32).toNatClampNeg = 1 from rfl, show (0 : Nat) < 2 from by omega, show (1 : Nat) < 2 from by omega, not_true_eq_false, ne_eq, not_false_eq_true, ev_lku_s, ev_lku_n, ev_up_s, ev_up_n, ho1, ev_ft_J]
    exact c _ n q ⟨c_cg hc (fun a ha hb => ev_up_n (by omega)), fun a ha hao han => (ev_up_n hao), ⟨_, s0, ev_up_s, fun _ _ => rfl⟩, fun a ha => (ev_up_n (by omega)).trans (hz a ha), by omega, by omega, by omega, by omega⟩
theorem LW_hits (hc : c_all x G H) (hG : okG G) (hxo : x + 57 ≤ o) (hon : o < n) (ho : ∃ l s, H o = some (.inr (11, [.long l, s]))) (hz : ∀ a, n ≤ a → H a = none) {s : Int32}
    (c : ∀ H1 n1 q1, lw_post true x o H n q (k_hits G s) H1 n1 q1 → P (.inl (some (.int (nI (k_hits G s).1)))) H1 n1 q1) : ev_ok (ev_TT X) 183 0 [.ref x, .int s, .ref o, ev_J] [] H n q P := by
  have hk := c_all_k (X := X) hc
  obtain ⟨l0, s0, ho⟩ := ho
  simp (disch := omega) only [t_L_hits_0, t_L_hits_1, t_L_hits_2, t_L_hits_3, t_L_hits_6, t_L_hits_7, t_L_hits_10, t_L_hits_14, t_L_hits_15, t_L_hits_16, t_L_hits_17, x_L_hits_3_1, ↓reduceIte, ev_k_i, ev_k_r, ev_k_l, ev_k_J, ev_k_n, ev_kr_1, ev_kr_0, ev_isK_y, ev_aG_y, ev_aS_y, ev_aN_y, ev_inA_0, ev_isA_0, ev_ft_I, ev_ft_0, ev_ft_1, ev_ft_o, ev_ft_a, ev_nb_0, ev_nb_1, and_true, true_and, if_true, if_false, not_true_eq_false, not_false_eq_true, nI_1, ev_fG_0, ev_fG_1, ev_fG_2, ev_fG_3, ev_fG_4, ev_fG_5, ev_fG_6, ev_fG_7, ev_fG_8, ev_fS_0, ev_fS_1, ev_fS_2, ev_fS_3, ev_fS_4, ev_fS_5, ev_fS_6, ev_fS_7, ev_fS_8, ev_isO_0, ev_isO_1, ev_isO_2, ev_isO_3, ev_isO_4, ev_isO_5, ev_isO_6, ev_isO_7, ev_isO_8, ev_z0, ev_z1, ev_z2, eq_self, ev_ofN, show ¬ (1 : Int32) = 0 from by decide, show ¬ (2 : Int32) = 0 from by decide, show ¬ (2 : Int32) = 1 from by decide, show ¬ (0 : Int32) = 1 from by decide, show ¬ (0 : Int32) = 2 from by decide, show ¬ (1 : Int32) = 2 from by decide, show ¬ (0 : Int32) = -1 from by decide, show (0 : Int32) ≤ 1 from by decide, show (1 : Int32).toNatClampNeg = 1 from rfl, show (0 : Nat) < 2 from by omega, show (1 : Nat) < 2 from by omega, not_true_eq_false, ne_eq, not_false_eq_true, hk]
  refine C_hits hc hG (fun hb => ?_) (fun j hj e => ?_)
  · skip
    have ek : k_hits G s = (1, 0, G) := by
      unfold k_hits
      rw [if_pos hb]
    rw [ek] at c
    simp (disch := omega) only [t_L_hits_0, t_L_hits_1, t_L_hits_2, t_L_hits_3, t_L_hits_6, t_L_hits_7, t_L_hits_10, t_L_hits_14, t_L_hits_15, t_L_hits_16, t_L_hits_17, x_L_hits_3_1, ↓reduceIte, ev_k_i, ev_k_r, ev_k_l, ev_k_J, ev_k_n, ev_kr_1, ev_kr_0, ev_isK_y, ev_aG_y, ev_aS_y, ev_aN_y, ev_inA_0, ev_isA_0, ev_ft_I, ev_ft_0, ev_ft_1, ev_ft_o, ev_ft_a, ev_nb_0, ev_nb_1, and_true, true_and, if_true, if_false, not_true_eq_false, not_false_eq_true, nI_1, ev_fG_0, ev_fG_1, ev_fG_2, ev_fG_3, ev_fG_4, ev_fG_5, ev_fG_6, ev_fG_7, ev_fG_8, ev_fS_0, ev_fS_1, ev_fS_2, ev_fS_3, ev_fS_4, ev_fS_5, ev_fS_6, ev_fS_7, ev_fS_8, ev_isO_0, ev_isO_1, ev_isO_2, ev_isO_3, ev_isO_4, ev_isO_5, ev_isO_6, ev_isO_7, ev_isO_8, ev_z0, ev_z1, ev_z2, eq_self, ev_ofN, show ¬ (1 : Int32) = 0 from by decide, show ¬ (2 : Int32) = 0 from by decide, show ¬ (2 : Int32) = 1 from by decide, show ¬ (0 : Int32) = 1 from by decide, show ¬ (0 : Int32) = 2 from by decide, show ¬ (1 : Int32) = 2 from by decide, show ¬ (0 : Int32) = -1 from by decide, show (0 : Int32) ≤ 1 from by decide, show (1 : Int32).toNatClampNeg = 1 from rfl, show (0 : Nat) < 2 from by omega, show (1 : Nat) < 2 from by omega, not_true_eq_false, ne_eq, not_false_eq_true, hk]
    exact c _ (n + 1) (q + 6) ⟨hc, fun _ _ _ _ => rfl, ⟨l0, s0, ho, fun _ z => by cases z⟩, fun a ha => hz a (by omega), by omega, by omega, by omega, by omega⟩
  · skip
    subst e
    have ek : k_hits G (nI (j + 1)) = (0, (G.2.2.1 j).2.2.2.2.2, G) := by
      unfold k_hits
      rw [nI_clamp (n := j + 1) (by omega)]
      rw [Nat.add_sub_cancel]
      rw [if_neg (no_sz hj)]
    rw [ek] at c
    have ho1 := ho
    simp (disch := omega) only [t_L_hits_0, t_L_hits_1, t_L_hits_2, t_L_hits_3, t_L_hits_6, t_L_hits_7, t_L_hits_10, t_L_hits_14, t_L_hits_15, t_L_hits_16, t_L_hits_17, x_L_hits_3_1, ↓reduceIte, ev_k_i, ev_k_r, ev_k_l, ev_k_J, ev_k_n, ev_kr_1, ev_kr_0, ev_isK_y, ev_aG_y, ev_aS_y, ev_aN_y, ev_inA_0, ev_isA_0, ev_ft_I, ev_ft_0, ev_ft_1, ev_ft_o, ev_ft_a, ev_nb_0, ev_nb_1, and_true, true_and, if_true, if_false, not_true_eq_false, not_false_eq_true, nI_1, ev_fG_0, ev_fG_1, ev_fG_2, ev_fG_3, ev_fG_4, ev_fG_5, ev_fG_6, ev_fG_7, ev_fG_8, ev_fS_0, ev_fS_1, ev_fS_2, ev_fS_3, ev_fS_4, ev_fS_5, ev_fS_6, ev_fS_7, ev_fS_8, ev_isO_0, ev_isO_1, ev_isO_2, ev_isO_3, ev_isO_4, ev_isO_5, ev_isO_6, ev_isO_7, ev_isO_8, ev_z0, ev_z1, ev_z2, eq_self, ev_ofN, show ¬ (1 : Int32) = 0 from by decide, show ¬ (2 : Int32) = 0 from by decide, show ¬ (2 : Int32) = 1 from by decide, show ¬ (0 : Int32) = 1 from by decide, show ¬ (0 : Int32) = 2 from by decide, show ¬ (1 : Int32) = 2 from by decide, show ¬ (0 : Int32) = -1 from by decide, show (0 : Int32) ≤ 1 from by decide, show (1 : Int32).toNatClampNeg = 1 from rfl, show (0 : Nat) < 2 from by omega, show (1 : Nat) < 2 from by omega, not_true_eq_false, ne_eq, not_false_eq_true, ev_lku_s, ev_lku_n, ev_up_s, ev_up_n, ho1, ev_ft_J]
    exact c _ n q ⟨c_cg hc (fun a ha hb => ev_up_n (by omega)), fun a ha hao han => (ev_up_n hao), ⟨_, s0, ev_up_s, fun _ _ => rfl⟩, fun a ha => (ev_up_n (by omega)).trans (hz a ha), by omega, by omega, by omega, by omega⟩
theorem LW_lost (hc : c_all x G H) (hG : okG G) (hxo : x + 57 ≤ o) (hon : o < n) (ho : ∃ l s, H o = some (.inr (11, [.long l, s]))) (hz : ∀ a, n ≤ a → H a = none) {s : Int32}
    (c : ∀ H1 n1 q1, lw_post true x o H n q (k_lost G s) H1 n1 q1 → P (.inl (some (.int (nI (k_lost G s).1)))) H1 n1 q1) : ev_ok (ev_TT X) 187 0 [.ref x, .int s, .ref o, ev_J] [] H n q P := by
  have hk := c_all_k (X := X) hc
  obtain ⟨l0, s0, ho⟩ := ho
  simp (disch := omega) only [t_L_lost_0, t_L_lost_1, t_L_lost_2, t_L_lost_3, t_L_lost_6, t_L_lost_7, t_L_lost_10, t_L_lost_14, t_L_lost_15, t_L_lost_16, t_L_lost_17, x_L_lost_3_1, ↓reduceIte, ev_k_i, ev_k_r, ev_k_l, ev_k_J, ev_k_n, ev_kr_1, ev_kr_0, ev_isK_y, ev_aG_y, ev_aS_y, ev_aN_y, ev_inA_0, ev_isA_0, ev_ft_I, ev_ft_0, ev_ft_1, ev_ft_o, ev_ft_a, ev_nb_0, ev_nb_1, and_true, true_and, if_true, if_false, not_true_eq_false, not_false_eq_true, nI_1, ev_fG_0, ev_fG_1, ev_fG_2, ev_fG_3, ev_fG_4, ev_fG_5, ev_fG_6, ev_fG_7, ev_fG_8, ev_fS_0, ev_fS_1, ev_fS_2, ev_fS_3, ev_fS_4, ev_fS_5, ev_fS_6, ev_fS_7, ev_fS_8, ev_isO_0, ev_isO_1, ev_isO_2, ev_isO_3, ev_isO_4, ev_isO_5, ev_isO_6, ev_isO_7, ev_isO_8, ev_z0, ev_z1, ev_z2, eq_self, ev_ofN, show ¬ (1 : Int32) = 0 from by decide, show ¬ (2 : Int32) = 0 from by decide, show ¬ (2 : Int32) = 1 from by decide, show ¬ (0 : Int32) = 1 from by decide, show ¬ (0 : Int32) = 2 from by decide, show ¬ (1 : Int32) = 2 from by decide, show ¬ (0 : Int32) = -1 from by decide, show (0 : Int32) ≤ 1 from by decide, show (1 : Int32).toNatClampNeg = 1 from rfl, show (0 : Nat) < 2 from by omega, show (1 : Nat) < 2 from by omega, not_true_eq_false, ne_eq, not_false_eq_true, hk]
  refine C_lost hc hG (fun hb => ?_) (fun j hj e => ?_)
  · skip
    have ek : k_lost G s = (1, 0, G) := by
      unfold k_lost
      rw [if_pos hb]
    rw [ek] at c
    simp (disch := omega) only [t_L_lost_0, t_L_lost_1, t_L_lost_2, t_L_lost_3, t_L_lost_6, t_L_lost_7, t_L_lost_10, t_L_lost_14, t_L_lost_15, t_L_lost_16, t_L_lost_17, x_L_lost_3_1, ↓reduceIte, ev_k_i, ev_k_r, ev_k_l, ev_k_J, ev_k_n, ev_kr_1, ev_kr_0, ev_isK_y, ev_aG_y, ev_aS_y, ev_aN_y, ev_inA_0, ev_isA_0, ev_ft_I, ev_ft_0, ev_ft_1, ev_ft_o, ev_ft_a, ev_nb_0, ev_nb_1, and_true, true_and, if_true, if_false, not_true_eq_false, not_false_eq_true, nI_1, ev_fG_0, ev_fG_1, ev_fG_2, ev_fG_3, ev_fG_4, ev_fG_5, ev_fG_6, ev_fG_7, ev_fG_8, ev_fS_0, ev_fS_1, ev_fS_2, ev_fS_3, ev_fS_4, ev_fS_5, ev_fS_6, ev_fS_7, ev_fS_8, ev_isO_0, ev_isO_1, ev_isO_2, ev_isO_3, ev_isO_4, ev_isO_5, ev_isO_6, ev_isO_7, ev_isO_8, ev_z0, ev_z1, ev_z2, eq_self, ev_ofN, show ¬ (1 : Int32) = 0 from by decide, show ¬ (2 : Int32) = 0 from by decide, show ¬ (2 : Int32) = 1 from by decide, show ¬ (0 : Int32) = 1 from by decide, show ¬ (0 : Int32) = 2 from by decide, show ¬ (1 : Int32) = 2 from by decide, show ¬ (0 : Int32) = -1 from by decide, show (0 : Int32) ≤ 1 from by decide, show (1 : Int32).toNatClampNeg = 1 from rfl, show (0 : Nat) < 2 from by omega, show (1 : Nat) < 2 from by omega, not_true_eq_false, ne_eq, not_false_eq_true, hk]
    exact c _ (n + 1) (q + 6) ⟨hc, fun _ _ _ _ => rfl, ⟨l0, s0, ho, fun _ z => by cases z⟩, fun a ha => hz a (by omega), by omega, by omega, by omega, by omega⟩
  · skip
    subst e
    have ek : k_lost G (nI (j + 1)) = (0, (G.2.2.1 j).2.2.2.1, G) := by
      unfold k_lost
      rw [nI_clamp (n := j + 1) (by omega)]
      rw [Nat.add_sub_cancel]
      rw [if_neg (no_sz hj)]
    rw [ek] at c
    have ho1 := ho
    simp (disch := omega) only [t_L_lost_0, t_L_lost_1, t_L_lost_2, t_L_lost_3, t_L_lost_6, t_L_lost_7, t_L_lost_10, t_L_lost_14, t_L_lost_15, t_L_lost_16, t_L_lost_17, x_L_lost_3_1, ↓reduceIte, ev_k_i, ev_k_r, ev_k_l, ev_k_J, ev_k_n, ev_kr_1, ev_kr_0, ev_isK_y, ev_aG_y, ev_aS_y, ev_aN_y, ev_inA_0, ev_isA_0, ev_ft_I, ev_ft_0, ev_ft_1, ev_ft_o, ev_ft_a, ev_nb_0, ev_nb_1, and_true, true_and, if_true, if_false, not_true_eq_false, not_false_eq_true, nI_1, ev_fG_0, ev_fG_1, ev_fG_2, ev_fG_3, ev_fG_4, ev_fG_5, ev_fG_6, ev_fG_7, ev_fG_8, ev_fS_0, ev_fS_1, ev_fS_2, ev_fS_3, ev_fS_4, ev_fS_5, ev_fS_6, ev_fS_7, ev_fS_8, ev_isO_0, ev_isO_1, ev_isO_2, ev_isO_3, ev_isO_4, ev_isO_5, ev_isO_6, ev_isO_7, ev_isO_8, ev_z0, ev_z1, ev_z2, eq_self, ev_ofN, show ¬ (1 : Int32) = 0 from by decide, show ¬ (2 : Int32) = 0 from by decide, show ¬ (2 : Int32) = 1 from by decide, show ¬ (0 : Int32) = 1 from by decide, show ¬ (0 : Int32) = 2 from by decide, show ¬ (1 : Int32) = 2 from by decide, show ¬ (0 : Int32) = -1 from by decide, show (0 : Int32) ≤ 1 from by decide, show (1 : Int32).toNatClampNeg = 1 from rfl, show (0 : Nat) < 2 from by omega, show (1 : Nat) < 2 from by omega, not_true_eq_false, ne_eq, not_false_eq_true, ev_lku_s, ev_lku_n, ev_up_s, ev_up_n, ho1, ev_ft_J]
    exact c _ n q ⟨c_cg hc (fun a ha hb => ev_up_n (by omega)), fun a ha hao han => (ev_up_n hao), ⟨_, s0, ev_up_s, fun _ _ => rfl⟩, fun a ha => (ev_up_n (by omega)).trans (hz a ha), by omega, by omega, by omega, by omega⟩
theorem LW_best (hc : c_all x G H) (hG : okG G) (hAK : aR G (pA G)) (hxo : x + 57 ≤ o) (hon : o < n) (ho : ∃ l s, H o = some (.inr (11, [.long l, s]))) (hz : ∀ a, n ≤ a → H a = none) {s : Int32}
    (c : ∀ H1 n1 q1, lw_post true x o H n q (k_best G s) H1 n1 q1 → P (.inl (some (.int (nI (k_best G s).1)))) H1 n1 q1) : ev_ok (ev_TT X) 179 0 [.ref x, .int s, .ref o, ev_J] [] H n q P := by
  have hk := c_all_k (X := X) hc
  obtain ⟨l0, s0, ho⟩ := ho
  simp (disch := omega) only [t_L_best_0, t_L_best_1, t_L_best_2, t_L_best_3, t_L_best_6, t_L_best_7, t_L_best_10, t_L_best_14, t_L_best_15, t_L_best_16, t_L_best_17, x_L_best_3_1, ↓reduceIte, ev_k_i, ev_k_r, ev_k_l, ev_k_J, ev_k_n, ev_kr_1, ev_kr_0, ev_isK_y, ev_aG_y, ev_aS_y, ev_aN_y, ev_inA_0, ev_isA_0, ev_ft_I, ev_ft_0, ev_ft_1, ev_ft_o, ev_ft_a, ev_nb_0, ev_nb_1, and_true, true_and, if_true, if_false, not_true_eq_false, not_false_eq_true, nI_1, ev_fG_0, ev_fG_1, ev_fG_2, ev_fG_3, ev_fG_4, ev_fG_5, ev_fG_6, ev_fG_7, ev_fG_8, ev_fS_0, ev_fS_1, ev_fS_2, ev_fS_3, ev_fS_4, ev_fS_5, ev_fS_6, ev_fS_7, ev_fS_8, ev_isO_0, ev_isO_1, ev_isO_2, ev_isO_3, ev_isO_4, ev_isO_5, ev_isO_6, ev_isO_7, ev_isO_8, ev_z0, ev_z1, ev_z2, eq_self, ev_ofN, show ¬ (1 : Int32) = 0 from by decide, show ¬ (2 : Int32) = 0 from by decide, show ¬ (2 : Int32) = 1 from by decide, show ¬ (0 : Int32) = 1 from by decide, show ¬ (0 : Int32) = 2 from by decide, show ¬ (1 : Int32) = 2 from by decide, show ¬ (0 : Int32) = -1 from by decide, show (0 : Int32) ≤ 1 from by decide, show (1 : Int32).toNatClampNeg = 1 from rfl, show (0 : Nat) < 2 from by omega, show (1 : Nat) < 2 from by omega, not_true_eq_false, ne_eq, not_false_eq_true, hk]
  refine C_best hAK hc hG (fun hb => ?_) (fun j hj e H1 hc1 hf1 => ?_)
  · skip
    have ek : k_best G s = (1, 0, G) := by
      unfold k_best
      rw [if_pos hb]
    rw [ek] at c
    simp (disch := omega) only [t_L_best_0, t_L_best_1, t_L_best_2, t_L_best_3, t_L_best_6, t_L_best_7, t_L_best_10, t_L_best_14, t_L_best_15, t_L_best_16, t_L_best_17, x_L_best_3_1, ↓reduceIte, ev_k_i, ev_k_r, ev_k_l, ev_k_J, ev_k_n, ev_kr_1, ev_kr_0, ev_isK_y, ev_aG_y, ev_aS_y, ev_aN_y, ev_inA_0, ev_isA_0, ev_ft_I, ev_ft_0, ev_ft_1, ev_ft_o, ev_ft_a, ev_nb_0, ev_nb_1, and_true, true_and, if_true, if_false, not_true_eq_false, not_false_eq_true, nI_1, ev_fG_0, ev_fG_1, ev_fG_2, ev_fG_3, ev_fG_4, ev_fG_5, ev_fG_6, ev_fG_7, ev_fG_8, ev_fS_0, ev_fS_1, ev_fS_2, ev_fS_3, ev_fS_4, ev_fS_5, ev_fS_6, ev_fS_7, ev_fS_8, ev_isO_0, ev_isO_1, ev_isO_2, ev_isO_3, ev_isO_4, ev_isO_5, ev_isO_6, ev_isO_7, ev_isO_8, ev_z0, ev_z1, ev_z2, eq_self, ev_ofN, show ¬ (1 : Int32) = 0 from by decide, show ¬ (2 : Int32) = 0 from by decide, show ¬ (2 : Int32) = 1 from by decide, show ¬ (0 : Int32) = 1 from by decide, show ¬ (0 : Int32) = 2 from by decide, show ¬ (1 : Int32) = 2 from by decide, show ¬ (0 : Int32) = -1 from by decide, show (0 : Int32) ≤ 1 from by decide, show (1 : Int32).toNatClampNeg = 1 from rfl, show (0 : Nat) < 2 from by omega, show (1 : Nat) < 2 from by omega, not_true_eq_false, ne_eq, not_false_eq_true, hk]
    exact c _ (n + 1) (q + 6) ⟨hc, fun _ _ _ _ => rfl, ⟨l0, s0, ho, fun _ z => by cases z⟩, fun a ha => hz a (by omega), by omega, by omega, by omega, by omega⟩
  · skip
    subst e
    have ek : k_best G (nI (j + 1)) = (0, (nI (G.2.2.2.1.2.2 - (gs (pA G) (j + 1) G.2.2.2.1.2.2).2)), G) := by
      unfold k_best
      rw [nI_clamp (n := j + 1) (by omega)]
      rw [if_neg (no_sz hj)]
    rw [ek] at c
    have ho1 : H1 o = some (.inr (11, [.long l0, s0])) := (hf1 o (by omega)).trans ho
    simp (disch := omega) only [t_L_best_0, t_L_best_1, t_L_best_2, t_L_best_3, t_L_best_6, t_L_best_7, t_L_best_10, t_L_best_14, t_L_best_15, t_L_best_16, t_L_best_17, x_L_best_3_1, ↓reduceIte, ev_k_i, ev_k_r, ev_k_l, ev_k_J, ev_k_n, ev_kr_1, ev_kr_0, ev_isK_y, ev_aG_y, ev_aS_y, ev_aN_y, ev_inA_0, ev_isA_0, ev_ft_I, ev_ft_0, ev_ft_1, ev_ft_o, ev_ft_a, ev_nb_0, ev_nb_1, and_true, true_and, if_true, if_false, not_true_eq_false, not_false_eq_true, nI_1, ev_fG_0, ev_fG_1, ev_fG_2, ev_fG_3, ev_fG_4, ev_fG_5, ev_fG_6, ev_fG_7, ev_fG_8, ev_fS_0, ev_fS_1, ev_fS_2, ev_fS_3, ev_fS_4, ev_fS_5, ev_fS_6, ev_fS_7, ev_fS_8, ev_isO_0, ev_isO_1, ev_isO_2, ev_isO_3, ev_isO_4, ev_isO_5, ev_isO_6, ev_isO_7, ev_isO_8, ev_z0, ev_z1, ev_z2, eq_self, ev_ofN, show ¬ (1 : Int32) = 0 from by decide, show ¬ (2 : Int32) = 0 from by decide, show ¬ (2 : Int32) = 1 from by decide, show ¬ (0 : Int32) = 1 from by decide, show ¬ (0 : Int32) = 2 from by decide, show ¬ (1 : Int32) = 2 from by decide, show ¬ (0 : Int32) = -1 from by decide, show (0 : Int32) ≤ 1 from by decide, show (1 : Int32).toNatClampNeg = 1 from rfl, show (0 : Nat) < 2 from by omega, show (1 : Nat) < 2 from by omega, not_true_eq_false, ne_eq, not_false_eq_true, ev_lku_s, ev_lku_n, ev_up_s, ev_up_n, ho1, ev_ft_J]
    exact c _ n q ⟨c_cg hc1 (fun a ha hb => ev_up_n (by omega)), fun a ha hao han => (ev_up_n hao).trans (hf1 a ha), ⟨_, s0, ev_up_s, fun _ _ => rfl⟩, fun a ha => (ev_up_n (by omega)).trans ((hf1 a (by omega)).trans (hz a ha)), by omega, by omega, by omega, by omega⟩
theorem LW_house (hc : c_all x G H) (hG : okG G) (hxo : x + 57 ≤ o) (hon : o < n) (ho : ∃ l s, H o = some (.inr (11, [.long l, s]))) (hz : ∀ a, n ≤ a → H a = none) {w : Int32}
    (c : ∀ H1 n1 q1, lw_post true x o H n q (k_house G w) H1 n1 q1 → P (.inl (some (.int (nI (k_house G w).1)))) H1 n1 q1) : ev_ok (ev_TT X) 133 0 [.ref x, .int w, .ref o, ev_J] [] H n q P := by
  have hk := c_all_k (X := X) hc
  obtain ⟨l0, s0, ho⟩ := ho
  simp (disch := omega) only [t_L_house_0, t_L_house_1, t_L_house_2, t_L_house_3, t_L_house_6, t_L_house_7, t_L_house_10, t_L_house_14, t_L_house_15, t_L_house_16, t_L_house_17, x_L_house_3_1, ↓reduceIte, ev_k_i, ev_k_r, ev_k_l, ev_k_J, ev_k_n, ev_kr_1, ev_kr_0, ev_isK_y, ev_aG_y, ev_aS_y, ev_aN_y, ev_inA_0, ev_isA_0, ev_ft_I, ev_ft_0, ev_ft_1, ev_ft_o, ev_ft_a, ev_nb_0, ev_nb_1, and_true, true_and, if_true, if_false, not_true_eq_false, not_false_eq_true, nI_1, ev_fG_0, ev_fG_1, ev_fG_2, ev_fG_3, ev_fG_4, ev_fG_5, ev_fG_6, ev_fG_7, ev_fG_8, ev_fS_0, ev_fS_1, ev_fS_2, ev_fS_3, ev_fS_4, ev_fS_5, ev_fS_6, ev_fS_7, ev_fS_8, ev_isO_0, ev_isO_1, ev_isO_2, ev_isO_3, ev_isO_4, ev_isO_5, ev_isO_6, ev_isO_7, ev_isO_8, ev_z0, ev_z1, ev_z2, eq_self, ev_ofN, show ¬ (1 : Int32) = 0 from by decide, show ¬ (2 : Int32) = 0 from by decide, show ¬ (2 : Int32) = 1 from by decide, show ¬ (0 : Int32) = 1 from by decide, show ¬ (0 : Int32) = 2 from by decide, show ¬ (1 : Int32) = 2 from by decide, show ¬ (0 : Int32) = -1 from by decide, show (0 : Int32) ≤ 1 from by decide, show (1 : Int32).toNatClampNeg = 1 from rfl, show (0 : Nat) < 2 from by omega, show (1 : Nat) < 2 from by omega, not_true_eq_false, ne_eq, not_false_eq_true, hk]
  refine C_house hc (fun hb => ?_) (fun a ha e => ?_)
  · skip
    have ek : k_house G w = (1, 0, G) := by
      unfold k_house
      rw [if_pos hb]
    rw [ek] at c
    simp (disch := omega) only [t_L_house_0, t_L_house_1, t_L_house_2, t_L_house_3, t_L_house_6, t_L_house_7, t_L_house_10, t_L_house_14, t_L_house_15, t_L_house_16, t_L_house_17, x_L_house_3_1, ↓reduceIte, ev_k_i, ev_k_r, ev_k_l, ev_k_J, ev_k_n, ev_kr_1, ev_kr_0, ev_isK_y, ev_aG_y, ev_aS_y, ev_aN_y, ev_inA_0, ev_isA_0, ev_ft_I, ev_ft_0, ev_ft_1, ev_ft_o, ev_ft_a, ev_nb_0, ev_nb_1, and_true, true_and, if_true, if_false, not_true_eq_false, not_false_eq_true, nI_1, ev_fG_0, ev_fG_1, ev_fG_2, ev_fG_3, ev_fG_4, ev_fG_5, ev_fG_6, ev_fG_7, ev_fG_8, ev_fS_0, ev_fS_1, ev_fS_2, ev_fS_3, ev_fS_4, ev_fS_5, ev_fS_6, ev_fS_7, ev_fS_8, ev_isO_0, ev_isO_1, ev_isO_2, ev_isO_3, ev_isO_4, ev_isO_5, ev_isO_6, ev_isO_7, ev_isO_8, ev_z0, ev_z1, ev_z2, eq_self, ev_ofN, show ¬ (1 : Int32) = 0 from by decide, show ¬ (2 : Int32) = 0 from by decide, show ¬ (2 : Int32) = 1 from by decide, show ¬ (0 : Int32) = 1 from by decide, show ¬ (0 : Int32) = 2 from by decide, show ¬ (1 : Int32) = 2 from by decide, show ¬ (0 : Int32) = -1 from by decide, show (0 : Int32) ≤ 1 from by decide, show (1 : Int32).toNatClampNeg = 1 from rfl, show (0 : Nat) < 2 from by omega, show (1 : Nat) < 2 from by omega, not_true_eq_false, ne_eq, not_false_eq_true, hk]
    exact c _ (n + 1) (q + 6) ⟨hc, fun _ _ _ _ => rfl, ⟨l0, s0, ho, fun _ z => by cases z⟩, fun a ha => hz a (by omega), by omega, by omega, by omega, by omega⟩
  · skip
    subst e
    have ek : k_house G (nI a) = (0, (ph_of G a), G) := by
      unfold k_house
      rw [nI_clamp (n := a) (by omega)]
      rw [if_neg (no_ix ha (by omega))]
    rw [ek] at c
    have ho1 := ho
    simp (disch := omega) only [t_L_house_0, t_L_house_1, t_L_house_2, t_L_house_3, t_L_house_6, t_L_house_7, t_L_house_10, t_L_house_14, t_L_house_15, t_L_house_16, t_L_house_17, x_L_house_3_1, ↓reduceIte, ev_k_i, ev_k_r, ev_k_l, ev_k_J, ev_k_n, ev_kr_1, ev_kr_0, ev_isK_y, ev_aG_y, ev_aS_y, ev_aN_y, ev_inA_0, ev_isA_0, ev_ft_I, ev_ft_0, ev_ft_1, ev_ft_o, ev_ft_a, ev_nb_0, ev_nb_1, and_true, true_and, if_true, if_false, not_true_eq_false, not_false_eq_true, nI_1, ev_fG_0, ev_fG_1, ev_fG_2, ev_fG_3, ev_fG_4, ev_fG_5, ev_fG_6, ev_fG_7, ev_fG_8, ev_fS_0, ev_fS_1, ev_fS_2, ev_fS_3, ev_fS_4, ev_fS_5, ev_fS_6, ev_fS_7, ev_fS_8, ev_isO_0, ev_isO_1, ev_isO_2, ev_isO_3, ev_isO_4, ev_isO_5, ev_isO_6, ev_isO_7, ev_isO_8, ev_z0, ev_z1, ev_z2, eq_self, ev_ofN, show ¬ (1 : Int32) = 0 from by decide, show ¬ (2 : Int32) = 0 from by decide, show ¬ (2 : Int32) = 1 from by decide, show ¬ (0 : Int32) = 1 from by decide, show ¬ (0 : Int32) = 2 from by decide, show ¬ (1 : Int32) = 2 from by decide, show ¬ (0 : Int32) = -1 from by decide, show (0 : Int32) ≤ 1 from by decide, show (1 : Int32).toNatClampNeg = 1 from rfl, show (0 : Nat) < 2 from by omega, show (1 : Nat) < 2 from by omega, not_true_eq_false, ne_eq, not_false_eq_true, ev_lku_s, ev_lku_n, ev_up_s, ev_up_n, ho1, ev_ft_J]
    exact c _ n q ⟨c_cg hc (fun a ha hb => ev_up_n (by omega)), fun a ha hao han => (ev_up_n hao), ⟨_, s0, ev_up_s, fun _ _ => rfl⟩, fun a ha => (ev_up_n (by omega)).trans (hz a ha), by omega, by omega, by omega, by omega⟩
end L81
end
