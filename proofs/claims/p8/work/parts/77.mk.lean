/-! ===== the reference's calls on tables, by the same outcomes ===== -/
section L77
variable {X : ev_E} {zf : Nat → Nat} {x y : Nat} {r : Int32 × Int32 × Int32} {G : ev_CS} {As : List Nat} {H : ev_M} {ow : Nat → Nat} {n q : Nat} {P : ev_O → ev_M → Nat → Nat → Prop}
theorem MK_make (hm : m_aw X zf y r G.1 As H n ow) (hx : m_cx X zf y G.1 As H n) (hG : okG G) (hr : r.2 = G.2.2.2.2) {t b1 m1 : Int32} (hb1 : ev_isB b1)
    (c : ∀ H1 n1 q1, m_post X zf y H n q (nI (k_make G t b1 m1).1, (k_make G t b1 m1).2.2.2.2.2.2) (k_make G t b1 m1).2.2.1 As H1 n1 q1 → P (.inl (some (.int (k_make G t b1 m1).2.1))) H1 n1 q1) : ev_ok (ev_TT X) 168 0 [.ref y, .int t, .int b1, .int m1, ev_J, ev_J] [] H n q P := by
  obtain ⟨rt, r2⟩ := r
  dsimp only at hr
  subst hr
  refine MM_make hm hx hb1 (fun hb H1 hp => ?_) (fun i hi e hm1 hb H1 hp => ?_) (fun i hi e hmm H1 n1 q1 hp => ?_)
  · skip
    have ek : k_make G t b1 m1 = (1, 0, G) := by
      unfold k_make
      rw [if_pos hb]
    rw [ek] at c
    exact c _ _ _ hp
  · skip
    subst e
    have ek : k_make G (nI i) b1 m1 = (2, 0, G) := by
      unfold k_make
      rw [nI_clamp (n := i) (by omega)]
      rw [if_neg (no_ix hi (by omega))]
      rw [if_pos ⟨hm1, hb⟩]
    rw [ek] at c
    exact c _ _ _ hp
  · skip
    subst e
    have ek : k_make G (nI i) b1 m1 = (0, (nI (G.1 i).1.length), (pg_T G i (ps_row (G.1 i) [] b1 m1 0 (-1)))) := by
      unfold k_make
      rw [nI_clamp (n := i) (by omega)]
      rw [if_neg (no_ix hi (by omega))]
      rw [if_neg (fun z => hmm.elim z.1 (fun w => z.2.elim (fun v => Int32.not_lt.mpr w.1 v) (fun v => Int32.not_lt.mpr w.2 v)))]
    rw [ek] at c
    exact c _ _ _ hp
theorem MK_put (hm : m_aw X zf y r G.1 As H n ow) (hx : m_cx X zf y G.1 As H n) (hG : okG G) (hr : r.2 = G.2.2.2.2) {t k v : Int32}
    (c : ∀ H1 n1 q1, m_post X zf y H n q (nI (k_put G t k v).1, (k_put G t k v).2.2.2.2.2.2) (k_put G t k v).2.2.1 As H1 n1 q1 → P (.inl (some (.int (k_put G t k v).2.1))) H1 n1 q1) : ev_ok (ev_TT X) 294 0 [.ref y, .int t, .int k, .int v, ev_J, ev_J, ev_J] [] H n q P := by
  obtain ⟨rt, r2⟩ := r
  dsimp only at hr
  subst hr
  refine MM_put hm hx (fun hb H1 hp => ?_) (fun i hi e hb H1 hp => ?_) (fun i a b hi e ha e2 hb e3 H1 n1 q1 hp => ?_)
  · skip
    have ek : k_put G t k v = (1, 0, G) := by
      unfold k_put
      rw [if_pos hb]
    rw [ek] at c
    exact c _ _ _ hp
  · skip
    subst e
    have ek : k_put G (nI i) k v = (2, 0, G) := by
      unfold k_put
      rw [nI_clamp (n := i) (by omega)]
      rw [if_neg (no_ix hi (by omega))]
      rw [if_pos hb]
    rw [ek] at c
    exact c _ _ _ hp
  · skip
    subst e
    subst e2
    subst e3
    have ek : k_put G (nI i) (nI a) (nI b) = (0, (pr_bring (G.1 i).1 (G.1 i).2.1.1 (G.1 i).2.1.2.1 (G.1 i).2.1.2.2.1 (G.1 i).2.1.2.2.2 (nI a) (nI b)).1, (pg_T G i (ps_old (G.1 i) (pr_bring (G.1 i).1 (G.1 i).2.1.1 (G.1 i).2.1.2.1 (G.1 i).2.1.2.2.1 (G.1 i).2.1.2.2.2 (nI a) (nI b)).2.1 (pr_bring (G.1 i).1 (G.1 i).2.1.1 (G.1 i).2.1.2.1 (G.1 i).2.1.2.2.1 (G.1 i).2.1.2.2.2 (nI a) (nI b)).2.2.1 (pr_bring (G.1 i).1 (G.1 i).2.1.1 (G.1 i).2.1.2.1 (G.1 i).2.1.2.2.1 (G.1 i).2.1.2.2.2 (nI a) (nI b)).2.2.2))) := by
      unfold k_put
      rw [nI_clamp (n := i) (by omega)]
      rw [if_neg (no_ix hi (by omega))]
      rw [if_neg (fun z => z.elim (no_ix ha (by omega)) (no_ix hb (by omega)))]
    rw [ek] at c
    exact c _ _ _ hp
theorem MK_putIfAbsent (hm : m_aw X zf y r G.1 As H n ow) (hx : m_cx X zf y G.1 As H n) (hG : okG G) (hr : r.2 = G.2.2.2.2) {t k v : Int32}
    (c : ∀ H1 n1 q1, m_post X zf y H n q (nI (k_putIfAbsent G t k v).1, (k_putIfAbsent G t k v).2.2.2.2.2.2) (k_putIfAbsent G t k v).2.2.1 As H1 n1 q1 → P (.inl (some (.int (k_putIfAbsent G t k v).2.1))) H1 n1 q1) : ev_ok (ev_TT X) 295 0 [.ref y, .int t, .int k, .int v, ev_J, ev_J, ev_J] [] H n q P := by
  obtain ⟨rt, r2⟩ := r
  dsimp only at hr
  subst hr
  refine MM_putIfAbsent hm hx (fun hb H1 hp => ?_) (fun i hi e hb H1 hp => ?_) (fun i a b hi e ha e2 hb e3 hms H1 hp => ?_) (fun i a b hi e ha e2 hb e3 hms H1 n1 q1 hp => ?_)
  · skip
    have ek : k_putIfAbsent G t k v = (1, 0, G) := by
      unfold k_putIfAbsent
      rw [if_pos hb]
    rw [ek] at c
    exact c _ _ _ hp
  · skip
    subst e
    have ek : k_putIfAbsent G (nI i) k v = (2, 0, G) := by
      unfold k_putIfAbsent
      rw [nI_clamp (n := i) (by omega)]
      rw [if_neg (no_ix hi (by omega))]
      rw [if_pos hb]
    rw [ek] at c
    exact c _ _ _ hp
  · skip
    subst e
    subst e2
    subst e3
    have ek : k_putIfAbsent G (nI i) (nI a) (nI b) = (3, 0, G) := by
      unfold k_putIfAbsent
      rw [nI_clamp (n := i) (by omega)]
      rw [if_neg (no_ix hi (by omega))]
      rw [if_neg (fun z => z.elim (no_ix ha (by omega)) (no_ix hb (by omega)))]
      rw [if_pos hms]
    rw [ek] at c
    exact c _ _ _ hp
  · skip
    subst e
    subst e2
    subst e3
    have ek : k_putIfAbsent G (nI i) (nI a) (nI b) = (0, (pr_bia (G.1 i).1 (G.1 i).2.1.1 (G.1 i).2.1.2.1 (G.1 i).2.1.2.2.1 (G.1 i).2.1.2.2.2 (nI a) (nI b)).1, (pg_T G i (ps_row (G.1 i) (pr_bia (G.1 i).1 (G.1 i).2.1.1 (G.1 i).2.1.2.1 (G.1 i).2.1.2.2.1 (G.1 i).2.1.2.2.2 (nI a) (nI b)).2.1 (G.1 i).2.1.1 (G.1 i).2.1.2.1 (pr_bia (G.1 i).1 (G.1 i).2.1.1 (G.1 i).2.1.2.1 (G.1 i).2.1.2.2.1 (G.1 i).2.1.2.2.2 (nI a) (nI b)).2.2.1 (pr_bia (G.1 i).1 (G.1 i).2.1.1 (G.1 i).2.1.2.1 (G.1 i).2.1.2.2.1 (G.1 i).2.1.2.2.2 (nI a) (nI b)).2.2.2))) := by
      unfold k_putIfAbsent
      rw [nI_clamp (n := i) (by omega)]
      rw [if_neg (no_ix hi (by omega))]
      rw [if_neg (fun z => z.elim (no_ix ha (by omega)) (no_ix hb (by omega)))]
      rw [if_neg (fun z => z hms)]
    rw [ek] at c
    exact c _ _ _ hp
theorem MK_get (hm : m_aw X zf y r G.1 As H n ow) (hx : m_cx X zf y G.1 As H n) (hG : okG G) (hr : r.2 = G.2.2.2.2) {t k : Int32}
    (c : ∀ H1 n1 q1, m_post X zf y H n q (nI (k_get G t k).1, (k_get G t k).2.2.2.2.2.2) (k_get G t k).2.2.1 As H1 n1 q1 → P (.inl (some (.int (k_get G t k).2.1))) H1 n1 q1) : ev_ok (ev_TT X) 303 0 [.ref y, .int t, .int k] [] H n q P := by
  obtain ⟨rt, r2⟩ := r
  dsimp only at hr
  subst hr
  refine MM_get hm hx (fun hb H1 hp => ?_) (fun i hi e hb H1 hp => ?_) (fun i a hi e ha e2 H1 n1 q1 hp => ?_)
  · skip
    have ek : k_get G t k = (1, 0, G) := by
      unfold k_get
      rw [if_pos hb]
    rw [ek] at c
    exact c _ _ _ hp
  · skip
    subst e
    have ek : k_get G (nI i) k = (2, 0, G) := by
      unfold k_get
      rw [nI_clamp (n := i) (by omega)]
      rw [if_neg (no_ix hi (by omega))]
      rw [if_pos hb]
    rw [ek] at c
    exact c _ _ _ hp
  · skip
    subst e
    subst e2
    have ek : k_get G (nI i) (nI a) = (0, (pr_fetch (G.1 i).1 (G.1 i).2.1.1 (nI a) (-1)).1, (pg_T G i (ps_row (G.1 i) (pr_fetch (G.1 i).1 (G.1 i).2.1.1 (nI a) (-1)).2 (G.1 i).2.1.1 (G.1 i).2.1.2.1 (G.1 i).2.1.2.2.1 (G.1 i).2.1.2.2.2))) := by
      unfold k_get
      rw [nI_clamp (n := i) (by omega)]
      rw [if_neg (no_ix hi (by omega))]
      rw [if_neg (no_ix ha (by omega))]
    rw [ek] at c
    exact c _ _ _ hp
theorem MK_getOr (hm : m_aw X zf y r G.1 As H n ow) (hx : m_cx X zf y G.1 As H n) (hG : okG G) (hr : r.2 = G.2.2.2.2) {t k o1 : Int32}
    (c : ∀ H1 n1 q1, m_post X zf y H n q (nI (k_getOr G t k o1).1, (k_getOr G t k o1).2.2.2.2.2.2) (k_getOr G t k o1).2.2.1 As H1 n1 q1 → P (.inl (some (.int (k_getOr G t k o1).2.1))) H1 n1 q1) : ev_ok (ev_TT X) 304 0 [.ref y, .int t, .int k, .int o1] [] H n q P := by
  obtain ⟨rt, r2⟩ := r
  dsimp only at hr
  subst hr
  refine MM_getOr hm hx (fun hb H1 hp => ?_) (fun i hi e hb H1 hp => ?_) (fun i a hi e ha e2 H1 n1 q1 hp => ?_)
  · skip
    have ek : k_getOr G t k o1 = (1, 0, G) := by
      unfold k_getOr
      rw [if_pos hb]
    rw [ek] at c
    exact c _ _ _ hp
  · skip
    subst e
    have ek : k_getOr G (nI i) k o1 = (2, 0, G) := by
      unfold k_getOr
      rw [nI_clamp (n := i) (by omega)]
      rw [if_neg (no_ix hi (by omega))]
      rw [if_pos hb]
    rw [ek] at c
    exact c _ _ _ hp
  · skip
    subst e
    subst e2
    have ek : k_getOr G (nI i) (nI a) o1 = (0, (pr_fetch (G.1 i).1 (G.1 i).2.1.1 (nI a) o1).1, (pg_T G i (ps_row (G.1 i) (pr_fetch (G.1 i).1 (G.1 i).2.1.1 (nI a) o1).2 (G.1 i).2.1.1 (G.1 i).2.1.2.1 (G.1 i).2.1.2.2.1 (G.1 i).2.1.2.2.2))) := by
      unfold k_getOr
      rw [nI_clamp (n := i) (by omega)]
      rw [if_neg (no_ix hi (by omega))]
      rw [if_neg (no_ix ha (by omega))]
    rw [ek] at c
    exact c _ _ _ hp
theorem MK_remove (hm : m_aw X zf y r G.1 As H n ow) (hx : m_cx X zf y G.1 As H n) (hG : okG G) (hr : r.2 = G.2.2.2.2) {t k : Int32}
    (c : ∀ H1 n1 q1, m_post X zf y H n q (nI (k_remove G t k).1, (k_remove G t k).2.2.2.2.2.2) (k_remove G t k).2.2.1 As H1 n1 q1 → P (.inl (some (.int (k_remove G t k).2.1))) H1 n1 q1) : ev_ok (ev_TT X) 240 0 [.ref y, .int t, .int k, ev_J, ev_J] [] H n q P := by
  obtain ⟨rt, r2⟩ := r
  dsimp only at hr
  subst hr
  refine MM_remove hm hx (fun hb H1 hp => ?_) (fun i hi e hb H1 hp => ?_) (fun i a hi e ha e2 H1 n1 q1 hp => ?_)
  · skip
    have ek : k_remove G t k = (1, 0, G) := by
      unfold k_remove
      rw [if_pos hb]
    rw [ek] at c
    exact c _ _ _ hp
  · skip
    subst e
    have ek : k_remove G (nI i) k = (2, 0, G) := by
      unfold k_remove
      rw [nI_clamp (n := i) (by omega)]
      rw [if_neg (no_ix hi (by omega))]
      rw [if_pos hb]
    rw [ek] at c
    exact c _ _ _ hp
  · skip
    subst e
    subst e2
    have ek : k_remove G (nI i) (nI a) = (0, (pr_drop (G.1 i).1 (nI a)).1, (pg_T G i (ps_row (G.1 i) (pr_drop (G.1 i).1 (nI a)).2 (G.1 i).2.1.1 (G.1 i).2.1.2.1 (G.1 i).2.1.2.2.1 (G.1 i).2.1.2.2.2))) := by
      unfold k_remove
      rw [nI_clamp (n := i) (by omega)]
      rw [if_neg (no_ix hi (by omega))]
      rw [if_neg (no_ix ha (by omega))]
    rw [ek] at c
    exact c _ _ _ hp
theorem MK_has (hm : m_aw X zf y r G.1 As H n ow) (hx : m_cx X zf y G.1 As H n) (hG : okG G) (hr : r.2 = G.2.2.2.2) {t k : Int32}
    (c : ∀ H1 n1 q1, m_post X zf y H n q (nI (k_has G t k).1, (k_has G t k).2.2.2.2.2.2) (k_has G t k).2.2.1 As H1 n1 q1 → P (.inl (some (.int (k_has G t k).2.1))) H1 n1 q1) : ev_ok (ev_TT X) 234 0 [.ref y, .int t, .int k] [] H n q P := by
  obtain ⟨rt, r2⟩ := r
  dsimp only at hr
  subst hr
  refine MM_has hm hx (fun hb H1 hp => ?_) (fun i hi e hb H1 hp => ?_) (fun i a hi e ha e2 H1 hp => ?_)
  · skip
    have ek : k_has G t k = (1, 0, G) := by
      unfold k_has
      rw [if_pos hb]
    rw [ek] at c
    exact c _ _ _ hp
  · skip
    subst e
    have ek : k_has G (nI i) k = (2, 0, G) := by
      unfold k_has
      rw [nI_clamp (n := i) (by omega)]
      rw [if_neg (no_ix hi (by omega))]
      rw [if_pos hb]
    rw [ek] at c
    exact c _ _ _ hp
  · skip
    subst e
    subst e2
    have ek : k_has G (nI i) (nI a) = (0, (ev_bb (pf_find (G.1 i).1 (nI a)).isSome), G) := by
      unfold k_has
      rw [nI_clamp (n := i) (by omega)]
      rw [if_neg (no_ix hi (by omega))]
      rw [if_neg (no_ix ha (by omega))]
    rw [ek] at c
    exact c _ _ _ hp
theorem MK_placeOf (hm : m_aw X zf y r G.1 As H n ow) (hx : m_cx X zf y G.1 As H n) (hG : okG G) (hr : r.2 = G.2.2.2.2) {t k : Int32}
    (c : ∀ H1 n1 q1, m_post X zf y H n q (nI (k_placeOf G t k).1, (k_placeOf G t k).2.2.2.2.2.2) (k_placeOf G t k).2.2.1 As H1 n1 q1 → P (.inl (some (.int (k_placeOf G t k).2.1))) H1 n1 q1) : ev_ok (ev_TT X) 239 0 [.ref y, .int t, .int k] [] H n q P := by
  obtain ⟨rt, r2⟩ := r
  dsimp only at hr
  subst hr
  refine MM_placeOf hm hx (fun hb H1 hp => ?_) (fun i hi e hb H1 hp => ?_) (fun i a hi e ha e2 H1 hp => ?_)
  · skip
    have ek : k_placeOf G t k = (1, 0, G) := by
      unfold k_placeOf
      rw [if_pos hb]
    rw [ek] at c
    exact c _ _ _ hp
  · skip
    subst e
    have ek : k_placeOf G (nI i) k = (2, 0, G) := by
      unfold k_placeOf
      rw [nI_clamp (n := i) (by omega)]
      rw [if_neg (no_ix hi (by omega))]
      rw [if_pos hb]
    rw [ek] at c
    exact c _ _ _ hp
  · skip
    subst e
    subst e2
    have ek : k_placeOf G (nI i) (nI a) = (0, (pf_place (G.1 i).1 (nI a)), G) := by
      unfold k_placeOf
      rw [nI_clamp (n := i) (by omega)]
      rw [if_neg (no_ix hi (by omega))]
      rw [if_neg (no_ix ha (by omega))]
    rw [ek] at c
    exact c _ _ _ hp
theorem MK_clear (hm : m_aw X zf y r G.1 As H n ow) (hx : m_cx X zf y G.1 As H n) (hG : okG G) (hr : r.2 = G.2.2.2.2) {t : Int32}
    (c : ∀ H1 n1 q1, m_post X zf y H n q (nI (k_clear G t).1, (k_clear G t).2.2.2.2.2.2) (k_clear G t).2.2.1 As H1 n1 q1 → P (.inl (some (.int (k_clear G t).2.1))) H1 n1 q1) : ev_ok (ev_TT X) 164 0 [.ref y, .int t, ev_J] [] H n q P := by
  obtain ⟨rt, r2⟩ := r
  dsimp only at hr
  subst hr
  refine MM_clear hm hx (fun hb H1 hp => ?_) (fun i hi e H1 n1 q1 hp => ?_)
  · skip
    have ek : k_clear G t = (1, 0, G) := by
      unfold k_clear
      rw [if_pos hb]
    rw [ek] at c
    exact c _ _ _ hp
  · skip
    subst e
    have ek : k_clear G (nI i) = (0, (nI (G.1 i).1.length), (pg_T G i (ps_row (G.1 i) [] (G.1 i).2.1.1 (G.1 i).2.1.2.1 (G.1 i).2.1.2.2.1 (G.1 i).2.1.2.2.2))) := by
      unfold k_clear
      rw [nI_clamp (n := i) (by omega)]
      rw [if_neg (no_ix hi (by omega))]
    rw [ek] at c
    exact c _ _ _ hp
theorem MK_size (hm : m_aw X zf y r G.1 As H n ow) (hx : m_cx X zf y G.1 As H n) (hG : okG G) (hr : r.2 = G.2.2.2.2) {t : Int32}
    (c : ∀ H1 n1 q1, m_post X zf y H n q (nI (k_size G t).1, (k_size G t).2.2.2.2.2.2) (k_size G t).2.2.1 As H1 n1 q1 → P (.inl (some (.int (k_size G t).2.1))) H1 n1 q1) : ev_ok (ev_TT X) 169 0 [.ref y, .int t] [] H n q P := by
  obtain ⟨rt, r2⟩ := r
  dsimp only at hr
  subst hr
  refine MM_size hm hx (fun hb H1 hp => ?_) (fun i hi e H1 hp => ?_)
  · skip
    have ek : k_size G t = (1, 0, G) := by
      unfold k_size
      rw [if_pos hb]
    rw [ek] at c
    exact c _ _ _ hp
  · skip
    subst e
    have ek : k_size G (nI i) = (0, (nI (G.1 i).1.length), G) := by
      unfold k_size
      rw [nI_clamp (n := i) (by omega)]
      rw [if_neg (no_ix hi (by omega))]
    rw [ek] at c
    exact c _ _ _ hp
theorem MK_keyAt (hm : m_aw X zf y r G.1 As H n ow) (hx : m_cx X zf y G.1 As H n) (hG : okG G) (hr : r.2 = G.2.2.2.2) {t p : Int32}
    (c : ∀ H1 n1 q1, m_post X zf y H n q (nI (k_keyAt G t p).1, (k_keyAt G t p).2.2.2.2.2.2) (k_keyAt G t p).2.2.1 As H1 n1 q1 → P (.inl (some (.int (k_keyAt G t p).2.1))) H1 n1 q1) : ev_ok (ev_TT X) 236 0 [.ref y, .int t, .int p] [] H n q P := by
  obtain ⟨rt, r2⟩ := r
  dsimp only at hr
  subst hr
  refine MM_keyAt hm hx (fun hb H1 hp => ?_) (fun i hi e H1 hp => ?_)
  · skip
    have ek : k_keyAt G t p = (1, 0, G) := by
      unfold k_keyAt
      rw [if_pos hb]
    rw [ek] at c
    exact c _ _ _ hp
  · skip
    subst e
    have ek : k_keyAt G (nI i) p = (0, (pr_told (G.1 i).1 p 0), G) := by
      unfold k_keyAt
      rw [nI_clamp (n := i) (by omega)]
      rw [if_neg (no_ix hi (by omega))]
    rw [ek] at c
    exact c _ _ _ hp
theorem MK_valueAt (hm : m_aw X zf y r G.1 As H n ow) (hx : m_cx X zf y G.1 As H n) (hG : okG G) (hr : r.2 = G.2.2.2.2) {t p : Int32}
    (c : ∀ H1 n1 q1, m_post X zf y H n q (nI (k_valueAt G t p).1, (k_valueAt G t p).2.2.2.2.2.2) (k_valueAt G t p).2.2.1 As H1 n1 q1 → P (.inl (some (.int (k_valueAt G t p).2.1))) H1 n1 q1) : ev_ok (ev_TT X) 244 0 [.ref y, .int t, .int p] [] H n q P := by
  obtain ⟨rt, r2⟩ := r
  dsimp only at hr
  subst hr
  refine MM_valueAt hm hx (fun hb H1 hp => ?_) (fun i hi e H1 hp => ?_)
  · skip
    have ek : k_valueAt G t p = (1, 0, G) := by
      unfold k_valueAt
      rw [if_pos hb]
    rw [ek] at c
    exact c _ _ _ hp
  · skip
    subst e
    have ek : k_valueAt G (nI i) p = (0, (pr_told (G.1 i).1 p 1), G) := by
      unfold k_valueAt
      rw [nI_clamp (n := i) (by omega)]
      rw [if_neg (no_ix hi (by omega))]
    rw [ek] at c
    exact c _ _ _ hp
theorem MK_pairAt (hm : m_aw X zf y r G.1 As H n ow) (hx : m_cx X zf y G.1 As H n) (hG : okG G) (hr : r.2 = G.2.2.2.2) {t p : Int32}
    (c : ∀ H1 n1 q1, m_post X zf y H n q (nI (k_pairAt G t p).1, (k_pairAt G t p).2.2.2.2.2.2) (k_pairAt G t p).2.2.1 As H1 n1 q1 → P (.inl (some (.int (k_pairAt G t p).2.1))) H1 n1 q1) : ev_ok (ev_TT X) 238 0 [.ref y, .int t, .int p] [] H n q P := by
  obtain ⟨rt, r2⟩ := r
  dsimp only at hr
  subst hr
  refine MM_pairAt hm hx (fun hb H1 hp => ?_) (fun i hi e H1 hp => ?_)
  · skip
    have ek : k_pairAt G t p = (1, 0, G) := by
      unfold k_pairAt
      rw [if_pos hb]
    rw [ek] at c
    exact c _ _ _ hp
  · skip
    subst e
    have ek : k_pairAt G (nI i) p = (0, (pr_told (G.1 i).1 p 2), G) := by
      unfold k_pairAt
      rw [nI_clamp (n := i) (by omega)]
      rw [if_neg (no_ix hi (by omega))]
    rw [ek] at c
    exact c _ _ _ hp
theorem MK_eldest (hm : m_aw X zf y r G.1 As H n ow) (hx : m_cx X zf y G.1 As H n) (hG : okG G) (hr : r.2 = G.2.2.2.2) {t : Int32}
    (c : ∀ H1 n1 q1, m_post X zf y H n q (nI (k_eldest G t).1, (k_eldest G t).2.2.2.2.2.2) (k_eldest G t).2.2.1 As H1 n1 q1 → P (.inl (some (.int (k_eldest G t).2.1))) H1 n1 q1) : ev_ok (ev_TT X) 233 0 [.ref y, .int t] [] H n q P := by
  obtain ⟨rt, r2⟩ := r
  dsimp only at hr
  subst hr
  refine MM_eldest hm hx (fun hb H1 hp => ?_) (fun i hi e H1 hp => ?_)
  · skip
    have ek : k_eldest G t = (1, 0, G) := by
      unfold k_eldest
      rw [if_pos hb]
    rw [ek] at c
    exact c _ _ _ hp
  · skip
    subst e
    have ek : k_eldest G (nI i) = (0, (pr_told (G.1 i).1 0 0), G) := by
      unfold k_eldest
      rw [nI_clamp (n := i) (by omega)]
      rw [if_neg (no_ix hi (by omega))]
    rw [ek] at c
    exact c _ _ _ hp
theorem MK_latest (hm : m_aw X zf y r G.1 As H n ow) (hx : m_cx X zf y G.1 As H n) (hG : okG G) (hr : r.2 = G.2.2.2.2) {t : Int32}
    (c : ∀ H1 n1 q1, m_post X zf y H n q (nI (k_latest G t).1, (k_latest G t).2.2.2.2.2.2) (k_latest G t).2.2.1 As H1 n1 q1 → P (.inl (some (.int (k_latest G t).2.1))) H1 n1 q1) : ev_ok (ev_TT X) 237 0 [.ref y, .int t] [] H n q P := by
  obtain ⟨rt, r2⟩ := r
  dsimp only at hr
  subst hr
  refine MM_latest hm hx (fun hb H1 hp => ?_) (fun i hi e H1 hp => ?_)
  · skip
    have ek : k_latest G t = (1, 0, G) := by
      unfold k_latest
      rw [if_pos hb]
    rw [ek] at c
    exact c _ _ _ hp
  · skip
    subst e
    have ek : k_latest G (nI i) = (0, (pr_told (G.1 i).1 (nI (G.1 i).1.length - 1) 0), G) := by
      unfold k_latest
      rw [nI_clamp (n := i) (by omega)]
      rw [if_neg (no_ix hi (by omega))]
    rw [ek] at c
    exact c _ _ _ hp
theorem MK_hasMore (hm : m_aw X zf y r G.1 As H n ow) (hx : m_cx X zf y G.1 As H n) (hG : okG G) (hr : r.2 = G.2.2.2.2) {t : Int32}
    (c : ∀ H1 n1 q1, m_post X zf y H n q (nI (k_hasMore G t).1, (k_hasMore G t).2.2.2.2.2.2) (k_hasMore G t).2.2.1 As H1 n1 q1 → P (.inl (some (.int (k_hasMore G t).2.1))) H1 n1 q1) : ev_ok (ev_TT X) 165 0 [.ref y, .int t] [] H n q P := by
  obtain ⟨rt, r2⟩ := r
  dsimp only at hr
  subst hr
  refine MM_hasMore hm hx (fun hb H1 hp => ?_) (fun i hi e H1 hp => ?_)
  · skip
    have ek : k_hasMore G t = (1, 0, G) := by
      unfold k_hasMore
      rw [if_pos hb]
    rw [ek] at c
    exact c _ _ _ hp
  · skip
    subst e
    have ek : k_hasMore G (nI i) = (0, (ev_bb (((G.1 i).2.2.1.1 && !(G.1 i).2.2.1.2.1) && decide ((G.1 i).2.2.2.2 < (G.1 i).1.length))), G) := by
      unfold k_hasMore
      rw [nI_clamp (n := i) (by omega)]
      rw [if_neg (no_ix hi (by omega))]
    rw [ek] at c
    exact c _ _ _ hp
theorem MK_isStale (hm : m_aw X zf y r G.1 As H n ow) (hx : m_cx X zf y G.1 As H n) (hG : okG G) (hr : r.2 = G.2.2.2.2) {t : Int32}
    (c : ∀ H1 n1 q1, m_post X zf y H n q (nI (k_isStale G t).1, (k_isStale G t).2.2.2.2.2.2) (k_isStale G t).2.2.1 As H1 n1 q1 → P (.inl (some (.int (k_isStale G t).2.1))) H1 n1 q1) : ev_ok (ev_TT X) 167 0 [.ref y, .int t] [] H n q P := by
  obtain ⟨rt, r2⟩ := r
  dsimp only at hr
  subst hr
  refine MM_isStale hm hx (fun hb H1 hp => ?_) (fun i hi e H1 hp => ?_)
  · skip
    have ek : k_isStale G t = (1, 0, G) := by
      unfold k_isStale
      rw [if_pos hb]
    rw [ek] at c
    exact c _ _ _ hp
  · skip
    subst e
    have ek : k_isStale G (nI i) = (0, (ev_bb ((G.1 i).2.2.1.1 && (G.1 i).2.2.1.2.1)), G) := by
      unfold k_isStale
      rw [nI_clamp (n := i) (by omega)]
      rw [if_neg (no_ix hi (by omega))]
    rw [ek] at c
    exact c _ _ _ hp
theorem MK_set (hm : m_aw X zf y r G.1 As H n ow) (hx : m_cx X zf y G.1 As H n) (hG : okG G) (hr : r.2 = G.2.2.2.2) {t p v : Int32}
    (c : ∀ H1 n1 q1, m_post X zf y H n q (nI (k_set G t p v).1, (k_set G t p v).2.2.2.2.2.2) (k_set G t p v).2.2.1 As H1 n1 q1 → P (.inl (some (.int (k_set G t p v).2.1))) H1 n1 q1) : ev_ok (ev_TT X) 214 0 [.ref y, .int t, .int p, .int v, ev_J] [] H n q P := by
  obtain ⟨rt, r2⟩ := r
  dsimp only at hr
  subst hr
  refine MM_set2 hm hx (fun hb H1 hp => ?_) (fun i hi e hb H1 hp => ?_) (fun i a hi e ha e2 hb H1 hp => ?_) (fun i j a hi e hj e2 ha e3 H1 n1 q1 hp => ?_)
  · skip
    have ek : k_set G t p v = (1, 0, G) := by
      unfold k_set
      rw [if_pos hb]
    rw [ek] at c
    exact c _ _ _ hp
  · skip
    subst e
    have ek : k_set G (nI i) p v = (2, 0, G) := by
      unfold k_set
      rw [nI_clamp (n := i) (by omega)]
      rw [if_neg (no_ix hi (by omega))]
      rw [if_pos hb]
    rw [ek] at c
    exact c _ _ _ hp
  · skip
    subst e
    subst e2
    have ek : k_set G (nI i) p (nI a) = (0, -9, pg_rf G) := by
      unfold k_set
      rw [nI_clamp (n := i) (by omega)]
      rw [if_neg (no_ix hi (by omega))]
      rw [if_neg (no_ix ha (by omega))]
      rw [if_pos hb]
    rw [ek] at c
    exact c _ _ _ hp
  · skip
    subst e
    subst e2
    subst e3
    have ek : k_set G (nI i) (nI j) (nI a) = (0, (pf_at (G.1 i).1 j).2, (pg_T G i (ps_gen ((G.1 i).1.set j ((pf_at (G.1 i).1 j).1, (nI a))) (G.1 i).2.1.1 (G.1 i).2.1.2.1 (G.1 i).2.1.2.2.1 (G.1 i).2.1.2.2.2 (G.1 i).2.2.1.1 (G.1 i).2.2.1.2.1 (G.1 i).2.2.1.2.2 (G.1 i).2.2.2.1 (G.1 i).2.2.2.2))) := by
      unfold k_set
      rw [nI_clamp (n := i) (by omega), nI_clamp (n := j) (by have := okL_len (hG.1 i hi).1; omega)]
      rw [if_neg (no_ix hi (by omega))]
      rw [if_neg (no_ix ha (by omega))]
      rw [if_neg (fun z => z ((ev_pl (okL_len (hG.1 i hi).1 |> fun z => by omega)).mpr ⟨j, hj, rfl⟩))]
    rw [ek] at c
    exact c _ _ _ hp
theorem MK_walk (hm : m_aw X zf y r G.1 As H n ow) (hx : m_cx X zf y G.1 As H n) (hG : okG G) (hr : r.2 = G.2.2.2.2) {t w : Int32}
    (c : ∀ H1 n1 q1, m_post X zf y H n q (nI (k_walk G t w).1, (k_walk G t w).2.2.2.2.2.2) (k_walk G t w).2.2.1 As H1 n1 q1 → P (.inl (some (.int (k_walk G t w).2.1))) H1 n1 q1) : ev_ok (ev_TT X) 171 0 [.ref y, .int t, .int w, ev_J] [] H n q P := by
  obtain ⟨rt, r2⟩ := r
  dsimp only at hr
  subst hr
  refine MM_walk hm hx (fun hb H1 hp => ?_) (fun i hi e hb H1 hp => ?_) (fun i a hi e ha e2 H1 n1 q1 hp => ?_)
  · skip
    have ek : k_walk G t w = (1, 0, G) := by
      unfold k_walk
      rw [if_pos hb]
    rw [ek] at c
    exact c _ _ _ hp
  · skip
    subst e
    have ek : k_walk G (nI i) w = (2, 0, G) := by
      unfold k_walk
      rw [nI_clamp (n := i) (by omega)]
      rw [if_neg (no_ix hi (by omega))]
      rw [if_pos hb]
    rw [ek] at c
    exact c _ _ _ hp
  · skip
    subst e
    subst e2
    have ek : k_walk G (nI i) (nI a) = (0, (nI (G.1 i).1.length), (pg_T G i (ps_gen (G.1 i).1 (G.1 i).2.1.1 (G.1 i).2.1.2.1 (G.1 i).2.1.2.2.1 (G.1 i).2.1.2.2.2 true false false (nI a) 0))) := by
      unfold k_walk
      rw [nI_clamp (n := i) (by omega)]
      rw [if_neg (no_ix hi (by omega))]
      rw [if_neg (no_ix ha (by omega))]
    rw [ek] at c
    exact c _ _ _ hp
theorem MK_ofTable (hm : m_aw X zf y r G.1 As H n ow) (hx : m_cx X zf y G.1 As H n) (hG : okG G) (hr : r.2 = G.2.2.2.2) {t w : Int32}
    (c : ∀ H1 n1 q1, m_post X zf y H n q (nI (k_ofTable G t w).1, (k_ofTable G t w).2.2.2.2.2.2) (k_ofTable G t w).2.2.1 As H1 n1 q1 → P (.inl (some (.int (k_ofTable G t w).2.1))) H1 n1 q1) : ev_ok (ev_TT X) 213 0 [.ref y, .int t, .int w] [] H n q P := by
  obtain ⟨rt, r2⟩ := r
  dsimp only at hr
  subst hr
  refine MM_ofTable hm hx (fun hb H1 hp => ?_) (fun i hi e hb H1 hp => ?_) (fun i a hi e ha e2 H1 n1 q1 hp => ?_)
  · skip
    have ek : k_ofTable G t w = (1, 0, G) := by
      unfold k_ofTable
      rw [if_pos hb]
    rw [ek] at c
    exact c _ _ _ hp
  · skip
    subst e
    have ek : k_ofTable G (nI i) w = (2, 0, G) := by
      unfold k_ofTable
      rw [nI_clamp (n := i) (by omega)]
      rw [if_neg (no_ix hi (by omega))]
      rw [if_pos hb]
    rw [ek] at c
    exact c _ _ _ hp
  · skip
    subst e
    subst e2
    have ek : k_ofTable G (nI i) (nI a) = (0, (pt_of (G.1 i) a), G) := by
      unfold k_ofTable
      rw [nI_clamp (n := i) (by omega), nI_clamp (n := a) (by omega)]
      rw [if_neg (no_ix hi (by omega))]
      rw [if_neg (no_ix ha (by omega))]
    rw [ek] at c
    exact c _ _ _ hp
theorem MK_step (hm : m_aw X zf y r G.1 As H n ow) (hx : m_cx X zf y G.1 As H n) (hG : okG G) (hr : r.2 = G.2.2.2.2) {t : Int32}
    (c : ∀ H1 n1 q1, m_post X zf y H n q (nI (k_step G t).1, (k_step G t).2.2.2.2.2.2) (k_step G t).2.2.1 As H1 n1 q1 → P (.inl (some (.int (k_step G t).2.1))) H1 n1 q1) : ev_ok (ev_TT X) 242 0 [.ref y, .int t, ev_J] [] H n q P := by
  obtain ⟨rt, r2⟩ := r
  dsimp only at hr
  subst hr
  refine MM_step hm hx (fun hb H1 hp => ?_) (fun i hi e hu H1 hp => ?_) (fun i hi e hu hv H1 hp => ?_) (fun i hi e hu hv H1 n1 q1 hp => ?_)
  · skip
    have ek : k_step G t = (1, 0, G) := by
      unfold k_step
      rw [if_pos hb]
    rw [ek] at c
    exact c _ _ _ hp
  · skip
    subst e
    have ek : k_step G (nI i) = (0, -9, pg_rf G) := by
      unfold k_step
      rw [nI_clamp (n := i) (by omega)]
      rw [if_neg (no_ix hi (by omega))]
      rw [if_pos hu]
    rw [ek] at c
    exact c _ _ _ hp
  · skip
    subst e
    have ek : k_step G (nI i) = (0, (-8), G) := by
      unfold k_step
      rw [nI_clamp (n := i) (by omega)]
      rw [if_neg (no_ix hi (by omega))]
      rw [if_neg (fun z => Bool.noConfusion (hu.symm.trans z))]
      rw [if_pos hv]
    rw [ek] at c
    exact c _ _ _ hp
  · skip
    subst e
    have ek : k_step G (nI i) = (0, (pr_told (G.1 i).1 (nI (G.1 i).2.2.2.2) (G.1 i).2.2.2.1), (pg_T G i (ps_gen (G.1 i).1 (G.1 i).2.1.1 (G.1 i).2.1.2.1 (G.1 i).2.1.2.2.1 (G.1 i).2.1.2.2.2 (G.1 i).2.2.1.1 (G.1 i).2.2.1.2.1 true (G.1 i).2.2.2.1 ((G.1 i).2.2.2.2 + 1)))) := by
      unfold k_step
      rw [nI_clamp (n := i) (by omega)]
      rw [if_neg (no_ix hi (by omega))]
      rw [if_neg (fun z => Bool.noConfusion (hu.symm.trans z))]
      rw [if_neg (fun z => z hv)]
    rw [ek] at c
    exact c _ _ _ hp
theorem MK_rest (hm : m_aw X zf y r G.1 As H n ow) (hx : m_cx X zf y G.1 As H n) (hG : okG G) (hr : r.2 = G.2.2.2.2) {t : Int32}
    (c : ∀ H1 n1 q1, m_post X zf y H n q (nI (k_rest G t).1, (k_rest G t).2.2.2.2.2.2) (k_rest G t).2.2.1 As H1 n1 q1 → P (.inl (some (.int (k_rest G t).2.1))) H1 n1 q1) : ev_ok (ev_TT X) 241 0 [.ref y, .int t, ev_J, ev_J] [] H n q P := by
  obtain ⟨rt, r2⟩ := r
  dsimp only at hr
  subst hr
  refine MM_rest hm hx (fun hb H1 hp => ?_) (fun i hi e hu H1 hp => ?_) (fun i hi e hu H1 n1 q1 hp => ?_)
  · skip
    have ek : k_rest G t = (1, 0, G) := by
      unfold k_rest
      rw [if_pos hb]
    rw [ek] at c
    exact c _ _ _ hp
  · skip
    subst e
    have ek : k_rest G (nI i) = (0, -9, pg_rf G) := by
      unfold k_rest
      rw [nI_clamp (n := i) (by omega)]
      rw [if_neg (no_ix hi (by omega))]
      rw [if_pos hu]
    rw [ek] at c
    exact c _ _ _ hp
  · skip
    subst e
    have ek : k_rest G (nI i) = (0, (pr_acc (G.1 i).1 (G.1 i).2.2.2.1 ((G.1 i).1.length - (G.1 i).2.2.2.2) (G.1 i).2.2.2.2 0), (pg_T G i (ps_gen (G.1 i).1 (G.1 i).2.1.1 (G.1 i).2.1.2.1 (G.1 i).2.1.2.2.1 (G.1 i).2.1.2.2.2 (G.1 i).2.2.1.1 (G.1 i).2.2.1.2.1 ((G.1 i).2.2.1.2.2 || decide (0 < (G.1 i).1.length - (G.1 i).2.2.2.2)) (G.1 i).2.2.2.1 (G.1 i).1.length))) := by
      unfold k_rest
      rw [nI_clamp (n := i) (by omega)]
      rw [if_neg (no_ix hi (by omega))]
      rw [if_neg (fun z => Bool.noConfusion (hu.symm.trans z))]
    rw [ek] at c
    exact c _ _ _ hp
theorem MK_cut (hm : m_aw X zf y r G.1 As H n ow) (hx : m_cx X zf y G.1 As H n) (hG : okG G) (hr : r.2 = G.2.2.2.2) {t : Int32}
    (c : ∀ H1 n1 q1, m_post X zf y H n q (nI (k_cut G t).1, (k_cut G t).2.2.2.2.2.2) (k_cut G t).2.2.1 As H1 n1 q1 → P (.inl (some (.int (k_cut G t).2.1))) H1 n1 q1) : ev_ok (ev_TT X) 212 0 [.ref y, .int t, ev_J] [] H n q P := by
  obtain ⟨rt, r2⟩ := r
  dsimp only at hr
  subst hr
  refine MM_cut hm hx (fun hb H1 hp => ?_) (fun i hi e hu H1 hp => ?_) (fun i kk hi e hu hk1 hk2 H1 n1 q1 hp => ?_)
  · skip
    have ek : k_cut G t = (1, 0, G) := by
      unfold k_cut
      rw [if_pos hb]
    rw [ek] at c
    exact c _ _ _ hp
  · skip
    subst e
    have ek : k_cut G (nI i) = (0, -9, pg_rf G) := by
      unfold k_cut
      rw [nI_clamp (n := i) (by omega)]
      rw [if_neg (no_ix hi (by omega))]
      rw [if_pos hu]
    rw [ek] at c
    exact c _ _ _ hp
  · skip
    subst e
    have ek : k_cut G (nI i) = (0, (nI ((G.1 i).1.eraseIdx kk).length), (pg_T G i (ps_gen ((G.1 i).1.eraseIdx kk) (G.1 i).2.1.1 (G.1 i).2.1.2.1 (G.1 i).2.1.2.2.1 (G.1 i).2.1.2.2.2 (G.1 i).2.2.1.1 (G.1 i).2.2.1.2.1 false (G.1 i).2.2.2.1 kk))) := by
      unfold k_cut
      rw [nI_clamp (n := i) (by omega), show (G.1 i).2.2.2.2 - 1 = kk from by omega]
      rw [if_neg (no_ix hi (by omega))]
      rw [if_neg (fun z => Bool.noConfusion (hu.symm.trans z))]
    rw [ek] at c
    exact c _ _ _ hp
end L77
