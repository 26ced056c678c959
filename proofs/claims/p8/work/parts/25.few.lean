/-! ===== the fewest misses ===== -/
section FM
variable {X : ev_E} {h : ev_M} {a : Nat} {ka de ne hk hn : Nat → Int32} {c : Nat} {n q : Nat} {P : ev_O → ev_M → Nat → Nat → Prop}
theorem okN_X {As : List Nat} (hN : okN ka ne c) (hcl : As.length = c) (hka : ∀ j, j < c → ka j = nI (As.getD j 0) ∧ As.getD j 0 < 20) {i : Nat} (hi : i < c) : ∃ k, ne i = nI k ∧ k ≤ 60 ∧ nX As i k ∨ 60 < c := by
  by_cases hc : 60 < c
  · exact ⟨0, Or.inr hc⟩
  have hinj : ∀ z, z < c → ((ka z = ka i) ↔ As.getD z 0 = As.getD i 0) := fun z hz => by
    rw [(hka z hz).1, (hka i hi).1]
    have h1 := (hka z hz).2
    have h2 := (hka i hi).2
    exact nI_eq (by omega) (by omega)
  obtain ⟨k, hk, hh⟩ := hN i hi
  refine ⟨k, Or.inl ⟨hk, ?_, ?_⟩⟩
  · rcases hh with ⟨-, h2, -⟩ | ⟨h2, -⟩ <;> omega
  · rcases hh with ⟨b1, b2, b3, b4⟩ | ⟨b1, b2⟩
    · exact Or.inl ⟨b1, by omega, (hinj k b2).mp b3, fun z h1 h2 w => b4 z h1 h2 ((hinj z (by omega)).mpr w)⟩
    · exact Or.inr ⟨b1, fun z h1 h2 w => b2 z h1 (by omega) ((hinj z (by omega)).mpr w)⟩
theorem A_few {As : List Nat} (hc : c ≤ 60) (hcl : As.length = c) (hka : ∀ j, j < c → ka j = nI (As.getD j 0) ∧ As.getD j 0 < 20) (hN : okN ka ne c) {s : Nat} (hs : s < 6) (k : ∀ hk' hn', P (.inl (some (.int (nI (c - (gs As (s + 1) c).2))))) (ev_ask h a ka de ne hk' hn' c) n q) : ev_ok (ev_TT X) 90 0 [.ref a, .int (nI (s + 1)), ev_J, ev_J, ev_J, ev_J, ev_J] [] (ev_ask h a ka de ne hk hn c) n q P := by
  have key : ∀ d i e (miss : Int32) v (hk hn : Nat → Int32) (xk lk nk : Nat → Nat), i + d = c → bJ As (s + 1) i e xk lk nk → (∀ j, j < e → hk j = nI (xk j) ∧ xk j < 20 ∧ hn j = nI (nk j) ∧ nk j ≤ 60) → miss = nI (i - (gs As (s + 1) i).2) → ev_ok (ev_TT X) 90 15 [.ref a, .int (nI (s + 1)), .int (nI (s + 1)), .int (nI e), .int miss, .int (nI i), v] [] (ev_ask h a ka de ne hk hn c) n q P := by
    intro d
    induction d with
    | zero =>
      intro i e miss v hk hn xk lk nk hi hJ hS hm
      have hi2 : c ≤ i := by omega
      have hic : i = c := by omega
      rw [hic] at hm
      subst hm
      simp (disch := omega) only [t_X0_fewestMisses_0, t_X0_fewestMisses_1, t_X0_fewestMisses_3, t_X0_fewestMisses_6, t_X0_fewestMisses_7, t_X0_fewestMisses_8, t_X0_fewestMisses_9, t_X0_fewestMisses_10, t_X0_fewestMisses_12, t_X0_fewestMisses_13, t_X0_fewestMisses_15, t_X0_fewestMisses_17, t_X0_fewestMisses_18, t_X0_fewestMisses_21, t_X0_fewestMisses_24, t_X0_fewestMisses_25, t_X0_fewestMisses_26, t_X0_fewestMisses_29, t_X0_fewestMisses_31, t_X0_fewestMisses_32, t_X0_fewestMisses_33, t_X0_fewestMisses_36, t_X0_fewestMisses_38, t_X0_fewestMisses_40, t_X0_fewestMisses_41, t_X0_fewestMisses_44, t_X0_fewestMisses_47, t_X0_fewestMisses_48, t_X0_fewestMisses_49, t_X0_fewestMisses_52, t_X0_fewestMisses_53, t_X0_fewestMisses_56, t_X0_fewestMisses_57, t_X0_fewestMisses_58, t_X0_fewestMisses_61, t_X0_fewestMisses_63, t_X0_fewestMisses_64, t_X0_fewestMisses_66, t_X0_fewestMisses_67, t_X0_fewestMisses_68, t_X0_fewestMisses_71, t_X0_fewestMisses_72, t_X0_fewestMisses_73, t_X0_fewestMisses_76, t_X0_fewestMisses_78, t_X0_fewestMisses_79, t_X0_fewestMisses_82, t_X0_fewestMisses_84, t_X0_fewestMisses_85, t_X0_fewestMisses_86, t_X0_fewestMisses_87, t_X0_fewestMisses_90, t_X0_fewestMisses_92, t_X0_fewestMisses_93, t_X0_fewestMisses_96, t_X0_fewestMisses_98, t_X0_fewestMisses_99, t_X0_fewestMisses_100, t_X0_fewestMisses_103, t_X0_fewestMisses_106, t_X0_fewestMisses_108, ↓reduceIte, ev_k_i, ev_k_r, ev_k_l, ev_k_J, ev_k_n, ev_kr_1, ev_kr_0, ev_isK_y, ev_aG_y, ev_aS_y, ev_aN_y, ev_inA_0, ev_isA_0, ev_ft_I, ev_ft_0, ev_ft_1, ev_ft_o, ev_ft_a, ev_nb_0, ev_nb_1, and_true, true_and, if_true, if_false, not_true_eq_false, not_false_eq_true, nI_1, ev_fG_0, ev_fG_1, ev_fG_2, ev_fG_3, ev_fG_4, ev_fG_5, ev_fG_6, ev_fG_7, ev_fG_8, ev_fS_0, ev_fS_1, ev_fS_2, ev_fS_3, ev_fS_4, ev_fS_5, ev_fS_6, ev_fS_7, ev_fS_8, ev_isO_0, ev_isO_1, ev_isO_2, ev_isO_3, ev_isO_4, ev_isO_5, ev_isO_6, ev_isO_7, ev_isO_8, ev_z0, ev_z1, ev_z2, eq_self, ev_ask_0, ev_ask_1, ev_ask_2, ev_ask_3, ev_ask_4, ev_ask_5, ev_ask_l0, ev_ask_l1, ev_ask_l2, ev_ask_l3, ev_ask_l4, ev_ask_l5, ev_ask_u0, ev_ask_u1, ev_ask_u2, ev_ask_u3, ev_ask_u4, ev_ask_u5, ev_ofN, nI_leI, hi2]
      exact k _ _
    | succ d ih =>
      intro i e miss v hk hn xk lk nk hi hJ hS hm
      have hi2 : ¬ c ≤ i := by omega
      have hp := nI_pos' (n := i) (by omega)
      have h60 : i < 60 := by omega
      have hic : i < As.length := by omega
      have hem := hJ.1
      have he : e ≤ 6 := by omega
      obtain ⟨hki, hx20⟩ := hka i (by omega)
      obtain ⟨ni, hni⟩ := okN_X hN hcl hka (i := i) (by omega)
      have hni := hni.elim id (fun z => absurd z (by omega))
      obtain ⟨n1, n2, n3⟩ := hni
      have hgl := gs_le (As := As) (m := s + 1) i
      rw [t_X0_fewestMisses_15]
      simp (disch := omega) only [t_X0_fewestMisses_0, t_X0_fewestMisses_1, t_X0_fewestMisses_3, t_X0_fewestMisses_6, t_X0_fewestMisses_7, t_X0_fewestMisses_8, t_X0_fewestMisses_9, t_X0_fewestMisses_10, t_X0_fewestMisses_12, t_X0_fewestMisses_13, t_X0_fewestMisses_17, t_X0_fewestMisses_18, t_X0_fewestMisses_21, t_X0_fewestMisses_24, t_X0_fewestMisses_25, t_X0_fewestMisses_26, t_X0_fewestMisses_29, t_X0_fewestMisses_31, t_X0_fewestMisses_32, t_X0_fewestMisses_33, t_X0_fewestMisses_36, t_X0_fewestMisses_38, t_X0_fewestMisses_40, t_X0_fewestMisses_41, t_X0_fewestMisses_44, t_X0_fewestMisses_47, t_X0_fewestMisses_48, t_X0_fewestMisses_49, t_X0_fewestMisses_52, t_X0_fewestMisses_53, t_X0_fewestMisses_56, t_X0_fewestMisses_57, t_X0_fewestMisses_58, t_X0_fewestMisses_61, t_X0_fewestMisses_63, t_X0_fewestMisses_64, t_X0_fewestMisses_66, t_X0_fewestMisses_67, t_X0_fewestMisses_68, t_X0_fewestMisses_71, t_X0_fewestMisses_72, t_X0_fewestMisses_73, t_X0_fewestMisses_76, t_X0_fewestMisses_78, t_X0_fewestMisses_79, t_X0_fewestMisses_82, t_X0_fewestMisses_84, t_X0_fewestMisses_85, t_X0_fewestMisses_86, t_X0_fewestMisses_87, t_X0_fewestMisses_90, t_X0_fewestMisses_92, t_X0_fewestMisses_93, t_X0_fewestMisses_96, t_X0_fewestMisses_98, t_X0_fewestMisses_99, t_X0_fewestMisses_100, t_X0_fewestMisses_103, t_X0_fewestMisses_106, t_X0_fewestMisses_108, ↓reduceIte, ev_k_i, ev_k_r, ev_k_l, ev_k_J, ev_k_n, ev_kr_1, ev_kr_0, ev_isK_y, ev_aG_y, ev_aS_y, ev_aN_y, ev_inA_0, ev_isA_0, ev_ft_I, ev_ft_0, ev_ft_1, ev_ft_o, ev_ft_a, ev_nb_0, ev_nb_1, and_true, true_and, if_true, if_false, not_true_eq_false, not_false_eq_true, nI_1, ev_fG_0, ev_fG_1, ev_fG_2, ev_fG_3, ev_fG_4, ev_fG_5, ev_fG_6, ev_fG_7, ev_fG_8, ev_fS_0, ev_fS_1, ev_fS_2, ev_fS_3, ev_fS_4, ev_fS_5, ev_fS_6, ev_fS_7, ev_fS_8, ev_isO_0, ev_isO_1, ev_isO_2, ev_isO_3, ev_isO_4, ev_isO_5, ev_isO_6, ev_isO_7, ev_isO_8, ev_z0, ev_z1, ev_z2, eq_self, ev_ask_0, ev_ask_1, ev_ask_2, ev_ask_3, ev_ask_4, ev_ask_5, ev_ask_l0, ev_ask_l1, ev_ask_l2, ev_ask_l3, ev_ask_l4, ev_ask_l5, ev_ask_u0, ev_ask_u1, ev_ask_u2, ev_ask_u3, ev_ask_u4, ev_ask_u5, ev_ofN, nI_leI, hi2, nI_clamp, hp, h60]
      refine A_held he (fun hno => ?_) fun j hj hjx => ?_
      · have hx : ∀ j, j < e → ¬ xk j = As.getD i 0 := fun j hj w => hno j hj (by rw [(hS j hj).1, hki, w])
        have hm1 : miss + 1 = nI (i + 1 - (gs As (s + 1) (i + 1)).2) := by
          rw [gs_n (bJ_not hJ hic hx), hm, ← nI_succ, show i + 1 - (gs As (s + 1) i).2 = i - (gs As (s + 1) i).2 + 1 from by omega]
        by_cases hlt : e < s + 1
        · have he6 : e < 6 := by omega
          have hmn : ¬ nI (s + 1) ≤ nI e := fun z => by
            have := (nI_leI (by omega) (by omega)).mp z
            omega
          have hpe := nI_pos' (n := e) (by omega)
          have hee : e < e + 1 := Nat.lt_succ_self e
          simp (disch := omega) only [t_X0_fewestMisses_0, t_X0_fewestMisses_1, t_X0_fewestMisses_3, t_X0_fewestMisses_6, t_X0_fewestMisses_7, t_X0_fewestMisses_8, t_X0_fewestMisses_9, t_X0_fewestMisses_10, t_X0_fewestMisses_12, t_X0_fewestMisses_13, t_X0_fewestMisses_17, t_X0_fewestMisses_18, t_X0_fewestMisses_21, t_X0_fewestMisses_24, t_X0_fewestMisses_25, t_X0_fewestMisses_26, t_X0_fewestMisses_29, t_X0_fewestMisses_31, t_X0_fewestMisses_32, t_X0_fewestMisses_33, t_X0_fewestMisses_36, t_X0_fewestMisses_38, t_X0_fewestMisses_40, t_X0_fewestMisses_41, t_X0_fewestMisses_44, t_X0_fewestMisses_47, t_X0_fewestMisses_48, t_X0_fewestMisses_49, t_X0_fewestMisses_52, t_X0_fewestMisses_53, t_X0_fewestMisses_56, t_X0_fewestMisses_57, t_X0_fewestMisses_58, t_X0_fewestMisses_61, t_X0_fewestMisses_63, t_X0_fewestMisses_64, t_X0_fewestMisses_66, t_X0_fewestMisses_67, t_X0_fewestMisses_68, t_X0_fewestMisses_71, t_X0_fewestMisses_72, t_X0_fewestMisses_73, t_X0_fewestMisses_76, t_X0_fewestMisses_78, t_X0_fewestMisses_79, t_X0_fewestMisses_82, t_X0_fewestMisses_84, t_X0_fewestMisses_85, t_X0_fewestMisses_86, t_X0_fewestMisses_87, t_X0_fewestMisses_90, t_X0_fewestMisses_92, t_X0_fewestMisses_93, t_X0_fewestMisses_96, t_X0_fewestMisses_98, t_X0_fewestMisses_99, t_X0_fewestMisses_100, t_X0_fewestMisses_103, t_X0_fewestMisses_106, t_X0_fewestMisses_108, ↓reduceIte, ev_k_i, ev_k_r, ev_k_l, ev_k_J, ev_k_n, ev_kr_1, ev_kr_0, ev_isK_y, ev_aG_y, ev_aS_y, ev_aN_y, ev_inA_0, ev_isA_0, ev_ft_I, ev_ft_0, ev_ft_1, ev_ft_o, ev_ft_a, ev_nb_0, ev_nb_1, and_true, true_and, if_true, if_false, not_true_eq_false, not_false_eq_true, nI_1, ev_fG_0, ev_fG_1, ev_fG_2, ev_fG_3, ev_fG_4, ev_fG_5, ev_fG_6, ev_fG_7, ev_fG_8, ev_fS_0, ev_fS_1, ev_fS_2, ev_fS_3, ev_fS_4, ev_fS_5, ev_fS_6, ev_fS_7, ev_fS_8, ev_isO_0, ev_isO_1, ev_isO_2, ev_isO_3, ev_isO_4, ev_isO_5, ev_isO_6, ev_isO_7, ev_isO_8, ev_z0, ev_z1, ev_z2, eq_self, ev_ask_0, ev_ask_1, ev_ask_2, ev_ask_3, ev_ask_4, ev_ask_5, ev_ask_l0, ev_ask_l1, ev_ask_l2, ev_ask_l3, ev_ask_l4, ev_ask_l5, ev_ask_u0, ev_ask_u1, ev_ask_u2, ev_ask_u3, ev_ask_u4, ev_ask_u5, ev_ofN, hmn, nI_clamp, hp, h60, hpe, he6, r_max, nI_ltI, hee]
          refine ih (i + 1) (e + 1) _ _ _ _ (gu xk e (As.getD i 0)) (gu lk e i) (gu nk e ni) (by omega) (bJ_new hJ hic (by omega) hx n3 hlt) (fun j hj => ?_) hm1
          by_cases hje : j = e
          · subst hje
            rw [gu_s, gu_s]
            exact ⟨(if_pos rfl).trans hki, hx20, (if_pos rfl).trans n1, n2⟩
          · rw [gu_o hje, gu_o hje]
            have hSj := hS j (by omega)
            exact ⟨(if_neg hje).trans hSj.1, hSj.2.1, (if_neg hje).trans hSj.2.2.1, hSj.2.2.2⟩
        · have hes : e = s + 1 := by omega
          have hmn : nI (s + 1) ≤ nI e := by rw [hes]; exact Int32.le_refl _
          simp (disch := omega) only [t_X0_fewestMisses_0, t_X0_fewestMisses_1, t_X0_fewestMisses_3, t_X0_fewestMisses_6, t_X0_fewestMisses_7, t_X0_fewestMisses_8, t_X0_fewestMisses_9, t_X0_fewestMisses_10, t_X0_fewestMisses_12, t_X0_fewestMisses_13, t_X0_fewestMisses_17, t_X0_fewestMisses_18, t_X0_fewestMisses_21, t_X0_fewestMisses_24, t_X0_fewestMisses_25, t_X0_fewestMisses_26, t_X0_fewestMisses_29, t_X0_fewestMisses_31, t_X0_fewestMisses_32, t_X0_fewestMisses_33, t_X0_fewestMisses_36, t_X0_fewestMisses_38, t_X0_fewestMisses_40, t_X0_fewestMisses_41, t_X0_fewestMisses_44, t_X0_fewestMisses_47, t_X0_fewestMisses_48, t_X0_fewestMisses_49, t_X0_fewestMisses_52, t_X0_fewestMisses_53, t_X0_fewestMisses_56, t_X0_fewestMisses_57, t_X0_fewestMisses_58, t_X0_fewestMisses_61, t_X0_fewestMisses_63, t_X0_fewestMisses_64, t_X0_fewestMisses_66, t_X0_fewestMisses_67, t_X0_fewestMisses_68, t_X0_fewestMisses_71, t_X0_fewestMisses_72, t_X0_fewestMisses_73, t_X0_fewestMisses_76, t_X0_fewestMisses_78, t_X0_fewestMisses_79, t_X0_fewestMisses_82, t_X0_fewestMisses_84, t_X0_fewestMisses_85, t_X0_fewestMisses_86, t_X0_fewestMisses_87, t_X0_fewestMisses_90, t_X0_fewestMisses_92, t_X0_fewestMisses_93, t_X0_fewestMisses_96, t_X0_fewestMisses_98, t_X0_fewestMisses_99, t_X0_fewestMisses_100, t_X0_fewestMisses_103, t_X0_fewestMisses_106, t_X0_fewestMisses_108, ↓reduceIte, ev_k_i, ev_k_r, ev_k_l, ev_k_J, ev_k_n, ev_kr_1, ev_kr_0, ev_isK_y, ev_aG_y, ev_aS_y, ev_aN_y, ev_inA_0, ev_isA_0, ev_ft_I, ev_ft_0, ev_ft_1, ev_ft_o, ev_ft_a, ev_nb_0, ev_nb_1, and_true, true_and, if_true, if_false, not_true_eq_false, not_false_eq_true, nI_1, ev_fG_0, ev_fG_1, ev_fG_2, ev_fG_3, ev_fG_4, ev_fG_5, ev_fG_6, ev_fG_7, ev_fG_8, ev_fS_0, ev_fS_1, ev_fS_2, ev_fS_3, ev_fS_4, ev_fS_5, ev_fS_6, ev_fS_7, ev_fS_8, ev_isO_0, ev_isO_1, ev_isO_2, ev_isO_3, ev_isO_4, ev_isO_5, ev_isO_6, ev_isO_7, ev_isO_8, ev_z0, ev_z1, ev_z2, eq_self, ev_ask_0, ev_ask_1, ev_ask_2, ev_ask_3, ev_ask_4, ev_ask_5, ev_ask_l0, ev_ask_l1, ev_ask_l2, ev_ask_l3, ev_ask_l4, ev_ask_l5, ev_ask_u0, ev_ask_u1, ev_ask_u2, ev_ask_u3, ev_ask_u4, ev_ask_u5, ev_ofN, hmn]
          refine A_far he (by omega) fun j hj hfar => ?_
          have hpj := nI_pos' (n := j) (by omega)
          have hj6 : j < 6 := by omega
          have hej : ¬ e < j + 1 := by omega
          have hfar2 : ∀ z, z < s + 1 → nk z ≤ nk j := fun z hz => by
            have hSz := hS z (by omega)
            have hSj := hS j hj
            have h9 := hfar z (by omega)
            rw [hSz.2.2.1, hSj.2.2.1] at h9
            have b1 := hSz.2.2.2
            have b2 := hSj.2.2.2
            exact (nI_leI (by omega) (by omega)).mp h9
          simp (disch := omega) only [t_X0_fewestMisses_0, t_X0_fewestMisses_1, t_X0_fewestMisses_3, t_X0_fewestMisses_6, t_X0_fewestMisses_7, t_X0_fewestMisses_8, t_X0_fewestMisses_9, t_X0_fewestMisses_10, t_X0_fewestMisses_12, t_X0_fewestMisses_13, t_X0_fewestMisses_17, t_X0_fewestMisses_18, t_X0_fewestMisses_21, t_X0_fewestMisses_24, t_X0_fewestMisses_25, t_X0_fewestMisses_26, t_X0_fewestMisses_29, t_X0_fewestMisses_31, t_X0_fewestMisses_32, t_X0_fewestMisses_33, t_X0_fewestMisses_36, t_X0_fewestMisses_38, t_X0_fewestMisses_40, t_X0_fewestMisses_41, t_X0_fewestMisses_44, t_X0_fewestMisses_47, t_X0_fewestMisses_48, t_X0_fewestMisses_49, t_X0_fewestMisses_52, t_X0_fewestMisses_53, t_X0_fewestMisses_56, t_X0_fewestMisses_57, t_X0_fewestMisses_58, t_X0_fewestMisses_61, t_X0_fewestMisses_63, t_X0_fewestMisses_64, t_X0_fewestMisses_66, t_X0_fewestMisses_67, t_X0_fewestMisses_68, t_X0_fewestMisses_71, t_X0_fewestMisses_72, t_X0_fewestMisses_73, t_X0_fewestMisses_76, t_X0_fewestMisses_78, t_X0_fewestMisses_79, t_X0_fewestMisses_82, t_X0_fewestMisses_84, t_X0_fewestMisses_85, t_X0_fewestMisses_86, t_X0_fewestMisses_87, t_X0_fewestMisses_90, t_X0_fewestMisses_92, t_X0_fewestMisses_93, t_X0_fewestMisses_96, t_X0_fewestMisses_98, t_X0_fewestMisses_99, t_X0_fewestMisses_100, t_X0_fewestMisses_103, t_X0_fewestMisses_106, t_X0_fewestMisses_108, ↓reduceIte, ev_k_i, ev_k_r, ev_k_l, ev_k_J, ev_k_n, ev_kr_1, ev_kr_0, ev_isK_y, ev_aG_y, ev_aS_y, ev_aN_y, ev_inA_0, ev_isA_0, ev_ft_I, ev_ft_0, ev_ft_1, ev_ft_o, ev_ft_a, ev_nb_0, ev_nb_1, and_true, true_and, if_true, if_false, not_true_eq_false, not_false_eq_true, nI_1, ev_fG_0, ev_fG_1, ev_fG_2, ev_fG_3, ev_fG_4, ev_fG_5, ev_fG_6, ev_fG_7, ev_fG_8, ev_fS_0, ev_fS_1, ev_fS_2, ev_fS_3, ev_fS_4, ev_fS_5, ev_fS_6, ev_fS_7, ev_fS_8, ev_isO_0, ev_isO_1, ev_isO_2, ev_isO_3, ev_isO_4, ev_isO_5, ev_isO_6, ev_isO_7, ev_isO_8, ev_z0, ev_z1, ev_z2, eq_self, ev_ask_0, ev_ask_1, ev_ask_2, ev_ask_3, ev_ask_4, ev_ask_5, ev_ask_l0, ev_ask_l1, ev_ask_l2, ev_ask_l3, ev_ask_l4, ev_ask_l5, ev_ask_u0, ev_ask_u1, ev_ask_u2, ev_ask_u3, ev_ask_u4, ev_ask_u5, ev_ofN, nI_clamp, hp, h60, hpj, hj6, r_max, nI_ltI, hej]
          subst hes
          refine ih (i + 1) (s + 1) _ _ _ _ (gu xk j (As.getD i 0)) (gu lk j i) (gu nk j ni) (by omega) (bJ_out hJ hic (by omega) hj hx n3 hfar2) (fun z hz => ?_) hm1
          by_cases hje : z = j
          · subst hje
            rw [gu_s, gu_s]
            exact ⟨(if_pos rfl).trans hki, hx20, (if_pos rfl).trans n1, n2⟩
          · rw [gu_o hje, gu_o hje]
            have hSj := hS z hz
            exact ⟨(if_neg hje).trans hSj.1, hSj.2.1, (if_neg hje).trans hSj.2.2.1, hSj.2.2.2⟩
      · have hpj := nI_pos' (n := j) (by omega)
        have hj6 : j < 6 := by omega
        have hxj : xk j = As.getD i 0 := by
          have h9 := (hS j hj).1.symm.trans (hjx.trans hki)
          have h8 := (hS j hj).2.1
          exact (nI_eq (by omega) (by omega)).mp h9
        obtain ⟨hg, hJ'⟩ := bJ_hit hJ hic (by omega) hj hxj n3
        have hm1 : miss = nI (i + 1 - (gs As (s + 1) (i + 1)).2) := by
          obtain ⟨b, g1, g2⟩ := hg
          rw [gs_y g1 g2, hm]
          exact congrArg nI (by show _ = i + 1 - ((gs As (s + 1) i).2 + 1); omega)
        simp (disch := omega) only [t_X0_fewestMisses_0, t_X0_fewestMisses_1, t_X0_fewestMisses_3, t_X0_fewestMisses_6, t_X0_fewestMisses_7, t_X0_fewestMisses_8, t_X0_fewestMisses_9, t_X0_fewestMisses_10, t_X0_fewestMisses_12, t_X0_fewestMisses_13, t_X0_fewestMisses_17, t_X0_fewestMisses_18, t_X0_fewestMisses_21, t_X0_fewestMisses_24, t_X0_fewestMisses_25, t_X0_fewestMisses_26, t_X0_fewestMisses_29, t_X0_fewestMisses_31, t_X0_fewestMisses_32, t_X0_fewestMisses_33, t_X0_fewestMisses_36, t_X0_fewestMisses_38, t_X0_fewestMisses_40, t_X0_fewestMisses_41, t_X0_fewestMisses_44, t_X0_fewestMisses_47, t_X0_fewestMisses_48, t_X0_fewestMisses_49, t_X0_fewestMisses_52, t_X0_fewestMisses_53, t_X0_fewestMisses_56, t_X0_fewestMisses_57, t_X0_fewestMisses_58, t_X0_fewestMisses_61, t_X0_fewestMisses_63, t_X0_fewestMisses_64, t_X0_fewestMisses_66, t_X0_fewestMisses_67, t_X0_fewestMisses_68, t_X0_fewestMisses_71, t_X0_fewestMisses_72, t_X0_fewestMisses_73, t_X0_fewestMisses_76, t_X0_fewestMisses_78, t_X0_fewestMisses_79, t_X0_fewestMisses_82, t_X0_fewestMisses_84, t_X0_fewestMisses_85, t_X0_fewestMisses_86, t_X0_fewestMisses_87, t_X0_fewestMisses_90, t_X0_fewestMisses_92, t_X0_fewestMisses_93, t_X0_fewestMisses_96, t_X0_fewestMisses_98, t_X0_fewestMisses_99, t_X0_fewestMisses_100, t_X0_fewestMisses_103, t_X0_fewestMisses_106, t_X0_fewestMisses_108, ↓reduceIte, ev_k_i, ev_k_r, ev_k_l, ev_k_J, ev_k_n, ev_kr_1, ev_kr_0, ev_isK_y, ev_aG_y, ev_aS_y, ev_aN_y, ev_inA_0, ev_isA_0, ev_ft_I, ev_ft_0, ev_ft_1, ev_ft_o, ev_ft_a, ev_nb_0, ev_nb_1, and_true, true_and, if_true, if_false, not_true_eq_false, not_false_eq_true, nI_1, ev_fG_0, ev_fG_1, ev_fG_2, ev_fG_3, ev_fG_4, ev_fG_5, ev_fG_6, ev_fG_7, ev_fG_8, ev_fS_0, ev_fS_1, ev_fS_2, ev_fS_3, ev_fS_4, ev_fS_5, ev_fS_6, ev_fS_7, ev_fS_8, ev_isO_0, ev_isO_1, ev_isO_2, ev_isO_3, ev_isO_4, ev_isO_5, ev_isO_6, ev_isO_7, ev_isO_8, ev_z0, ev_z1, ev_z2, eq_self, ev_ask_0, ev_ask_1, ev_ask_2, ev_ask_3, ev_ask_4, ev_ask_5, ev_ask_l0, ev_ask_l1, ev_ask_l2, ev_ask_l3, ev_ask_l4, ev_ask_l5, ev_ask_u0, ev_ask_u1, ev_ask_u2, ev_ask_u3, ev_ask_u4, ev_ask_u5, ev_ofN, ev_nm1, nI_clamp, hp, h60, hpj, hj6]
        refine ih (i + 1) e _ _ _ _ xk (gu lk j i) (gu nk j ni) (by omega) hJ' (fun z hz => ?_) hm1
        have hSj := hS z hz
        by_cases hje : z = j
        · subst hje
          rw [gu_s]
          exact ⟨hSj.1, hSj.2.1, (if_pos rfl).trans n1, n2⟩
        · rw [gu_o hje]
          exact ⟨hSj.1, hSj.2.1, (if_neg hje).trans hSj.2.2.1, hSj.2.2.2⟩
  have h0 := key c 0 0 0 ev_J hk hn (fun _ => 0) (fun _ => 0) (fun _ => 0) (by omega) bJ_0 (fun j hj => absurd hj (Nat.not_lt_zero j)) rfl
  rw [nI_0] at h0
  have hmin : (if (6 : Int32) < nI (s + 1) then (6 : Int32) else nI (s + 1)) = nI (s + 1) := if_neg (fun z => by
    have := (nI_ltI (by omega) (by omega)).mp (show nI 6 < nI (s + 1) from z)
    omega)
  simp (disch := omega) only [t_X0_fewestMisses_0, t_X0_fewestMisses_1, t_X0_fewestMisses_3, t_X0_fewestMisses_6, t_X0_fewestMisses_7, t_X0_fewestMisses_8, t_X0_fewestMisses_9, t_X0_fewestMisses_10, t_X0_fewestMisses_12, t_X0_fewestMisses_13, t_X0_fewestMisses_17, t_X0_fewestMisses_18, t_X0_fewestMisses_21, t_X0_fewestMisses_24, t_X0_fewestMisses_25, t_X0_fewestMisses_26, t_X0_fewestMisses_29, t_X0_fewestMisses_31, t_X0_fewestMisses_32, t_X0_fewestMisses_33, t_X0_fewestMisses_36, t_X0_fewestMisses_38, t_X0_fewestMisses_40, t_X0_fewestMisses_41, t_X0_fewestMisses_44, t_X0_fewestMisses_47, t_X0_fewestMisses_48, t_X0_fewestMisses_49, t_X0_fewestMisses_52, t_X0_fewestMisses_53, t_X0_fewestMisses_56, t_X0_fewestMisses_57, t_X0_fewestMisses_58, t_X0_fewestMisses_61, t_X0_fewestMisses_63, t_X0_fewestMisses_64, t_X0_fewestMisses_66, t_X0_fewestMisses_67, t_X0_fewestMisses_68, t_X0_fewestMisses_71, t_X0_fewestMisses_72, t_X0_fewestMisses_73, t_X0_fewestMisses_76, t_X0_fewestMisses_78, t_X0_fewestMisses_79, t_X0_fewestMisses_82, t_X0_fewestMisses_84, t_X0_fewestMisses_85, t_X0_fewestMisses_86, t_X0_fewestMisses_87, t_X0_fewestMisses_90, t_X0_fewestMisses_92, t_X0_fewestMisses_93, t_X0_fewestMisses_96, t_X0_fewestMisses_98, t_X0_fewestMisses_99, t_X0_fewestMisses_100, t_X0_fewestMisses_103, t_X0_fewestMisses_106, t_X0_fewestMisses_108, ↓reduceIte, ev_k_i, ev_k_r, ev_k_l, ev_k_J, ev_k_n, ev_kr_1, ev_kr_0, ev_isK_y, ev_aG_y, ev_aS_y, ev_aN_y, ev_inA_0, ev_isA_0, ev_ft_I, ev_ft_0, ev_ft_1, ev_ft_o, ev_ft_a, ev_nb_0, ev_nb_1, and_true, true_and, if_true, if_false, not_true_eq_false, not_false_eq_true, nI_1, ev_fG_0, ev_fG_1, ev_fG_2, ev_fG_3, ev_fG_4, ev_fG_5, ev_fG_6, ev_fG_7, ev_fG_8, ev_fS_0, ev_fS_1, ev_fS_2, ev_fS_3, ev_fS_4, ev_fS_5, ev_fS_6, ev_fS_7, ev_fS_8, ev_isO_0, ev_isO_1, ev_isO_2, ev_isO_3, ev_isO_4, ev_isO_5, ev_isO_6, ev_isO_7, ev_isO_8, ev_z0, ev_z1, ev_z2, eq_self, ev_ask_0, ev_ask_1, ev_ask_2, ev_ask_3, ev_ask_4, ev_ask_5, ev_ask_l0, ev_ask_l1, ev_ask_l2, ev_ask_l3, ev_ask_l4, ev_ask_l5, ev_ask_u0, ev_ask_u1, ev_ask_u2, ev_ask_u3, ev_ask_u4, ev_ask_u5, ev_ofN, r_min, hmin]
  exact h0
end FM
