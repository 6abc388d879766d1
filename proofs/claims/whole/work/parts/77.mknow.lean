/-! The reference's known tables. -/
theorem rn_in {g : Nat → Int32} {a k j : Nat} {v : Int32} (h1 : a ≤ j) (h2 : j < a + k) : rnF g a k v j = v := if_pos ⟨h1, h2⟩
theorem rn_out {g : Nat → Int32} {a k j : Nat} {v : Int32} (h : j < a ∨ a + k ≤ j) : rnF g a k v j = g j := if_neg (by omega)
theorem c_know {O : zO} {M : zM} {m t : Nat} (hm : zMo M m) (ht : t < 3) : ∃ M', zEv (fun n => F_Mo_know O n m (nI t) M) ((), M') ∧ zSt (zTS m) M M' ∧ z_p M' = z_p M ∧ zMT M' m t (kno t) (tS (kno t) (kn t)) (bS (kno t) (kn t)) (eS (kno t) (kn t)) ∧ zKT m t M M' := by
  have mk := hm.k
  -- what is left to do once the points stand
  have fin : ∀ g : Nat → Int32, (∀ s, s < 64 → g (64 * t + s) = nI (kn t s) - 1) → (∀ j, j < 64 * t ∨ 64 * t + 64 ≤ j → g j = z_i M (m + 10) j) → ∃ M', zEv (fun n => f_Mo_know_177 O n m (nI t) (w_u M (m + 10) g)) ((), M') ∧ zSt (zTS m) M M' ∧ z_p M' = z_p M ∧ zMT M' m t (kno t) (tS (kno t) (kn t)) (bS (kno t) (kn t)) (eS (kno t) (kn t)) ∧ zKT m t M M' := fun g g1 g2 => by
    have hm' : zMo (w_i (w_u M (m + 10) g) (m + 11) t (nI (kno t))) m := hm.fr rfl rfl rfl
    obtain ⟨M', l1, l2, l3, l4, l5, l6⟩ := c_layTable (O := O) (o := kno t) hm' ht (kn_sh ht) (by simp (disch := omega) only [zlet, w_i_k, w_i_n, w_i_i, w_i_j, w_i_p, w_i_s, w_j_k, w_j_n, w_j_i, w_j_j, w_j_p, w_j_s, w_p_k, w_p_n, w_p_i, w_p_j, w_p_p, w_p_s, w_c_k, w_c_n, w_c_i, w_c_j, w_c_p, w_c_s, w_u_k, w_u_n, w_u_i, w_u_j, w_u_p, w_u_s, q_nf, ↓reduceIte, if_true, if_false, eq_self, and_true, true_and, and_false, false_and, Option.bind_some, ne_eq, not_false_eq_true, not_true_eq_false]) (fun s hs => by
      simp (disch := omega) only [zlet, w_i_k, w_i_n, w_i_i, w_i_j, w_i_p, w_i_s, w_j_k, w_j_n, w_j_i, w_j_j, w_j_p, w_j_s, w_p_k, w_p_n, w_p_i, w_p_j, w_p_p, w_p_s, w_c_k, w_c_n, w_c_i, w_c_j, w_c_p, w_c_s, w_u_k, w_u_n, w_u_i, w_u_j, w_u_p, w_u_s, q_nf, ↓reduceIte, if_true, if_false, eq_self, and_true, true_and, and_false, false_and, Option.bind_some, ne_eq, not_false_eq_true, not_true_eq_false]
      exact g1 s hs)
    refine ⟨M', ?_, ((zSt.rf.wu (Or.inl ⟨by omega, by omega⟩)).wi (Or.inl ⟨by omega, by omega⟩)).tr l2, l3.trans rfl, l4, ?_⟩
    · unfold f_Mo_know_177 f_Mo_know_193
      have key : zEv (fun n => (F_Mo_layTable O n m (nI t) (w_i (w_u M (m + 10) g) (m + 11) t (nI (kno t)))).bind fun q7 => some ((), q7.2)) ((), M') := zEv.bind l1 (zEv.some _)
      by_cases c : t = 1
      · subst c
        simp (disch := omega) only [zlet, w_i_k, w_i_n, w_i_i, w_i_j, w_i_p, w_i_s, w_j_k, w_j_n, w_j_i, w_j_j, w_j_p, w_j_s, w_p_k, w_p_n, w_p_i, w_p_j, w_p_p, w_p_s, w_c_k, w_c_n, w_c_i, w_c_j, w_c_p, w_c_s, w_u_k, w_u_n, w_u_i, w_u_j, w_u_p, w_u_s, q_nf, ↓reduceIte, if_true, if_false, eq_self, and_true, true_and, and_false, false_and, Option.bind_some, ne_eq, not_false_eq_true, not_true_eq_false, nI_add, pk_mul, pk_sub, nI_ac, q_tlt, q_flt, q_tle, q_fle, q_teq, q_feq, q_tin, nI_cl, q_m1, q_m2, q_m3, q_m4, q_m5, q_m6, q_m7, q_l1, q_l2, q_l3, q_l4, q_l5, q_l6, lN_add, lN_mul, lN_sub, lN_i, nI_l, q_rem, q_rem2, q_div, q_shl, q_shr, q_i0, q_i1, q_i2, q_i3, q_i4, q_i5, q_i6, q_i7, q_i8, q_i9, q_i10, q_i11, q_i12, q_i14, q_i15, q_i16, q_i17, q_i18, q_i19, q_i20, q_i22, q_i24, q_i26, q_i28, q_i30, q_i31, q_i32, q_i35, q_i36, q_i38, q_i40, q_i42, q_i43, q_i48, q_i51, q_i52, q_i56, q_i63, q_i64, q_i67, q_i80, q_i95, q_i99, q_i126, q_i127, q_i128, q_i255, q_i256, q_i512, q_i1024, q_i12000, q_i32512, q_i32768, q_i131072, q_j0, q_j1, q_j2, q_j3, q_j4, q_j8, q_j256, Nat.one_mul, Nat.zero_add, Nat.add_zero, Nat.sub_zero, Nat.mul_one, q_ofN, hm.k, hm.p11, hm.k11, hm.n11]
        exact key
      · rw [show kno t = 6 from if_neg c] at key
        simp (disch := omega) only [zlet, w_i_k, w_i_n, w_i_i, w_i_j, w_i_p, w_i_s, w_j_k, w_j_n, w_j_i, w_j_j, w_j_p, w_j_s, w_p_k, w_p_n, w_p_i, w_p_j, w_p_p, w_p_s, w_c_k, w_c_n, w_c_i, w_c_j, w_c_p, w_c_s, w_u_k, w_u_n, w_u_i, w_u_j, w_u_p, w_u_s, q_nf, ↓reduceIte, if_true, if_false, eq_self, and_true, true_and, and_false, false_and, Option.bind_some, ne_eq, not_false_eq_true, not_true_eq_false, nI_add, pk_mul, pk_sub, nI_ac, q_tlt, q_flt, q_tle, q_fle, q_teq, q_feq, q_tin, nI_cl, q_m1, q_m2, q_m3, q_m4, q_m5, q_m6, q_m7, q_l1, q_l2, q_l3, q_l4, q_l5, q_l6, lN_add, lN_mul, lN_sub, lN_i, nI_l, q_rem, q_rem2, q_div, q_shl, q_shr, q_i0, q_i1, q_i2, q_i3, q_i4, q_i5, q_i6, q_i7, q_i8, q_i9, q_i10, q_i11, q_i12, q_i14, q_i15, q_i16, q_i17, q_i18, q_i19, q_i20, q_i22, q_i24, q_i26, q_i28, q_i30, q_i31, q_i32, q_i35, q_i36, q_i38, q_i40, q_i42, q_i43, q_i48, q_i51, q_i52, q_i56, q_i63, q_i64, q_i67, q_i80, q_i95, q_i99, q_i126, q_i127, q_i128, q_i255, q_i256, q_i512, q_i1024, q_i12000, q_i32512, q_i32768, q_i131072, q_j0, q_j1, q_j2, q_j3, q_j4, q_j8, q_j256, Nat.one_mul, Nat.zero_add, Nat.add_zero, Nat.sub_zero, Nat.mul_one, q_ofN, hm.k, hm.p11, hm.k11, hm.n11]
        exact key
    · refine zKT.tr (M1 := w_i (w_u M (m + 10) g) (m + 11) t (nI (kno t))) (fun t' h1 h2 => ⟨?_, fun k hk => ?_, fun k hk => ?_⟩) l6
      · simp (disch := omega) only [zlet, w_i_k, w_i_n, w_i_i, w_i_j, w_i_p, w_i_s, w_j_k, w_j_n, w_j_i, w_j_j, w_j_p, w_j_s, w_p_k, w_p_n, w_p_i, w_p_j, w_p_p, w_p_s, w_c_k, w_c_n, w_c_i, w_c_j, w_c_p, w_c_s, w_u_k, w_u_n, w_u_i, w_u_j, w_u_p, w_u_s, q_nf, ↓reduceIte, if_true, if_false, eq_self, and_true, true_and, and_false, false_and, Option.bind_some, ne_eq, not_false_eq_true, not_true_eq_false, h1]
      · simp (disch := omega) only [zlet, w_i_k, w_i_n, w_i_i, w_i_j, w_i_p, w_i_s, w_j_k, w_j_n, w_j_i, w_j_j, w_j_p, w_j_s, w_p_k, w_p_n, w_p_i, w_p_j, w_p_p, w_p_s, w_c_k, w_c_n, w_c_i, w_c_j, w_c_p, w_c_s, w_u_k, w_u_n, w_u_i, w_u_j, w_u_p, w_u_s, q_nf, ↓reduceIte, if_true, if_false, eq_self, and_true, true_and, and_false, false_and, Option.bind_some, ne_eq, not_false_eq_true, not_true_eq_false]
        exact g2 _ (by omega)
      · simp (disch := omega) only [zlet, w_i_k, w_i_n, w_i_i, w_i_j, w_i_p, w_i_s, w_j_k, w_j_n, w_j_i, w_j_j, w_j_p, w_j_s, w_p_k, w_p_n, w_p_i, w_p_j, w_p_p, w_p_s, w_c_k, w_c_n, w_c_i, w_c_j, w_c_p, w_c_s, w_u_k, w_u_n, w_u_i, w_u_j, w_u_p, w_u_s, q_nf, ↓reduceIte, if_true, if_false, eq_self, and_true, true_and, and_false, false_and, Option.bind_some, ne_eq, not_false_eq_true, not_true_eq_false]
  have r0 := c_run (O := O) (t := t) (fr := 0) (K := 64) (v := 0) (g := z_i M (m + 10)) hm ht (by omega)
  rw [w_u_self] at r0
  rcases (show t = 0 ∨ t = 1 ∨ t = 2 by omega) with rfl | rfl | rfl
  · obtain ⟨M', f1, f2⟩ := fin (rnF (rnF (rnF (rnF (rnF (rnF (rnF (rnF (rnF (rnF (z_i M (m + 10)) (64 * 0 + 0) 64 0) (64 * 0 + 0) 1 4) (64 * 0 + 1) 1 3) (64 * 0 + 2) 11 2) (64 * 0 + 13) 3 1) (64 * 0 + 16) 9 2) (64 * 0 + 25) 1 3) (64 * 0 + 26) 1 2) (64 * 0 + 27) 5 1) (64 * 0 + 32) 4 (-1)) (fun s hs => by
      rcases (show (0 ≤ s ∧ s < 1) ∨ (1 ≤ s ∧ s < 2) ∨ (2 ≤ s ∧ s < 13) ∨ (13 ≤ s ∧ s < 16) ∨ (16 ≤ s ∧ s < 25) ∨ (25 ≤ s ∧ s < 26) ∨ (26 ≤ s ∧ s < 27) ∨ (27 ≤ s ∧ s < 32) ∨ (32 ≤ s ∧ s < 36) ∨ (36 ≤ s ∧ s < 64) by omega) with c | c | c | c | c | c | c | c | c | c
      all_goals (simp (disch := omega) only [rn_in, rn_out, kn, if_pos, if_neg, if_true, if_false]; rfl)) (fun j hj => by
      simp (disch := omega) only [rn_out])
    refine ⟨M', ?_, f2⟩
    unfold F_Mo_know f_Mo_know_0
    simp only [if_pos mk]
    refine zEv.bind r0 ?_
    dsimp only
    simp only [if_pos (show nI 0 = 0 from rfl), w_u_k, mk, if_true]
    refine zEv.bind (c_run (O := O) (t := 0) (fr := 0) (K := 1) (v := 4) hm ht (by omega)) ?_
    simp only [w_u_k, mk, if_true]
    refine zEv.bind (c_run (O := O) (t := 0) (fr := 1) (K := 1) (v := 3) hm ht (by omega)) ?_
    simp only [w_u_k, mk, if_true]
    refine zEv.bind (c_run (O := O) (t := 0) (fr := 2) (K := 11) (v := 2) hm ht (by omega)) ?_
    simp only [w_u_k, mk, if_true]
    refine zEv.bind (c_run (O := O) (t := 0) (fr := 13) (K := 3) (v := 1) hm ht (by omega)) ?_
    simp only [w_u_k, mk, if_true]
    refine zEv.bind (c_run (O := O) (t := 0) (fr := 16) (K := 9) (v := 2) hm ht (by omega)) ?_
    simp only [w_u_k, mk, if_true]
    refine zEv.bind (c_run (O := O) (t := 0) (fr := 25) (K := 1) (v := 3) hm ht (by omega)) ?_
    simp only [w_u_k, mk, if_true]
    refine zEv.bind (c_run (O := O) (t := 0) (fr := 26) (K := 1) (v := 2) hm ht (by omega)) ?_
    simp only [w_u_k, mk, if_true]
    refine zEv.bind (c_run (O := O) (t := 0) (fr := 27) (K := 5) (v := 1) hm ht (by omega)) ?_
    simp only [w_u_k, mk, if_true]
    refine zEv.bind (c_run (O := O) (t := 0) (fr := 32) (K := 4) (v := -1) hm ht (by omega)) ?_
    exact f1
  · obtain ⟨M', f1, f2⟩ := fin (rnF (rnF (rnF (rnF (rnF (z_i M (m + 10)) (64 * 1 + 0) 64 0) (64 * 1 + 0) 6 1) (64 * 1 + 6) 3 2) (64 * 1 + 9) 15 1) (64 * 1 + 24) 5 (-1)) (fun s hs => by
      rcases (show (0 ≤ s ∧ s < 6) ∨ (6 ≤ s ∧ s < 9) ∨ (9 ≤ s ∧ s < 24) ∨ (24 ≤ s ∧ s < 29) ∨ (29 ≤ s ∧ s < 64) by omega) with c | c | c | c | c
      all_goals (simp (disch := omega) only [rn_in, rn_out, kn, if_pos, if_neg, if_true, if_false]; rfl)) (fun j hj => by
      simp (disch := omega) only [rn_out])
    refine ⟨M', ?_, f2⟩
    unfold F_Mo_know f_Mo_know_0
    simp only [if_pos mk]
    refine zEv.bind r0 ?_
    dsimp only
    simp only [if_neg (show ¬ nI 1 = 0 by decide), if_pos (show nI 1 = 1 from rfl), w_u_k, mk, if_true]
    refine zEv.bind (c_run (O := O) (t := 1) (fr := 0) (K := 6) (v := 1) hm ht (by omega)) ?_
    simp only [w_u_k, mk, if_true]
    refine zEv.bind (c_run (O := O) (t := 1) (fr := 6) (K := 3) (v := 2) hm ht (by omega)) ?_
    simp only [w_u_k, mk, if_true]
    refine zEv.bind (c_run (O := O) (t := 1) (fr := 9) (K := 15) (v := 1) hm ht (by omega)) ?_
    simp only [w_u_k, mk, if_true]
    refine zEv.bind (c_run (O := O) (t := 1) (fr := 24) (K := 5) (v := -1) hm ht (by omega)) ?_
    exact f1
  · obtain ⟨M', f1, f2⟩ := fin (rnF (rnF (rnF (rnF (rnF (rnF (rnF (z_i M (m + 10)) (64 * 2 + 0) 64 0) (64 * 2 + 0) 1 1) (64 * 2 + 1) 1 4) (64 * 2 + 2) 1 3) (64 * 2 + 3) 6 2) (64 * 2 + 9) 37 1) (64 * 2 + 46) 7 (-1)) (fun s hs => by
      rcases (show (0 ≤ s ∧ s < 1) ∨ (1 ≤ s ∧ s < 2) ∨ (2 ≤ s ∧ s < 3) ∨ (3 ≤ s ∧ s < 9) ∨ (9 ≤ s ∧ s < 46) ∨ (46 ≤ s ∧ s < 53) ∨ (53 ≤ s ∧ s < 64) by omega) with c | c | c | c | c | c | c
      all_goals (simp (disch := omega) only [rn_in, rn_out, kn, if_pos, if_neg, if_true, if_false]; rfl)) (fun j hj => by
      simp (disch := omega) only [rn_out])
    refine ⟨M', ?_, f2⟩
    unfold F_Mo_know f_Mo_know_0
    simp only [if_pos mk]
    refine zEv.bind r0 ?_
    dsimp only
    simp only [if_neg (show ¬ nI 2 = 0 by decide), if_neg (show ¬ nI 2 = 1 by decide), w_u_k, mk, if_true]
    refine zEv.bind (c_run (O := O) (t := 2) (fr := 0) (K := 1) (v := 1) hm ht (by omega)) ?_
    simp only [w_u_k, mk, if_true]
    refine zEv.bind (c_run (O := O) (t := 2) (fr := 1) (K := 1) (v := 4) hm ht (by omega)) ?_
    simp only [w_u_k, mk, if_true]
    refine zEv.bind (c_run (O := O) (t := 2) (fr := 2) (K := 1) (v := 3) hm ht (by omega)) ?_
    simp only [w_u_k, mk, if_true]
    refine zEv.bind (c_run (O := O) (t := 2) (fr := 3) (K := 6) (v := 2) hm ht (by omega)) ?_
    simp only [w_u_k, mk, if_true]
    refine zEv.bind (c_run (O := O) (t := 2) (fr := 9) (K := 37) (v := 1) hm ht (by omega)) ?_
    simp only [w_u_k, mk, if_true]
    refine zEv.bind (c_run (O := O) (t := 2) (fr := 46) (K := 7) (v := -1) hm ht (by omega)) ?_
    exact f1
