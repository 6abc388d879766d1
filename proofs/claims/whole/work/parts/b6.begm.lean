/-! The beginning of a frame: the reference. -/
theorem l_bf55 {O : zO} {M : zM} {m t : Nat} {ln : Nat → Nat} (hm : zMo M m) (h4 : ∀ s, s < 256 → z_i M (m + 4) s = nI (ln s)) (ht : t ≤ 11) (hl : ∀ s, s < 256 → ln s ≤ t) (hs : ∃ s, s < 256 ∧ ln s = t) : ∀ d k x N, k + d = 256 → zRf (fun f => f = 13) (fun q => q = m + 8) m M N → z_i N m 13 = nI x → (∀ s, s < k → z_i N (m + 8) s = nI (ln s) ∧ ln s ≤ x) → x ≤ t → ∃ N', zRf (fun f => f = 13) (fun q => q = m + 8) m M N' ∧ z_i N' m 13 = nI t ∧ (∀ s, s < 256 → z_i N' (m + 8) s = nI (ln s)) ∧ ∀ α, zEv (fun n => (F_Mo_layCells O n m N').bind fun q2 => f_Mo_beginFrame_116 O n m (0 : Int32) q2.2) α → zEv (fun n => f_Mo_beginFrame_55 O n m (nI k) N) α := by
  intro d
  induction d with
  | zero =>
    intro k x N hk rf h13 h8 hx
    have mk := (rf.mo hm).k
    obtain ⟨s, s1, s2⟩ := hs
    have e : x = t := by have := (h8 s (by omega)).2; omega
    refine ⟨N, rf, by rw [← e]; exact h13, fun s hs => (h8 s (by omega)).1, fun α hα => zEv.succ ?_⟩
    simp only [f_Mo_beginFrame_55]
    exact zEv.ip ((nI_leI (a := 256) (by omega) (by omega)).mpr (by omega)) (zEv.ip mk hα)
  | succ d ih =>
    intro k x N hk rf h13 h8 hx
    have hmN := rf.mo hm
    have e4 : z_i N (m + 4) k = nI (ln k) := (rf.i (by omega) (by omega) k).trans (h4 k (by omega))
    have hlk := hl k (by omega)
    generalize hx' : (if ln k ≤ x then x else ln k) = x'
    have r1 : zRf (fun f => f = 13) (fun q => q = m + 8) m M (w_i (w_i N (m + 8) k (nI (ln k))) m 13 (nI x')) := (rf.wi (by exact rfl) (by omega)).wf (by exact rfl)
    obtain ⟨N', i1, i2, i3, i4⟩ := ih (k + 1) x' _ (by omega) r1 (w_i_eq _ _ _ _) (fun s hs => by
      refine ⟨?_, ?_⟩
      · by_cases c : s = k
        · subst c
          simp (disch := omega) only [zlet, w_i_k, w_i_n, w_i_i, w_i_j, w_i_p, w_i_s, w_j_k, w_j_n, w_j_i, w_j_j, w_j_p, w_j_s, w_p_k, w_p_n, w_p_i, w_p_j, w_p_p, w_p_s, w_c_k, w_c_n, w_c_i, w_c_j, w_c_p, w_c_s, w_u_k, w_u_n, w_u_i, w_u_j, w_u_p, w_u_s, q_nf, ↓reduceIte, if_true, if_false, eq_self, and_true, true_and, and_false, false_and, Option.bind_some, ne_eq, not_false_eq_true, not_true_eq_false]
        · simp (disch := omega) only [zlet, w_i_k, w_i_n, w_i_i, w_i_j, w_i_p, w_i_s, w_j_k, w_j_n, w_j_i, w_j_j, w_j_p, w_j_s, w_p_k, w_p_n, w_p_i, w_p_j, w_p_p, w_p_s, w_c_k, w_c_n, w_c_i, w_c_j, w_c_p, w_c_s, w_u_k, w_u_n, w_u_i, w_u_j, w_u_p, w_u_s, q_nf, ↓reduceIte, if_true, if_false, eq_self, and_true, true_and, and_false, false_and, Option.bind_some, ne_eq, not_false_eq_true, not_true_eq_false, c]
          exact (h8 s (by omega)).1
      · by_cases c : s = k
        · subst c
          rw [← hx']; split <;> omega
        · have := (h8 s (by omega)).2
          rw [← hx']; split <;> omega) (by rw [← hx']; split <;> omega)
    refine ⟨N', i1, i2, i3, fun α hα => zEv.succ ?_⟩
    have zi : zin (nI k) 256 = true := by simp (disch := omega) only [zlet, w_i_k, w_i_n, w_i_i, w_i_j, w_i_p, w_i_s, w_j_k, w_j_n, w_j_i, w_j_j, w_j_p, w_j_s, w_p_k, w_p_n, w_p_i, w_p_j, w_p_p, w_p_s, w_c_k, w_c_n, w_c_i, w_c_j, w_c_p, w_c_s, w_u_k, w_u_n, w_u_i, w_u_j, w_u_p, w_u_s, q_nf, ↓reduceIte, if_true, if_false, eq_self, and_true, true_and, and_false, false_and, Option.bind_some, ne_eq, not_false_eq_true, not_true_eq_false, nI_add, pk_mul, pk_sub, nI_ac, q_tlt, q_flt, q_tle, q_fle, q_teq, q_feq, q_tin, nI_cl, q_m1, q_m2, q_m3, q_m4, q_m5, q_m6, q_m7, q_l1, q_l2, q_l3, q_l4, q_l5, q_l6, lN_add, lN_mul, lN_sub, lN_i, nI_l, q_rem, q_rem2, q_div, q_shl, q_shr, q_i0, q_i1, q_i2, q_i3, q_i4, q_i5, q_i6, q_i7, q_i8, q_i9, q_i10, q_i11, q_i12, q_i14, q_i15, q_i16, q_i17, q_i18, q_i19, q_i20, q_i22, q_i24, q_i26, q_i28, q_i30, q_i31, q_i32, q_i35, q_i36, q_i38, q_i40, q_i42, q_i43, q_i48, q_i51, q_i52, q_i56, q_i63, q_i64, q_i67, q_i80, q_i95, q_i99, q_i126, q_i127, q_i128, q_i255, q_i256, q_i512, q_i1024, q_i12000, q_i32512, q_i32768, q_i131072, q_j0, q_j1, q_j2, q_j3, q_j4, q_j8, q_j256, Nat.one_mul, Nat.zero_add, Nat.add_zero, Nat.sub_zero, Nat.mul_one, q_ofN, q_c1, q_c2, q_c3, q_c4, q_c5, q_j12000, q_j32768, q_j131072, q_j2147483647, q_j4294967295, q_j255, q_j12, q_i13, q_i21, q_i23, q_i25, q_i27, q_i29, q_i33, q_i34, q_i37, q_i39, q_i41, q_i44, q_i45, q_i46, q_i47, q_i49, q_i50, q_i53, q_i54, q_i55, q_i77, q_i164, q_i181, q_i236, q_i253, q_i2048]
    have ck : (nI k).toNatClampNeg = k := nI_cl (by omega)
    have e1 : nI k + (1 : Int32) = nI (k + 1) := nI_add k 1
    simp only [f_Mo_beginFrame_55]
    refine zEv.in_ (fun w => by have := (nI_leI (a := 256) (by omega) (by omega)).mp w; omega) (zEv.ip hmN.k ?_)
    rw [hmN.p4, hmN.p8, ck, e4]
    refine zEv.ip hmN.k4 (zEv.ip (by rw [hmN.n4]; exact zi) (zEv.ip hmN.k8 (zEv.ip (by rw [hmN.n8]; exact zi) (zEv.zl ?_))))
    have p8 : z_p (w_i N (m + 8) k (nI (ln k))) m 12 = m + 8 := hmN.p8
    have e8 : z_i (w_i N (m + 8) k (nI (ln k))) (m + 8) k = nI (ln k) := w_i_eq _ _ _ _
    have e13 : z_i (w_i N (m + 8) k (nI (ln k))) m 13 = nI x := by rw [w_i_ne _ _ (by omega)]; exact h13
    rw [p8, e8, e13]
    refine zEv.ip hmN.k8 (zEv.ip (show zin (nI k) (z_n N (m + 8)) = true by rw [hmN.n8]; exact zi) ?_)
    have fin : zEv (fun n => f_Mo_beginFrame_101 O (f_Mo_beginFrame_55 O n) n m (nI k) m (nI x') (w_i N (m + 8) k (nI (ln k)))) α := by
      unfold f_Mo_beginFrame_101
      refine zEv.ip hmN.k (zEv.zl (zEv.zl ?_))
      rw [e1]
      exact i4 α hα
    by_cases c : ln k ≤ x
    · rw [if_pos c] at hx'
      subst hx'
      exact zEv.ip ((nI_leI (by omega) (by omega)).mpr c) fin
    · rw [if_neg c] at hx'
      subst hx'
      exact zEv.in_ (fun w => c ((nI_leI (by omega) (by omega)).mp w)) (zEv.ip (show zin (nI k) (z_n N (m + 8)) = true by rw [hmN.n8]; exact zi) fin)
theorem l_bf116 {O : zO} {M : zM} {m : Nat} (hm : zMo M m) : ∀ d k N, k + d = 192 → zRf sN (fun q => q = m + 10) m M N → (∀ s, s < k → z_i N (m + 10) s = z_i M (m + 5) s) → ∃ N', zRf sN (fun q => q = m + 10) m M N' ∧ (∀ s, s < 192 → z_i N' (m + 10) s = z_i M (m + 5) s) ∧ ∀ α, zEv (fun n => f_Mo_beginFrame_143 O n m (0 : Int32) N') α → zEv (fun n => f_Mo_beginFrame_116 O n m (nI k) N) α := by
  intro d
  induction d with
  | zero =>
    intro k N hk rf h8
    refine ⟨N, rf, fun s hs => h8 s (by omega), fun α hα => zEv.succ ?_⟩
    simp only [f_Mo_beginFrame_116]
    exact zEv.ip ((nI_leI (a := 192) (by omega) (by omega)).mpr (by omega)) hα
  | succ d ih =>
    intro k N hk rf h8
    have hmN := rf.mo hm
    have e5 : z_i N (m + 5) k = z_i M (m + 5) k := rf.i (by omega) (by omega) k
    have r1 : zRf sN (fun q => q = m + 10) m M (w_i N (m + 10) k (z_i M (m + 5) k)) := rf.wi (by exact rfl) (by omega)
    obtain ⟨N', i1, i3, i4⟩ := ih (k + 1) _ (by omega) r1 (fun s hs => by
        by_cases c : s = k
        · subst c
          simp (disch := omega) only [zlet, w_i_k, w_i_n, w_i_i, w_i_j, w_i_p, w_i_s, w_j_k, w_j_n, w_j_i, w_j_j, w_j_p, w_j_s, w_p_k, w_p_n, w_p_i, w_p_j, w_p_p, w_p_s, w_c_k, w_c_n, w_c_i, w_c_j, w_c_p, w_c_s, w_u_k, w_u_n, w_u_i, w_u_j, w_u_p, w_u_s, q_nf, ↓reduceIte, if_true, if_false, eq_self, and_true, true_and, and_false, false_and, Option.bind_some, ne_eq, not_false_eq_true, not_true_eq_false]
        · simp (disch := omega) only [zlet, w_i_k, w_i_n, w_i_i, w_i_j, w_i_p, w_i_s, w_j_k, w_j_n, w_j_i, w_j_j, w_j_p, w_j_s, w_p_k, w_p_n, w_p_i, w_p_j, w_p_p, w_p_s, w_c_k, w_c_n, w_c_i, w_c_j, w_c_p, w_c_s, w_u_k, w_u_n, w_u_i, w_u_j, w_u_p, w_u_s, q_nf, ↓reduceIte, if_true, if_false, eq_self, and_true, true_and, and_false, false_and, Option.bind_some, ne_eq, not_false_eq_true, not_true_eq_false, c]
          exact h8 s (by omega))
    refine ⟨N', i1, i3, fun α hα => zEv.succ ?_⟩
    have zi : zin (nI k) 192 = true := of_eq_true (q_tin (by omega) (by omega))
    have ck : (nI k).toNatClampNeg = k := nI_cl (by omega)
    have e1 : nI k + (1 : Int32) = nI (k + 1) := nI_add k 1
    simp only [f_Mo_beginFrame_116]
    refine zEv.in_ (fun w => by have := (nI_leI (a := 192) (by omega) (by omega)).mp w; omega) (zEv.ip hmN.k ?_)
    rw [hmN.p5, hmN.p10, ck, e5]
    refine zEv.ip hmN.k5 (zEv.ip (by rw [hmN.n5]; exact zi) (zEv.ip hmN.k10 (zEv.ip (by rw [hmN.n10]; exact zi) (zEv.zl (zEv.zl ?_)))))
    rw [e1]
    exact i4 α hα
def sBf (m q : Nat) : Prop := zTS m q ∨ q = m + 15
theorem l_bf143 {O : zO} {m : Nat} {o : Nat → Nat} {u : Nat → Nat → Nat} {dj : Nat → Int64} (hu : ∀ k, k < 3 → zSh (o k) (lst k) (u k)) : ∀ d k N, k + d = 3 → zMo N m → (∀ k, k < 3 → zMP N m k (u k) ∧ z_i N (m + 6) k = nI (o k) ∧ z_j N (m + 7) k = dj k) → (∀ t, t < k → zMT N m t (o t) (tS (o t) (u t)) (bS (o t) (u t)) (eS (o t) (u t)) ∧ z_j N (m + 15) t = dj t) → ∃ N', zEv (fun n => f_Mo_beginFrame_143 O n m (nI k) N) ((), N') ∧ zRf sN (sBf m) m N N' ∧ ∀ t, t < 3 → zMT N' m t (o t) (tS (o t) (u t)) (bS (o t) (u t)) (eS (o t) (u t)) ∧ z_j N' (m + 15) t = dj t := by
  intro d
  induction d with
  | zero =>
    intro k N hk hm hp hT
    refine ⟨N, zEv.succ ?_, zRf.rf, fun t ht => hT t (by omega)⟩
    simp only [f_Mo_beginFrame_143]
    exact zEv.ip ((nI_leI (a := 3) (by omega) (by omega)).mpr (by omega)) (zEv.some _)
  | succ d ih =>
    intro k N hk hm hp hT
    obtain ⟨p1, p2, p3⟩ := hp k (by omega)
    have hk3 : k < 3 := by omega
    have r1 : zRf sN (sBf m) m N (w_j (w_i N (m + 11) k (nI (o k))) (m + 15) k (dj k)) := (zRf.rf.wi (Or.inl (by unfold zTS; omega)) (by omega)).wj (Or.inr rfl) (by omega)
    have kt1 : zKT m k N (w_j (w_i N (m + 11) k (nI (o k))) (m + 15) k (dj k)) := fun t' h1 h2 => ⟨by simp (disch := omega) only [zlet, w_i_k, w_i_n, w_i_i, w_i_j, w_i_p, w_i_s, w_j_k, w_j_n, w_j_i, w_j_j, w_j_p, w_j_s, w_p_k, w_p_n, w_p_i, w_p_j, w_p_p, w_p_s, w_c_k, w_c_n, w_c_i, w_c_j, w_c_p, w_c_s, w_u_k, w_u_n, w_u_i, w_u_j, w_u_p, w_u_s, q_nf, ↓reduceIte, if_true, if_false, eq_self, and_true, true_and, and_false, false_and, Option.bind_some, ne_eq, not_false_eq_true, not_true_eq_false, h1], fun s hs => by simp (disch := omega) only [zlet, w_i_k, w_i_n, w_i_i, w_i_j, w_i_p, w_i_s, w_j_k, w_j_n, w_j_i, w_j_j, w_j_p, w_j_s, w_p_k, w_p_n, w_p_i, w_p_j, w_p_p, w_p_s, w_c_k, w_c_n, w_c_i, w_c_j, w_c_p, w_c_s, w_u_k, w_u_n, w_u_i, w_u_j, w_u_p, w_u_s, q_nf, ↓reduceIte, if_true, if_false, eq_self, and_true, true_and, and_false, false_and, Option.bind_some, ne_eq, not_false_eq_true, not_true_eq_false], fun s hs => ⟨by simp (disch := omega) only [zlet, w_i_k, w_i_n, w_i_i, w_i_j, w_i_p, w_i_s, w_j_k, w_j_n, w_j_i, w_j_j, w_j_p, w_j_s, w_p_k, w_p_n, w_p_i, w_p_j, w_p_p, w_p_s, w_c_k, w_c_n, w_c_i, w_c_j, w_c_p, w_c_s, w_u_k, w_u_n, w_u_i, w_u_j, w_u_p, w_u_s, q_nf, ↓reduceIte, if_true, if_false, eq_self, and_true, true_and, and_false, false_and, Option.bind_some, ne_eq, not_false_eq_true, not_true_eq_false], by simp (disch := omega) only [zlet, w_i_k, w_i_n, w_i_i, w_i_j, w_i_p, w_i_s, w_j_k, w_j_n, w_j_i, w_j_j, w_j_p, w_j_s, w_p_k, w_p_n, w_p_i, w_p_j, w_p_p, w_p_s, w_c_k, w_c_n, w_c_i, w_c_j, w_c_p, w_c_s, w_u_k, w_u_n, w_u_i, w_u_j, w_u_p, w_u_s, q_nf, ↓reduceIte, if_true, if_false, eq_self, and_true, true_and, and_false, false_and, Option.bind_some, ne_eq, not_false_eq_true, not_true_eq_false], by simp (disch := omega) only [zlet, w_i_k, w_i_n, w_i_i, w_i_j, w_i_p, w_i_s, w_j_k, w_j_n, w_j_i, w_j_j, w_j_p, w_j_s, w_p_k, w_p_n, w_p_i, w_p_j, w_p_p, w_p_s, w_c_k, w_c_n, w_c_i, w_c_j, w_c_p, w_c_s, w_u_k, w_u_n, w_u_i, w_u_j, w_u_p, w_u_s, q_nf, ↓reduceIte, if_true, if_false, eq_self, and_true, true_and, and_false, false_and, Option.bind_some, ne_eq, not_false_eq_true, not_true_eq_false]⟩⟩
    have e11 : z_i (w_j (w_i N (m + 11) k (nI (o k))) (m + 15) k (dj k)) (m + 11) k = nI (o k) := w_i_eq _ _ _ _
    have eP : ∀ t, z_i (w_j (w_i N (m + 11) k (nI (o k))) (m + 15) k (dj k)) (m + 10) t = z_i N (m + 10) t := fun t => by simp (disch := omega) only [zlet, w_i_k, w_i_n, w_i_i, w_i_j, w_i_p, w_i_s, w_j_k, w_j_n, w_j_i, w_j_j, w_j_p, w_j_s, w_p_k, w_p_n, w_p_i, w_p_j, w_p_p, w_p_s, w_c_k, w_c_n, w_c_i, w_c_j, w_c_p, w_c_s, w_u_k, w_u_n, w_u_i, w_u_j, w_u_p, w_u_s, q_nf, ↓reduceIte, if_true, if_false, eq_self, and_true, true_and, and_false, false_and, Option.bind_some, ne_eq, not_false_eq_true, not_true_eq_false]
    have e15 : ∀ t, t ≤ k → z_j (w_j (w_i N (m + 11) k (nI (o k))) (m + 15) k (dj k)) (m + 15) t = dj t := fun t ht => by
      by_cases c : t = k
      · subst c; simp (disch := omega) only [zlet, w_i_k, w_i_n, w_i_i, w_i_j, w_i_p, w_i_s, w_j_k, w_j_n, w_j_i, w_j_j, w_j_p, w_j_s, w_p_k, w_p_n, w_p_i, w_p_j, w_p_p, w_p_s, w_c_k, w_c_n, w_c_i, w_c_j, w_c_p, w_c_s, w_u_k, w_u_n, w_u_i, w_u_j, w_u_p, w_u_s, q_nf, ↓reduceIte, if_true, if_false, eq_self, and_true, true_and, and_false, false_and, Option.bind_some, ne_eq, not_false_eq_true, not_true_eq_false]
      · simp (disch := omega) only [zlet, w_i_k, w_i_n, w_i_i, w_i_j, w_i_p, w_i_s, w_j_k, w_j_n, w_j_i, w_j_j, w_j_p, w_j_s, w_p_k, w_p_n, w_p_i, w_p_j, w_p_p, w_p_s, w_c_k, w_c_n, w_c_i, w_c_j, w_c_p, w_c_s, w_u_k, w_u_n, w_u_i, w_u_j, w_u_p, w_u_s, q_nf, ↓reduceIte, if_true, if_false, eq_self, and_true, true_and, and_false, false_and, Option.bind_some, ne_eq, not_false_eq_true, not_true_eq_false, c]; exact (hT t (by omega)).2
    generalize hN1 : w_j (w_i N (m + 11) k (nI (o k))) (m + 15) k (dj k) = N1 at r1 kt1 e11 eP e15
    have hm1 := r1.mo hm
    obtain ⟨N2, l1, l2, l3, l4, l5, l6⟩ := c_layTable (O := O) (t := k) hm1 hk3 (hu k hk3) e11 (fun s hs => (eP _).trans (p1 s hs))
    have r2 : zRf sN (sBf m) m N1 N2 := (l2.mono (fun q hq => Or.inl hq)).ref l3 (by unfold zTS; omega)
    have r12 := r1.tr r2
    have A1 : ∀ k, k < 3 → zMP N2 m k (u k) ∧ z_i N2 (m + 6) k = nI (o k) ∧ z_j N2 (m + 7) k = dj k := fun t ht => by
      refine ⟨?_, ?_, ?_⟩
      · by_cases c : t = k
        · subst c; exact l5
        · exact (fun s hs => ((l6 t c ht).2.1 s hs).trans ((eP _).trans ((hp t ht).1 s hs)))
      · rw [r12.i (by omega) (by unfold sBf zTS; omega)]; exact (hp t ht).2.1
      · rw [r12.j (by omega) (by unfold sBf zTS; omega)]; exact (hp t ht).2.2
    have A2 : ∀ t, t < k + 1 → zMT N2 m t (o t) (tS (o t) (u t)) (bS (o t) (u t)) (eS (o t) (u t)) ∧ z_j N2 (m + 15) t = dj t := fun t ht => by
      refine ⟨?_, ?_⟩
      · by_cases c : t = k
        · subst c; exact l4
        · exact ((hT t (by omega)).1.kt kt1 c (by omega) (hu t (by omega)).2.1).kt l6 c (by omega) (hu t (by omega)).2.1
      · rw [l2.j (by unfold zTS; omega)]; exact e15 t (by omega)
    obtain ⟨N', i1, i2, i3⟩ := ih (k + 1) N2 (by omega) (r2.mo hm1) A1 A2
    refine ⟨N', zEv.succ ?_, r12.tr i2, i3⟩
    have zi : zin (nI k) 3 = true := of_eq_true (q_tin (by omega) (by omega))
    have ck : (nI k).toNatClampNeg = k := nI_cl (by omega)
    have e1 : nI k + (1 : Int32) = nI (k + 1) := nI_add k 1
    simp only [f_Mo_beginFrame_143]
    refine zEv.in_ (fun w => by have := (nI_leI (a := 3) (by omega) (by omega)).mp w; omega) (zEv.ip hm.k ?_)
    rw [hm.p6, hm.p11, ck, p2]
    refine zEv.ip hm.k6 (zEv.ip (by rw [hm.n6]; exact zi) (zEv.ip hm.k11 (zEv.ip (by rw [hm.n11]; exact zi) (zEv.zl ?_))))
    have q7 : z_p (w_i N (m + 11) k (nI (o k))) m 11 = m + 7 := hm.p7
    have q15 : z_p (w_i N (m + 11) k (nI (o k))) m 20 = m + 15 := hm.p15
    have q7k : z_j (w_i N (m + 11) k (nI (o k))) (m + 7) k = dj k := p3
    rw [q7, q15, q7k]
    refine zEv.ip hm.k7 (zEv.ip (show zin (nI k) (z_n N (m + 7)) = true by rw [hm.n7]; exact zi) (zEv.ip hm.k15 (zEv.ip (show zin (nI k) (z_n N (m + 15)) = true by rw [hm.n15]; exact zi) (zEv.zl ?_))))
    rw [hN1]
    refine zEv.bind l1 (zEv.zl ?_)
    rw [e1]
    exact i1
def sBg (m q : Nat) : Prop := (m + 8 ≤ q ∧ q ≤ m + 15) ∨ q = m + 18
set_option maxRecDepth 100000 in
set_option maxHeartbeats 4000000 in
theorem c_beginFrame {O : zO} {M : zM} {m id : Nat} {dd : Option dkT} (hm : zMo M m) (hk : dkOk dd) (hd : zDM M m id dd) : ∃ M', zEv (fun n => F_Mo_beginFrame O n m M) ((), M') ∧ zRf (fun f => f = 13) (sBg m) m M M' ∧ zMH M' m (hcO dd) ∧ (∀ k, k < 3 → zMTb M' m k (tbO dd k)) ∧ zLt M' (m + 15) (ltO dd) := by
  have step : ∀ {N : zM} {k : Nat}, zMo N m → k < 3 → ∀ α, zEv (fun n => f_Mo_beginFrame_7 O n m (nI (k + 1)) (w_j (w_i N (m + 11) k (-1)) (m + 15) k (lN (if k = 0 then 1 else 4 * k)))) α → zEv (fun n => f_Mo_beginFrame_7 O n m (nI k) N) α := fun {N k} hn hk α hα => by
    have zi : zin (nI k) 3 = true := of_eq_true (q_tin (by omega) (by omega))
    have ck : (nI k).toNatClampNeg = k := nI_cl (by omega)
    have e1 : nI k + (1 : Int32) = nI (k + 1) := nI_add k 1
    refine zEv.succ ?_
    simp only [f_Mo_beginFrame_7]
    refine zEv.in_ (fun w => by have := (nI_leI (a := 3) (by omega) (by omega)).mp w; omega) (zEv.ip hn.k ?_)
    rw [hn.p11, ck]
    refine zEv.ip hn.k11 (zEv.ip (by rw [hn.n11]; exact zi) (zEv.zl ?_))
    have q15 : z_p (w_i N (m + 11) k (-1)) m 20 = m + 15 := hn.p15
    rw [q15]
    have fin : zEv (fun n => f_Mo_beginFrame_38 O (f_Mo_beginFrame_7 O n) n m (nI k) (m + 15) (nI k) (lN (if k = 0 then 1 else 4 * k)) (w_i N (m + 11) k (-1))) α := by
      unfold f_Mo_beginFrame_38
      refine zEv.ip hn.k15 (zEv.ip (show zin (nI k) (z_n N (m + 15)) = true by rw [hn.n15]; exact zi) (zEv.zl (zEv.zl ?_)))
      rw [ck, e1]
      exact hα
    by_cases c : k = 0
    · subst c
      exact zEv.ip rfl fin
    · rw [if_neg c] at fin
      refine zEv.in_ (nI_ne0 (by omega) (by omega)) ?_
      rw [nI_l (by omega), show (4 : Int64) = lN 4 from rfl, lN_mul]
      exact fin
  generalize hM1 : w_i M m 13 (nI 0) = M1
  have r1 : zRf (fun f => f = 13) (sBg m) m M M1 := by rw [← hM1]; exact zRf.rf.wf (by exact rfl)
  have e13 : z_i M1 m 13 = nI 0 := by rw [← hM1]; exact w_i_eq _ _ _ _
  have n1 := r1.mo hm
  have n2 : zMo (w_j (w_i M1 (m + 11) 0 (-1)) (m + 15) 0 (lN 1)) m := n1
  have n3 : zMo (w_j (w_i (w_j (w_i M1 (m + 11) 0 (-1)) (m + 15) 0 (lN 1)) (m + 11) 1 (-1)) (m + 15) 1 (lN 4)) m := n1
  have go : ∀ α, zEv (fun n => f_Mo_beginFrame_7 O n m (nI 3) (w_j (w_i (w_j (w_i (w_j (w_i M1 (m + 11) 0 (-1)) (m + 15) 0 (lN 1)) (m + 11) 1 (-1)) (m + 15) 1 (lN 4)) (m + 11) 2 (-1)) (m + 15) 2 (lN 8))) α → zEv (fun n => F_Mo_beginFrame O n m M) α := fun α hα => by
    unfold F_Mo_beginFrame f_Mo_beginFrame_0
    refine zEv.ip hm.k (zEv.zl ?_)
    rw [show (0 : Int32) = nI 0 from rfl, hM1]
    exact step (k := 0) n1 (by omega) α (step (k := 1) n2 (by omega) α (step (k := 2) n3 (by omega) α hα))
  have r2 : zRf (fun f => f = 13) (sBg m) m M (w_j (w_i (w_j (w_i (w_j (w_i M1 (m + 11) 0 (-1)) (m + 15) 0 (lN 1)) (m + 11) 1 (-1)) (m + 15) 1 (lN 4)) (m + 11) 2 (-1)) (m + 15) 2 (lN 8)) := (((((r1.wi (by unfold sBg; omega) (by omega)).wj (by unfold sBg; omega) (by omega)).wi (by unfold sBg; omega) (by omega)).wj (by unfold sBg; omega) (by omega)).wi (by unfold sBg; omega) (by omega)).wj (by unfold sBg; omega) (by omega)
  have f13 : z_i (w_j (w_i (w_j (w_i (w_j (w_i M1 (m + 11) 0 (-1)) (m + 15) 0 (lN 1)) (m + 11) 1 (-1)) (m + 15) 1 (lN 4)) (m + 11) 2 (-1)) (m + 15) 2 (lN 8)) m 13 = nI 0 := by simp (disch := omega) only [zlet, w_i_k, w_i_n, w_i_i, w_i_j, w_i_p, w_i_s, w_j_k, w_j_n, w_j_i, w_j_j, w_j_p, w_j_s, w_p_k, w_p_n, w_p_i, w_p_j, w_p_p, w_p_s, w_c_k, w_c_n, w_c_i, w_c_j, w_c_p, w_c_s, w_u_k, w_u_n, w_u_i, w_u_j, w_u_p, w_u_s, q_nf, ↓reduceIte, if_true, if_false, eq_self, and_true, true_and, and_false, false_and, Option.bind_some, ne_eq, not_false_eq_true, not_true_eq_false]; exact e13
  have f11 : ∀ k, k < 3 → z_i (w_j (w_i (w_j (w_i (w_j (w_i M1 (m + 11) 0 (-1)) (m + 15) 0 (lN 1)) (m + 11) 1 (-1)) (m + 15) 1 (lN 4)) (m + 11) 2 (-1)) (m + 15) 2 (lN 8)) (m + 11) k = -1 := fun k hk => by
    rcases (show k = 0 ∨ k = 1 ∨ k = 2 by omega) with h | h | h <;> subst h <;> simp (disch := omega) only [zlet, w_i_k, w_i_n, w_i_i, w_i_j, w_i_p, w_i_s, w_j_k, w_j_n, w_j_i, w_j_j, w_j_p, w_j_s, w_p_k, w_p_n, w_p_i, w_p_j, w_p_p, w_p_s, w_c_k, w_c_n, w_c_i, w_c_j, w_c_p, w_c_s, w_u_k, w_u_n, w_u_i, w_u_j, w_u_p, w_u_s, q_nf, ↓reduceIte, if_true, if_false, eq_self, and_true, true_and, and_false, false_and, Option.bind_some, ne_eq, not_false_eq_true, not_true_eq_false]
  have f15 : zLt (w_j (w_i (w_j (w_i (w_j (w_i M1 (m + 11) 0 (-1)) (m + 15) 0 (lN 1)) (m + 11) 1 (-1)) (m + 15) 1 (lN 4)) (m + 11) 2 (-1)) (m + 15) 2 (lN 8)) (m + 15) (1, 4, 8) := by
    refine ⟨?_, ?_, ?_⟩ <;> simp (disch := omega) only [zlet, w_i_k, w_i_n, w_i_i, w_i_j, w_i_p, w_i_s, w_j_k, w_j_n, w_j_i, w_j_j, w_j_p, w_j_s, w_p_k, w_p_n, w_p_i, w_p_j, w_p_p, w_p_s, w_c_k, w_c_n, w_c_i, w_c_j, w_c_p, w_c_s, w_u_k, w_u_n, w_u_i, w_u_j, w_u_p, w_u_s, q_nf, ↓reduceIte, if_true, if_false, eq_self, and_true, true_and, and_false, false_and, Option.bind_some, ne_eq, not_false_eq_true, not_true_eq_false]
  generalize w_j (w_i (w_j (w_i (w_j (w_i M1 (m + 11) 0 (-1)) (m + 15) 0 (lN 1)) (m + 11) 1 (-1)) (m + 15) 1 (lN 4)) (m + 11) 2 (-1)) (m + 15) 2 (lN 8) = N at go r2 f13 f11 f15
  have hN := r2.mo hm
  have hdN := hd.rf r2 (by omega) (by omega) (fun q h1 h2 => by unfold sBg; omega)
  cases dd with
  | none =>
    refine ⟨N, go _ (zEv.succ ?_), r2, f13, f11, f15⟩
    simp only [f_Mo_beginFrame_7]
    exact zEv.ip (by decide) (zEv.ip hN.k (zEv.ip hdN.2 (zEv.some _)))
  | some q =>
    obtain ⟨t, w, o, u, d⟩ := q
    obtain ⟨d1, d2, d3, d4, d5⟩ := hdN
    obtain ⟨c1, c2, c3⟩ := hk
    obtain ⟨w1, w2, w3, w4, w5, s0, w6, w7⟩ := c1
    have hln : ∀ s, s < 256 → lnS t w s ≤ t := fun s _ => by unfold lnS; split <;> omega
    obtain ⟨A, a1, a2, a3, a4⟩ := l_bf55 (O := O) (t := t) hN d3 w2 hln ⟨s0, w6, by unfold lnS; rw [if_pos (by omega), w7]; omega⟩ 256 0 0 N (by omega) zRf.rf f13 (fun s hs => by omega) (by omega)
    have hA := a1.mo hN
    obtain ⟨g, g1, g2⟩ := c_Mo_layCells (O := O) hA a2 a3 ⟨w1, w2, w3, w4, w5, s0, w6, w7⟩
    have rB : zRf (fun f => f = 13) (sBg m) m A (w_u A (m + 9) g) := zRf.rf.wu (by unfold sBg; omega) (by omega)
    have mcB : zMC (w_u A (m + 9) g) m t w := ⟨by simp (disch := omega) only [zlet, w_i_k, w_i_n, w_i_i, w_i_j, w_i_p, w_i_s, w_j_k, w_j_n, w_j_i, w_j_j, w_j_p, w_j_s, w_p_k, w_p_n, w_p_i, w_p_j, w_p_p, w_p_s, w_c_k, w_c_n, w_c_i, w_c_j, w_c_p, w_c_s, w_u_k, w_u_n, w_u_i, w_u_j, w_u_p, w_u_s, q_nf, ↓reduceIte, if_true, if_false, eq_self, and_true, true_and, and_false, false_and, Option.bind_some, ne_eq, not_false_eq_true, not_true_eq_false]; exact a2, fun c hc => by simp (disch := omega) only [zlet, w_i_k, w_i_n, w_i_i, w_i_j, w_i_p, w_i_s, w_j_k, w_j_n, w_j_i, w_j_j, w_j_p, w_j_s, w_p_k, w_p_n, w_p_i, w_p_j, w_p_p, w_p_s, w_c_k, w_c_n, w_c_i, w_c_j, w_c_p, w_c_s, w_u_k, w_u_n, w_u_i, w_u_j, w_u_p, w_u_s, q_nf, ↓reduceIte, if_true, if_false, eq_self, and_true, true_and, and_false, false_and, Option.bind_some, ne_eq, not_false_eq_true, not_true_eq_false]; exact g1 c hc, fun s hs => by simp (disch := omega) only [zlet, w_i_k, w_i_n, w_i_i, w_i_j, w_i_p, w_i_s, w_j_k, w_j_n, w_j_i, w_j_j, w_j_p, w_j_s, w_p_k, w_p_n, w_p_i, w_p_j, w_p_p, w_p_s, w_c_k, w_c_n, w_c_i, w_c_j, w_c_p, w_c_s, w_u_k, w_u_n, w_u_i, w_u_j, w_u_p, w_u_s, q_nf, ↓reduceIte, if_true, if_false, eq_self, and_true, true_and, and_false, false_and, Option.bind_some, ne_eq, not_false_eq_true, not_true_eq_false]; exact a3 s hs⟩
    generalize w_u A (m + 9) g = B at g2 rB mcB
    have hB := rB.mo hA
    obtain ⟨C, k1, k2, k3⟩ := l_bf116 (O := O) hB 192 0 B (by omega) zRf.rf (fun s hs => by omega)
    have hC := k1.mo hB
    have rAB : zRf (fun f => f = 13) (sBg m) m N B := (a1.mono (fun _ h => h) (fun q hq => by unfold sBg; omega)).tr rB
    have rC : zRf (fun f => f = 13) (sBg m) m N C := rAB.tr (k1.mono (fun _ h => False.elim h) (fun q hq => by unfold sBg; omega))
    have A1 : ∀ k, k < 3 → zMP C m k (u k) ∧ z_i C (m + 6) k = nI (o k) ∧ z_j C (m + 7) k = z_j N (m + 7) k := fun k hk => by
      refine ⟨fun s hs => ?_, ?_, ?_⟩
      · rw [k2 _ (by omega), rAB.i (by omega) (by unfold sBg; omega)]; exact (d4 k hk).2 s hs
      · rw [rC.i (by omega) (by unfold sBg; omega)]; exact (d4 k hk).1
      · rw [rC.j (by omega) (by unfold sBg; omega)]
    obtain ⟨D, l1, l2, l3⟩ := l_bf143 (O := O) (m := m) (o := o) (u := u) (dj := fun k => z_j N (m + 7) k) (fun k hk => (c2 k hk).1) 3 0 C (by omega) hC A1 (fun t ht => by omega)
    have rD : zRf (fun f => f = 13) (sBg m) m C D := l2.mono (fun _ h => False.elim h) (fun q hq => by unfold sBf zTS at hq; unfold sBg; omega)
    refine ⟨D, go _ (zEv.succ ?_), r2.tr (rC.tr rD), ⟨?_, w1, w2, w3, w4, w5, s0, w6, w7⟩, fun k hk => ⟨(l3 k hk).1, wf_S (c2 k hk).1⟩, ?_⟩
    · simp only [f_Mo_beginFrame_7]
      refine zEv.ip (by decide) (zEv.ip hN.k (zEv.in_ (by rw [d2]; decide) (a4 _ (zEv.bind g2 (k3 _ l1)))))
    · have := (mcB.rf k1 (fun h => h) (by omega) (by omega)).rf l2 (fun h => h) (by unfold sBf zTS; omega) (by unfold sBf zTS; omega)
      exact this
    · exact ⟨(l3 0 (by omega)).2.trans d5.1, (l3 1 (by omega)).2.trans d5.2.1, (l3 2 (by omega)).2.trans d5.2.2⟩
