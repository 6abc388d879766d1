/-! learn: the reference. -/
def fT7 (f : Nat) : Prop := f = 22
-- one share of a dictionary
set_option maxRecDepth 100000 in
set_option maxHeartbeats 4000000 in
theorem c_m70 {O : zO} {M : zM} {m cN at_ k j : Nat} {l2 : Int32} {b : Nat → Nat} (hm : zMo M m) (hi : zMI M m cN b) (hj : j < 3) (hk : k = if j = 0 then 1 else if j = 1 then 2 else 0) (ha : at_ ≤ cN) : ∃ M', zRf fT7 (sTm m) m M M' ∧ zKT m k M M' ∧
    match shT b at_ cN (gr k) (lst k) with
    | none => zEv (fun n => f_Mo_learn_70 O n m l2 (nI at_) (nI j) M) (-3, M')
    | some (o, u, nx) => (∀ α, zEv (fun n => f_Mo_learn_70 O n m l2 (nI nx) (nI (j + 1)) M') α → zEv (fun n => f_Mo_learn_70 O n m l2 (nI at_) (nI j) M) α) ∧ zMP M' m k u ∧ z_i M' (m + 11) k = nI o := by
  have hcN := hi.2.1
  have hk3 : k < 3 := by rw [hk]; split; omega; split <;> omega
  obtain ⟨g1, g2, g3⟩ := gr_bd hk3
  obtain ⟨x, g, hsh⟩ := c_Mo_share (O := O) (M := M) (G := gr k) (last := lst k) (fr := at_) (to := cN) (hi.in_ hm) hm.p16 hm.k16 hm.n16 g1 g3 ha (Nat.le_refl _)
  have r1 : zRf fT7 (sTm m) m M (w_u (w_i M m 22 x) (m + 16) g) := (zRf.rf.wf (by exact rfl)).wu (Or.inr rfl) (by omega)
  have kt1 : zKT m k M (w_u (w_i M m 22 x) (m + 16) g) := fun t' h1 h2 => ⟨by simp (disch := omega) only [zlet, w_i_k, w_i_n, w_i_i, w_i_j, w_i_p, w_i_s, w_j_k, w_j_n, w_j_i, w_j_j, w_j_p, w_j_s, w_p_k, w_p_n, w_p_i, w_p_j, w_p_p, w_p_s, w_c_k, w_c_n, w_c_i, w_c_j, w_c_p, w_c_s, w_u_k, w_u_n, w_u_i, w_u_j, w_u_p, w_u_s, q_nf, ↓reduceIte, if_true, if_false, eq_self, and_true, true_and, and_false, false_and, Option.bind_some, ne_eq, not_false_eq_true, not_true_eq_false], fun s hs => by simp (disch := omega) only [zlet, w_i_k, w_i_n, w_i_i, w_i_j, w_i_p, w_i_s, w_j_k, w_j_n, w_j_i, w_j_j, w_j_p, w_j_s, w_p_k, w_p_n, w_p_i, w_p_j, w_p_p, w_p_s, w_c_k, w_c_n, w_c_i, w_c_j, w_c_p, w_c_s, w_u_k, w_u_n, w_u_i, w_u_j, w_u_p, w_u_s, q_nf, ↓reduceIte, if_true, if_false, eq_self, and_true, true_and, and_false, false_and, Option.bind_some, ne_eq, not_false_eq_true, not_true_eq_false], fun s hs => ⟨by simp (disch := omega) only [zlet, w_i_k, w_i_n, w_i_i, w_i_j, w_i_p, w_i_s, w_j_k, w_j_n, w_j_i, w_j_j, w_j_p, w_j_s, w_p_k, w_p_n, w_p_i, w_p_j, w_p_p, w_p_s, w_c_k, w_c_n, w_c_i, w_c_j, w_c_p, w_c_s, w_u_k, w_u_n, w_u_i, w_u_j, w_u_p, w_u_s, q_nf, ↓reduceIte, if_true, if_false, eq_self, and_true, true_and, and_false, false_and, Option.bind_some, ne_eq, not_false_eq_true, not_true_eq_false], by simp (disch := omega) only [zlet, w_i_k, w_i_n, w_i_i, w_i_j, w_i_p, w_i_s, w_j_k, w_j_n, w_j_i, w_j_j, w_j_p, w_j_s, w_p_k, w_p_n, w_p_i, w_p_j, w_p_p, w_p_s, w_c_k, w_c_n, w_c_i, w_c_j, w_c_p, w_c_s, w_u_k, w_u_n, w_u_i, w_u_j, w_u_p, w_u_s, q_nf, ↓reduceIte, if_true, if_false, eq_self, and_true, true_and, and_false, false_and, Option.bind_some, ne_eq, not_false_eq_true, not_true_eq_false], by simp (disch := omega) only [zlet, w_i_k, w_i_n, w_i_i, w_i_j, w_i_p, w_i_s, w_j_k, w_j_n, w_j_i, w_j_j, w_j_p, w_j_s, w_p_k, w_p_n, w_p_i, w_p_j, w_p_p, w_p_s, w_c_k, w_c_n, w_c_i, w_c_j, w_c_p, w_c_s, w_u_k, w_u_n, w_u_i, w_u_j, w_u_p, w_u_s, q_nf, ↓reduceIte, if_true, if_false, eq_self, and_true, true_and, and_false, false_and, Option.bind_some, ne_eq, not_false_eq_true, not_true_eq_false]⟩⟩
  have hm1 := r1.mo hm
  have hlo := c_lastOf (O := O) (M := M) hk3
  have start : ∀ {y : Int32}, zEv (fun n => F_Mo_share O n m (nI at_) (nI cN) (nI (gr k)) (nI (lst k)) M) (y, w_u (w_i M m 22 x) (m + 16) g) → ∀ {α : Int32 × zM}, zEv (fun n => if 0 ≤ y then
      (F_Mo_keepDraft O n m (nI k) (w_u (w_i M m 22 x) (m + 16) g)).bind fun q7 =>
      f_Mo_learn_70 O n m l2 y (nI (j + 1)) q7.2
      else
      some ((-3 : Int32), w_u (w_i M m 22 x) (m + 16) g)) α → zEv (fun n => f_Mo_learn_70 O n m l2 (nI at_) (nI j) M) α := fun {y} hy {α} hα => by
    have p117 : ∀ G, G = gr k → zEv (fun n => f_Mo_learn_117 O (f_Mo_learn_70 O n) n m l2 (nI j) (nI k) m (nI at_) (nI cN) (nI G) M) α := fun G hG => by
      subst hG
      unfold f_Mo_learn_117
      refine zEv.bind hlo (zEv.ip hm.k (zEv.bind hy ?_))
      refine hα.to fun n => ?_
      have e1 : nI j + (1 : Int32) = nI (j + 1) := nI_add j 1
      simp only [hm1.k, if_true, zlet, e1]
    have p96 : zEv (fun n => f_Mo_learn_96 O (f_Mo_learn_70 O n) n m l2 (nI at_) (nI j) (nI k) M) α := by
      unfold f_Mo_learn_96
      refine zEv.ip hm.k ?_
      rw [hi.1]
      by_cases c1 : k = 1
      · exact zEv.ip (by rw [c1]; rfl) (p117 8 (by unfold gr; rw [if_pos c1]))
      · exact zEv.in_ (fun w => c1 ((nI_eq (b := 1) (by omega) (by omega)).mp w)) (p117 9 (by unfold gr; rw [if_neg c1]))
    refine zEv.succ ?_
    simp only [f_Mo_learn_70]
    refine zEv.in_ (fun w => by have := (nI_leI (a := 3) (by omega) (by omega)).mp w; omega) ?_
    rcases (show j = 0 ∨ j = 1 ∨ j = 2 by omega) with e | e | e
    · subst e; subst hk; exact zEv.ip rfl p96
    · subst e; subst hk; exact zEv.in_ (by decide) (zEv.ip rfl p96)
    · subst e; subst hk; exact zEv.in_ (by decide) (zEv.in_ (by decide) p96)
  cases hs : shT b at_ cN (gr k) (lst k) with
  | none =>
    rw [hs] at hsh
    exact ⟨_, r1, kt1, start hsh (zEv.in_ (show ¬ (0 : Int32) ≤ -1 by decide) (zEv.some _))⟩
  | some q =>
    obtain ⟨o, u, nx⟩ := q
    rw [hs] at hsh
    obtain ⟨e1, e2, e3⟩ := hsh
    subst e2
    obtain ⟨v1, v2, v3, v4⟩ := shT_at hk3 hs
    obtain ⟨M', i1, i2, i3, i4, i5, i6⟩ := c_keepDraft (O := O) (t := k) hm1 hk3 v1 (by simp (disch := omega) only [zlet, w_i_k, w_i_n, w_i_i, w_i_j, w_i_p, w_i_s, w_j_k, w_j_n, w_j_i, w_j_j, w_j_p, w_j_s, w_p_k, w_p_n, w_p_i, w_p_j, w_p_p, w_p_s, w_c_k, w_c_n, w_c_i, w_c_j, w_c_p, w_c_s, w_u_k, w_u_n, w_u_i, w_u_j, w_u_p, w_u_s, q_nf, ↓reduceIte, if_true, if_false, eq_self, and_true, true_and, and_false, false_and, Option.bind_some, ne_eq, not_false_eq_true, not_true_eq_false]) (fun s hs => by simp (disch := omega) only [zlet, w_i_k, w_i_n, w_i_i, w_i_j, w_i_p, w_i_s, w_j_k, w_j_n, w_j_i, w_j_j, w_j_p, w_j_s, w_p_k, w_p_n, w_p_i, w_p_j, w_p_p, w_p_s, w_c_k, w_c_n, w_c_i, w_c_j, w_c_p, w_c_s, w_u_k, w_u_n, w_u_i, w_u_j, w_u_p, w_u_s, q_nf, ↓reduceIte, if_true, if_false, eq_self, and_true, true_and, and_false, false_and, Option.bind_some, ne_eq, not_false_eq_true, not_true_eq_false]; exact e3 s (by omega))
    have rf : zRf fT7 (sTm m) m M M' := r1.tr ((i2.ref (F := fT7) i3 zTS_m).mono (fun _ h => h) (fun q hq => Or.inl hq))
    exact ⟨M', rf, kt1.tr i6, fun α hα => start e1 (zEv.ip (nI_pos' (by omega)) (zEv.bind i1 hα)), i5, i4.1⟩
-- the three shares
set_option maxRecDepth 100000 in
set_option maxHeartbeats 4000000 in
theorem c_m70x {O : zO} {M : zM} {m cN at_ : Nat} {l2 : Int32} {b : Nat → Nat} (hm : zMo M m) (hi : zMI M m cN b) (ha : at_ ≤ cN) : ∃ M', zRf fT7 (sTm m) m M M' ∧
    match sh3 b at_ cN with
    | none => zEv (fun n => f_Mo_learn_70 O n m l2 (nI at_) (nI 0) M) (-3, M')
    | some (o, u, nx) => (∀ α, zEv (fun n => f_Mo_learn_70 O n m l2 (nI nx) (nI 3) M') α → zEv (fun n => f_Mo_learn_70 O n m l2 (nI at_) (nI 0) M) α) ∧ ∀ k, k < 3 → zMP M' m k (u k) ∧ z_i M' (m + 11) k = nI (o k) := by
  unfold sh3
  obtain ⟨M1, r1, kt1, t1⟩ := c_m70 (O := O) (j := 0) (k := 1) (l2 := l2) hm hi (by omega) rfl ha
  cases h1 : shT b at_ cN (gr 1) (lst 1) with
  | none => rw [h1] at t1; exact ⟨M1, r1, t1⟩
  | some q1 =>
    obtain ⟨o1, u1, n1⟩ := q1
    rw [h1] at t1
    dsimp only at t1 ⊢
    obtain ⟨b1, b2, b3, b4⟩ := shT_at (by omega) h1
    obtain ⟨M2, r2, kt2, t2⟩ := c_m70 (O := O) (j := 1) (k := 2) (l2 := l2) (r1.mo hm) (hi.rf r1 (by unfold fT7; omega) (by unfold sTm zTS; omega)) (by omega) rfl b4
    cases h2 : shT b n1 cN (gr 2) (lst 2) with
    | none => rw [h2] at t2; exact ⟨M2, r1.tr r2, t1.1 _ t2⟩
    | some q2 =>
      obtain ⟨o2, u2, n2⟩ := q2
      rw [h2] at t2
      dsimp only at t2 ⊢
      obtain ⟨c1, c2, c3, c4⟩ := shT_at (by omega) h2
      have r12 := r1.tr r2
      obtain ⟨M3, r3, kt3, t3⟩ := c_m70 (O := O) (j := 2) (k := 0) (l2 := l2) (r12.mo hm) (hi.rf r12 (by unfold fT7; omega) (by unfold sTm zTS; omega)) (by omega) rfl c4
      cases h3 : shT b n2 cN (gr 0) (lst 0) with
      | none => rw [h3] at t3; exact ⟨M3, r12.tr r3, t1.1 _ (t2.1 _ t3)⟩
      | some q3 =>
        obtain ⟨o0, u0, n0⟩ := q3
        rw [h3] at t3
        dsimp only at t3 ⊢
        refine ⟨M3, r12.tr r3, fun α hα => t1.1 _ (t2.1 _ (t3.1 _ hα)), fun k hk => ?_⟩
        rcases (show k = 0 ∨ k = 1 ∨ k = 2 by omega) with w | w | w
        · subst w; exact t3.2
        · subst w; exact ⟨(t1.2.1.kt kt2 (by omega) (by omega)).kt kt3 (by omega) (by omega), ((kt3 1 (by omega) (by omega)).1.trans (kt2 1 (by omega) (by omega)).1).trans t1.2.2⟩
        · subst w; exact ⟨t2.2.1.kt kt3 (by omega) (by omega), (kt3 2 (by omega) (by omega)).1.trans t2.2.2⟩
theorem l_ln265 {O : zO} {m l1 dc cN : Nat} {b : Nat → Nat} (hd : l1 + dc ≤ cN) : ∀ d k M, k + d = dc → zMo M m → zMI M m cN b → z_i M m 5 = nI dc → (∀ j, j < k → z_i M (m + 3) j = nI (b (l1 + j))) → ∃ M', (∀ α, zEv (fun n => f_Mo_learn_295 O n m (0 : Int32) M') α → zEv (fun n => f_Mo_learn_265 O n m (nI l1) (nI k) M) α) ∧ zRf sN (fun q => q = m + 3) m M M' ∧ ∀ j, j < dc → z_i M' (m + 3) j = nI (b (l1 + j)) := by
  intro d
  induction d with
  | zero =>
    intro k M hk hm hi h5 h3
    have hcN := hi.2.1
    refine ⟨M, fun α hα => zEv.succ ?_, zRf.rf, fun j hj => h3 j (by omega)⟩
    simp only [f_Mo_learn_265]
    refine zEv.ip hm.k ?_
    rw [h5]
    exact zEv.ip ((nI_leI (by omega) (by omega)).mpr (by omega)) hα
  | succ d ih =>
    intro k M hk hm hi h5 h3
    have hcN := hi.2.1
    have r1 : zRf sN (fun q => q = m + 3) m M (w_i M (m + 3) k (nI (b (l1 + k)))) := zRf.rf.wi (by exact rfl) (by omega)
    obtain ⟨M', i1, i2, i3⟩ := ih (k + 1) (w_i M (m + 3) k (nI (b (l1 + k)))) (by omega) (r1.mo hm) (hi.rf r1 (fun h => h) (by omega)) ((r1.f (fun h => h)).trans h5) (fun j hj => by
      by_cases w : j = k
      · subst w; simp (disch := omega) only [zlet, w_i_k, w_i_n, w_i_i, w_i_j, w_i_p, w_i_s, w_j_k, w_j_n, w_j_i, w_j_j, w_j_p, w_j_s, w_p_k, w_p_n, w_p_i, w_p_j, w_p_p, w_p_s, w_c_k, w_c_n, w_c_i, w_c_j, w_c_p, w_c_s, w_u_k, w_u_n, w_u_i, w_u_j, w_u_p, w_u_s, q_nf, ↓reduceIte, if_true, if_false, eq_self, and_true, true_and, and_false, false_and, Option.bind_some, ne_eq, not_false_eq_true, not_true_eq_false]
      · simp (disch := omega) only [zlet, w_i_k, w_i_n, w_i_i, w_i_j, w_i_p, w_i_s, w_j_k, w_j_n, w_j_i, w_j_j, w_j_p, w_j_s, w_p_k, w_p_n, w_p_i, w_p_j, w_p_p, w_p_s, w_c_k, w_c_n, w_c_i, w_c_j, w_c_p, w_c_s, w_u_k, w_u_n, w_u_i, w_u_j, w_u_p, w_u_s, q_nf, ↓reduceIte, if_true, if_false, eq_self, and_true, true_and, and_false, false_and, Option.bind_some, ne_eq, not_false_eq_true, not_true_eq_false, w]; exact h3 j (by omega))
    refine ⟨M', fun α hα => zEv.succ ?_, r1.tr i2, i3⟩
    have zi : zin (nI k) 12000 = true := of_eq_true (q_tin (by omega) (by omega))
    have zi2 : zin (nI (l1 + k)) 12000 = true := of_eq_true (q_tin (by omega) (by omega))
    have ck : (nI k).toNatClampNeg = k := nI_cl (by omega)
    have ck2 : (nI (l1 + k)).toNatClampNeg = l1 + k := nI_cl (by omega)
    have e1 : nI k + (1 : Int32) = nI (k + 1) := nI_add k 1
    simp only [f_Mo_learn_265]
    refine zEv.ip hm.k ?_
    rw [h5]
    refine zEv.in_ (fun w => by have := (nI_leI (by omega) (by omega)).mp w; omega) ?_
    rw [hm.p1, hm.p3, nI_add, ck, ck2, (hi.2.2 (l1 + k) (by omega)).2]
    refine zEv.ip hm.k1 (zEv.ip (by rw [hm.n1]; exact zi2) (zEv.ip hm.k3 (zEv.ip (by rw [hm.n3]; exact zi) (zEv.zl (zEv.zl ?_)))))
    rw [e1]
    exact i1 α hα
theorem l_ln295 {O : zO} {m : Nat} : ∀ d k M, k + d = 256 → zMo M m → (∀ j, j < k → z_i M (m + 4) j = z_i M (m + 8) j) → ∃ M', (∀ α, zEv (fun n => f_Mo_learn_322 O n m (0 : Int32) M') α → zEv (fun n => f_Mo_learn_295 O n m (nI k) M) α) ∧ zRf sN (fun q => q = m + 4) m M M' ∧ ∀ j, j < 256 → z_i M' (m + 4) j = z_i M (m + 8) j := by
  intro d
  induction d with
  | zero =>
    intro k M hk hm h3
    refine ⟨M, fun α hα => zEv.succ ?_, zRf.rf, fun j hj => h3 j (by omega)⟩
    simp only [f_Mo_learn_295]
    exact zEv.ip ((nI_leI (a := 256) (by omega) (by omega)).mpr (by omega)) hα
  | succ d ih =>
    intro k M hk hm h3
    have r1 : zRf sN (fun q => q = m + 4) m M (w_i M (m + 4) k (z_i M (m + 8) k)) := zRf.rf.wi (by exact rfl) (by omega)
    obtain ⟨M', i1, i2, i3⟩ := ih (k + 1) (w_i M (m + 4) k (z_i M (m + 8) k)) (by omega) (r1.mo hm) (fun j hj => by
      by_cases w : j = k
      · subst w; simp (disch := omega) only [zlet, w_i_k, w_i_n, w_i_i, w_i_j, w_i_p, w_i_s, w_j_k, w_j_n, w_j_i, w_j_j, w_j_p, w_j_s, w_p_k, w_p_n, w_p_i, w_p_j, w_p_p, w_p_s, w_c_k, w_c_n, w_c_i, w_c_j, w_c_p, w_c_s, w_u_k, w_u_n, w_u_i, w_u_j, w_u_p, w_u_s, q_nf, ↓reduceIte, if_true, if_false, eq_self, and_true, true_and, and_false, false_and, Option.bind_some, ne_eq, not_false_eq_true, not_true_eq_false]
      · simp (disch := omega) only [zlet, w_i_k, w_i_n, w_i_i, w_i_j, w_i_p, w_i_s, w_j_k, w_j_n, w_j_i, w_j_j, w_j_p, w_j_s, w_p_k, w_p_n, w_p_i, w_p_j, w_p_p, w_p_s, w_c_k, w_c_n, w_c_i, w_c_j, w_c_p, w_c_s, w_u_k, w_u_n, w_u_i, w_u_j, w_u_p, w_u_s, q_nf, ↓reduceIte, if_true, if_false, eq_self, and_true, true_and, and_false, false_and, Option.bind_some, ne_eq, not_false_eq_true, not_true_eq_false, w]; exact h3 j (by omega))
    refine ⟨M', fun α hα => zEv.succ ?_, r1.tr i2, fun j hj => (i3 j hj).trans (r1.i (by omega) (by omega) j)⟩
    have zi : zin (nI k) 256 = true := of_eq_true (q_tin (by omega) (by omega))
    have ck : (nI k).toNatClampNeg = k := nI_cl (by omega)
    have e1 : nI k + (1 : Int32) = nI (k + 1) := nI_add k 1
    simp only [f_Mo_learn_295]
    refine zEv.in_ (fun w => by have := (nI_leI (a := 256) (by omega) (by omega)).mp w; omega) (zEv.ip hm.k ?_)
    rw [hm.p8, hm.p4, ck]
    refine zEv.ip hm.k8 (zEv.ip (by rw [hm.n8]; exact zi) (zEv.ip hm.k4 (zEv.ip (by rw [hm.n4]; exact zi) (zEv.zl (zEv.zl ?_)))))
    rw [e1]
    exact i1 α hα
theorem l_ln322 {O : zO} {m : Nat} : ∀ d k M, k + d = 192 → zMo M m → (∀ j, j < k → z_i M (m + 5) j = z_i M (m + 10) j) → ∃ M', (∀ α, zEv (fun n => f_Mo_learn_349 O n m (0 : Int32) M') α → zEv (fun n => f_Mo_learn_322 O n m (nI k) M) α) ∧ zRf sN (fun q => q = m + 5) m M M' ∧ ∀ j, j < 192 → z_i M' (m + 5) j = z_i M (m + 10) j := by
  intro d
  induction d with
  | zero =>
    intro k M hk hm h3
    refine ⟨M, fun α hα => zEv.succ ?_, zRf.rf, fun j hj => h3 j (by omega)⟩
    simp only [f_Mo_learn_322]
    exact zEv.ip ((nI_leI (a := 192) (by omega) (by omega)).mpr (by omega)) hα
  | succ d ih =>
    intro k M hk hm h3
    have r1 : zRf sN (fun q => q = m + 5) m M (w_i M (m + 5) k (z_i M (m + 10) k)) := zRf.rf.wi (by exact rfl) (by omega)
    obtain ⟨M', i1, i2, i3⟩ := ih (k + 1) (w_i M (m + 5) k (z_i M (m + 10) k)) (by omega) (r1.mo hm) (fun j hj => by
      by_cases w : j = k
      · subst w; simp (disch := omega) only [zlet, w_i_k, w_i_n, w_i_i, w_i_j, w_i_p, w_i_s, w_j_k, w_j_n, w_j_i, w_j_j, w_j_p, w_j_s, w_p_k, w_p_n, w_p_i, w_p_j, w_p_p, w_p_s, w_c_k, w_c_n, w_c_i, w_c_j, w_c_p, w_c_s, w_u_k, w_u_n, w_u_i, w_u_j, w_u_p, w_u_s, q_nf, ↓reduceIte, if_true, if_false, eq_self, and_true, true_and, and_false, false_and, Option.bind_some, ne_eq, not_false_eq_true, not_true_eq_false]
      · simp (disch := omega) only [zlet, w_i_k, w_i_n, w_i_i, w_i_j, w_i_p, w_i_s, w_j_k, w_j_n, w_j_i, w_j_j, w_j_p, w_j_s, w_p_k, w_p_n, w_p_i, w_p_j, w_p_p, w_p_s, w_c_k, w_c_n, w_c_i, w_c_j, w_c_p, w_c_s, w_u_k, w_u_n, w_u_i, w_u_j, w_u_p, w_u_s, q_nf, ↓reduceIte, if_true, if_false, eq_self, and_true, true_and, and_false, false_and, Option.bind_some, ne_eq, not_false_eq_true, not_true_eq_false, w]; exact h3 j (by omega))
    refine ⟨M', fun α hα => zEv.succ ?_, r1.tr i2, fun j hj => (i3 j hj).trans (r1.i (by omega) (by omega) j)⟩
    have zi : zin (nI k) 192 = true := of_eq_true (q_tin (by omega) (by omega))
    have ck : (nI k).toNatClampNeg = k := nI_cl (by omega)
    have e1 : nI k + (1 : Int32) = nI (k + 1) := nI_add k 1
    simp only [f_Mo_learn_322]
    refine zEv.in_ (fun w => by have := (nI_leI (a := 192) (by omega) (by omega)).mp w; omega) (zEv.ip hm.k ?_)
    rw [hm.p10, hm.p5, ck]
    refine zEv.ip hm.k10 (zEv.ip (by rw [hm.n10]; exact zi) (zEv.ip hm.k5 (zEv.ip (by rw [hm.n5]; exact zi) (zEv.zl (zEv.zl ?_)))))
    rw [e1]
    exact i1 α hα
theorem l_ln349 {O : zO} {m dc : Nat} : ∀ d k M, k + d = 3 → zMo M m → z_i M m 5 = nI dc → (∀ j, j < k → z_i M (m + 6) j = z_i M (m + 11) j ∧ z_j M (m + 7) j = z_j M (m + 15) j) → ∃ M', zEv (fun n => f_Mo_learn_349 O n m (nI k) M) (nI dc, w_i M' m 1 (nI 0)) ∧ zRf sN (fun q => q = m + 6 ∨ q = m + 7) m M M' ∧ ∀ j, j < 3 → z_i M' (m + 6) j = z_i M (m + 11) j ∧ z_j M' (m + 7) j = z_j M (m + 15) j := by
  intro d
  induction d with
  | zero =>
    intro k M hk hm h5 h3
    refine ⟨M, zEv.succ ?_, zRf.rf, fun j hj => h3 j (by omega)⟩
    simp only [f_Mo_learn_349]
    refine zEv.ip ((nI_leI (a := 3) (by omega) (by omega)).mpr (by omega)) (zEv.ip hm.k (zEv.zl ?_))
    have e : z_i (w_i M m 1 (0 : Int32)) m 5 = nI dc := by rw [w_i_ne _ _ (by omega)]; exact h5
    rw [e]
    exact zEv.some _
  | succ d ih =>
    intro k M hk hm h5 h3
    have r1 : zRf sN (fun q => q = m + 6 ∨ q = m + 7) m M (w_j (w_i M (m + 6) k (z_i M (m + 11) k)) (m + 7) k (z_j M (m + 15) k)) := (zRf.rf.wi (Or.inl rfl) (by omega)).wj (Or.inr rfl) (by omega)
    obtain ⟨M', i1, i2, i3⟩ := ih (k + 1) (w_j (w_i M (m + 6) k (z_i M (m + 11) k)) (m + 7) k (z_j M (m + 15) k)) (by omega) (r1.mo hm) ((r1.f (fun h => h)).trans h5) (fun j hj => by
      by_cases w : j = k
      · subst w
        refine ⟨?_, ?_⟩ <;> simp (disch := omega) only [zlet, w_i_k, w_i_n, w_i_i, w_i_j, w_i_p, w_i_s, w_j_k, w_j_n, w_j_i, w_j_j, w_j_p, w_j_s, w_p_k, w_p_n, w_p_i, w_p_j, w_p_p, w_p_s, w_c_k, w_c_n, w_c_i, w_c_j, w_c_p, w_c_s, w_u_k, w_u_n, w_u_i, w_u_j, w_u_p, w_u_s, q_nf, ↓reduceIte, if_true, if_false, eq_self, and_true, true_and, and_false, false_and, Option.bind_some, ne_eq, not_false_eq_true, not_true_eq_false]
      · refine ⟨?_, ?_⟩
        · simp (disch := omega) only [zlet, w_i_k, w_i_n, w_i_i, w_i_j, w_i_p, w_i_s, w_j_k, w_j_n, w_j_i, w_j_j, w_j_p, w_j_s, w_p_k, w_p_n, w_p_i, w_p_j, w_p_p, w_p_s, w_c_k, w_c_n, w_c_i, w_c_j, w_c_p, w_c_s, w_u_k, w_u_n, w_u_i, w_u_j, w_u_p, w_u_s, q_nf, ↓reduceIte, if_true, if_false, eq_self, and_true, true_and, and_false, false_and, Option.bind_some, ne_eq, not_false_eq_true, not_true_eq_false, w]; exact (h3 j (by omega)).1
        · simp (disch := omega) only [zlet, w_i_k, w_i_n, w_i_i, w_i_j, w_i_p, w_i_s, w_j_k, w_j_n, w_j_i, w_j_j, w_j_p, w_j_s, w_p_k, w_p_n, w_p_i, w_p_j, w_p_p, w_p_s, w_c_k, w_c_n, w_c_i, w_c_j, w_c_p, w_c_s, w_u_k, w_u_n, w_u_i, w_u_j, w_u_p, w_u_s, q_nf, ↓reduceIte, if_true, if_false, eq_self, and_true, true_and, and_false, false_and, Option.bind_some, ne_eq, not_false_eq_true, not_true_eq_false, w]; exact (h3 j (by omega)).2)
    refine ⟨M', zEv.succ ?_, r1.tr i2, fun j hj => ⟨(i3 j hj).1.trans (r1.i (by omega) (by omega) j), (i3 j hj).2.trans (r1.j (by omega) (by omega) j)⟩⟩
    have zi : zin (nI k) 3 = true := of_eq_true (q_tin (by omega) (by omega))
    have ck : (nI k).toNatClampNeg = k := nI_cl (by omega)
    have e1 : nI k + (1 : Int32) = nI (k + 1) := nI_add k 1
    simp only [f_Mo_learn_349]
    refine zEv.in_ (fun w => by have := (nI_leI (a := 3) (by omega) (by omega)).mp w; omega) (zEv.ip hm.k ?_)
    rw [hm.p11, hm.p6, ck]
    refine zEv.ip hm.k11 (zEv.ip (by rw [hm.n11]; exact zi) (zEv.ip hm.k6 (zEv.ip (by rw [hm.n6]; exact zi) (zEv.zl ?_))))
    have q15 : z_p (w_i M (m + 6) k (z_i M (m + 11) k)) m 20 = m + 15 := hm.p15
    have q7 : z_p (w_i M (m + 6) k (z_i M (m + 11) k)) m 11 = m + 7 := hm.p7
    rw [q15, q7]
    refine zEv.ip hm.k15 (zEv.ip (show zin (nI k) (z_n M (m + 15)) = true by rw [hm.n15]; exact zi) (zEv.ip hm.k7 (zEv.ip (show zin (nI k) (z_n M (m + 7)) = true by rw [hm.n7]; exact zi) (zEv.zl (zEv.zl ?_)))))
    rw [e1]
    exact i1
def fLn (f : Nat) : Prop := f = 1 ∨ f = 5 ∨ f = 6
def sLn (m q : Nat) : Prop := m + 3 ≤ q ∧ q ≤ m + 7
-- all is kept
set_option maxRecDepth 100000 in
set_option maxHeartbeats 4000000 in
theorem c_m250 {O : zO} {M : zM} {m cN l1 : Nat} {x : Int32} {b : Nat → Nat} (hm : zMo M m) (hi : zMI M m cN b) (hl : l1 ≤ cN) : ∃ M', zEv (fun n => f_Mo_learn_250 O n m (nI l1) m x M) (nI (cN - l1), M') ∧ zRf fLn (sLn m) m M M' ∧ z_i M' m 1 = nI 0 ∧ z_i M' m 5 = nI (cN - l1) ∧ z_i M' m 6 = x ∧ (∀ j, j < cN - l1 → z_i M' (m + 3) j = nI (b (l1 + j))) ∧ (∀ s, s < 256 → z_i M' (m + 4) s = z_i M (m + 8) s) ∧ (∀ j, j < 192 → z_i M' (m + 5) j = z_i M (m + 10) j) ∧ ∀ k, k < 3 → z_i M' (m + 6) k = z_i M (m + 11) k ∧ z_j M' (m + 7) k = z_j M (m + 15) k := by
  have hcN := hi.2.1
  generalize hA : w_i (w_i M m 6 x) m 5 (nI (cN - l1)) = A
  have rA : zRf (fun f => f = 5 ∨ f = 6) sN m M A := by rw [← hA]; exact (zRf.rf.wf (Or.inr rfl)).wf (Or.inl rfl)
  have A5 : z_i A m 5 = nI (cN - l1) := by rw [← hA, w_i_eq]
  have A6 : z_i A m 6 = x := by rw [← hA, w_i_ne _ _ (by omega), w_i_eq]
  have mA := rA.mo hm
  obtain ⟨B, b1, b2, b3⟩ := l_ln265 (O := O) (l1 := l1) (dc := cN - l1) (cN := cN) (b := b) (by omega) (cN - l1) 0 A (by omega) mA (hi.rf rA (by omega) (fun h => h)) A5 (fun j hj => by omega)
  have mB := b2.mo mA
  obtain ⟨C, c1, c2, c3⟩ := l_ln295 (O := O) 256 0 B (by omega) mB (fun j hj => by omega)
  have mC := c2.mo mB
  obtain ⟨D, d1, d2, d3⟩ := l_ln322 (O := O) 192 0 C (by omega) mC (fun j hj => by omega)
  have mD := d2.mo mC
  have D5 : z_i D m 5 = nI (cN - l1) := by rw [d2.f (fun h => h), c2.f (fun h => h), b2.f (fun h => h)]; exact A5
  obtain ⟨E, e1, e2, e3⟩ := l_ln349 (O := O) (dc := cN - l1) 3 0 D (by omega) mD D5 (fun j hj => by omega)
  have rE : zRf (fun f => f = 5 ∨ f = 6) (sLn m) m M E := (((rA.mono (fun _ h => h) (fun _ h => False.elim h)).tr (b2.mono (fun _ h => False.elim h) (fun q hq => by unfold sLn; omega))).tr (c2.mono (fun _ h => False.elim h) (fun q hq => by unfold sLn; omega))).tr ((d2.mono (fun _ h => False.elim h) (fun q hq => by unfold sLn; omega)).tr (e2.mono (fun _ h => False.elim h) (fun q hq => by unfold sLn; omega)))
  have rF : zRf fLn (sLn m) m M (w_i E m 1 (nI 0)) := (rE.mono (fun f hf => by unfold fLn; omega) (fun _ h => h)).wf (Or.inl rfl)
  refine ⟨w_i E m 1 (nI 0), ?_, rF, w_i_eq _ _ _ _, ?_, ?_, fun j hj => ?_, fun s hs => ?_, fun j hj => ?_, fun k hk => ⟨?_, ?_⟩⟩
  · unfold f_Mo_learn_250
    refine zEv.ip hm.k (zEv.zl (zEv.ip hm.k (zEv.zl ?_)))
    have e1' : z_i (w_i M m 6 x) m 1 = nI cN := by rw [w_i_ne _ _ (by omega)]; exact hi.1
    rw [e1', pk_sub hl, hA]
    exact b1 _ (c1 _ (d1 _ e1))
  · rw [w_i_ne _ _ (by omega), e2.f (fun h => h)]; exact D5
  · rw [w_i_ne _ _ (by omega), e2.f (fun h => h), d2.f (fun h => h), c2.f (fun h => h), b2.f (fun h => h)]; exact A6
  · rw [w_i_ne _ _ (by omega), e2.i (by omega) (by omega), d2.i (by omega) (by omega), c2.i (by omega) (by omega)]; exact b3 j hj
  · rw [w_i_ne _ _ (by omega), e2.i (by omega) (by omega), d2.i (by omega) (by omega), c3 s hs, b2.i (by omega) (by omega), rA.i (by omega) (fun h => h)]
  · rw [w_i_ne _ _ (by omega), e2.i (by omega) (by omega), d3 j hj, c2.i (by omega) (by omega), b2.i (by omega) (by omega), rA.i (by omega) (fun h => h)]
  · rw [w_i_ne _ _ (by omega), (e3 k hk).1, d2.i (by omega) (by omega), c2.i (by omega) (by omega), b2.i (by omega) (by omega), rA.i (by omega) (fun h => h)]
  · show z_j E (m + 7) k = _
    rw [(e3 k hk).2, d2.j (by omega) (by omega), c2.j (by omega) (by omega), b2.j (by omega) (by omega), rA.j (by omega) (fun h => h)]
