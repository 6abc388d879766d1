/-! learn: both sides together. -/
theorem zDC.st2 {S : Nat → Prop} {M M1 : zM} {X id : Nat} {dd : Option dkT} (h : zDC M X id dd) (g : zSt S M M1) (hS : ∀ q, q = X + 5 ∨ X + 8 ≤ q → q ≤ X + 68 → ¬ S q) : zDC M1 X id dd := by
  obtain ⟨h1, e, h2, h3, h4, h5, h6, h7⟩ := h
  have s5 := hS (X + 5) (by omega) (by omega)
  refine ⟨(g.j s5 2).trans h1, e, h2, (g.p s5 4).trans h3, (g.p s5 6).trans h4, (g.p s5 5).trans h5, (g.p s5 7).trans h6, ?_⟩
  cases dd with
  | none => exact (g.i s5 3).trans h7
  | some q =>
    obtain ⟨t, w, o, u, d⟩ := q
    obtain ⟨i1, i2, i3, i4⟩ := h7
    exact ⟨(g.i s5 3).trans i1, i2.st g (hS _ (by omega) (by omega)) (hS _ (by omega) (by omega)) (hS _ (by omega) (by omega)), fun k hk => (i3 k hk).st g (hS _ (by omega) (by omega)) (hS _ (by omega) (by omega)) (hS _ (by omega) (by omega)) (hS _ (by omega) (by omega)), i4.st g (hS _ (by omega) (by omega))⟩
def okD (b : Nat → Nat) (at_ cN k : Nat) : Prop := nb b (at_ + 4 * k) 4 ≠ 0 ∧ nb b (at_ + 4 * k) 4 ≤ cN - at_ - 12
set_option maxRecDepth 100000 in
set_option maxHeartbeats 4000000 in
theorem c_c99 {O : zO} {M : zM} {X cN at_ k : Nat} {b : Nat → Nat} (hx : zSF M X) (hin : zRow M (X + 1) (X + 2) 12000 cN b) (ha : at_ + 12 ≤ cN) (hk : k < 3) : (okD b at_ cN k → ∀ α, zEv (fun n => f_Dict_takeTold_99 O n (X + 5) (X + 1) (nI at_) (nI (k + 1)) M) α → zEv (fun n => f_Dict_takeTold_99 O n (X + 5) (X + 1) (nI at_) (nI k) M) α) ∧ (¬ okD b at_ cN k → zEv (fun n => f_Dict_takeTold_99 O n (X + 5) (X + 1) (nI at_) (nI k) M) (-4, M)) := by
  have hcN := hin.cN
  have hnum := c_Row_number (O := O) hin (at_ + 4 * k) 4 (by omega) (by omega)
  rw [if_pos (by omega)] at hnum
  have hn4 : nb b (at_ + 4 * k) 4 < 4294967296 := nb_lt (k := 4) (fun i hi => hin.b (by omega))
  have e1 : nI at_ + (4 : Int32) * nI k = nI (at_ + 4 * k) := by rw [show (4 : Int32) = nI 4 from rfl, pk_mul, nI_add]
  have go : ∀ {α : Int32 × zM}, zEv (fun n => if lN (nb b (at_ + 4 * k) 4) = 0 then some ((-4 : Int32), M) else if lN (nb b (at_ + 4 * k) 4) ≤ lN (cN - at_ - 12) then f_Dict_takeTold_99 O n (X + 5) (X + 1) (nI at_) (nI (k + 1)) M else some ((-4 : Int32), M)) α → zEv (fun n => f_Dict_takeTold_99 O n (X + 5) (X + 1) (nI at_) (nI k) M) α := fun {α} hα => by
    refine zEv.succ ?_
    simp only [f_Dict_takeTold_99]
    refine zEv.in_ (fun w => by have := (nI_leI (a := 3) (by omega) (by omega)).mp w; omega) (zEv.ip hx.k1 ?_)
    rw [e1]
    refine zEv.bind hnum ?_
    refine hα.to fun n => ?_
    have k1 := hx.k1
    dsimp only
    rw [hin.2.2.2.2.1, pk_sub (by omega), show (12 : Int32) = nI 12 from rfl, pk_sub (by omega), nI_l (by omega), show nI k + (1 : Int32) = nI (k + 1) from nI_add k 1]
    simp only [lg_cmp_eq, lg_cmp_le, k1, if_true, zlet]
    rfl
  have z0 : lN (nb b (at_ + 4 * k) 4) = 0 ↔ nb b (at_ + 4 * k) 4 = 0 := pk_lEQ (b := 0) (by omega) (by omega)
  have z1 : lN (nb b (at_ + 4 * k) 4) ≤ lN (cN - at_ - 12) ↔ nb b (at_ + 4 * k) 4 ≤ cN - at_ - 12 := pk_lLE (by omega) (by omega)
  refine ⟨fun h α hα => go (zEv.in_ (fun w => h.1 (z0.mp w)) (zEv.ip (z1.mpr h.2) hα)), fun h => ?_⟩
  by_cases c0 : nb b (at_ + 4 * k) 4 = 0
  · exact go (zEv.ip (z0.mpr c0) (zEv.some _))
  · exact go (zEv.in_ (fun w => c0 (z0.mp w)) (zEv.in_ (fun w => h ⟨c0, z1.mp w⟩) (zEv.some _)))
set_option maxRecDepth 100000 in
set_option maxHeartbeats 4000000 in
theorem c_m166 {O : zO} {M : zM} {m cN at_ k : Nat} {l2 : Int32} {b : Nat → Nat} (hm : zMo M m) (hi : zMI M m cN b) (ha : at_ + 12 ≤ cN) (hk : k < 3) : (okD b at_ cN k → ∀ α, zEv (fun n => f_Mo_learn_166 O n m (nI (at_ + 12)) l2 (nI at_) (nI (k + 1)) (w_j M (m + 15) k (lN (nb b (at_ + 4 * k) 4)))) α → zEv (fun n => f_Mo_learn_166 O n m (nI (at_ + 12)) l2 (nI at_) (nI k) M) α) ∧ (¬ okD b at_ cN k → zEv (fun n => f_Mo_learn_166 O n m (nI (at_ + 12)) l2 (nI at_) (nI k) M) (-4, w_j M (m + 15) k (lN (nb b (at_ + 4 * k) 4)))) := by
  have hcN := hi.2.1
  have hnum := c_Mo_number (O := O) (hi.in_ hm) (at_ + 4 * k) 4 (by omega) (by omega)
  have hn4 : nb b (at_ + 4 * k) 4 < 4294967296 := nb_lt (k := 4) (fun i hi' => (hi.2.2 _ (by omega)).1)
  have e1 : nI at_ + (4 : Int32) * nI k = nI (at_ + 4 * k) := by rw [show (4 : Int32) = nI 4 from rfl, pk_mul, nI_add]
  have zi : zin (nI k) 3 = true := of_eq_true (q_tin (by omega) (by omega))
  have ck : (nI k).toNatClampNeg = k := nI_cl (by omega)
  have go : ∀ {α : Int32 × zM}, zEv (fun n => if lN (nb b (at_ + 4 * k) 4) = 0 then some ((-4 : Int32), w_j M (m + 15) k (lN (nb b (at_ + 4 * k) 4))) else if lN (nb b (at_ + 4 * k) 4) ≤ lN (cN - at_ - 12) then f_Mo_learn_166 O n m (nI (at_ + 12)) l2 (nI at_) (nI (k + 1)) (w_j M (m + 15) k (lN (nb b (at_ + 4 * k) 4))) else some ((-4 : Int32), w_j M (m + 15) k (lN (nb b (at_ + 4 * k) 4)))) α → zEv (fun n => f_Mo_learn_166 O n m (nI (at_ + 12)) l2 (nI at_) (nI k) M) α := fun {α} hα => by
    refine zEv.succ ?_
    simp only [f_Mo_learn_166]
    refine zEv.in_ (fun w => by have := (nI_leI (a := 3) (by omega) (by omega)).mp w; omega) (zEv.ip hm.k ?_)
    rw [e1, hm.p15, ck]
    refine zEv.bind hnum (zEv.ip hm.k15 (zEv.ip (show zin (nI k) (z_n M (m + 15)) = true by rw [hm.n15]; exact zi) (zEv.zl (zEv.ip hm.k ?_))))
    have q15 : z_p (w_j M (m + 15) k (lN (nb b (at_ + 4 * k) 4))) m 20 = m + 15 := hm.p15
    have q1 : z_i (w_j M (m + 15) k (lN (nb b (at_ + 4 * k) 4))) m 1 = nI cN := hi.1
    have qj : z_j (w_j M (m + 15) k (lN (nb b (at_ + 4 * k) 4))) (m + 15) k = lN (nb b (at_ + 4 * k) 4) := by simp (disch := omega) only [zlet, w_i_k, w_i_n, w_i_i, w_i_j, w_i_p, w_i_s, w_j_k, w_j_n, w_j_i, w_j_j, w_j_p, w_j_s, w_p_k, w_p_n, w_p_i, w_p_j, w_p_p, w_p_s, w_c_k, w_c_n, w_c_i, w_c_j, w_c_p, w_c_s, w_u_k, w_u_n, w_u_i, w_u_j, w_u_p, w_u_s, q_nf, ↓reduceIte, if_true, if_false, eq_self, and_true, true_and, and_false, false_and, Option.bind_some, ne_eq, not_false_eq_true, not_true_eq_false]
    have qn : z_n (w_j M (m + 15) k (lN (nb b (at_ + 4 * k) 4))) (m + 15) = 3 := hm.n15
    dsimp only
    rw [q15, qj, q1, qn, pk_sub ha, nI_l (show cN - (at_ + 12) < 2 ^ 31 by omega), show nI k + (1 : Int32) = nI (k + 1) from nI_add k 1]
    refine zEv.ip hm.k15 (zEv.ip zi ?_)
    refine hα.to fun n => ?_
    rw [show cN - (at_ + 12) = cN - at_ - 12 by omega]
    simp only [lg_cmp_eq, lg_cmp_le, zi, if_true, zlet]
    rfl
  have z0 : lN (nb b (at_ + 4 * k) 4) = 0 ↔ nb b (at_ + 4 * k) 4 = 0 := pk_lEQ (b := 0) (by omega) (by omega)
  have z1 : lN (nb b (at_ + 4 * k) 4) ≤ lN (cN - at_ - 12) ↔ nb b (at_ + 4 * k) 4 ≤ cN - at_ - 12 := pk_lLE (by omega) (by omega)
  refine ⟨fun h α hα => go (zEv.in_ (fun w => h.1 (z0.mp w)) (zEv.ip (z1.mpr h.2) hα)), fun h => ?_⟩
  by_cases c0 : nb b (at_ + 4 * k) 4 = 0
  · exact go (zEv.ip (z0.mpr c0) (zEv.some _))
  · exact go (zEv.in_ (fun w => c0 (z0.mp w)) (zEv.in_ (fun w => h ⟨c0, z1.mp w⟩) (zEv.some _)))
-- the class keeps what was told
set_option maxRecDepth 100000 in
set_option maxHeartbeats 4000000 in
theorem c_c99e {O : zO} {M : zM} {X cN at_ e dc t : Nat} {b db w : Nat → Nat} {o : Nat → Nat} {u : Nat → Nat → Nat} (hx : zSF M X) (hin : zRow M (X + 1) (X + 2) 12000 cN b) (hd : zRow M (X + 6) (X + 7) 12000 dc db) (ha : at_ + 12 ≤ cN) (he : e < 2) (d4 : z_p M (X + 5) 4 = X + 9 + 11 * e) (d6 : z_p M (X + 5) 6 = X + 20 - 11 * e) (d5 : z_p M (X + 5) 5 = X + 31 + e) (d7 : z_p M (X + 5) 7 = X + 32 - e) (hcd : zCd M (X + 20 - 11 * e) t w) (hsh : ∀ k, k < 3 → zTB M (X + 33 + 6 * (1 - e) + 12 * k) (o k) (u k)) : ∃ M', zEv (fun n => f_Dict_takeTold_99 O n (X + 5) (X + 1) (nI at_) (nI 3) M) (nI (cN - (at_ + 12)), M') ∧ zSt (fun q => q = X + 5 ∨ q = X + 6 ∨ q = X + 7 ∨ q = X + 8) M M' ∧ zKp X M M' ∧ zDC M' X (nb b 4 4) (some (t, w, o, u, (nb b at_ 4, nb b (at_ + 4) 4, nb b (at_ + 8) 4))) ∧ zRow M' (X + 6) (X + 7) 12000 (cN - (at_ + 12)) (fun j => b (at_ + 12 + j)) := by
  have hcN := hin.cN
  have x1 := hx.x1
  have num : ∀ {N : zM} {s : Nat}, zRow N (X + 1) (X + 2) 12000 cN b → s + 4 ≤ cN → zEv (fun n => F_Row_number O n (X + 1) (nI s) (4 : Int32) N) (lN (nb b s 4), N) := fun {N s} hr hs => by
    have := c_Row_number (O := O) hr s 4 (by omega) (by omega)
    rw [if_pos hs] at this
    exact this
  have k8 := hx.k8
  have k5 := hx.k5
  generalize hA : w_j (w_j (w_j M (X + 8) 0 (lN (nb b at_ 4))) (X + 8) 1 (lN (nb b (at_ + 4) 4))) (X + 8) 2 (lN (nb b (at_ + 8) 4)) = A
  have evA : zEv (fun n => F_Latest_set O n (X + 8) (lN (nb b at_ 4)) (lN (nb b (at_ + 4) 4)) (lN (nb b (at_ + 8) 4)) M) ((), A) := by
    refine (zEv.some _).to fun n => ?_
    unfold F_Latest_set f_Latest_set_0
    rw [if_pos k8, ← hA]
    rfl
  have sA : zSt (fun q => q = X + 8) M A := by rw [← hA]; exact ((zSt.rf.wj (by exact rfl)).wj (by exact rfl)).wj (by exact rfl)
  have kA : zKp X M A := by rw [← hA]; exact ((zKp.rf.wj).wj).wj
  have ltA : zLt A (X + 8) (nb b at_ 4, nb b (at_ + 4) 4, nb b (at_ + 8) 4) := by
    rw [← hA]
    refine ⟨?_, ?_, ?_⟩ <;> simp (disch := omega) only [zlet, w_i_k, w_i_n, w_i_i, w_i_j, w_i_p, w_i_s, w_j_k, w_j_n, w_j_i, w_j_j, w_j_p, w_j_s, w_p_k, w_p_n, w_p_i, w_p_j, w_p_p, w_p_s, w_c_k, w_c_n, w_c_i, w_c_j, w_c_p, w_c_s, w_u_k, w_u_n, w_u_i, w_u_j, w_u_p, w_u_s, q_nf, ↓reduceIte, if_true, if_false, eq_self, and_true, true_and, and_false, false_and, Option.bind_some, ne_eq, not_false_eq_true, not_true_eq_false]
  have pA : ∀ f, z_p A (X + 5) f = z_p M (X + 5) f := fun f => sA.p (by omega) f
  have inA := hin.st sA (by omega) (by omega)
  have a5 := (hx.kp kA).k5
  generalize hB : w_i (w_j A (X + 5) 2 (lN (nb b 4 4))) (X + 5) 3 (nI 1) = B
  have sB : zSt (fun q => q = X + 5) A B := by rw [← hB]; exact (zSt.rf.wj (by exact rfl)).wi (by exact rfl)
  have kB : zKp X A B := by rw [← hB]; exact (zKp.rf.wj).wi (Or.inl (show z_k A (X + 5) ≠ 11 by rw [a5]; omega))
  have pB : ∀ f, z_p B (X + 5) f = z_p M (X + 5) f := fun f => by rw [← hB]; exact pA f
  have B2 : z_j B (X + 5) 2 = lN (nb b 4 4) := by rw [← hB]; simp (disch := omega) only [zlet, w_i_k, w_i_n, w_i_i, w_i_j, w_i_p, w_i_s, w_j_k, w_j_n, w_j_i, w_j_j, w_j_p, w_j_s, w_p_k, w_p_n, w_p_i, w_p_j, w_p_p, w_p_s, w_c_k, w_c_n, w_c_i, w_c_j, w_c_p, w_c_s, w_u_k, w_u_n, w_u_i, w_u_j, w_u_p, w_u_s, q_nf, ↓reduceIte, if_true, if_false, eq_self, and_true, true_and, and_false, false_and, Option.bind_some, ne_eq, not_false_eq_true, not_true_eq_false]
  have B3 : z_i B (X + 5) 3 = nI 1 := by rw [← hB, w_i_eq]
  have xB := (hx.kp kA).kp kB
  have b5 := xB.k5
  generalize hC : w_p (w_p (w_p (w_p B (X + 5) 4 (X + 20 - 11 * e)) (X + 5) 6 (X + 9 + 11 * e)) (X + 5) 5 (X + 32 - e)) (X + 5) 7 (X + 31 + e) = C
  have evC : zEv (fun n => F_Dict_swapSpare O n (X + 5) B) ((), C) := by
    refine (zEv.some _).to fun n => ?_
    unfold F_Dict_swapSpare f_Dict_swapSpare_0
    rw [if_pos b5, ← hC]
    simp only [zlet]
    rw [pB 4, pB 6, d4, d6]
    have g5 : z_p (w_p (w_p B (X + 5) 4 (X + 20 - 11 * e)) (X + 5) 6 (X + 9 + 11 * e)) (X + 5) 5 = X + 31 + e := by simp (disch := omega) only [zlet, w_i_k, w_i_n, w_i_i, w_i_j, w_i_p, w_i_s, w_j_k, w_j_n, w_j_i, w_j_j, w_j_p, w_j_s, w_p_k, w_p_n, w_p_i, w_p_j, w_p_p, w_p_s, w_c_k, w_c_n, w_c_i, w_c_j, w_c_p, w_c_s, w_u_k, w_u_n, w_u_i, w_u_j, w_u_p, w_u_s, q_nf, ↓reduceIte, if_true, if_false, eq_self, and_true, true_and, and_false, false_and, Option.bind_some, ne_eq, not_false_eq_true, not_true_eq_false]; rw [pB 5]; exact d5
    have g7 : z_p (w_p (w_p B (X + 5) 4 (X + 20 - 11 * e)) (X + 5) 6 (X + 9 + 11 * e)) (X + 5) 7 = X + 32 - e := by simp (disch := omega) only [zlet, w_i_k, w_i_n, w_i_i, w_i_j, w_i_p, w_i_s, w_j_k, w_j_n, w_j_i, w_j_j, w_j_p, w_j_s, w_p_k, w_p_n, w_p_i, w_p_j, w_p_p, w_p_s, w_c_k, w_c_n, w_c_i, w_c_j, w_c_p, w_c_s, w_u_k, w_u_n, w_u_i, w_u_j, w_u_p, w_u_s, q_nf, ↓reduceIte, if_true, if_false, eq_self, and_true, true_and, and_false, false_and, Option.bind_some, ne_eq, not_false_eq_true, not_true_eq_false]; rw [pB 7]; exact d7
    rw [g5, g7]
  have sC : zSt (fun q => q = X + 5) B C := by rw [← hC]; exact (((zSt.rf.wp (by exact rfl)).wp (by exact rfl)).wp (by exact rfl)).wp (by exact rfl)
  have kC : zKp X B C := by
    have hh : ∀ f, 2 ≤ f → ¬ zPf X (z_k B (X + 5)) (X + 5) f := fun f hf => by
      unfold zPf
      rw [b5]
      simp only [pf, decide_eq_true_eq]
      omega
    rw [← hC]
    exact (((zKp.rf.wp (hh 4 (by omega))).wp (hh 6 (by omega))).wp (hh 5 (by omega))).wp (hh 7 (by omega))
  have xC := xB.kp kC
  have C4 : z_p C (X + 5) 4 = X + 20 - 11 * e := by rw [← hC]; simp (disch := omega) only [zlet, w_i_k, w_i_n, w_i_i, w_i_j, w_i_p, w_i_s, w_j_k, w_j_n, w_j_i, w_j_j, w_j_p, w_j_s, w_p_k, w_p_n, w_p_i, w_p_j, w_p_p, w_p_s, w_c_k, w_c_n, w_c_i, w_c_j, w_c_p, w_c_s, w_u_k, w_u_n, w_u_i, w_u_j, w_u_p, w_u_s, q_nf, ↓reduceIte, if_true, if_false, eq_self, and_true, true_and, and_false, false_and, Option.bind_some, ne_eq, not_false_eq_true, not_true_eq_false]
  have C6 : z_p C (X + 5) 6 = X + 9 + 11 * e := by rw [← hC]; simp (disch := omega) only [zlet, w_i_k, w_i_n, w_i_i, w_i_j, w_i_p, w_i_s, w_j_k, w_j_n, w_j_i, w_j_j, w_j_p, w_j_s, w_p_k, w_p_n, w_p_i, w_p_j, w_p_p, w_p_s, w_c_k, w_c_n, w_c_i, w_c_j, w_c_p, w_c_s, w_u_k, w_u_n, w_u_i, w_u_j, w_u_p, w_u_s, q_nf, ↓reduceIte, if_true, if_false, eq_self, and_true, true_and, and_false, false_and, Option.bind_some, ne_eq, not_false_eq_true, not_true_eq_false]
  have C5 : z_p C (X + 5) 5 = X + 32 - e := by rw [← hC]; simp (disch := omega) only [zlet, w_i_k, w_i_n, w_i_i, w_i_j, w_i_p, w_i_s, w_j_k, w_j_n, w_j_i, w_j_j, w_j_p, w_j_s, w_p_k, w_p_n, w_p_i, w_p_j, w_p_p, w_p_s, w_c_k, w_c_n, w_c_i, w_c_j, w_c_p, w_c_s, w_u_k, w_u_n, w_u_i, w_u_j, w_u_p, w_u_s, q_nf, ↓reduceIte, if_true, if_false, eq_self, and_true, true_and, and_false, false_and, Option.bind_some, ne_eq, not_false_eq_true, not_true_eq_false]
  have C7 : z_p C (X + 5) 7 = X + 31 + e := by rw [← hC]; simp (disch := omega) only [zlet, w_i_k, w_i_n, w_i_i, w_i_j, w_i_p, w_i_s, w_j_k, w_j_n, w_j_i, w_j_j, w_j_p, w_j_s, w_p_k, w_p_n, w_p_i, w_p_j, w_p_p, w_p_s, w_c_k, w_c_n, w_c_i, w_c_j, w_c_p, w_c_s, w_u_k, w_u_n, w_u_i, w_u_j, w_u_p, w_u_s, q_nf, ↓reduceIte, if_true, if_false, eq_self, and_true, true_and, and_false, false_and, Option.bind_some, ne_eq, not_false_eq_true, not_true_eq_false]
  have C2 : z_j C (X + 5) 2 = lN (nb b 4 4) := by rw [← hC]; exact B2
  have C3 : z_i C (X + 5) 3 = nI 1 := by rw [← hC]; exact B3
  have sMC : zSt (fun q => q = X + 5 ∨ q = X + 8) M C := ((sA.mono (fun q hq => by omega)).tr (sB.mono (fun q hq => by omega))).tr (sC.mono (fun q hq => by omega))
  have inC := hin.st sMC (by omega) (by omega)
  obtain ⟨D, t1, t2, t3, t4⟩ := c_takeContent (O := O) (fr := at_ + 12) xC inC (hd.st sMC (by omega) (by omega)) ha
  have dcC : zDC C X (nb b 4 4) (some (t, w, o, u, (nb b at_ 4, nb b (at_ + 4) 4, nb b (at_ + 8) 4))) := by
    refine ⟨C2, 1 - e, by omega, by rw [C4]; omega, by rw [C6]; omega, by rw [C5]; omega, by rw [C7]; omega, C3, ?_, fun k hk => ?_, ?_⟩
    · rw [show X + 9 + 11 * (1 - e) = X + 20 - 11 * e by omega]
      exact hcd.st sMC (by omega) (by omega) (by omega)
    · exact (hsh k hk).st sMC (by omega) (by omega) (by omega) (by omega)
    · exact (ltA.st sB (by omega)).st sC (by omega)
  refine ⟨D, ?_, (sMC.mono (fun q hq => by omega)).tr (t2.mono (fun q hq => by unfold zS2 at hq; omega)), ((kA.tr kB).tr kC).tr t3, dcC.st2 t2 (fun q h1 h2 => by unfold zS2; omega), t4⟩
  refine zEv.succ ?_
  simp only [f_Dict_takeTold_99]
  refine zEv.ip (by decide) (zEv.ip k5 (zEv.ip hx.k1 ?_))
  rw [show nI at_ + (4 : Int32) = nI (at_ + 4) from nI_add at_ 4, show nI at_ + (8 : Int32) = nI (at_ + 8) from nI_add at_ 8, show nI at_ + (12 : Int32) = nI (at_ + 12) from nI_add at_ 12, hx.p5_1]
  refine zEv.bind (num hin (by omega)) (zEv.ip hx.k1 (zEv.bind (num hin (by omega)) (zEv.ip hx.k1 (zEv.bind (num hin (by omega)) (zEv.ip k8 (zEv.bind evA (zEv.ip (hx.kp kA).k1 (zEv.bind (num (s := 4) inA (by omega)) (zEv.ip a5 (zEv.zl (zEv.zl ?_)))))))))))
  dsimp only
  rw [show (1 : Int32) = nI 1 from rfl, hB]
  exact zEv.bind evC (zEv.ip xC.k5 (zEv.bind t1 (zEv.some _)))
