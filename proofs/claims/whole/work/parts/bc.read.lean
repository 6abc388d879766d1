/-! A read, and the relation between calls. -/
/-- the class between calls -/
def zCs (M : zM) (X cN : Nat) (b : Nat → Nat) (oN : Nat) (ob : Nat → Nat) (dc : Nat) (db : Nat → Nat) (id : Nat) (dd : Option dkT) (rp : Nat → Int32) : Prop :=
  zSF M X ∧ zRow M (X + 1) (X + 2) 12000 cN b ∧ zRow M (X + 3) (X + 4) 32768 oN ob ∧ zRow M (X + 6) (X + 7) 12000 dc db ∧ zDC M X id dd ∧ (∀ k, k < 3 → zTB M (X + 97 + 12 * k) (kno k) (kn k)) ∧ (∃ c cb, zRow M (X + 71) (X + 72) 32768 c cb ∧ nI c = rp 4) ∧ z_i M (X + 69) 1 = rp 0 ∧ z_i M (X + 69) 2 = rp 1 ∧ z_i M (X + 69) 3 = rp 2 ∧ z_i M (X + 69) 4 = rp 3 ∧ z_i M (X + 69) 5 = rp 5
/-- the reference between calls -/
def zRm (M : zM) (m cN : Nat) (b : Nat → Nat) (oN : Nat) (ob : Nat → Nat) (dc : Nat) (db : Nat → Nat) (id : Nat) (dd : Option dkT) (rp : Nat → Int32) : Prop :=
  zMo M m ∧ zMI M m cN b ∧ z_i M m 3 = nI oN ∧ (∀ j, j < oN → z_i M (m + 2) j = nI (ob j)) ∧ z_i M m 5 = nI dc ∧ (∀ j, j < dc → z_i M (m + 3) j = nI (db j)) ∧ zDM M m id dd ∧ z_i M m 34 = rp 0 ∧ z_i M m 35 = rp 1 ∧ z_i M m 36 = rp 2 ∧ z_i M m 37 = rp 3 ∧ z_i M m 30 = rp 4 ∧ z_i M m 39 = rp 5
def zRel (X m : Nat) (M M2 : zM) : Prop := ∃ cN b oN ob dc db id dd rp, id < 4294967296 ∧ dkOk dd ∧ zCs M X cN b oN ob dc db id dd rp ∧ zRm M2 m cN b oN ob dc db id dd rp
def sCl (X q : Nat) : Prop := X ≤ q ∧ q ≤ X + 132
/-- both answer alike, and are alike again -/
def jOp (X m : Nat) (M M2 : zM) (fc fm : Nat → Option (Int32 × zM)) : Prop := ∃ y M' M2', zEv fc (y, M') ∧ zEv fm (y, M2') ∧ zRel X m M' M2' ∧ zSt (sCl X) M M' ∧ zSt (fun q => m ≤ q) M2 M2'
theorem zRf.st {F S : Nat → Prop} {m : Nat} {M M1 : zM} (h : zRf F S m M M1) (hS : ∀ q, S q → m ≤ q) : zSt (fun q => m ≤ q) M M1 := ⟨h.1, h.2.1, h.2.2.2.1, fun q j hq => h.i (by omega) (fun w => hq (hS q w)) j, fun q j hq => h.j (by omega) (fun w => hq (hS q w)) j, fun q j _ => by rw [h.2.2.1]⟩
/-- all units -/
def jRd (O : zO) (X m cN : Nat) (b : Nat → Nat) (mo dc : Nat) (db : Nat → Nat) (s : Nat) (M M2 : zM) : Prop :=
  (∃ f q M' M2', f ≠ 0 ∧ f ≤ 20 ∧ (∀ α, zEv (fun n => f_SF_read_75 O n X (fl X M' f q)) α → zEv (fun n => f_SF_read_23 O n X (nI s) M) α) ∧ (∀ α, zEv (fun n => f_Mo_read_73 O n m (nI 0) (flm m M2' f q)) α → zEv (fun n => f_Mo_read_50 O n m (nI 1) M2) α) ∧ zSt (sRd X) M M' ∧ zKp X M M' ∧ zRf fRe (sRm m) m M2 M2' ∧ zAb M' M2' X m ∧ ∃ c' cb', zRow M' (X + 71) (X + 72) 32768 c' cb') ∨
  (∃ c cb done M' M2', (∀ α, zEv (fun n => f_SF_read_75 O n X M') α → zEv (fun n => f_SF_read_23 O n X (nI s) M) α) ∧ (∀ α, zEv (fun n => f_Mo_read_73 O n m (nI 1) M2') α → zEv (fun n => f_Mo_read_50 O n m (nI 1) M2) α) ∧ zSt (sRd X) M M' ∧ zKp X M M' ∧ zRf fRe (sRm m) m M2 M2' ∧ zOC M' X cN b mo c cb dc db done ∧ zOM M2' m cN b mo c cb dc db done ∧ zAr M' M2' X m ∧ z_i M' (X + 69) 0 = nI 0)
-- all units
set_option maxRecDepth 100000 in
set_option maxHeartbeats 4000000 in
theorem j_loop {O : zO} {X m cN mo dc id : Nat} {b db : Nat → Nat} {dd : Option dkT} (hO : zTabOk O) (hid : id < 4294967296) (hk : dkOk dd) (hmo : mo ≤ 32768) : ∀ (e p s c done : Nat) (cb : Nat → Nat) (M M2 : zM), cN < p + e → s ≤ p → zHP M M2 X m cN b mo c cb dc db done id dd p → c ≤ mo → z_i M (X + 73) 7 = nI 0 → z_i M (X + 69) 0 = nI 0 → jRd O X m cN b mo dc db s M M2 := by
  intro e
  induction e with
  | zero =>
    intro p s c done cb M M2 he hs h
    have := h.2.2.2.2.2.2.2
    omega
  | succ e ih =>
    intro p s c done cb M M2 he hs h hc h7 h0
    have hpc := h.2.2.2.2.2.2.2
    have hx := h.1.1
    have hin := h.1.2.1
    have hc9 := hin.cN
    have hm := h.2.1.1
    have hi2 := h.2.1.2.1
    have h6 := h.2.2.2.2.2.1
    have h28 := h.2.2.2.2.2.2.1
    by_cases cp : p < cN
    · have toM : ∀ {y : Int32} {x : zM}, zEv (fun n => F_Mo_unit O n m M2) (y, x) → ∀ α, zEv (fun n => f_Mo_read_50 O n m y x) α → zEv (fun n => f_Mo_read_50 O n m (nI 1) M2) α := fun {y x} hu α hα => by
        refine zEv.succ ?_
        simp only [f_Mo_read_50]
        refine zEv.in_ (by decide) (zEv.ip hm.k ?_)
        rw [hi2.1, h28]
        exact zEv.in_ (fun w => by have := (nI_leI (by omega) (by omega)).mp w; omega) (zEv.bind hu hα)
      rcases j_unit (O := O) hO h hid hk hc hmo h7 h0 cp hs with ⟨f, q, M', M2', w1, w2, w3, w4, w5, w6, w7, w8⟩ | ⟨s', p', c', cb', done', M', M2', w1, w2, w3, w4, w5, w6, w7, w8, w9, w10, w11, w12, w13, w14, w15, w16⟩
      · refine Or.inl ⟨f, q, M', M2', w1, w2, w3, fun α hα => toM w4 α (zEv.succ ?_), w5, w6, w7, w8⟩
        simp only [f_Mo_read_50]
        exact zEv.ip trivial hα
      · have h' : zHP M' M2' X m cN b mo c' cb' dc db done' id dd p' := ⟨w6, w7, h.2.2.1.st w3 (fun q h1 h2 => by unfold sRd; omega), h.2.2.2.1.rf w5 (by unfold fRe; omega) (by unfold fRe; omega) (fun q h1 h2 => by unfold sRm; omega), w8, w9, w12, w14⟩
        rcases ih p' s' c' done' cb' M' M2' (by omega) w15 h' w16 w10 w11 with ⟨f, q, N, N2, y1, y2, y3, y4, y5, y6, y7, y8⟩ | ⟨c2, cb2, done2, N, N2, y1, y2, y3, y4, y5, y6, y7, y8, y9⟩
        · exact Or.inl ⟨f, q, N, N2, y1, y2, fun α hα => w1 α (y3 α hα), fun α hα => toM w2 α (y4 α hα), w3.tr y5, w4.tr y6, w5.tr y7, y8⟩
        · exact Or.inr ⟨c2, cb2, done2, N, N2, fun α hα => w1 α (y1 α hα), fun α hα => toM w2 α (y2 α hα), w3.tr y3, w4.tr y4, w5.tr y5, y6, y7, y8, y9⟩
    · refine Or.inr ⟨c, cb, done, M, M2, fun α hα => l_stop hx (c_goesOn hx (Or.inr (Or.inr (Or.inl ⟨h0, h7, by rw [h6, hin.2.2.2.2.1]; exact (nI_leI (by omega) (by omega)).mpr (by omega), rfl⟩)))) (by omega) α hα, fun α hα => zEv.succ ?_, zSt.rf, zKp.rf, zRf.rf, h.1, h.2.1, h.2.2.2.2.1, h0⟩
      simp only [f_Mo_read_50]
      refine zEv.in_ (by decide) (zEv.ip hm.k ?_)
      rw [hi2.1, h28]
      exact zEv.ip ((nI_leI (by omega) (by omega)).mpr (by omega)) hα
theorem l_read101 {O : zO} {m c : Nat} {cb : Nat → Nat} (hc : c ≤ 32768) : ∀ d k M, k + d = c → zMo M m → z_i M m 30 = nI c → (∀ j, j < c → z_i M (m + 22) j = nI (cb j)) → (∀ j, j < k → z_i M (m + 2) j = nI (cb j)) → ∃ M', zEv (fun n => f_Mo_read_101 O n m (nI k) M) (z_i M m 3, M') ∧ zRf sN (fun q => q = m + 2) m M M' ∧ ∀ j, j < c → z_i M' (m + 2) j = nI (cb j) := by
  intro d
  induction d with
  | zero =>
    intro k M hk hm h30 h22 h2
    refine ⟨M, zEv.succ ?_, zRf.rf, fun j hj => h2 j (by omega)⟩
    simp only [f_Mo_read_101]
    refine zEv.ip hm.k ?_
    rw [h30]
    exact zEv.ip ((nI_leI (by omega) (by omega)).mpr (by omega)) (zEv.some _)
  | succ d ih =>
    intro k M hk hm h30 h22 h2
    have r1 : zRf sN (fun q => q = m + 2) m M (w_i M (m + 2) k (nI (cb k))) := zRf.rf.wi (by exact rfl) (by omega)
    obtain ⟨M', i1, i2, i3⟩ := ih (k + 1) (w_i M (m + 2) k (nI (cb k))) (by omega) (r1.mo hm) ((r1.f (fun h => h)).trans h30) (fun j hj => (r1.i (by omega) (by omega) j).trans (h22 j hj)) (fun j hj => by
      by_cases w : j = k
      · subst w; simp (disch := omega) only [zlet, w_i_k, w_i_n, w_i_i, w_i_j, w_i_p, w_i_s, w_j_k, w_j_n, w_j_i, w_j_j, w_j_p, w_j_s, w_p_k, w_p_n, w_p_i, w_p_j, w_p_p, w_p_s, w_c_k, w_c_n, w_c_i, w_c_j, w_c_p, w_c_s, w_u_k, w_u_n, w_u_i, w_u_j, w_u_p, w_u_s, q_nf, ↓reduceIte, if_true, if_false, eq_self, and_true, true_and, and_false, false_and, Option.bind_some, ne_eq, not_false_eq_true, not_true_eq_false]
      · simp (disch := omega) only [zlet, w_i_k, w_i_n, w_i_i, w_i_j, w_i_p, w_i_s, w_j_k, w_j_n, w_j_i, w_j_j, w_j_p, w_j_s, w_p_k, w_p_n, w_p_i, w_p_j, w_p_p, w_p_s, w_c_k, w_c_n, w_c_i, w_c_j, w_c_p, w_c_s, w_u_k, w_u_n, w_u_i, w_u_j, w_u_p, w_u_s, q_nf, ↓reduceIte, if_true, if_false, eq_self, and_true, true_and, and_false, false_and, Option.bind_some, ne_eq, not_false_eq_true, not_true_eq_false, w]; exact h2 j (by omega))
    refine ⟨M', zEv.succ ?_, r1.tr i2, i3⟩
    have zi : zin (nI k) 32768 = true := of_eq_true (q_tin (by omega) (by omega))
    have ck : (nI k).toNatClampNeg = k := nI_cl (by omega)
    have e1 : nI k + (1 : Int32) = nI (k + 1) := nI_add k 1
    simp only [f_Mo_read_101]
    refine zEv.ip hm.k ?_
    rw [h30]
    refine zEv.in_ (fun w => by have := (nI_leI (by omega) (by omega)).mp w; omega) ?_
    rw [hm.p22, hm.p2, ck, h22 k (by omega)]
    refine zEv.ip hm.k22 (zEv.ip (by rw [hm.n22]; exact zi) (zEv.ip hm.k2 (zEv.ip (by rw [hm.n2]; exact zi) (zEv.zl (zEv.zl ?_)))))
    rw [e1]
    exact i1.eq (by rw [r1.f (fun h => h)])
set_option maxRecDepth 100000 in
set_option maxHeartbeats 4000000 in
theorem c_start {O : zO} {M : zM} {X mo c : Nat} {cb : Nat → Nat} (hx : zSF M X) (hr : zRow M (X + 71) (X + 72) 32768 c cb) : ∃ M', zEv (fun n => F_FR_start O n (X + 73) (nI mo) M) ((), M') ∧ zSt (fun q => q = X + 69 ∨ q = X + 70 ∨ q = X + 71 ∨ q = X + 73) M M' ∧ zKp X M M' ∧ zRow M' (X + 71) (X + 72) 32768 0 cb ∧ z_i M' (X + 70) 2 = nI mo ∧ (∀ f, f < 6 → z_i M' (X + 69) f = nI 0) ∧ z_i M' (X + 73) 6 = nI 0 ∧ z_i M' (X + 73) 7 = nI 0 := by
  have k73 := hx.k73
  have k69 := hx.k69
  have k70 := hx.k70
  have k71 := hx.k71
  have p2 := hx.p73_2
  generalize hA : w_i (w_i (w_i (w_i (w_i (w_i M (X + 69) 0 0) (X + 69) 1 0) (X + 69) 2 0) (X + 69) 3 0) (X + 69) 4 0) (X + 69) 5 0 = A
  have evA : zEv (fun n => F_Rep_start O n (X + 69) M) ((), A) := by
    refine (zEv.some _).to fun n => ?_
    unfold F_Rep_start f_Rep_start_0
    rw [if_pos k69, ← hA]
    rfl
  have sA : zSt (fun q => q = X + 69 ∨ q = X + 70 ∨ q = X + 71 ∨ q = X + 73) M A := by
    rw [← hA]
    exact (((((zSt.rf.wi (Or.inl rfl)).wi (Or.inl rfl)).wi (Or.inl rfl)).wi (Or.inl rfl)).wi (Or.inl rfl)).wi (Or.inl rfl)
  have kA : zKp X M A := by
    have hh : z_k M (X + 69) ≠ 11 := by rw [k69]; omega
    rw [← hA]
    exact (((((zKp.rf.wi (Or.inl hh)).wi (Or.inl hh)).wi (Or.inl hh)).wi (Or.inl hh)).wi (Or.inl hh)).wi (Or.inl hh)
  have fA : ∀ f, f < 6 → z_i A (X + 69) f = nI 0 := fun f hf => by
    rw [← hA]
    rcases (show f = 0 ∨ f = 1 ∨ f = 2 ∨ f = 3 ∨ f = 4 ∨ f = 5 by omega) with e | e | e | e | e | e <;> subst e <;> simp (disch := omega) only [zlet, w_i_k, w_i_n, w_i_i, w_i_j, w_i_p, w_i_s, w_j_k, w_j_n, w_j_i, w_j_j, w_j_p, w_j_s, w_p_k, w_p_n, w_p_i, w_p_j, w_p_p, w_p_s, w_c_k, w_c_n, w_c_i, w_c_j, w_c_p, w_c_s, w_u_k, w_u_n, w_u_i, w_u_j, w_u_p, w_u_s, q_nf, ↓reduceIte, if_true, if_false, eq_self, and_true, true_and, and_false, false_and, Option.bind_some, ne_eq, not_false_eq_true, not_true_eq_false] <;> rfl
  have rA : zRow A (X + 71) (X + 72) 32768 c cb := by
    have : zSt (fun q => q = X + 69) M A := by
      rw [← hA]
      exact (((((zSt.rf.wi (by exact rfl)).wi (by exact rfl)).wi (by exact rfl)).wi (by exact rfl)).wi (by exact rfl)).wi (by exact rfl)
    exact hr.st this (by omega) (by omega)
  have xA := hx.kp kA
  obtain ⟨em1, em2⟩ := c_empty (O := O) rA
  generalize hB : w_i A (X + 71) 1 0 = B at em1 em2
  have a71 := xA.k71
  have sB : zSt (fun q => q = X + 69 ∨ q = X + 70 ∨ q = X + 71 ∨ q = X + 73) M B := by rw [← hB]; exact sA.wi (Or.inr (Or.inr (Or.inl rfl)))
  have kB : zKp X M B := by rw [← hB]; exact kA.wi (Or.inl (by rw [a71]; omega))
  have xB := hx.kp kB
  have b70 := xB.k70
  have b73 := xB.k73
  generalize hC : w_i (w_i (w_i B (X + 70) 2 (nI mo)) (X + 73) 6 0) (X + 73) 7 0 = C
  have sC : zSt (fun q => q = X + 69 ∨ q = X + 70 ∨ q = X + 71 ∨ q = X + 73) M C := by rw [← hC]; exact ((sB.wi (Or.inr (Or.inl rfl))).wi (Or.inr (Or.inr (Or.inr rfl)))).wi (Or.inr (Or.inr (Or.inr rfl)))
  have kC : zKp X M C := by
    have hh : z_k B (X + 73) ≠ 11 := by rw [b73]; omega
    have hh2 : z_k B (X + 70) ≠ 11 := by rw [b70]; omega
    rw [← hC]
    exact ((kB.wi (Or.inl hh2)).wi (Or.inl hh)).wi (Or.inl hh)
  have sBC : zSt (fun q => q = X + 70 ∨ q = X + 73) B C := by rw [← hC]; exact ((zSt.rf.wi (Or.inl rfl)).wi (Or.inr rfl)).wi (Or.inr rfl)
  refine ⟨C, ?_, sC, kC, em2.st sBC (by omega) (by omega), by rw [← hC]; simp (disch := omega) only [zlet, w_i_k, w_i_n, w_i_i, w_i_j, w_i_p, w_i_s, w_j_k, w_j_n, w_j_i, w_j_j, w_j_p, w_j_s, w_p_k, w_p_n, w_p_i, w_p_j, w_p_p, w_p_s, w_c_k, w_c_n, w_c_i, w_c_j, w_c_p, w_c_s, w_u_k, w_u_n, w_u_i, w_u_j, w_u_p, w_u_s, q_nf, ↓reduceIte, if_true, if_false, eq_self, and_true, true_and, and_false, false_and, Option.bind_some, ne_eq, not_false_eq_true, not_true_eq_false], fun f hf => ?_, by rw [← hC]; simp (disch := omega) only [zlet, w_i_k, w_i_n, w_i_i, w_i_j, w_i_p, w_i_s, w_j_k, w_j_n, w_j_i, w_j_j, w_j_p, w_j_s, w_p_k, w_p_n, w_p_i, w_p_j, w_p_p, w_p_s, w_c_k, w_c_n, w_c_i, w_c_j, w_c_p, w_c_s, w_u_k, w_u_n, w_u_i, w_u_j, w_u_p, w_u_s, q_nf, ↓reduceIte, if_true, if_false, eq_self, and_true, true_and, and_false, false_and, Option.bind_some, ne_eq, not_false_eq_true, not_true_eq_false]; rfl, by rw [← hC]; simp (disch := omega) only [zlet, w_i_k, w_i_n, w_i_i, w_i_j, w_i_p, w_i_s, w_j_k, w_j_n, w_j_i, w_j_j, w_j_p, w_j_s, w_p_k, w_p_n, w_p_i, w_p_j, w_p_p, w_p_s, w_c_k, w_c_n, w_c_i, w_c_j, w_c_p, w_c_s, w_u_k, w_u_n, w_u_i, w_u_j, w_u_p, w_u_s, q_nf, ↓reduceIte, if_true, if_false, eq_self, and_true, true_and, and_false, false_and, Option.bind_some, ne_eq, not_false_eq_true, not_true_eq_false]; rfl⟩
  · unfold F_FR_start f_FR_start_0
    refine zEv.ip k73 ?_
    rw [p2]
    refine zEv.ip k69 (zEv.bind evA (zEv.ip xA.k73 ?_))
    dsimp only
    rw [xA.p73_3]
    have ev : zEv (fun n => F_Content_start O n (X + 70) (nI mo) A) ((), w_i B (X + 70) 2 (nI mo)) := by
      unfold F_Content_start f_Content_start_0
      refine zEv.ip xA.k70 ?_
      rw [xA.p70_0]
      exact zEv.ip xA.k71 (zEv.bind em1 (zEv.ip b70 (zEv.zl (zEv.some _))))
    refine zEv.ip xA.k70 (zEv.bind ev (zEv.ip b73 (zEv.zl (zEv.zl ?_))))
    dsimp only
    rw [hC]
    exact zEv.some _
  · rw [sBC.i (by omega), ← hB, w_i_ne _ _ (by omega)]
    exact fA f hf
-- a read
set_option maxRecDepth 100000 in
set_option maxHeartbeats 4000000 in
theorem j_read {O : zO} {X m : Nat} {M M2 : zM} {x : Int32} (hO : zTabOk O) (h : zRel X m M M2) : jOp X m M M2 (fun n => F_SF_read O n X x M) (fun n => F_Mo_read O n m x M2) := by
  have h00 := h
  obtain ⟨cN, b, oN, ob, dc, db, id, dd, rp, hid, hk, ⟨hx, a2, a3, a4, a5, a6, ⟨c, cb, a7, e4⟩, q0, q1, q2, q3, q5⟩, ⟨hm, g2, g3, g4, g5, g6, g7, r0, r1, r2, r3, r4, r5⟩⟩ := h
  by_cases c1 : x < 0
  · refine ⟨-40, M, M2, ?_, ?_, h00, zSt.rf, zSt.rf⟩
    · unfold F_SF_read f_SF_read_0; exact zEv.ip c1 (zEv.some _)
    · unfold F_Mo_read f_Mo_read_0; exact zEv.ip c1 (zEv.some _)
  by_cases c2' : ¬ x ≤ (32768 : Int32)
  · refine ⟨-40, M, M2, ?_, ?_, h00, zSt.rf, zSt.rf⟩
    · unfold F_SF_read f_SF_read_0; exact zEv.in_ c1 (zEv.in_ c2' (zEv.some _))
    · unfold F_Mo_read f_Mo_read_0; exact zEv.in_ c1 (zEv.in_ c2' (zEv.some _))
  have c2 : x ≤ (32768 : Int32) := Decidable.of_not_not c2'
  obtain ⟨mo, hmo, ex⟩ : ∃ mo, mo ≤ 32768 ∧ x = nI mo := by
    refine ⟨x.toInt.toNat, ?_, ?_⟩
    · have w1 := Int32.le_iff_toInt_le.mp c2
      have w2 : (32768 : Int32).toInt = 32768 := by decide
      omega
    · have w0 : ¬ x.toInt < 0 := fun w => c1 (Int32.lt_iff_toInt_lt.mpr w)
      have w1 := Int32.le_iff_toInt_le.mp c2
      have w2 : (32768 : Int32).toInt = 32768 := by decide
      apply Int32.toInt_inj.mp
      rw [nI_toInt (by omega)]
      omega
  subst ex
  obtain ⟨A, s1, s2, s3, s4, s5, s6, s7, s8⟩ := c_start (O := O) (mo := mo) hx a7
  generalize hB : w_i (w_i (w_i (w_i (w_i (w_i (w_i M2 m 28 (nI 0)) m 29 (nI mo)) m 30 (nI 0)) m 35 (nI 0)) m 36 (nI 0)) m 37 (nI 0)) m 39 (nI 0) = B
  have rB : zRf (fun f => f = 28 ∨ f = 29 ∨ f = 30 ∨ f = 35 ∨ f = 36 ∨ f = 37 ∨ f = 39) sN m M2 B := by
    rw [← hB]
    exact ((((((zRf.rf.wf (by omega)).wf (by omega)).wf (by omega)).wf (by omega)).wf (by omega)).wf (by omega)).wf (by omega)
  have B28 : z_i B m 28 = nI 0 := by rw [← hB]; simp (disch := omega) only [zlet, w_i_k, w_i_n, w_i_i, w_i_j, w_i_p, w_i_s, w_j_k, w_j_n, w_j_i, w_j_j, w_j_p, w_j_s, w_p_k, w_p_n, w_p_i, w_p_j, w_p_p, w_p_s, w_c_k, w_c_n, w_c_i, w_c_j, w_c_p, w_c_s, w_u_k, w_u_n, w_u_i, w_u_j, w_u_p, w_u_s, q_nf, ↓reduceIte, if_true, if_false, eq_self, and_true, true_and, and_false, false_and, Option.bind_some, ne_eq, not_false_eq_true, not_true_eq_false]
  have B29 : z_i B m 29 = nI mo := by rw [← hB]; simp (disch := omega) only [zlet, w_i_k, w_i_n, w_i_i, w_i_j, w_i_p, w_i_s, w_j_k, w_j_n, w_j_i, w_j_j, w_j_p, w_j_s, w_p_k, w_p_n, w_p_i, w_p_j, w_p_p, w_p_s, w_c_k, w_c_n, w_c_i, w_c_j, w_c_p, w_c_s, w_u_k, w_u_n, w_u_i, w_u_j, w_u_p, w_u_s, q_nf, ↓reduceIte, if_true, if_false, eq_self, and_true, true_and, and_false, false_and, Option.bind_some, ne_eq, not_false_eq_true, not_true_eq_false]
  have B30 : z_i B m 30 = nI 0 := by rw [← hB]; simp (disch := omega) only [zlet, w_i_k, w_i_n, w_i_i, w_i_j, w_i_p, w_i_s, w_j_k, w_j_n, w_j_i, w_j_j, w_j_p, w_j_s, w_p_k, w_p_n, w_p_i, w_p_j, w_p_p, w_p_s, w_c_k, w_c_n, w_c_i, w_c_j, w_c_p, w_c_s, w_u_k, w_u_n, w_u_i, w_u_j, w_u_p, w_u_s, q_nf, ↓reduceIte, if_true, if_false, eq_self, and_true, true_and, and_false, false_and, Option.bind_some, ne_eq, not_false_eq_true, not_true_eq_false]
  have B35 : z_i B m 35 = nI 0 := by rw [← hB]; simp (disch := omega) only [zlet, w_i_k, w_i_n, w_i_i, w_i_j, w_i_p, w_i_s, w_j_k, w_j_n, w_j_i, w_j_j, w_j_p, w_j_s, w_p_k, w_p_n, w_p_i, w_p_j, w_p_p, w_p_s, w_c_k, w_c_n, w_c_i, w_c_j, w_c_p, w_c_s, w_u_k, w_u_n, w_u_i, w_u_j, w_u_p, w_u_s, q_nf, ↓reduceIte, if_true, if_false, eq_self, and_true, true_and, and_false, false_and, Option.bind_some, ne_eq, not_false_eq_true, not_true_eq_false]
  have B36 : z_i B m 36 = nI 0 := by rw [← hB]; simp (disch := omega) only [zlet, w_i_k, w_i_n, w_i_i, w_i_j, w_i_p, w_i_s, w_j_k, w_j_n, w_j_i, w_j_j, w_j_p, w_j_s, w_p_k, w_p_n, w_p_i, w_p_j, w_p_p, w_p_s, w_c_k, w_c_n, w_c_i, w_c_j, w_c_p, w_c_s, w_u_k, w_u_n, w_u_i, w_u_j, w_u_p, w_u_s, q_nf, ↓reduceIte, if_true, if_false, eq_self, and_true, true_and, and_false, false_and, Option.bind_some, ne_eq, not_false_eq_true, not_true_eq_false]
  have B37 : z_i B m 37 = nI 0 := by rw [← hB]; simp (disch := omega) only [zlet, w_i_k, w_i_n, w_i_i, w_i_j, w_i_p, w_i_s, w_j_k, w_j_n, w_j_i, w_j_j, w_j_p, w_j_s, w_p_k, w_p_n, w_p_i, w_p_j, w_p_p, w_p_s, w_c_k, w_c_n, w_c_i, w_c_j, w_c_p, w_c_s, w_u_k, w_u_n, w_u_i, w_u_j, w_u_p, w_u_s, q_nf, ↓reduceIte, if_true, if_false, eq_self, and_true, true_and, and_false, false_and, Option.bind_some, ne_eq, not_false_eq_true, not_true_eq_false]
  have B39 : z_i B m 39 = nI 0 := by rw [← hB]; simp (disch := omega) only [zlet, w_i_k, w_i_n, w_i_i, w_i_j, w_i_p, w_i_s, w_j_k, w_j_n, w_j_i, w_j_j, w_j_p, w_j_s, w_p_k, w_p_n, w_p_i, w_p_j, w_p_p, w_p_s, w_c_k, w_c_n, w_c_i, w_c_j, w_c_p, w_c_s, w_u_k, w_u_n, w_u_i, w_u_j, w_u_p, w_u_s, q_nf, ↓reduceIte, if_true, if_false, eq_self, and_true, true_and, and_false, false_and, Option.bind_some, ne_eq, not_false_eq_true, not_true_eq_false]
  have rBe : zRf fRe (sRm m) m M2 B := rB.mono (fun f hf => by unfold fRe; omega) (fun _ h => False.elim h)
  have sAd : zSt (sRd X) M A := s2.mono (fun q hq => by unfold sRd; omega)
  have hp : zHP A B X m cN b mo 0 cb dc db 0 id dd 0 := ⟨⟨hx.kp s3, a2.st s2 (by omega) (by omega), fun k hk => (a6 k hk).st s2 (by omega) (by omega) (by omega) (by omega), s5, s4, a4.st s2 (by omega) (by omega), s6 4 (by omega), 0, cb, zLr.sf (hx.kp s3)⟩, ⟨rB.mo hm, g2.rf rB (by omega) (fun h => h), B29, B30, fun j hj => by omega, (rB.f (by omega)).trans g5, fun j hj => (rB.i (by omega) (fun h => h) j).trans (g6 j hj), B37⟩, a5.st s2 (fun q h1 h2 => by omega), g7.rf rB (by omega) (by omega) (fun _ _ _ h => h), ⟨(s6 2 (by omega)).trans B35.symm, (s6 3 (by omega)).trans B36.symm, (s6 5 (by omega)).trans B39.symm⟩, s7, B28, by omega⟩
  have toC : ∀ {α : Int32 × zM}, zEv (fun n => f_SF_read_23 O n X (nI 0) A) α → zEv (fun n => F_SF_read O n X (nI mo) M) α := fun {α} hα => by
    unfold F_SF_read f_SF_read_0
    refine zEv.in_ c1 (zEv.ip c2 (zEv.ip hx.k0 ?_))
    rw [hx.p0_5]
    exact zEv.ip hx.k73 (zEv.bind s1 hα)
  have toM : ∀ {α : Int32 × zM}, zEv (fun n => f_Mo_read_50 O n m (nI 1) B) α → zEv (fun n => F_Mo_read O n m (nI mo) M2) α := fun {α} hα => by
    unfold F_Mo_read f_Mo_read_0
    refine zEv.in_ c1 (zEv.ip c2 (zEv.ip hm.k (hα.to fun n => ?_)))
    rw [← hB]
    rfl
  rcases j_loop (O := O) hO hid hk hmo (cN + 1) 0 0 0 0 cb A B (by omega) (by omega) hp (by omega) s8 (s6 0 (by omega)) with ⟨f, q, M', M2', w1, w2, w3, w4, w5, w6, w7, w8, c', cb', w9⟩ | ⟨c', cb', done', M', M2', w1, w2, w3, w4, w5, w6, w7, w8, w9⟩
  · -- a fault
    have xP := (hx.kp s3).kp w6
    have kF := flK (f := f) (q := q) xP
    have xF := xP.kp kF
    have sF : zSt (fun q => q = X + 69) M' (fl X M' f q) := by unfold fl; exact (zSt.rf.wi (by exact rfl)).wi (by exact rfl)
    have sAll : zSt (sRd X) M (fl X M' f q) := (sAd.tr w5).tr (sF.mono (fun q hq => by unfold sRd; omega))
    have rF : zRf (fun f => f = 33 ∨ f = 34) sN m M2' (flm m M2' f q) := by unfold flm; exact (zRf.rf.wf (by omega)).wf (by omega)
    have rAll : zRf fRe (sRm m) m M2 (flm m M2' f q) := (rBe.tr w7).tr (rF.mono (fun f hf => by unfold fRe; omega) (fun _ h => False.elim h))
    have e0 : z_i (fl X M' f q) (X + 69) 0 = nI f := by unfold fl; rw [w_i_ne _ _ (by omega), w_i_eq]
    have e1 : z_i (fl X M' f q) (X + 69) 1 = nI q := by unfold fl; rw [w_i_eq]
    have ef : ∀ k, 2 ≤ k → z_i (fl X M' f q) (X + 69) k = z_i M' (X + 69) k := fun k hk => by unfold fl; rw [w_i_ne _ _ (by omega), w_i_ne _ _ (by omega)]
    have m33 : z_i (flm m M2' f q) m 33 = nI f := by unfold flm; rw [w_i_ne _ _ (by omega), w_i_eq]
    have m34 : z_i (flm m M2' f q) m 34 = nI q := by unfold flm; rw [w_i_eq]
    have mf : ∀ k, k ≠ 33 → k ≠ 34 → z_i (flm m M2' f q) m k = z_i M2' m k := fun k h1 h2 => rF.f (by omega)
    obtain ⟨⟨v1, v2, v3⟩, v4, v5⟩ := w8
    refine ⟨-(nI f), fl X M' f q, flm m M2' f q, toC (w3 _ ?_), toM (w4 _ ?_), ⟨cN, b, oN, ob, dc, db, id, dd, (fun k => if k = 0 then nI q else if k = 1 then z_i M' (X + 69) 2 else if k = 2 then z_i M' (X + 69) 3 else if k = 3 then z_i M' (X + 69) 4 else if k = 4 then nI c' else z_i M' (X + 69) 5), hid, hk, ⟨xF, a2.st sAll (by unfold sRd; omega) (by unfold sRd; omega), a3.st sAll (by unfold sRd; omega) (by unfold sRd; omega), a4.st sAll (by unfold sRd; omega) (by unfold sRd; omega), a5.st sAll (fun q h1 h2 => by unfold sRd; omega), fun k hk => (a6 k hk).st sAll (by unfold sRd; omega) (by unfold sRd; omega) (by unfold sRd; omega) (by unfold sRd; omega), ⟨c', cb', w9.st sF (by omega) (by omega), rfl⟩, e1, ef 2 (by omega), ef 3 (by omega), ef 4 (by omega), ef 5 (by omega)⟩, ⟨rAll.mo hm, g2.rf rAll (by unfold fRe; omega) (by unfold sRm; omega), (rAll.f (by unfold fRe; omega)).trans g3, fun j hj => (rAll.i (by omega) (by unfold sRm; omega) j).trans (g4 j hj), (rAll.f (by unfold fRe; omega)).trans g5, fun j hj => (rAll.i (by omega) (by unfold sRm; omega) j).trans (g6 j hj), g7.rf rAll (by unfold fRe; omega) (by unfold fRe; omega) (fun q h1 h2 => by unfold sRm; omega), m34, ?_, ?_, ?_, ?_, ?_⟩⟩, sAll.mono (fun q hq => by unfold sRd at hq; unfold sCl; omega), rAll.st (fun q hq => by unfold sRm at hq; omega)⟩
    · unfold f_SF_read_75
      refine zEv.ip xF.k0 ?_
      rw [xF.p0_3, e0]
      exact zEv.ip xF.k69 (zEv.in_ (nI_ne0 (by omega) (by omega)) (zEv.some _))
    · unfold f_Mo_read_73
      refine zEv.ip rfl (zEv.ip (rAll.mo hm).k ?_)
      rw [m33]
      exact zEv.some _
    · exact (mf 35 (by omega) (by omega)).trans v1.symm
    · exact (mf 36 (by omega) (by omega)).trans v2.symm
    · exact (mf 37 (by omega) (by omega)).trans v4.symm
    · exact (mf 30 (by omega) (by omega)).trans (v5.symm.trans w9.2.2.2.2.1)
    · exact (mf 39 (by omega) (by omega)).trans v3.symm
  · -- all went well
    obtain ⟨x1, o2, o3, o4, o5, o6, o7, o8⟩ := w6
    obtain ⟨m1, n2, n3, n4, n5, n6, n7, n8⟩ := w7
    have hc' := o5.cN
    have hcN := o2.cN
    have u69 := x1.k69
    have u1 := x1.k1
    generalize hP1 : w_i M' (X + 69) 1 (nI cN) = P1
    have sP1 : zSt (fun q => q = X + 69) M' P1 := by rw [← hP1]; exact zSt.rf.wi (by exact rfl)
    have kP1 : zKp X M' P1 := by rw [← hP1]; exact zKp.rf.wi (Or.inl (by rw [u69]; omega))
    have xP1 := x1.kp kP1
    have outA := (a3.st sAd (by unfold sRd; omega) (by unfold sRd; omega)).st w3 (by unfold sRd; omega) (by unfold sRd; omega)
    obtain ⟨em1, em2⟩ := c_empty (O := O) (outA.st sP1 (by omega) (by omega))
    have v3 := xP1.k3
    generalize hP2 : w_i P1 (X + 3) 1 0 = P2 at em1 em2
    have sP2 : zSt (fun q => q = X + 3) P1 P2 := by rw [← hP2]; exact zSt.rf.wi (by exact rfl)
    have kP2 : zKp X P1 P2 := by rw [← hP2]; exact zKp.rf.wi (Or.inl (by rw [v3]; omega))
    have xP2 := xP1.kp kP2
    have con2 := (o5.st sP1 (by omega) (by omega)).st sP2 (by omega) (by omega)
    obtain ⟨P3, pu1, pu2, pu3⟩ := c_putPart (O := O) (fr := 0) (k := c') em2 con2 (by omega) (by omega) (by omega)
    rw [Nat.zero_add, Nat.sub_zero, Nat.min_eq_left hc'] at pu3
    have kP3 : zKp X P2 P3 := pu2.row em2 pu3 ⟨by unfold zNs; omega, by unfold zNs; omega⟩
    have xP3 := xP2.kp kP3
    have out3 : zRow P3 (X + 3) (X + 4) 32768 c' cb' := pu3.cong (fun j hj => by unfold ext; rw [if_neg (by omega)]; congr 1; omega)
    have s13 : zSt (fun q => q = X + 69 ∨ q = X + 3 ∨ q = X + 4) M' P3 := ((sP1.mono (fun q hq => by omega)).tr (sP2.mono (fun q hq => by omega))).tr (pu2.mono (fun q hq => by unfold zS2 at hq; omega))
    have sAll : zSt (fun q => sRd X q ∨ q = X + 3 ∨ q = X + 4) M P3 := ((sAd.mono (fun q hq => Or.inl hq)).tr (w3.mono (fun q hq => Or.inl hq))).tr (s13.mono (fun q hq => by unfold sRd; omega))
    generalize hQ1 : w_i (w_i M2' m 34 (nI cN)) m 3 (nI c') = Q1
    have rQ1 : zRf (fun f => f = 34 ∨ f = 3) sN m M2' Q1 := by rw [← hQ1]; exact (zRf.rf.wf (Or.inl rfl)).wf (Or.inr rfl)
    have mQ1 := rQ1.mo m1
    have q30 : z_i Q1 m 30 = nI c' := (rQ1.f (by omega)).trans n4
    obtain ⟨Q2, ly1, ly2, ly3⟩ := l_read101 (O := O) hc' c' 0 Q1 (by omega) mQ1 q30 (fun j hj => (rQ1.i (by omega) (fun h => h) j).trans (n5 j hj)) (fun j hj => by omega)
    have q3e : z_i Q1 m 3 = nI c' := by rw [← hQ1, w_i_eq]
    have rAll : zRf (fun f => fRe f ∨ f = 3) (fun q => sRm m q ∨ q = m + 2) m M2 Q2 := (((rBe.mono (fun f hf => Or.inl hf) (fun q hq => Or.inl hq)).tr (w5.mono (fun f hf => Or.inl hf) (fun q hq => Or.inl hq))).tr (rQ1.mono (fun f hf => by unfold fRe; omega) (fun _ h => False.elim h))).tr (ly2.mono (fun _ h => False.elim h) (fun q hq => Or.inr hq))
    have f69 : ∀ k, k ≠ 1 → z_i P3 (X + 69) k = z_i M' (X + 69) k := fun k hk => by
      rw [pu2.i (by unfold zS2; omega), sP2.i (by omega), ← hP1, w_i_ne _ _ (fun w => hk w.2)]
    have e1 : z_i P3 (X + 69) 1 = nI cN := by rw [pu2.i (by unfold zS2; omega), sP2.i (by omega), ← hP1, w_i_eq]
    have mf : ∀ k, k ≠ 34 → k ≠ 3 → z_i Q2 m k = z_i M2' m k := fun k h1 h2 => (ly2.f (fun h => h)).trans (rQ1.f (by omega))
    have m34 : z_i Q2 m 34 = nI cN := by rw [ly2.f (fun h => h), ← hQ1, w_i_ne _ _ (by omega), w_i_eq]
    have m3 : z_i Q2 m 3 = nI c' := by rw [ly2.f (fun h => h)]; exact q3e
    refine ⟨nI c', P3, Q2, toC (w1 _ ?_), toM (w2 _ ?_), ⟨cN, b, c', cb', dc, db, id, dd, (fun k => if k = 0 then nI cN else if k = 1 then z_i M' (X + 69) 2 else if k = 2 then z_i M' (X + 69) 3 else if k = 3 then z_i M' (X + 69) 4 else if k = 4 then nI c' else z_i M' (X + 69) 5), hid, hk, ⟨xP3, a2.st sAll (by unfold sRd; omega) (by unfold sRd; omega), out3, a4.st sAll (by unfold sRd; omega) (by unfold sRd; omega), a5.st sAll (fun q h1 h2 => by unfold sRd; omega), fun k hk => (a6 k hk).st sAll (by unfold sRd; omega) (by unfold sRd; omega) (by unfold sRd; omega) (by unfold sRd; omega), ⟨c', cb', o5.st s13 (by omega) (by omega), rfl⟩, e1, f69 2 (by omega), f69 3 (by omega), f69 4 (by omega), f69 5 (by omega)⟩, ⟨rAll.mo hm, g2.rf rAll (by unfold fRe; omega) (by unfold sRm; omega), m3, ly3, (rAll.f (by unfold fRe; omega)).trans g5, fun j hj => (rAll.i (by omega) (by unfold sRm; omega) j).trans (g6 j hj), g7.rf rAll (by unfold fRe; omega) (by unfold fRe; omega) (fun q h1 h2 => by unfold sRm; omega), m34, ?_, ?_, ?_, ?_, ?_⟩⟩, sAll.mono (fun q hq => by unfold sRd at hq; unfold sCl; omega), rAll.st (fun q hq => by unfold sRm at hq; omega)⟩
    · have z4 : z_p P2 X 4 = X + 70 := xP2.p0_4
      unfold f_SF_read_75
      refine zEv.ip x1.k0 ?_
      rw [x1.p0_3, x1.p0_0, w9]
      refine zEv.ip u69 (zEv.ip rfl (zEv.ip u1 (zEv.zl ?_)))
      rw [o2.2.2.2.2.1, hP1, xP1.p0_1]
      refine zEv.ip v3 (zEv.bind em1 (zEv.ip xP2.k0 ?_))
      dsimp only
      rw [z4, xP2.p70_0, xP2.p0_1, con2.2.2.2.2.1]
      refine zEv.ip xP2.k70 (zEv.ip xP2.k71 (zEv.ip xP2.k3 (zEv.bind pu1 (zEv.ip xP3.k0 ?_))))
      dsimp only
      rw [xP3.p0_1, out3.2.2.2.2.1]
      exact zEv.ip xP3.k3 (zEv.some _)
    · unfold f_Mo_read_73
      refine zEv.in_ (by decide) (zEv.ip m1.k (zEv.zl (zEv.zl ?_)))
      have h30 : z_i (w_i M2' m 34 (z_i M2' m 1)) m 30 = nI c' := by rw [w_i_ne _ _ (by omega)]; exact n4
      rw [h30, n2.1, hQ1]
      exact ly1.eq (by rw [q3e])
    · exact (mf 35 (by omega) (by omega)).trans w8.1.symm
    · exact (mf 36 (by omega) (by omega)).trans w8.2.1.symm
    · exact (mf 37 (by omega) (by omega)).trans (n8.trans o7.symm)
    · exact (mf 30 (by omega) (by omega)).trans n4
    · exact (mf 39 (by omega) (by omega)).trans w8.2.2.symm
