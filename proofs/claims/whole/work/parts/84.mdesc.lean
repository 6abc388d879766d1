/-! The reference: cells laid; a description. -/
theorem zEk.app {κ κ' α : Type} {f : Nat → κ' → Option α} {g : κ' → Option α} {h : Nat → κ → κ'} {G : κ → Option α} (h1 : zEk f g) (h2 : zEk (fun n k => g (h n k)) G) : zEk (fun n k => f n (h n k)) G := by
  obtain ⟨N1, h1⟩ := h1
  obtain ⟨N2, h2⟩ := h2
  exact ⟨N1 + N2, fun n hn K => (h1 n (by omega) _).trans (h2 n (by omega) K)⟩
/-- the reference changes ints and longs alone: the fields F of its object, the rows S -/
def zRf (F S : Nat → Prop) (m : Nat) (M M' : zM) : Prop := z_k M' = z_k M ∧ z_n M' = z_n M ∧ z_p M' = z_p M ∧ z_s M' = z_s M ∧ (∀ q j, q ≠ m → ¬ S q → z_i M' q j = z_i M q j ∧ z_j M' q j = z_j M q j) ∧ ∀ f, ¬ F f → z_i M' m f = z_i M m f ∧ z_j M' m f = z_j M m f
theorem zRf.rf {F S : Nat → Prop} {m : Nat} {M : zM} : zRf F S m M M := ⟨rfl, rfl, rfl, rfl, fun _ _ _ _ => ⟨rfl, rfl⟩, fun _ _ => ⟨rfl, rfl⟩⟩
theorem zRf.tr {F S : Nat → Prop} {m : Nat} {M M1 M2 : zM} (h : zRf F S m M M1) (g : zRf F S m M1 M2) : zRf F S m M M2 := by
  obtain ⟨a1, a2, a3, a4, a5, a6⟩ := h
  obtain ⟨b1, b2, b3, b4, b5, b6⟩ := g
  exact ⟨b1.trans a1, b2.trans a2, b3.trans a3, b4.trans a4, fun q j h1 h2 => ⟨(b5 q j h1 h2).1.trans (a5 q j h1 h2).1, (b5 q j h1 h2).2.trans (a5 q j h1 h2).2⟩, fun f hf => ⟨(b6 f hf).1.trans (a6 f hf).1, (b6 f hf).2.trans (a6 f hf).2⟩⟩
theorem zRf.mono {F S F' S' : Nat → Prop} {m : Nat} {M M1 : zM} (h : zRf F S m M M1) (hF : ∀ f, F f → F' f) (hS : ∀ q, S q → S' q) : zRf F' S' m M M1 := by
  obtain ⟨a1, a2, a3, a4, a5, a6⟩ := h
  exact ⟨a1, a2, a3, a4, fun q j h1 h2 => a5 q j h1 (fun w => h2 (hS q w)), fun f hf => a6 f (fun w => hf (hF f w))⟩
theorem zRf.wf {F S : Nat → Prop} {m f : Nat} {x : Int32} {M M1 : zM} (h : zRf F S m M M1) (hf : F f) : zRf F S m M (w_i M1 m f x) :=
  h.tr ⟨rfl, rfl, rfl, rfl, fun q j h1 _ => ⟨w_i_ne _ _ (fun w => h1 w.1), rfl⟩, fun f' hf' => ⟨w_i_ne _ _ (fun w => hf' (by rw [w.2]; exact hf)), rfl⟩⟩
theorem zRf.wi {F S : Nat → Prop} {m q k : Nat} {x : Int32} {M M1 : zM} (h : zRf F S m M M1) (hq : S q) (hm : q ≠ m) : zRf F S m M (w_i M1 q k x) :=
  h.tr ⟨rfl, rfl, rfl, rfl, fun r j h1 h2 => ⟨w_i_ne _ _ (fun w => h2 (by rw [w.1]; exact hq)), rfl⟩, fun f' _ => ⟨w_i_ne _ _ (fun w => hm w.1.symm), rfl⟩⟩
theorem zRf.wu {F S : Nat → Prop} {m q : Nat} {g : Nat → Int32} {M M1 : zM} (h : zRf F S m M M1) (hq : S q) (hm : q ≠ m) : zRf F S m M (w_u M1 q g) :=
  h.tr ⟨rfl, rfl, rfl, rfl, fun r j h1 h2 => ⟨by rw [w_u_i, if_neg (fun w => h2 (by rw [w]; exact hq))], rfl⟩, fun f' _ => ⟨by rw [w_u_i, if_neg (fun w => hm w.symm)], rfl⟩⟩
theorem zRf.wj {F S : Nat → Prop} {m q k : Nat} {x : Int64} {M M1 : zM} (h : zRf F S m M M1) (hq : S q) (hm : q ≠ m) : zRf F S m M (w_j M1 q k x) :=
  h.tr ⟨rfl, rfl, rfl, rfl, fun r j h1 h2 => ⟨rfl, by rw [w_j_j, if_neg (fun w => h2 (by rw [w.1]; exact hq))]⟩, fun f' _ => ⟨rfl, by rw [w_j_j, if_neg (fun w => hm w.1.symm)]⟩⟩
theorem zRf.wg {F S : Nat → Prop} {m f : Nat} {x : Int64} {M M1 : zM} (h : zRf F S m M M1) (hf : F f) : zRf F S m M (w_j M1 m f x) :=
  h.tr ⟨rfl, rfl, rfl, rfl, fun q j h1 _ => ⟨rfl, by rw [w_j_j, if_neg (fun w => h1 w.1)]⟩, fun f' hf' => ⟨rfl, by rw [w_j_j, if_neg (fun w => hf' (by rw [w.2]; exact hf))]⟩⟩
theorem zRf.mo {F S : Nat → Prop} {m : Nat} {M M1 : zM} (h : zRf F S m M M1) (hm : zMo M m) : zMo M1 m := hm.fr h.1 h.2.1 h.2.2.1
theorem zRf.i {F S : Nat → Prop} {m q : Nat} {M M1 : zM} (h : zRf F S m M M1) (h1 : q ≠ m) (h2 : ¬ S q) (j : Nat) : z_i M1 q j = z_i M q j := (h.2.2.2.2.1 q j h1 h2).1
theorem zRf.j {F S : Nat → Prop} {m q : Nat} {M M1 : zM} (h : zRf F S m M M1) (h1 : q ≠ m) (h2 : ¬ S q) (j : Nat) : z_j M1 q j = z_j M q j := (h.2.2.2.2.1 q j h1 h2).2
theorem zRf.f {F S : Nat → Prop} {m f : Nat} {M M1 : zM} (h : zRf F S m M M1) (hf : ¬ F f) : z_i M1 m f = z_i M m f := (h.2.2.2.2.2 f hf).1
theorem zRf.g {F S : Nat → Prop} {m f : Nat} {M M1 : zM} (h : zRf F S m M M1) (hf : ¬ F f) : z_j M1 m f = z_j M m f := (h.2.2.2.2.2 f hf).2
theorem zSt.ref {S : Nat → Prop} {F : Nat → Prop} {m : Nat} {M M' : zM} (h : zSt S M M') (hp : z_p M' = z_p M) (hm : ¬ S m) : zRf F S m M M' := ⟨h.k, h.n, hp, h.s, fun q j _ h2 => ⟨h.i h2 j, h.j h2 j⟩, fun f _ => ⟨h.i hm f, h.j hm f⟩⟩
/-- its bytes IN -/
def zMI (M : zM) (m c : Nat) (b : Nat → Nat) : Prop := z_i M m 1 = nI c ∧ c ≤ 12000 ∧ ∀ j, j < c → b j < 256 ∧ z_i M (m + 1) j = nI (b j)
theorem zMI.in_ {M : zM} {m c : Nat} {b : Nat → Nat} (h : zMI M m c b) (hm : zMo M m) : zIn13 M m (m + 1) c b := ⟨hm.k, hm.p1, hm.k1, hm.n1, h.1, h.2.1, h.2.2⟩
theorem zMI.rf {F S : Nat → Prop} {M M1 : zM} {m c : Nat} {b : Nat → Nat} (h : zMI M m c b) (g : zRf F S m M M1) (hF : ¬ F 1) (hS : ¬ S (m + 1)) : zMI M1 m c b := ⟨by rw [g.f hF]; exact h.1, h.2.1, fun j hj => ⟨(h.2.2 j hj).1, by rw [g.i (by omega) hS]; exact (h.2.2 j hj).2⟩⟩
def lnS (t : Nat) (w : Nat → Nat) (s : Nat) : Nat := if 1 ≤ w s then t + 1 - w s else 0
theorem l_layCells53 {O : zO} {M : zM} {m a s c0 : Nat} {g : Nat → Int32} (hm : zMo M m) (ha : a < 11) (hc : c0 + 2 ^ a ≤ 2048) (hs : s < 256) : ∀ d k, k + d = 2 ^ a →
    zEk (fun n (K : (Nat → Int32 → Int32 → zM → Option (Unit × zM)) × (Nat → Int32 → Int32 → Int32 → zM → Option (Unit × zM))) => f_Mo_layCells_53 O K.1 K.2 n m (nI (c0 + k)) (nI (a + 1)) (nI s) (nI k) (w_u M (m + 9) (rnF g c0 k (nI s)))) (fun K => K.2 m (nI (c0 + 2 ^ a)) (nI (a + 1)) (nI (s + 1)) (w_u M (m + 9) (rnF g c0 (2 ^ a) (nI s)))) := by
  have e1 : (1 : Int32) <<< ((nI (a + 1) - 1) &&& 31) = nI (2 ^ a) := by
    rw [nI_s1 (by omega), Nat.add_sub_cancel, show (1 : Int32) = nI 1 from rfl, nI_shl (by omega) (by omega), Nat.one_mul]
  intro d
  induction d with
  | zero =>
    intro k hk
    rw [show k = 2 ^ a by omega]
    refine zEk.succ (zEk.of fun n K => ?_)
    rw [f_Mo_layCells_53, e1]
    unfold f_Mo_layCells_79
    simp (disch := omega) only [zlet, w_i_k, w_i_n, w_i_i, w_i_j, w_i_p, w_i_s, w_j_k, w_j_n, w_j_i, w_j_j, w_j_p, w_j_s, w_p_k, w_p_n, w_p_i, w_p_j, w_p_p, w_p_s, w_c_k, w_c_n, w_c_i, w_c_j, w_c_p, w_c_s, w_u_k, w_u_n, w_u_i, w_u_j, w_u_p, w_u_s, q_nf, ↓reduceIte, if_true, if_false, eq_self, and_true, true_and, and_false, false_and, Option.bind_some, ne_eq, not_false_eq_true, not_true_eq_false, nI_add, pk_mul, pk_sub, nI_ac, q_tlt, q_flt, q_tle, q_fle, q_teq, q_feq, q_tin, nI_cl, q_m1, q_m2, q_m3, q_m4, q_m5, q_m6, q_m7, q_l1, q_l2, q_l3, q_l4, q_l5, q_l6, lN_add, lN_mul, lN_sub, lN_i, nI_l, q_rem, q_rem2, q_div, q_shl, q_shr, q_i0, q_i1, q_i2, q_i3, q_i4, q_i5, q_i6, q_i7, q_i8, q_i9, q_i10, q_i11, q_i12, q_i14, q_i15, q_i16, q_i17, q_i18, q_i19, q_i20, q_i22, q_i24, q_i26, q_i28, q_i30, q_i31, q_i32, q_i35, q_i36, q_i38, q_i40, q_i42, q_i43, q_i48, q_i51, q_i52, q_i56, q_i63, q_i64, q_i67, q_i80, q_i95, q_i99, q_i126, q_i127, q_i128, q_i255, q_i256, q_i512, q_i1024, q_i12000, q_i32512, q_i32768, q_i131072, q_j0, q_j1, q_j2, q_j3, q_j4, q_j8, q_j256, Nat.one_mul, Nat.zero_add, Nat.add_zero, Nat.sub_zero, Nat.mul_one, q_ofN]
  | succ d ih =>
    intro k hk
    have hi := ih (k + 1) (by omega)
    refine zEk.succ (hi.to fun n K => ?_)
    rw [f_Mo_layCells_53, e1]
    simp (disch := omega) only [zlet, w_i_k, w_i_n, w_i_i, w_i_j, w_i_p, w_i_s, w_j_k, w_j_n, w_j_i, w_j_j, w_j_p, w_j_s, w_p_k, w_p_n, w_p_i, w_p_j, w_p_p, w_p_s, w_c_k, w_c_n, w_c_i, w_c_j, w_c_p, w_c_s, w_u_k, w_u_n, w_u_i, w_u_j, w_u_p, w_u_s, q_nf, ↓reduceIte, if_true, if_false, eq_self, and_true, true_and, and_false, false_and, Option.bind_some, ne_eq, not_false_eq_true, not_true_eq_false, nI_add, pk_mul, pk_sub, nI_ac, q_tlt, q_flt, q_tle, q_fle, q_teq, q_feq, q_tin, nI_cl, q_m1, q_m2, q_m3, q_m4, q_m5, q_m6, q_m7, q_l1, q_l2, q_l3, q_l4, q_l5, q_l6, lN_add, lN_mul, lN_sub, lN_i, nI_l, q_rem, q_rem2, q_div, q_shl, q_shr, q_i0, q_i1, q_i2, q_i3, q_i4, q_i5, q_i6, q_i7, q_i8, q_i9, q_i10, q_i11, q_i12, q_i14, q_i15, q_i16, q_i17, q_i18, q_i19, q_i20, q_i22, q_i24, q_i26, q_i28, q_i30, q_i31, q_i32, q_i35, q_i36, q_i38, q_i40, q_i42, q_i43, q_i48, q_i51, q_i52, q_i56, q_i63, q_i64, q_i67, q_i80, q_i95, q_i99, q_i126, q_i127, q_i128, q_i255, q_i256, q_i512, q_i1024, q_i12000, q_i32512, q_i32768, q_i131072, q_j0, q_j1, q_j2, q_j3, q_j4, q_j8, q_j256, Nat.one_mul, Nat.zero_add, Nat.add_zero, Nat.sub_zero, Nat.mul_one, q_ofN, hm.k, hm.p9, hm.k9, hm.n9, w_u_w, rnF_s]
    rfl
theorem l_layCells14 {O : zO} {M : zM} {m t a : Nat} {w : Nat → Nat} (hm : zMo M m) (h13 : z_i M m 13 = nI t) (hl : ∀ s, s < 256 → z_i M (m + 8) s = nI (lnS t w s)) (hCW : zCW t w) (ha : a < t) : ∀ d s, s + d = 256 → ∀ gc, (∀ c, c < cum (amu w) (256 * a + s) → gc c = nI (clS t w c)) → ∃ gc', (∀ c, c < cum (amu w) (256 * a + 256) → gc' c = nI (clS t w c)) ∧
    zEk (fun n (k4 : Nat → Int32 → Int32 → zM → Option (Unit × zM)) => f_Mo_layCells_14 O k4 n m (nI (cum (amu w) (256 * a + s))) (nI (a + 1)) (nI s) (w_u M (m + 9) gc)) (fun k4 => k4 m (nI (cum (amu w) (256 * a + 256))) (nI (a + 2)) (w_u M (m + 9) gc')) := by
  have ht := hCW.2.1
  have hpt : 2 ^ t ≤ 2 ^ 11 := Nat.pow_le_pow_right (by omega) ht
  intro d
  induction d with
  | zero =>
    intro s hs gc hgc
    have e : s = 256 := by omega
    subst e
    refine ⟨gc, hgc, zEk.succ (zEk.of fun n K => ?_)⟩
    rw [f_Mo_layCells_14]
    simp (disch := omega) only [zlet, w_i_k, w_i_n, w_i_i, w_i_j, w_i_p, w_i_s, w_j_k, w_j_n, w_j_i, w_j_j, w_j_p, w_j_s, w_p_k, w_p_n, w_p_i, w_p_j, w_p_p, w_p_s, w_c_k, w_c_n, w_c_i, w_c_j, w_c_p, w_c_s, w_u_k, w_u_n, w_u_i, w_u_j, w_u_p, w_u_s, q_nf, ↓reduceIte, if_true, if_false, eq_self, and_true, true_and, and_false, false_and, Option.bind_some, ne_eq, not_false_eq_true, not_true_eq_false, nI_add, pk_mul, pk_sub, nI_ac, q_tlt, q_flt, q_tle, q_fle, q_teq, q_feq, q_tin, nI_cl, q_m1, q_m2, q_m3, q_m4, q_m5, q_m6, q_m7, q_l1, q_l2, q_l3, q_l4, q_l5, q_l6, lN_add, lN_mul, lN_sub, lN_i, nI_l, q_rem, q_rem2, q_div, q_shl, q_shr, q_i0, q_i1, q_i2, q_i3, q_i4, q_i5, q_i6, q_i7, q_i8, q_i9, q_i10, q_i11, q_i12, q_i14, q_i15, q_i16, q_i17, q_i18, q_i19, q_i20, q_i22, q_i24, q_i26, q_i28, q_i30, q_i31, q_i32, q_i35, q_i36, q_i38, q_i40, q_i42, q_i43, q_i48, q_i51, q_i52, q_i56, q_i63, q_i64, q_i67, q_i80, q_i95, q_i99, q_i126, q_i127, q_i128, q_i255, q_i256, q_i512, q_i1024, q_i12000, q_i32512, q_i32768, q_i131072, q_j0, q_j1, q_j2, q_j3, q_j4, q_j8, q_j256, Nat.one_mul, Nat.zero_add, Nat.add_zero, Nat.sub_zero, Nat.mul_one, q_ofN]
  | succ d ih =>
    intro s hs gc hgc
    have hls := hl s (by omega)
    have hct := cum_top hCW ha (show s + 1 ≤ 256 by omega)
    have hst := cum_step (t := t) (a := a) (w := w) (show s < 256 by omega)
    have hwt := hCW.2.2.2.1 s
    by_cases c1 : w s = a + 1
    · rw [if_pos c1] at hst
      have e1 : lnS t w s = t - a := by unfold lnS; rw [if_pos (by omega)]; omega
      rw [e1] at hls
      obtain ⟨gc', i1, i3⟩ := ih (s + 1) (by omega) (rnF gc (cum (amu w) (256 * a + s)) (2 ^ a) (nI s)) (fun c hc => by
        by_cases cc : c < cum (amu w) (256 * a + s)
        · rw [rn_out (by omega)]; exact hgc c cc
        · rw [rn_in (by omega) (by omega)]
          have := clS_at (k := c - cum (amu w) (256 * a + s)) ha (show s < 256 by omega) c1 (by omega)
          rw [show cum (amu w) (256 * a + s) + (c - cum (amu w) (256 * a + s)) = c by omega] at this
          rw [this])
      refine ⟨gc', i1, zEk.succ ?_⟩
      have l53 := l_layCells53 (O := O) (M := M) (a := a) (s := s) (c0 := cum (amu w) (256 * a + s)) (g := gc) hm (by omega) (by omega) (by omega) (2 ^ a) 0 (by omega)
      rw [rnF_0, Nat.add_zero, ← hst] at l53
      simp only [f_Mo_layCells_14]
      repeat first | with_reducible refine zEk.zl ?_ | (with_reducible refine zEk.ip ?_ ?_; focus (simp only [hm.k, hm.p8, hm.k8, hm.n8, hls, h13]; done)) | (with_reducible refine zEk.ip ?_ ?_; focus (simp (disch := omega) only [zlet, w_i_k, w_i_n, w_i_i, w_i_j, w_i_p, w_i_s, w_j_k, w_j_n, w_j_i, w_j_j, w_j_p, w_j_s, w_p_k, w_p_n, w_p_i, w_p_j, w_p_p, w_p_s, w_c_k, w_c_n, w_c_i, w_c_j, w_c_p, w_c_s, w_u_k, w_u_n, w_u_i, w_u_j, w_u_p, w_u_s, q_nf, ↓reduceIte, if_true, if_false, eq_self, and_true, true_and, and_false, false_and, Option.bind_some, ne_eq, not_false_eq_true, not_true_eq_false, nI_add, pk_mul, pk_sub, nI_ac, q_tlt, q_flt, q_tle, q_fle, q_teq, q_feq, q_tin, nI_cl, q_m1, q_m2, q_m3, q_m4, q_m5, q_m6, q_m7, q_l1, q_l2, q_l3, q_l4, q_l5, q_l6, lN_add, lN_mul, lN_sub, lN_i, nI_l, q_rem, q_rem2, q_div, q_shl, q_shr, q_i0, q_i1, q_i2, q_i3, q_i4, q_i5, q_i6, q_i7, q_i8, q_i9, q_i10, q_i11, q_i12, q_i14, q_i15, q_i16, q_i17, q_i18, q_i19, q_i20, q_i22, q_i24, q_i26, q_i28, q_i30, q_i31, q_i32, q_i35, q_i36, q_i38, q_i40, q_i42, q_i43, q_i48, q_i51, q_i52, q_i56, q_i63, q_i64, q_i67, q_i80, q_i95, q_i99, q_i126, q_i127, q_i128, q_i255, q_i256, q_i512, q_i1024, q_i12000, q_i32512, q_i32768, q_i131072, q_j0, q_j1, q_j2, q_j3, q_j4, q_j8, q_j256, Nat.one_mul, Nat.zero_add, Nat.add_zero, Nat.sub_zero, Nat.mul_one, q_ofN, hm.k, hm.p8, hm.k8, hm.n8, hls, h13]; done)) | (with_reducible refine zEk.in_ ?_ ?_; focus (simp (disch := omega) only [zlet, w_i_k, w_i_n, w_i_i, w_i_j, w_i_p, w_i_s, w_j_k, w_j_n, w_j_i, w_j_j, w_j_p, w_j_s, w_p_k, w_p_n, w_p_i, w_p_j, w_p_p, w_p_s, w_c_k, w_c_n, w_c_i, w_c_j, w_c_p, w_c_s, w_u_k, w_u_n, w_u_i, w_u_j, w_u_p, w_u_s, q_nf, ↓reduceIte, if_true, if_false, eq_self, and_true, true_and, and_false, false_and, Option.bind_some, ne_eq, not_false_eq_true, not_true_eq_false, nI_add, pk_mul, pk_sub, nI_ac, q_tlt, q_flt, q_tle, q_fle, q_teq, q_feq, q_tin, nI_cl, q_m1, q_m2, q_m3, q_m4, q_m5, q_m6, q_m7, q_l1, q_l2, q_l3, q_l4, q_l5, q_l6, lN_add, lN_mul, lN_sub, lN_i, nI_l, q_rem, q_rem2, q_div, q_shl, q_shr, q_i0, q_i1, q_i2, q_i3, q_i4, q_i5, q_i6, q_i7, q_i8, q_i9, q_i10, q_i11, q_i12, q_i14, q_i15, q_i16, q_i17, q_i18, q_i19, q_i20, q_i22, q_i24, q_i26, q_i28, q_i30, q_i31, q_i32, q_i35, q_i36, q_i38, q_i40, q_i42, q_i43, q_i48, q_i51, q_i52, q_i56, q_i63, q_i64, q_i67, q_i80, q_i95, q_i99, q_i126, q_i127, q_i128, q_i255, q_i256, q_i512, q_i1024, q_i12000, q_i32512, q_i32768, q_i131072, q_j0, q_j1, q_j2, q_j3, q_j4, q_j8, q_j256, Nat.one_mul, Nat.zero_add, Nat.add_zero, Nat.sub_zero, Nat.mul_one, q_ofN, hm.k, hm.p8, hm.k8, hm.n8, hls, h13]; done))
      exact l53.app (h := fun n k4 => (k4, f_Mo_layCells_14 O k4 n)) i3
    · have hst2 : cum (amu w) (256 * a + (s + 1)) = cum (amu w) (256 * a + s) := by rw [hst, if_neg c1]; rfl
      rw [if_neg c1] at hst
      obtain ⟨gc', i1, i3⟩ := ih (s + 1) (by omega) gc (fun c hc => hgc c (by omega))
      refine ⟨gc', i1, zEk.succ ?_⟩
      have key : zEk (fun n (k4 : Nat → Int32 → Int32 → zM → Option (Unit × zM)) => f_Mo_layCells_79 O k4 (f_Mo_layCells_14 O k4 n) n m (nI (cum (amu w) (256 * a + s))) (nI (a + 1)) (nI s) (w_u M (m + 9) gc)) (fun k4 => k4 m (nI (cum (amu w) (256 * a + 256))) (nI (a + 2)) (w_u M (m + 9) gc')) := by
        refine i3.to fun n K => ?_
        unfold f_Mo_layCells_79
        simp (disch := omega) only [zlet, w_i_k, w_i_n, w_i_i, w_i_j, w_i_p, w_i_s, w_j_k, w_j_n, w_j_i, w_j_j, w_j_p, w_j_s, w_p_k, w_p_n, w_p_i, w_p_j, w_p_p, w_p_s, w_c_k, w_c_n, w_c_i, w_c_j, w_c_p, w_c_s, w_u_k, w_u_n, w_u_i, w_u_j, w_u_p, w_u_s, q_nf, ↓reduceIte, if_true, if_false, eq_self, and_true, true_and, and_false, false_and, Option.bind_some, ne_eq, not_false_eq_true, not_true_eq_false, nI_add, pk_mul, pk_sub, nI_ac, q_tlt, q_flt, q_tle, q_fle, q_teq, q_feq, q_tin, nI_cl, q_m1, q_m2, q_m3, q_m4, q_m5, q_m6, q_m7, q_l1, q_l2, q_l3, q_l4, q_l5, q_l6, lN_add, lN_mul, lN_sub, lN_i, nI_l, q_rem, q_rem2, q_div, q_shl, q_shr, q_i0, q_i1, q_i2, q_i3, q_i4, q_i5, q_i6, q_i7, q_i8, q_i9, q_i10, q_i11, q_i12, q_i14, q_i15, q_i16, q_i17, q_i18, q_i19, q_i20, q_i22, q_i24, q_i26, q_i28, q_i30, q_i31, q_i32, q_i35, q_i36, q_i38, q_i40, q_i42, q_i43, q_i48, q_i51, q_i52, q_i56, q_i63, q_i64, q_i67, q_i80, q_i95, q_i99, q_i126, q_i127, q_i128, q_i255, q_i256, q_i512, q_i1024, q_i12000, q_i32512, q_i32768, q_i131072, q_j0, q_j1, q_j2, q_j3, q_j4, q_j8, q_j256, Nat.one_mul, Nat.zero_add, Nat.add_zero, Nat.sub_zero, Nat.mul_one, q_ofN]
        rw [hst2]
      simp only [f_Mo_layCells_14]
      by_cases c0 : w s = 0
      · have e1 : lnS t w s = 0 := by unfold lnS; rw [if_neg (by omega)]
        rw [e1] at hls
        repeat first | with_reducible refine zEk.zl ?_ | (with_reducible refine zEk.ip ?_ ?_; focus (simp only [hm.k, hm.p8, hm.k8, hm.n8, hls, h13]; done)) | (with_reducible refine zEk.ip ?_ ?_; focus (simp (disch := omega) only [zlet, w_i_k, w_i_n, w_i_i, w_i_j, w_i_p, w_i_s, w_j_k, w_j_n, w_j_i, w_j_j, w_j_p, w_j_s, w_p_k, w_p_n, w_p_i, w_p_j, w_p_p, w_p_s, w_c_k, w_c_n, w_c_i, w_c_j, w_c_p, w_c_s, w_u_k, w_u_n, w_u_i, w_u_j, w_u_p, w_u_s, q_nf, ↓reduceIte, if_true, if_false, eq_self, and_true, true_and, and_false, false_and, Option.bind_some, ne_eq, not_false_eq_true, not_true_eq_false, nI_add, pk_mul, pk_sub, nI_ac, q_tlt, q_flt, q_tle, q_fle, q_teq, q_feq, q_tin, nI_cl, q_m1, q_m2, q_m3, q_m4, q_m5, q_m6, q_m7, q_l1, q_l2, q_l3, q_l4, q_l5, q_l6, lN_add, lN_mul, lN_sub, lN_i, nI_l, q_rem, q_rem2, q_div, q_shl, q_shr, q_i0, q_i1, q_i2, q_i3, q_i4, q_i5, q_i6, q_i7, q_i8, q_i9, q_i10, q_i11, q_i12, q_i14, q_i15, q_i16, q_i17, q_i18, q_i19, q_i20, q_i22, q_i24, q_i26, q_i28, q_i30, q_i31, q_i32, q_i35, q_i36, q_i38, q_i40, q_i42, q_i43, q_i48, q_i51, q_i52, q_i56, q_i63, q_i64, q_i67, q_i80, q_i95, q_i99, q_i126, q_i127, q_i128, q_i255, q_i256, q_i512, q_i1024, q_i12000, q_i32512, q_i32768, q_i131072, q_j0, q_j1, q_j2, q_j3, q_j4, q_j8, q_j256, Nat.one_mul, Nat.zero_add, Nat.add_zero, Nat.sub_zero, Nat.mul_one, q_ofN, hm.k, hm.p8, hm.k8, hm.n8, hls, h13]; done)) | (with_reducible refine zEk.in_ ?_ ?_; focus (simp (disch := omega) only [zlet, w_i_k, w_i_n, w_i_i, w_i_j, w_i_p, w_i_s, w_j_k, w_j_n, w_j_i, w_j_j, w_j_p, w_j_s, w_p_k, w_p_n, w_p_i, w_p_j, w_p_p, w_p_s, w_c_k, w_c_n, w_c_i, w_c_j, w_c_p, w_c_s, w_u_k, w_u_n, w_u_i, w_u_j, w_u_p, w_u_s, q_nf, ↓reduceIte, if_true, if_false, eq_self, and_true, true_and, and_false, false_and, Option.bind_some, ne_eq, not_false_eq_true, not_true_eq_false, nI_add, pk_mul, pk_sub, nI_ac, q_tlt, q_flt, q_tle, q_fle, q_teq, q_feq, q_tin, nI_cl, q_m1, q_m2, q_m3, q_m4, q_m5, q_m6, q_m7, q_l1, q_l2, q_l3, q_l4, q_l5, q_l6, lN_add, lN_mul, lN_sub, lN_i, nI_l, q_rem, q_rem2, q_div, q_shl, q_shr, q_i0, q_i1, q_i2, q_i3, q_i4, q_i5, q_i6, q_i7, q_i8, q_i9, q_i10, q_i11, q_i12, q_i14, q_i15, q_i16, q_i17, q_i18, q_i19, q_i20, q_i22, q_i24, q_i26, q_i28, q_i30, q_i31, q_i32, q_i35, q_i36, q_i38, q_i40, q_i42, q_i43, q_i48, q_i51, q_i52, q_i56, q_i63, q_i64, q_i67, q_i80, q_i95, q_i99, q_i126, q_i127, q_i128, q_i255, q_i256, q_i512, q_i1024, q_i12000, q_i32512, q_i32768, q_i131072, q_j0, q_j1, q_j2, q_j3, q_j4, q_j8, q_j256, Nat.one_mul, Nat.zero_add, Nat.add_zero, Nat.sub_zero, Nat.mul_one, q_ofN, hm.k, hm.p8, hm.k8, hm.n8, hls, h13]; done))
        exact key
      · have e1 : lnS t w s = t + 1 - w s := by unfold lnS; rw [if_pos (by omega)]
        rw [e1] at hls
        repeat first | with_reducible refine zEk.zl ?_ | (with_reducible refine zEk.ip ?_ ?_; focus (simp only [hm.k, hm.p8, hm.k8, hm.n8, hls, h13]; done)) | (with_reducible refine zEk.ip ?_ ?_; focus (simp (disch := omega) only [zlet, w_i_k, w_i_n, w_i_i, w_i_j, w_i_p, w_i_s, w_j_k, w_j_n, w_j_i, w_j_j, w_j_p, w_j_s, w_p_k, w_p_n, w_p_i, w_p_j, w_p_p, w_p_s, w_c_k, w_c_n, w_c_i, w_c_j, w_c_p, w_c_s, w_u_k, w_u_n, w_u_i, w_u_j, w_u_p, w_u_s, q_nf, ↓reduceIte, if_true, if_false, eq_self, and_true, true_and, and_false, false_and, Option.bind_some, ne_eq, not_false_eq_true, not_true_eq_false, nI_add, pk_mul, pk_sub, nI_ac, q_tlt, q_flt, q_tle, q_fle, q_teq, q_feq, q_tin, nI_cl, q_m1, q_m2, q_m3, q_m4, q_m5, q_m6, q_m7, q_l1, q_l2, q_l3, q_l4, q_l5, q_l6, lN_add, lN_mul, lN_sub, lN_i, nI_l, q_rem, q_rem2, q_div, q_shl, q_shr, q_i0, q_i1, q_i2, q_i3, q_i4, q_i5, q_i6, q_i7, q_i8, q_i9, q_i10, q_i11, q_i12, q_i14, q_i15, q_i16, q_i17, q_i18, q_i19, q_i20, q_i22, q_i24, q_i26, q_i28, q_i30, q_i31, q_i32, q_i35, q_i36, q_i38, q_i40, q_i42, q_i43, q_i48, q_i51, q_i52, q_i56, q_i63, q_i64, q_i67, q_i80, q_i95, q_i99, q_i126, q_i127, q_i128, q_i255, q_i256, q_i512, q_i1024, q_i12000, q_i32512, q_i32768, q_i131072, q_j0, q_j1, q_j2, q_j3, q_j4, q_j8, q_j256, Nat.one_mul, Nat.zero_add, Nat.add_zero, Nat.sub_zero, Nat.mul_one, q_ofN, hm.k, hm.p8, hm.k8, hm.n8, hls, h13]; done)) | (with_reducible refine zEk.in_ ?_ ?_; focus (simp (disch := omega) only [zlet, w_i_k, w_i_n, w_i_i, w_i_j, w_i_p, w_i_s, w_j_k, w_j_n, w_j_i, w_j_j, w_j_p, w_j_s, w_p_k, w_p_n, w_p_i, w_p_j, w_p_p, w_p_s, w_c_k, w_c_n, w_c_i, w_c_j, w_c_p, w_c_s, w_u_k, w_u_n, w_u_i, w_u_j, w_u_p, w_u_s, q_nf, ↓reduceIte, if_true, if_false, eq_self, and_true, true_and, and_false, false_and, Option.bind_some, ne_eq, not_false_eq_true, not_true_eq_false, nI_add, pk_mul, pk_sub, nI_ac, q_tlt, q_flt, q_tle, q_fle, q_teq, q_feq, q_tin, nI_cl, q_m1, q_m2, q_m3, q_m4, q_m5, q_m6, q_m7, q_l1, q_l2, q_l3, q_l4, q_l5, q_l6, lN_add, lN_mul, lN_sub, lN_i, nI_l, q_rem, q_rem2, q_div, q_shl, q_shr, q_i0, q_i1, q_i2, q_i3, q_i4, q_i5, q_i6, q_i7, q_i8, q_i9, q_i10, q_i11, q_i12, q_i14, q_i15, q_i16, q_i17, q_i18, q_i19, q_i20, q_i22, q_i24, q_i26, q_i28, q_i30, q_i31, q_i32, q_i35, q_i36, q_i38, q_i40, q_i42, q_i43, q_i48, q_i51, q_i52, q_i56, q_i63, q_i64, q_i67, q_i80, q_i95, q_i99, q_i126, q_i127, q_i128, q_i255, q_i256, q_i512, q_i1024, q_i12000, q_i32512, q_i32768, q_i131072, q_j0, q_j1, q_j2, q_j3, q_j4, q_j8, q_j256, Nat.one_mul, Nat.zero_add, Nat.add_zero, Nat.sub_zero, Nat.mul_one, q_ofN, hm.k, hm.p8, hm.k8, hm.n8, hls, h13]; done))
        exact key
theorem l_layCells4 {O : zO} {M : zM} {m t : Nat} {w : Nat → Nat} (hm : zMo M m) (h13 : z_i M m 13 = nI t) (hl : ∀ s, s < 256 → z_i M (m + 8) s = nI (lnS t w s)) (hCW : zCW t w) : ∀ d a, a + d = t → ∀ gc, (∀ c, c < cum (amu w) (256 * a) → gc c = nI (clS t w c)) → ∃ gc', (∀ c, c < 2 ^ t → gc' c = nI (clS t w c)) ∧
    zEv (fun n => f_Mo_layCells_4 O n m (nI (cum (amu w) (256 * a))) (nI (a + 1)) (w_u M (m + 9) gc)) ((), w_u M (m + 9) gc') := by
  have ht := hCW.2.1
  have mk := hm.k
  intro d
  induction d with
  | zero =>
    intro a ha gc hgc
    have e : a = t := by omega
    subst e
    rw [cum_CW hCW] at hgc ⊢
    refine ⟨gc, hgc, zEv.succ ((zEv.some _).to fun n => ?_)⟩
    rw [f_Mo_layCells_4]
    simp (disch := omega) only [zlet, w_i_k, w_i_n, w_i_i, w_i_j, w_i_p, w_i_s, w_j_k, w_j_n, w_j_i, w_j_j, w_j_p, w_j_s, w_p_k, w_p_n, w_p_i, w_p_j, w_p_p, w_p_s, w_c_k, w_c_n, w_c_i, w_c_j, w_c_p, w_c_s, w_u_k, w_u_n, w_u_i, w_u_j, w_u_p, w_u_s, q_nf, ↓reduceIte, if_true, if_false, eq_self, and_true, true_and, and_false, false_and, Option.bind_some, ne_eq, not_false_eq_true, not_true_eq_false, nI_add, pk_mul, pk_sub, nI_ac, q_tlt, q_flt, q_tle, q_fle, q_teq, q_feq, q_tin, nI_cl, q_m1, q_m2, q_m3, q_m4, q_m5, q_m6, q_m7, q_l1, q_l2, q_l3, q_l4, q_l5, q_l6, lN_add, lN_mul, lN_sub, lN_i, nI_l, q_rem, q_rem2, q_div, q_shl, q_shr, q_i0, q_i1, q_i2, q_i3, q_i4, q_i5, q_i6, q_i7, q_i8, q_i9, q_i10, q_i11, q_i12, q_i14, q_i15, q_i16, q_i17, q_i18, q_i19, q_i20, q_i22, q_i24, q_i26, q_i28, q_i30, q_i31, q_i32, q_i35, q_i36, q_i38, q_i40, q_i42, q_i43, q_i48, q_i51, q_i52, q_i56, q_i63, q_i64, q_i67, q_i80, q_i95, q_i99, q_i126, q_i127, q_i128, q_i255, q_i256, q_i512, q_i1024, q_i12000, q_i32512, q_i32768, q_i131072, q_j0, q_j1, q_j2, q_j3, q_j4, q_j8, q_j256, Nat.one_mul, Nat.zero_add, Nat.add_zero, Nat.sub_zero, Nat.mul_one, q_ofN, mk, h13]
  | succ d ih =>
    intro a ha gc hgc
    obtain ⟨gc1, j1, j3⟩ := l_layCells14 (O := O) (a := a) hm h13 hl hCW (by omega) 256 0 (by omega) gc hgc
    obtain ⟨gc', i1, i3⟩ := ih (a + 1) (by omega) gc1 j1
    refine ⟨gc', i1, zEv.succ ?_⟩
    simp only [f_Mo_layCells_4]
    repeat first | with_reducible refine zEv.zl ?_ | (with_reducible refine zEv.ip ?_ ?_; focus (simp only [mk, h13]; done)) | (with_reducible refine zEv.ip ?_ ?_; focus (simp (disch := omega) only [zlet, w_i_k, w_i_n, w_i_i, w_i_j, w_i_p, w_i_s, w_j_k, w_j_n, w_j_i, w_j_j, w_j_p, w_j_s, w_p_k, w_p_n, w_p_i, w_p_j, w_p_p, w_p_s, w_c_k, w_c_n, w_c_i, w_c_j, w_c_p, w_c_s, w_u_k, w_u_n, w_u_i, w_u_j, w_u_p, w_u_s, q_nf, ↓reduceIte, if_true, if_false, eq_self, and_true, true_and, and_false, false_and, Option.bind_some, ne_eq, not_false_eq_true, not_true_eq_false, nI_add, pk_mul, pk_sub, nI_ac, q_tlt, q_flt, q_tle, q_fle, q_teq, q_feq, q_tin, nI_cl, q_m1, q_m2, q_m3, q_m4, q_m5, q_m6, q_m7, q_l1, q_l2, q_l3, q_l4, q_l5, q_l6, lN_add, lN_mul, lN_sub, lN_i, nI_l, q_rem, q_rem2, q_div, q_shl, q_shr, q_i0, q_i1, q_i2, q_i3, q_i4, q_i5, q_i6, q_i7, q_i8, q_i9, q_i10, q_i11, q_i12, q_i14, q_i15, q_i16, q_i17, q_i18, q_i19, q_i20, q_i22, q_i24, q_i26, q_i28, q_i30, q_i31, q_i32, q_i35, q_i36, q_i38, q_i40, q_i42, q_i43, q_i48, q_i51, q_i52, q_i56, q_i63, q_i64, q_i67, q_i80, q_i95, q_i99, q_i126, q_i127, q_i128, q_i255, q_i256, q_i512, q_i1024, q_i12000, q_i32512, q_i32768, q_i131072, q_j0, q_j1, q_j2, q_j3, q_j4, q_j8, q_j256, Nat.one_mul, Nat.zero_add, Nat.add_zero, Nat.sub_zero, Nat.mul_one, q_ofN, mk, h13]; done)) | (with_reducible refine zEv.in_ ?_ ?_; focus (simp (disch := omega) only [zlet, w_i_k, w_i_n, w_i_i, w_i_j, w_i_p, w_i_s, w_j_k, w_j_n, w_j_i, w_j_j, w_j_p, w_j_s, w_p_k, w_p_n, w_p_i, w_p_j, w_p_p, w_p_s, w_c_k, w_c_n, w_c_i, w_c_j, w_c_p, w_c_s, w_u_k, w_u_n, w_u_i, w_u_j, w_u_p, w_u_s, q_nf, ↓reduceIte, if_true, if_false, eq_self, and_true, true_and, and_false, false_and, Option.bind_some, ne_eq, not_false_eq_true, not_true_eq_false, nI_add, pk_mul, pk_sub, nI_ac, q_tlt, q_flt, q_tle, q_fle, q_teq, q_feq, q_tin, nI_cl, q_m1, q_m2, q_m3, q_m4, q_m5, q_m6, q_m7, q_l1, q_l2, q_l3, q_l4, q_l5, q_l6, lN_add, lN_mul, lN_sub, lN_i, nI_l, q_rem, q_rem2, q_div, q_shl, q_shr, q_i0, q_i1, q_i2, q_i3, q_i4, q_i5, q_i6, q_i7, q_i8, q_i9, q_i10, q_i11, q_i12, q_i14, q_i15, q_i16, q_i17, q_i18, q_i19, q_i20, q_i22, q_i24, q_i26, q_i28, q_i30, q_i31, q_i32, q_i35, q_i36, q_i38, q_i40, q_i42, q_i43, q_i48, q_i51, q_i52, q_i56, q_i63, q_i64, q_i67, q_i80, q_i95, q_i99, q_i126, q_i127, q_i128, q_i255, q_i256, q_i512, q_i1024, q_i12000, q_i32512, q_i32768, q_i131072, q_j0, q_j1, q_j2, q_j3, q_j4, q_j8, q_j256, Nat.one_mul, Nat.zero_add, Nat.add_zero, Nat.sub_zero, Nat.mul_one, q_ofN, mk, h13]; done))
    exact j3.use (k := fun n => f_Mo_layCells_4 O n) i3
theorem c_Mo_layCells {O : zO} {M : zM} {m t : Nat} {w : Nat → Nat} (hm : zMo M m) (h13 : z_i M m 13 = nI t) (hl : ∀ s, s < 256 → z_i M (m + 8) s = nI (lnS t w s)) (hCW : zCW t w) : ∃ g, (∀ c, c < 2 ^ t → g c = nI (clS t w c)) ∧ zEv (fun n => F_Mo_layCells O n m M) ((), w_u M (m + 9) g) := by
  obtain ⟨g, g1, g2⟩ := l_layCells4 (O := O) hm h13 hl hCW t 0 (by omega) (z_i M (m + 9)) (fun c hc => by rw [show cum (amu w) (256 * 0) = 0 from rfl] at hc; omega)
  refine ⟨g, g1, g2.to fun n => ?_⟩
  rw [w_u_self]
  rfl
theorem c_Mo_isPower {O : zO} {M : zM} {m v : Nat} (h0 : 0 < v) (hv : v < 4096) : zEv (fun n => F_Mo_isPower O n m (nI v) M) (if 2 ^ hib v = v then 1 else 0, M) := by
  have hb : hib v < 12 := hib_lt (by omega) h0
  have hp : 2 ^ hib v ≤ 2 ^ 11 := Nat.pow_le_pow_right (by omega) (by omega)
  have e1 : (1 : Int32) <<< (nI (hib v) &&& 31) = nI (2 ^ hib v) := by rw [show (1 : Int32) = nI 1 from rfl, nI_shl (by omega) (by omega), Nat.one_mul]
  unfold F_Mo_isPower f_Mo_isPower_0 f_Mo_isPower_18 f_Mo_isPower_19
  repeat first | with_reducible refine zEv.zl ?_ | (with_reducible refine zEv.ip ?_ ?_; focus (fail; done)) | (with_reducible refine zEv.ip ?_ ?_; focus (simp (disch := omega) only [zlet, w_i_k, w_i_n, w_i_i, w_i_j, w_i_p, w_i_s, w_j_k, w_j_n, w_j_i, w_j_j, w_j_p, w_j_s, w_p_k, w_p_n, w_p_i, w_p_j, w_p_p, w_p_s, w_c_k, w_c_n, w_c_i, w_c_j, w_c_p, w_c_s, w_u_k, w_u_n, w_u_i, w_u_j, w_u_p, w_u_s, q_nf, ↓reduceIte, if_true, if_false, eq_self, and_true, true_and, and_false, false_and, Option.bind_some, ne_eq, not_false_eq_true, not_true_eq_false, nI_add, pk_mul, pk_sub, nI_ac, q_tlt, q_flt, q_tle, q_fle, q_teq, q_feq, q_tin, nI_cl, q_m1, q_m2, q_m3, q_m4, q_m5, q_m6, q_m7, q_l1, q_l2, q_l3, q_l4, q_l5, q_l6, lN_add, lN_mul, lN_sub, lN_i, nI_l, q_rem, q_rem2, q_div, q_shl, q_shr, q_i0, q_i1, q_i2, q_i3, q_i4, q_i5, q_i6, q_i7, q_i8, q_i9, q_i10, q_i11, q_i12, q_i14, q_i15, q_i16, q_i17, q_i18, q_i19, q_i20, q_i22, q_i24, q_i26, q_i28, q_i30, q_i31, q_i32, q_i35, q_i36, q_i38, q_i40, q_i42, q_i43, q_i48, q_i51, q_i52, q_i56, q_i63, q_i64, q_i67, q_i80, q_i95, q_i99, q_i126, q_i127, q_i128, q_i255, q_i256, q_i512, q_i1024, q_i12000, q_i32512, q_i32768, q_i131072, q_j0, q_j1, q_j2, q_j3, q_j4, q_j8, q_j256, Nat.one_mul, Nat.zero_add, Nat.add_zero, Nat.sub_zero, Nat.mul_one, q_ofN]; done)) | (with_reducible refine zEv.in_ ?_ ?_; focus (simp (disch := omega) only [zlet, w_i_k, w_i_n, w_i_i, w_i_j, w_i_p, w_i_s, w_j_k, w_j_n, w_j_i, w_j_j, w_j_p, w_j_s, w_p_k, w_p_n, w_p_i, w_p_j, w_p_p, w_p_s, w_c_k, w_c_n, w_c_i, w_c_j, w_c_p, w_c_s, w_u_k, w_u_n, w_u_i, w_u_j, w_u_p, w_u_s, q_nf, ↓reduceIte, if_true, if_false, eq_self, and_true, true_and, and_false, false_and, Option.bind_some, ne_eq, not_false_eq_true, not_true_eq_false, nI_add, pk_mul, pk_sub, nI_ac, q_tlt, q_flt, q_tle, q_fle, q_teq, q_feq, q_tin, nI_cl, q_m1, q_m2, q_m3, q_m4, q_m5, q_m6, q_m7, q_l1, q_l2, q_l3, q_l4, q_l5, q_l6, lN_add, lN_mul, lN_sub, lN_i, nI_l, q_rem, q_rem2, q_div, q_shl, q_shr, q_i0, q_i1, q_i2, q_i3, q_i4, q_i5, q_i6, q_i7, q_i8, q_i9, q_i10, q_i11, q_i12, q_i14, q_i15, q_i16, q_i17, q_i18, q_i19, q_i20, q_i22, q_i24, q_i26, q_i28, q_i30, q_i31, q_i32, q_i35, q_i36, q_i38, q_i40, q_i42, q_i43, q_i48, q_i51, q_i52, q_i56, q_i63, q_i64, q_i67, q_i80, q_i95, q_i99, q_i126, q_i127, q_i128, q_i255, q_i256, q_i512, q_i1024, q_i12000, q_i32512, q_i32768, q_i131072, q_j0, q_j1, q_j2, q_j3, q_j4, q_j8, q_j256, Nat.one_mul, Nat.zero_add, Nat.add_zero, Nat.sub_zero, Nat.mul_one, q_ofN]; done))
  refine zEv.bind (c_Mo_highest h0 (by omega)) ?_
  dsimp only
  rw [e1]
  by_cases c : 2 ^ hib v = v
  · rw [if_pos c]
    refine zEv.ip (by rw [c]) ((zEv.some _).to fun n => if_pos (Or.inr rfl))
  · rw [if_neg c]
    refine zEv.in_ (fun w => c ((nI_eq (by omega) (by omega)).mp w)) ((zEv.some _).to fun n => if_pos (Or.inl rfl))
