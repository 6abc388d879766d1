/-! The reference's lay. -/
def w_4 (M : zM) (a b c d : Nat) (N T B E : Nat → Int32) : zM := w_u (w_u (w_u (w_u M a N) b T) c B) d E
theorem w_4_k (M : zM) (a b c d : Nat) (N T B E : Nat → Int32) : z_k (w_4 M a b c d N T B E) = z_k M := rfl
theorem w_4_n (M : zM) (a b c d : Nat) (N T B E : Nat → Int32) : z_n (w_4 M a b c d N T B E) = z_n M := rfl
theorem w_4_j (M : zM) (a b c d : Nat) (N T B E : Nat → Int32) : z_j (w_4 M a b c d N T B E) = z_j M := rfl
theorem w_4_p (M : zM) (a b c d : Nat) (N T B E : Nat → Int32) : z_p (w_4 M a b c d N T B E) = z_p M := rfl
theorem w_4_s (M : zM) (a b c d : Nat) (N T B E : Nat → Int32) : z_s (w_4 M a b c d N T B E) = z_s M := rfl
theorem w_4_i (M : zM) (a b c d : Nat) (N T B E : Nat → Int32) (q j : Nat) : z_i (w_4 M a b c d N T B E) q j = if q = d then E j else if q = c then B j else if q = b then T j else if q = a then N j else z_i M q j := rfl
theorem w_4_1 {M : zM} {a b c d k : Nat} {x : Int32} {N T B E : Nat → Int32} (h1 : b ≠ a) (h2 : c ≠ a) (h3 : d ≠ a) : w_i (w_4 M a b c d N T B E) a k x = w_4 M a b c d (upd N k x) T B E := by
  unfold w_4
  rw [w_i_w, w_u_c _ _ _ h3, w_u_c _ _ _ h2, w_u_c _ _ _ h1, w_u_u]
  congr 5
  funext j
  simp only [w_u_i, if_neg h1.symm, if_neg h2.symm, if_neg h3.symm, if_true]
theorem w_4_2 {M : zM} {a b c d k : Nat} {x : Int32} {N T B E : Nat → Int32} (h2 : c ≠ b) (h3 : d ≠ b) : w_i (w_4 M a b c d N T B E) b k x = w_4 M a b c d N (upd T k x) B E := by
  unfold w_4
  rw [w_i_w, w_u_c _ _ _ h3, w_u_c _ _ _ h2, w_u_u]
  congr 4
  funext j
  simp only [w_u_i, if_neg h2.symm, if_neg h3.symm, if_true]
theorem w_4_3 {M : zM} {a b c d k : Nat} {x : Int32} {N T B E : Nat → Int32} (h3 : d ≠ c) : w_i (w_4 M a b c d N T B E) c k x = w_4 M a b c d N T (upd B k x) E := by
  unfold w_4
  rw [w_i_w, w_u_c _ _ _ h3, w_u_u]
  congr 3
  funext j
  simp only [w_u_i, if_neg h3.symm, if_true]
theorem w_4_4 {M : zM} {a b c d k : Nat} {x : Int32} {N T B E : Nat → Int32} : w_i (w_4 M a b c d N T B E) d k x = w_4 M a b c d N T B (upd E k x) := by
  unfold w_4
  rw [w_i_w, w_u_u]
  congr 2
  funext j
  simp only [w_u_i, if_true]
/-- what lies outside a stretch stays -/
def oS (r n : Nat) (g g' : Nat → Int32) : Prop := ∀ j, j < r ∨ r + n ≤ j → g' j = g j
theorem oS.rf {r n : Nat} {g : Nat → Int32} : oS r n g g := fun _ _ => rfl
theorem oS.tr {r n : Nat} {g g1 g2 : Nat → Int32} (h : oS r n g g1) (h2 : oS r n g1 g2) : oS r n g g2 := fun j hj => (h2 j hj).trans (h j hj)
theorem oS.up {r n k : Nat} {g : Nat → Int32} {x : Int32} (hk : k < n) : oS r n g (upd g (r + k) x) := fun j hj => by rw [upd_at, if_neg (by omega)]
theorem upd_sh (g : Nat → Int32) (r a : Nat) (x : Int32) : (fun k => upd g (r + a) x (r + k)) = upd (fun k => g (r + k)) a x := by
  funext k
  rw [upd_at, upd_at]
  by_cases c : k = a
  · rw [if_pos c, if_pos (by omega)]
  · rw [if_neg c, if_neg (by omega)]
/-- where the reference lays: its object m, points at pa from fr on, NN symbols; symbols, bits, bases at ps pb pc from rw on -/
def zLy (M : zM) (m pa fr NN ps pb pc rw o : Nat) (u : Nat → Nat) : Prop := z_k M m = 13 ∧ z_p M m 24 = m + 18 ∧ z_k M (m + 18) = 100 ∧ z_n M (m + 18) = 256 ∧ z_k M pa = 100 ∧ z_n M pa ≤ 4096 ∧ fr + NN ≤ z_n M pa ∧ z_k M ps = 100 ∧ z_n M ps ≤ 4096 ∧ rw + 2 ^ o ≤ z_n M ps ∧ z_k M pb = 100 ∧ z_n M pb = z_n M ps ∧ z_k M pc = 100 ∧ z_n M pc = z_n M ps ∧ (∀ s, s < NN → z_i M pa (fr + s) = nI (u s) - 1) ∧ m < pa ∧ pa < ps ∧ ps < pb ∧ pb < pc ∧ pa < m + 18 ∧ (pc < m + 18 ∨ m + 18 < ps) ∧ NN ≤ 64
theorem l_m9 {O : zO} {M : zM} {m pa fr NN ps pb pc rw o last : Nat} {u : Nat → Nat} (h : zLy M m pa fr NN ps pb pc rw o u) (hu : zSh o last u) : ∀ d k, k + d = 2 ^ o → ∀ g, (∀ j, j < k → g (rw + j) = -1) → ∃ g', (∀ j, j < 2 ^ o → g' (rw + j) = -1) ∧ oS rw (2 ^ o) g g' ∧ ∀ α, zEv (fun n => f_Mo_lay_38 O n m pa (nI fr) (nI NN) (nI o) ps pb pc (nI rw) (nI (2 ^ o)) (nI (2 ^ o)) 0 (w_u M ps g')) α → zEv (fun n => f_Mo_lay_9 O n m pa (nI fr) (nI NN) (nI o) ps pb pc (nI rw) (nI (2 ^ o)) (nI k) (w_u M ps g)) α := by
  obtain ⟨a1, a2, a3, a4, a5, a6, a7, a8, a9, a10, a11, a12, a13, a14, a15, b1, b2, b3, b4, b5, b6, b7⟩ := h
  have hp := pw_9 hu.2.1
  intro d
  induction d with
  | zero =>
    intro k hk g hg
    refine ⟨g, fun j hj => hg j (by omega), oS.rf, fun α hα => zEv.succ (hα.to fun n => ?_)⟩
    rw [f_Mo_lay_9]
    simp (disch := omega) only [zlet, w_i_k, w_i_n, w_i_i, w_i_j, w_i_p, w_i_s, w_j_k, w_j_n, w_j_i, w_j_j, w_j_p, w_j_s, w_p_k, w_p_n, w_p_i, w_p_j, w_p_p, w_p_s, w_c_k, w_c_n, w_c_i, w_c_j, w_c_p, w_c_s, w_u_k, w_u_n, w_u_i, w_u_j, w_u_p, w_u_s, q_nf, ↓reduceIte, if_true, if_false, eq_self, and_true, true_and, and_false, false_and, Option.bind_some, ne_eq, not_false_eq_true, not_true_eq_false, nI_add, pk_mul, pk_sub, nI_ac, q_tlt, q_flt, q_tle, q_fle, q_teq, q_feq, q_tin, nI_cl, q_m1, q_m2, q_m3, q_m4, q_m5, q_m6, q_m7, q_l1, q_l2, q_l3, q_l4, q_l5, q_l6, lN_add, lN_mul, lN_sub, lN_i, nI_l, q_rem, q_rem2, q_div, q_shl, q_shr, q_i0, q_i1, q_i2, q_i3, q_i4, q_i5, q_i6, q_i7, q_i8, q_i9, q_i10, q_i11, q_i12, q_i14, q_i15, q_i16, q_i17, q_i18, q_i19, q_i20, q_i22, q_i24, q_i26, q_i28, q_i30, q_i31, q_i32, q_i35, q_i36, q_i38, q_i40, q_i42, q_i43, q_i48, q_i51, q_i52, q_i56, q_i63, q_i64, q_i67, q_i80, q_i95, q_i99, q_i126, q_i127, q_i128, q_i255, q_i256, q_i512, q_i1024, q_i12000, q_i32512, q_i32768, q_i131072, q_j0, q_j1, q_j2, q_j3, q_j4, q_j8, q_j256, Nat.one_mul, Nat.zero_add, Nat.add_zero, Nat.sub_zero, Nat.mul_one, q_ofN]
  | succ d ih =>
    intro k hk g hg
    obtain ⟨g', g1, g2, g3⟩ := ih (k + 1) (by omega) (upd g (rw + k) (-1)) (fun j hj => by
      rw [upd_at]
      by_cases c : j = k
      · rw [if_pos (by omega)]
      · rw [if_neg (by omega)]; exact hg j (by omega))
    refine ⟨g', g1, (oS.up (by omega)).tr g2, fun α hα => zEv.succ ((g3 α hα).to fun n => ?_)⟩
    rw [f_Mo_lay_9]
    simp (disch := omega) only [zlet, w_i_k, w_i_n, w_i_i, w_i_j, w_i_p, w_i_s, w_j_k, w_j_n, w_j_i, w_j_j, w_j_p, w_j_s, w_p_k, w_p_n, w_p_i, w_p_j, w_p_p, w_p_s, w_c_k, w_c_n, w_c_i, w_c_j, w_c_p, w_c_s, w_u_k, w_u_n, w_u_i, w_u_j, w_u_p, w_u_s, q_nf, ↓reduceIte, if_true, if_false, eq_self, and_true, true_and, and_false, false_and, Option.bind_some, ne_eq, not_false_eq_true, not_true_eq_false, nI_add, pk_mul, pk_sub, nI_ac, q_tlt, q_flt, q_tle, q_fle, q_teq, q_feq, q_tin, nI_cl, q_m1, q_m2, q_m3, q_m4, q_m5, q_m6, q_m7, q_l1, q_l2, q_l3, q_l4, q_l5, q_l6, lN_add, lN_mul, lN_sub, lN_i, nI_l, q_rem, q_rem2, q_div, q_shl, q_shr, q_i0, q_i1, q_i2, q_i3, q_i4, q_i5, q_i6, q_i7, q_i8, q_i9, q_i10, q_i11, q_i12, q_i14, q_i15, q_i16, q_i17, q_i18, q_i19, q_i20, q_i22, q_i24, q_i26, q_i28, q_i30, q_i31, q_i32, q_i35, q_i36, q_i38, q_i40, q_i42, q_i43, q_i48, q_i51, q_i52, q_i56, q_i63, q_i64, q_i67, q_i80, q_i95, q_i99, q_i126, q_i127, q_i128, q_i255, q_i256, q_i512, q_i1024, q_i12000, q_i32512, q_i32768, q_i131072, q_j0, q_j1, q_j2, q_j3, q_j4, q_j8, q_j256, Nat.one_mul, Nat.zero_add, Nat.add_zero, Nat.sub_zero, Nat.mul_one, q_ofN, a8, w_u_w]
theorem l_m38 {O : zO} {M : zM} {m pa fr NN ps pb pc rw o last : Nat} {u : Nat → Nat} (h : zLy M m pa fr NN ps pb pc rw o u) (hu : zSh o last u) : ∀ d s, s + d = NN → ∀ g, hP o u s (fun k => g (rw + k)) → (∀ k, k < 2 ^ o - hcn u s → g (rw + k) = -1) → ∃ g', hP o u NN (fun k => g' (rw + k)) ∧ (∀ k, k < 2 ^ o - hcn u NN → g' (rw + k) = -1) ∧ oS rw (2 ^ o) g g' ∧ ∀ α, zEv (fun n => f_Mo_lay_96 O n m pa (nI fr) (nI NN) (nI o) ps pb pc (nI rw) (nI (2 ^ o)) (nI (stp o)) 0 0 (w_u M ps g')) α → zEv (fun n => f_Mo_lay_38 O n m pa (nI fr) (nI NN) (nI o) ps pb pc (nI rw) (nI (2 ^ o)) (nI (2 ^ o - hcn u s)) (nI s) (w_u M ps g)) α := by
  obtain ⟨a1, a2, a3, a4, a5, a6, a7, a8, a9, a10, a11, a12, a13, a14, a15, b1, b2, b3, b4, b5, b6, b7⟩ := h
  have hp := pw_9 hu.2.1
  intro d
  induction d with
  | zero =>
    intro s hs g hg hg2
    have e : s = NN := by omega
    subst e
    refine ⟨g, hg, hg2, oS.rf, fun α hα => zEv.succ (hα.to fun n => ?_)⟩
    rw [f_Mo_lay_38]
    simp (disch := omega) only [zlet, w_i_k, w_i_n, w_i_i, w_i_j, w_i_p, w_i_s, w_j_k, w_j_n, w_j_i, w_j_j, w_j_p, w_j_s, w_p_k, w_p_n, w_p_i, w_p_j, w_p_p, w_p_s, w_c_k, w_c_n, w_c_i, w_c_j, w_c_p, w_c_s, w_u_k, w_u_n, w_u_i, w_u_j, w_u_p, w_u_s, q_nf, ↓reduceIte, if_true, if_false, eq_self, and_true, true_and, and_false, false_and, Option.bind_some, ne_eq, not_false_eq_true, not_true_eq_false, nI_add, pk_mul, pk_sub, nI_ac, q_tlt, q_flt, q_tle, q_fle, q_teq, q_feq, q_tin, nI_cl, q_m1, q_m2, q_m3, q_m4, q_m5, q_m6, q_m7, q_l1, q_l2, q_l3, q_l4, q_l5, q_l6, lN_add, lN_mul, lN_sub, lN_i, nI_l, q_rem, q_rem2, q_div, q_shl, q_shr, q_i0, q_i1, q_i2, q_i3, q_i4, q_i5, q_i6, q_i7, q_i8, q_i9, q_i10, q_i11, q_i12, q_i14, q_i15, q_i16, q_i17, q_i18, q_i19, q_i20, q_i22, q_i24, q_i26, q_i28, q_i30, q_i31, q_i32, q_i35, q_i36, q_i38, q_i40, q_i42, q_i43, q_i48, q_i51, q_i52, q_i56, q_i63, q_i64, q_i67, q_i80, q_i95, q_i99, q_i126, q_i127, q_i128, q_i255, q_i256, q_i512, q_i1024, q_i12000, q_i32512, q_i32768, q_i131072, q_j0, q_j1, q_j2, q_j3, q_j4, q_j8, q_j256, Nat.one_mul, Nat.zero_add, Nat.add_zero, Nat.sub_zero, Nat.mul_one, q_ofN]
    rfl
  | succ d ih =>
    intro s hs g hg hg2
    have hp1 := a15 s (by omega)
    have hul := u_le hu s
    by_cases c : u s = 0
    · obtain ⟨c1, c2⟩ := hg.up hu (by omega) c
      rw [← upd_sh] at c2
      have e1 : hcn u (s + 1) = hcn u s + 1 := by show hcn u s + (if u s = 0 then 1 else 0) = _; rw [if_pos c]
      obtain ⟨g', g1, g2, g3, g4⟩ := ih (s + 1) (by omega) _ c2 (fun k hk => by
        rw [upd_at, if_neg (by omega)]; exact hg2 k (by omega))
      refine ⟨g', g1, g2, (oS.up (by omega)).tr g3, fun α hα => zEv.succ ((g4 α hα).to fun n => ?_)⟩
      rw [f_Mo_lay_38]
      rw [c, nI_z1] at hp1
      simp (disch := omega) only [zlet, w_i_k, w_i_n, w_i_i, w_i_j, w_i_p, w_i_s, w_j_k, w_j_n, w_j_i, w_j_j, w_j_p, w_j_s, w_p_k, w_p_n, w_p_i, w_p_j, w_p_p, w_p_s, w_c_k, w_c_n, w_c_i, w_c_j, w_c_p, w_c_s, w_u_k, w_u_n, w_u_i, w_u_j, w_u_p, w_u_s, q_nf, ↓reduceIte, if_true, if_false, eq_self, and_true, true_and, and_false, false_and, Option.bind_some, ne_eq, not_false_eq_true, not_true_eq_false, nI_add, pk_mul, pk_sub, nI_ac, q_tlt, q_flt, q_tle, q_fle, q_teq, q_feq, q_tin, nI_cl, q_m1, q_m2, q_m3, q_m4, q_m5, q_m6, q_m7, q_l1, q_l2, q_l3, q_l4, q_l5, q_l6, lN_add, lN_mul, lN_sub, lN_i, nI_l, q_rem, q_rem2, q_div, q_shl, q_shr, q_i0, q_i1, q_i2, q_i3, q_i4, q_i5, q_i6, q_i7, q_i8, q_i9, q_i10, q_i11, q_i12, q_i14, q_i15, q_i16, q_i17, q_i18, q_i19, q_i20, q_i22, q_i24, q_i26, q_i28, q_i30, q_i31, q_i32, q_i35, q_i36, q_i38, q_i40, q_i42, q_i43, q_i48, q_i51, q_i52, q_i56, q_i63, q_i64, q_i67, q_i80, q_i95, q_i99, q_i126, q_i127, q_i128, q_i255, q_i256, q_i512, q_i1024, q_i12000, q_i32512, q_i32768, q_i131072, q_j0, q_j1, q_j2, q_j3, q_j4, q_j8, q_j256, Nat.one_mul, Nat.zero_add, Nat.add_zero, Nat.sub_zero, Nat.mul_one, q_ofN, a5, a8, w_u_w, hp1, f_Mo_lay_70, e1, Nat.sub_sub]
    · have e1 : hcn u (s + 1) = hcn u s := by show hcn u s + (if u s = 0 then 1 else 0) = _; rw [if_neg c]; rfl
      obtain ⟨g', g1, g2, g3, g4⟩ := ih (s + 1) (by omega) _ (hg.nx c) (fun k hk => hg2 k (by omega))
      refine ⟨g', g1, g2, g3, fun α hα => zEv.succ ((g4 α hα).to fun n => ?_)⟩
      rw [f_Mo_lay_38]
      rw [nI_m1 (by omega)] at hp1
      simp (disch := omega) only [zlet, w_i_k, w_i_n, w_i_i, w_i_j, w_i_p, w_i_s, w_j_k, w_j_n, w_j_i, w_j_j, w_j_p, w_j_s, w_p_k, w_p_n, w_p_i, w_p_j, w_p_p, w_p_s, w_c_k, w_c_n, w_c_i, w_c_j, w_c_p, w_c_s, w_u_k, w_u_n, w_u_i, w_u_j, w_u_p, w_u_s, q_nf, ↓reduceIte, if_true, if_false, eq_self, and_true, true_and, and_false, false_and, Option.bind_some, ne_eq, not_false_eq_true, not_true_eq_false, nI_add, pk_mul, pk_sub, nI_ac, q_tlt, q_flt, q_tle, q_fle, q_teq, q_feq, q_tin, nI_cl, q_m1, q_m2, q_m3, q_m4, q_m5, q_m6, q_m7, q_l1, q_l2, q_l3, q_l4, q_l5, q_l6, lN_add, lN_mul, lN_sub, lN_i, nI_l, q_rem, q_rem2, q_div, q_shl, q_shr, q_i0, q_i1, q_i2, q_i3, q_i4, q_i5, q_i6, q_i7, q_i8, q_i9, q_i10, q_i11, q_i12, q_i14, q_i15, q_i16, q_i17, q_i18, q_i19, q_i20, q_i22, q_i24, q_i26, q_i28, q_i30, q_i31, q_i32, q_i35, q_i36, q_i38, q_i40, q_i42, q_i43, q_i48, q_i51, q_i52, q_i56, q_i63, q_i64, q_i67, q_i80, q_i95, q_i99, q_i126, q_i127, q_i128, q_i255, q_i256, q_i512, q_i1024, q_i12000, q_i32512, q_i32768, q_i131072, q_j0, q_j1, q_j2, q_j3, q_j4, q_j8, q_j256, Nat.one_mul, Nat.zero_add, Nat.add_zero, Nat.sub_zero, Nat.mul_one, q_ofN, a5, a8, hp1, f_Mo_lay_70, e1]
abbrev zK105 : Type := Nat → Nat → Int32 → Int32 → Int32 → Nat → Nat → Nat → Int32 → Int32 → Int32 → Int32 → Int32 → Int32 → zM → Option (Unit × zM)
abbrev zK96 : Type := Nat → Nat → Int32 → Int32 → Int32 → Nat → Nat → Nat → Int32 → Int32 → Int32 → Int32 → Int32 → zM → Option (Unit × zM)
/-- places, as far as rank r; the others are -1 -/
def mP (o : Nat) (u : Nat → Nat) (r : Nat) (g : Nat → Int32) : Prop := lP o u r g ∧ ∀ k, k < 2 ^ o - hcn u 64 → r ≤ cw o (2 ^ o - hcn u 64) (wki o k) → g k = -1
theorem l_m116 {O : zO} {M : zM} {m pa fr NN ps pb pc rw o last s k i r : Nat} {u : Nat → Nat} {g : Nat → Int32} (h : zLy M m pa fr NN ps pb pc rw o u) (hu : zSh o last u) (hg : mP o u r (fun k => g (rw + k))) (hi : i < 2 ^ o) (hw : wk o i < 2 ^ o - hcn u 64) (hc : cw o (2 ^ o - hcn u 64) i = r) : ∀ d j, j + d = i → zEk (fun n (K : zK96 × zK105) => f_Mo_lay_116 O K.1 K.2 n m pa (nI fr) (nI NN) (nI o) ps pb pc (nI rw) (nI (2 ^ o)) (nI (stp o)) (nI (wk o j)) (nI s) (nI k) (w_u M ps g)) (fun K => K.2 m pa (nI fr) (nI NN) (nI o) ps pb pc (nI rw) (nI (2 ^ o)) (nI (stp o)) (nI (wk o i)) (nI s) (nI (k + 1)) (w_u M ps (upd g (rw + wk o i) (nI s)))) := by
  obtain ⟨a1, a2, a3, a4, a5, a6, a7, a8, a9, a10, a11, a12, a13, a14, a15, b1, b2, b3, b4, b5, b6, b7⟩ := h
  have hp := pw_9 hu.2.1
  obtain ⟨w1, w2⟩ := wk_i o hu.1 hu.2.1
  have hwl := wk_lt o i
  have hst : stp o ≤ 600 := by unfold stp; omega
  intro d
  induction d with
  | zero =>
    intro j hj
    have e : j = i := by omega
    subst e
    refine zEk.succ (zEk.of fun n K => ?_)
    have hgi : g (rw + wk o j) = -1 := hg.2 (wk o j) hw (by rw [w1 j hi]; omega)
    have hn : (-nI 1 < nI 0) = True := by decide
    rw [f_Mo_lay_116]
    simp (disch := omega) only [zlet, w_i_k, w_i_n, w_i_i, w_i_j, w_i_p, w_i_s, w_j_k, w_j_n, w_j_i, w_j_j, w_j_p, w_j_s, w_p_k, w_p_n, w_p_i, w_p_j, w_p_p, w_p_s, w_c_k, w_c_n, w_c_i, w_c_j, w_c_p, w_c_s, w_u_k, w_u_n, w_u_i, w_u_j, w_u_p, w_u_s, q_nf, ↓reduceIte, if_true, if_false, eq_self, and_true, true_and, and_false, false_and, Option.bind_some, ne_eq, not_false_eq_true, not_true_eq_false, nI_add, pk_mul, pk_sub, nI_ac, q_tlt, q_flt, q_tle, q_fle, q_teq, q_feq, q_tin, nI_cl, q_m1, q_m2, q_m3, q_m4, q_m5, q_m6, q_m7, q_l1, q_l2, q_l3, q_l4, q_l5, q_l6, lN_add, lN_mul, lN_sub, lN_i, nI_l, q_rem, q_rem2, q_div, q_shl, q_shr, q_i0, q_i1, q_i2, q_i3, q_i4, q_i5, q_i6, q_i7, q_i8, q_i9, q_i10, q_i11, q_i12, q_i14, q_i15, q_i16, q_i17, q_i18, q_i19, q_i20, q_i22, q_i24, q_i26, q_i28, q_i30, q_i31, q_i32, q_i35, q_i36, q_i38, q_i40, q_i42, q_i43, q_i48, q_i51, q_i52, q_i56, q_i63, q_i64, q_i67, q_i80, q_i95, q_i99, q_i126, q_i127, q_i128, q_i255, q_i256, q_i512, q_i1024, q_i12000, q_i32512, q_i32768, q_i131072, q_j0, q_j1, q_j2, q_j3, q_j4, q_j8, q_j256, Nat.one_mul, Nat.zero_add, Nat.add_zero, Nat.sub_zero, Nat.mul_one, q_ofN, a8, w_u_w, hgi, hn]
  | succ d ih =>
    intro j hj
    have hwj := wk_lt o j
    have hgj : ∃ v, v < 100 ∧ g (rw + wk o j) = nI v := by
      by_cases c : wk o j < 2 ^ o - hcn u 64
      · have ht := (tS_ok hu hwj).2
        refine ⟨_, ?_, hg.1.1 (wk o j) c (by rw [w1 j (by omega)]; have := cw_lt (o := o) (t := 2 ^ o - hcn u 64) (show j < i by omega) c; omega)⟩
        have := hu.2.2.1
        omega
      · have ht := (tS_ok hu hwj).2
        refine ⟨_, ?_, hg.1.2 (wk o j) (by omega) hwj⟩
        have := hu.2.2.1
        omega
    obtain ⟨v, v1, v2⟩ := hgj
    refine zEk.succ ((ih (j + 1) (by omega)).to fun n K => ?_)
    rw [f_Mo_lay_116]
    simp (disch := omega) only [zlet, w_i_k, w_i_n, w_i_i, w_i_j, w_i_p, w_i_s, w_j_k, w_j_n, w_j_i, w_j_j, w_j_p, w_j_s, w_p_k, w_p_n, w_p_i, w_p_j, w_p_p, w_p_s, w_c_k, w_c_n, w_c_i, w_c_j, w_c_p, w_c_s, w_u_k, w_u_n, w_u_i, w_u_j, w_u_p, w_u_s, q_nf, ↓reduceIte, if_true, if_false, eq_self, and_true, true_and, and_false, false_and, Option.bind_some, ne_eq, not_false_eq_true, not_true_eq_false, nI_add, pk_mul, pk_sub, nI_ac, q_tlt, q_flt, q_tle, q_fle, q_teq, q_feq, q_tin, nI_cl, q_m1, q_m2, q_m3, q_m4, q_m5, q_m6, q_m7, q_l1, q_l2, q_l3, q_l4, q_l5, q_l6, lN_add, lN_mul, lN_sub, lN_i, nI_l, q_rem, q_rem2, q_div, q_shl, q_shr, q_i0, q_i1, q_i2, q_i3, q_i4, q_i5, q_i6, q_i7, q_i8, q_i9, q_i10, q_i11, q_i12, q_i14, q_i15, q_i16, q_i17, q_i18, q_i19, q_i20, q_i22, q_i24, q_i26, q_i28, q_i30, q_i31, q_i32, q_i35, q_i36, q_i38, q_i40, q_i42, q_i43, q_i48, q_i51, q_i52, q_i56, q_i63, q_i64, q_i67, q_i80, q_i95, q_i99, q_i126, q_i127, q_i128, q_i255, q_i256, q_i512, q_i1024, q_i12000, q_i32512, q_i32768, q_i131072, q_j0, q_j1, q_j2, q_j3, q_j4, q_j8, q_j256, Nat.one_mul, Nat.zero_add, Nat.add_zero, Nat.sub_zero, Nat.mul_one, q_ofN, a8, v2, not_false_eq_true]
    rw [← wk_s]
theorem l_m105 {O : zO} {M : zM} {m pa fr NN ps pb pc rw o last s : Nat} {u : Nat → Nat} (h : zLy M m pa fr NN ps pb pc rw o u) (hu : zSh o last u) (hs : s < NN) : ∀ d k, k + d = u s - 1 → ∀ g i, i < 2 ^ o → cw o (2 ^ o - hcn u 64) i ≤ cum u s + k → mP o u (cum u s + k) (fun k => g (rw + k)) → ∃ g' i', i' < 2 ^ o ∧ cw o (2 ^ o - hcn u 64) i' ≤ cum u (s + 1) ∧ mP o u (cum u (s + 1)) (fun k => g' (rw + k)) ∧ oS rw (2 ^ o) g g' ∧ zEk (fun n (K : zK96) => f_Mo_lay_105 O K n m pa (nI fr) (nI NN) (nI o) ps pb pc (nI rw) (nI (2 ^ o)) (nI (stp o)) (nI (wk o i)) (nI s) (nI k) (w_u M ps g)) (fun K => K m pa (nI fr) (nI NN) (nI o) ps pb pc (nI rw) (nI (2 ^ o)) (nI (stp o)) (nI (wk o i')) (nI (s + 1)) (w_u M ps g')) := by
  have h' := h
  obtain ⟨a1, a2, a3, a4, a5, a6, a7, a8, a9, a10, a11, a12, a13, a14, a15, b1, b2, b3, b4, b5, b6, b7⟩ := h'
  have hp := pw_9 hu.2.1
  have hsum := hu.2.2.2.1
  have hp1 := a15 s hs
  have hul := u_le hu s
  obtain ⟨w1, w2⟩ := wk_i o hu.1 hu.2.1
  intro d
  induction d with
  | zero =>
    intro k hk g i hi hc hg
    have e : cum u s + k = cum u (s + 1) := by show _ = cum u s + (u s - 1); omega
    rw [e] at hg hc
    refine ⟨g, i, hi, hc, hg, oS.rf, zEk.succ (zEk.of fun n K => ?_)⟩
    have hle : (nI (u s) - nI 1 ≤ nI k) = True := by
      apply eq_true
      by_cases c : u s = 0
      · rw [c]; exact of_eq_true (q_m1 (a := k) (c := 1) (by omega) (by omega))
      · rw [pk_sub (by omega)]; exact nI_le (by omega) (by omega)
    rw [show (1 : Int32) = nI 1 from rfl] at hp1
    rw [f_Mo_lay_105]
    simp (disch := omega) only [w_u_k, w_u_n, w_u_i, q_nf, ↓reduceIte, a5, nI_add, q_tin, nI_cl, hp1, hle, zlet, q_i1]
  | succ d ih =>
    intro k hk g i hi hc hg
    have hcs : cum u (s + 1) = cum u s + (u s - 1) := rfl
    have hcm := cum_mono u (show s + 1 ≤ 64 by omega)
    obtain ⟨j, j1, j2, j3⟩ := cw_at hu.1 hu.2.1 (show 2 ^ o - hcn u 64 ≤ 2 ^ o by omega) (show cum u s + k < 2 ^ o - hcn u 64 by omega)
    have hij : i ≤ j := by
      apply Classical.byContradiction
      intro w
      have := cw_lt (o := o) (t := 2 ^ o - hcn u 64) (show j < i by omega) j2
      omega
    have hl := hg.1.up hu (by omega) (show k + 1 < u s by omega) j1 j2 j3
    rw [← upd_sh] at hl
    have hg' : mP o u (cum u s + (k + 1)) (fun k => upd g (rw + wk o j) (nI s) (rw + k)) := by
      refine ⟨hl, fun k' hk' hc' => ?_⟩
      show upd g (rw + wk o j) (nI s) (rw + k') = -1
      rw [upd_at, if_neg]
      · exact hg.2 k' hk' (by omega)
      · intro w
        have e : k' = wk o j := by omega
        rw [e, w1 j j1, j3] at hc'
        omega
    obtain ⟨g', i', g1, g2, g3, g4, g5⟩ := ih (k + 1) (by omega) _ j j1 (by omega) hg'
    refine ⟨g', i', g1, g2, g3, (oS.up (wk_lt o j)).tr g4, zEk.succ ?_⟩
    obtain ⟨N1, hk1⟩ := g5
    have hle : ¬ nI (u s) - 1 ≤ nI k := by
      rw [nI_m1 (by omega)]; exact fun w => by have := (nI_leI (by omega) (by omega)).mp w; omega
    have e0 : ∀ n (K : zK96), f_Mo_lay_105 O K (n + 1) m pa (nI fr) (nI NN) (nI o) ps pb pc (nI rw) (nI (2 ^ o)) (nI (stp o)) (nI (wk o i)) (nI s) (nI k) (w_u M ps g) = f_Mo_lay_116 O K (f_Mo_lay_105 O K n) n m pa (nI fr) (nI NN) (nI o) ps pb pc (nI rw) (nI (2 ^ o)) (nI (stp o)) (nI (wk o i)) (nI s) (nI k) (w_u M ps g) := fun n K => by
      rw [f_Mo_lay_105]
      simp (disch := omega) only [w_u_k, w_u_n, w_u_i, q_nf, ↓reduceIte, a5, nI_add, q_tin, nI_cl, hp1, hle, zlet]
    obtain ⟨N2, hk2⟩ := l_m116 (O := O) (s := s) (k := k) h hu hg j1 j2 j3 (j - i) i (by omega)
    refine ⟨N1 + N2, fun n hn K => ?_⟩
    show f_Mo_lay_105 O K (n + 1) m pa (nI fr) (nI NN) (nI o) ps pb pc (nI rw) (nI (2 ^ o)) (nI (stp o)) (nI (wk o i)) (nI s) (nI k) (w_u M ps g) = _
    rw [e0]
    exact (hk2 n (by omega) (K, f_Mo_lay_105 O K n)).trans (hk1 n (by omega) K)
theorem l_m96 {O : zO} {M : zM} {m pa fr NN ps pb pc rw o last : Nat} {u : Nat → Nat} (h : zLy M m pa fr NN ps pb pc rw o u) (hu : zSh o last u) : ∀ d s, s + d = NN → ∀ g i, i < 2 ^ o → cw o (2 ^ o - hcn u 64) i ≤ cum u s → mP o u (cum u s) (fun k => g (rw + k)) → ∃ g', mP o u (cum u NN) (fun k => g' (rw + k)) ∧ oS rw (2 ^ o) g g' ∧ ∀ α, zEv (fun n => f_Mo_lay_165 O n m pa (nI fr) (nI NN) (nI o) ps pb pc (nI rw) (nI (2 ^ o)) 0 (w_u M ps g')) α → zEv (fun n => f_Mo_lay_96 O n m pa (nI fr) (nI NN) (nI o) ps pb pc (nI rw) (nI (2 ^ o)) (nI (stp o)) (nI (wk o i)) (nI s) (w_u M ps g)) α := by
  have h' := h
  obtain ⟨a1, a2, a3, a4, a5, a6, a7, a8, a9, a10, a11, a12, a13, a14, a15, b1, b2, b3, b4, b5, b6, b7⟩ := h'
  intro d
  induction d with
  | zero =>
    intro s hs g i hi hc hg
    have e : s = NN := by omega
    subst e
    refine ⟨g, hg, oS.rf, fun α hα => zEv.succ (hα.to fun n => ?_)⟩
    rw [f_Mo_lay_96]
    simp (disch := omega) only [zlet, w_i_k, w_i_n, w_i_i, w_i_j, w_i_p, w_i_s, w_j_k, w_j_n, w_j_i, w_j_j, w_j_p, w_j_s, w_p_k, w_p_n, w_p_i, w_p_j, w_p_p, w_p_s, w_c_k, w_c_n, w_c_i, w_c_j, w_c_p, w_c_s, w_u_k, w_u_n, w_u_i, w_u_j, w_u_p, w_u_s, q_nf, ↓reduceIte, if_true, if_false, eq_self, and_true, true_and, and_false, false_and, Option.bind_some, ne_eq, not_false_eq_true, not_true_eq_false, nI_add, pk_mul, pk_sub, nI_ac, q_tlt, q_flt, q_tle, q_fle, q_teq, q_feq, q_tin, nI_cl, q_m1, q_m2, q_m3, q_m4, q_m5, q_m6, q_m7, q_l1, q_l2, q_l3, q_l4, q_l5, q_l6, lN_add, lN_mul, lN_sub, lN_i, nI_l, q_rem, q_rem2, q_div, q_shl, q_shr, q_i0, q_i1, q_i2, q_i3, q_i4, q_i5, q_i6, q_i7, q_i8, q_i9, q_i10, q_i11, q_i12, q_i14, q_i15, q_i16, q_i17, q_i18, q_i19, q_i20, q_i22, q_i24, q_i26, q_i28, q_i30, q_i31, q_i32, q_i35, q_i36, q_i38, q_i40, q_i42, q_i43, q_i48, q_i51, q_i52, q_i56, q_i63, q_i64, q_i67, q_i80, q_i95, q_i99, q_i126, q_i127, q_i128, q_i255, q_i256, q_i512, q_i1024, q_i12000, q_i32512, q_i32768, q_i131072, q_j0, q_j1, q_j2, q_j3, q_j4, q_j8, q_j256, Nat.one_mul, Nat.zero_add, Nat.add_zero, Nat.sub_zero, Nat.mul_one, q_ofN]
  | succ d ih =>
    intro s hs g i hi hc hg
    obtain ⟨g1, i1, k1, k2, k3, k4, k5⟩ := l_m105 (O := O) h hu (show s < NN by omega) (u s - 1) 0 (by omega) g i hi hc hg
    obtain ⟨g', k6, k7, k8⟩ := ih (s + 1) (by omega) g1 i1 k1 k2 k3
    refine ⟨g', k6, k4.tr k7, fun α hα => zEv.succ ?_⟩
    refine (k5.use (k := fun n => f_Mo_lay_96 O n) (k8 α hα)).to fun n => ?_
    rw [f_Mo_lay_96, if_neg (fun w => by have := (nI_leI (by omega) (by omega)).mp w; omega)]
    rfl
theorem l_m165 {O : zO} {M : zM} {m pa fr NN ps pb pc rw o last : Nat} {u : Nat → Nat} {T B E : Nat → Int32} (h : zLy M m pa fr NN ps pb pc rw o u) (hu : zSh o last u) : ∀ d s, s + d = NN → ∀ N, (∀ j, j < s → N j = nI (nB u j)) → ∃ N', (∀ j, j < NN → N' j = nI (nB u j)) ∧ ∀ α, zEv (fun n => f_Mo_lay_207 O n m (nI o) ps pb pc (nI rw) (nI (2 ^ o)) 0 (w_4 M (m + 18) ps pb pc N' T B E)) α → zEv (fun n => f_Mo_lay_165 O n m pa (nI fr) (nI NN) (nI o) ps pb pc (nI rw) (nI (2 ^ o)) (nI s) (w_4 M (m + 18) ps pb pc N T B E)) α := by
  obtain ⟨a1, a2, a3, a4, a5, a6, a7, a8, a9, a10, a11, a12, a13, a14, a15, b1, b2, b3, b4, b5, b6, b7⟩ := h
  have hp := pw_9 hu.2.1
  intro d
  induction d with
  | zero =>
    intro s hs N hN
    have e : s = NN := by omega
    subst e
    refine ⟨N, fun j hj => hN j (by omega), fun α hα => zEv.succ (hα.to fun n => ?_)⟩
    rw [f_Mo_lay_165]
    simp (disch := omega) only [zlet, w_i_k, w_i_n, w_i_i, w_i_j, w_i_p, w_i_s, w_j_k, w_j_n, w_j_i, w_j_j, w_j_p, w_j_s, w_p_k, w_p_n, w_p_i, w_p_j, w_p_p, w_p_s, w_c_k, w_c_n, w_c_i, w_c_j, w_c_p, w_c_s, w_u_k, w_u_n, w_u_i, w_u_j, w_u_p, w_u_s, q_nf, ↓reduceIte, if_true, if_false, eq_self, and_true, true_and, and_false, false_and, Option.bind_some, ne_eq, not_false_eq_true, not_true_eq_false, nI_add, pk_mul, pk_sub, nI_ac, q_tlt, q_flt, q_tle, q_fle, q_teq, q_feq, q_tin, nI_cl, q_m1, q_m2, q_m3, q_m4, q_m5, q_m6, q_m7, q_l1, q_l2, q_l3, q_l4, q_l5, q_l6, lN_add, lN_mul, lN_sub, lN_i, nI_l, q_rem, q_rem2, q_div, q_shl, q_shr, q_i0, q_i1, q_i2, q_i3, q_i4, q_i5, q_i6, q_i7, q_i8, q_i9, q_i10, q_i11, q_i12, q_i14, q_i15, q_i16, q_i17, q_i18, q_i19, q_i20, q_i22, q_i24, q_i26, q_i28, q_i30, q_i31, q_i32, q_i35, q_i36, q_i38, q_i40, q_i42, q_i43, q_i48, q_i51, q_i52, q_i56, q_i63, q_i64, q_i67, q_i80, q_i95, q_i99, q_i126, q_i127, q_i128, q_i255, q_i256, q_i512, q_i1024, q_i12000, q_i32512, q_i32768, q_i131072, q_j0, q_j1, q_j2, q_j3, q_j4, q_j8, q_j256, Nat.one_mul, Nat.zero_add, Nat.add_zero, Nat.sub_zero, Nat.mul_one, q_ofN]
  | succ d ih =>
    intro s hs N hN
    have hp1 := a15 s (by omega)
    have hul := u_le hu s
    obtain ⟨N', n1, n2⟩ := ih (s + 1) (by omega) (upd N s (nI (nB u s))) (fun j hj => by
      rw [upd_at]
      by_cases c : j = s
      · rw [if_pos c, c]
      · rw [if_neg c]; exact hN j (by omega))
    refine ⟨N', n1, fun α hα => zEv.succ ((n2 α hα).to fun n => ?_)⟩
    rw [f_Mo_lay_165]
    by_cases c : u s = 0
    · have e : nB u s = 1 := by unfold nB; rw [if_pos c]
      rw [c, nI_z1] at hp1
      simp (disch := omega) only [zlet, w_i_k, w_i_n, w_i_i, w_i_j, w_i_p, w_i_s, w_j_k, w_j_n, w_j_i, w_j_j, w_j_p, w_j_s, w_p_k, w_p_n, w_p_i, w_p_j, w_p_p, w_p_s, w_c_k, w_c_n, w_c_i, w_c_j, w_c_p, w_c_s, w_u_k, w_u_n, w_u_i, w_u_j, w_u_p, w_u_s, q_nf, ↓reduceIte, if_true, if_false, eq_self, and_true, true_and, and_false, false_and, Option.bind_some, ne_eq, not_false_eq_true, not_true_eq_false, nI_add, pk_mul, pk_sub, nI_ac, q_tlt, q_flt, q_tle, q_fle, q_teq, q_feq, q_tin, nI_cl, q_m1, q_m2, q_m3, q_m4, q_m5, q_m6, q_m7, q_l1, q_l2, q_l3, q_l4, q_l5, q_l6, lN_add, lN_mul, lN_sub, lN_i, nI_l, q_rem, q_rem2, q_div, q_shl, q_shr, q_i0, q_i1, q_i2, q_i3, q_i4, q_i5, q_i6, q_i7, q_i8, q_i9, q_i10, q_i11, q_i12, q_i14, q_i15, q_i16, q_i17, q_i18, q_i19, q_i20, q_i22, q_i24, q_i26, q_i28, q_i30, q_i31, q_i32, q_i35, q_i36, q_i38, q_i40, q_i42, q_i43, q_i48, q_i51, q_i52, q_i56, q_i63, q_i64, q_i67, q_i80, q_i95, q_i99, q_i126, q_i127, q_i128, q_i255, q_i256, q_i512, q_i1024, q_i12000, q_i32512, q_i32768, q_i131072, q_j0, q_j1, q_j2, q_j3, q_j4, q_j8, q_j256, Nat.one_mul, Nat.zero_add, Nat.add_zero, Nat.sub_zero, Nat.mul_one, q_ofN, a1, a2, a3, a4, a5, w_4_k, w_4_n, w_4_i, w_4_p, hp1, f_Mo_lay_197, w_4_1, e]
    · have e : nB u s = u s - 1 := by unfold nB; rw [if_neg c]
      rw [nI_m1 (by omega)] at hp1
      simp (disch := omega) only [zlet, w_i_k, w_i_n, w_i_i, w_i_j, w_i_p, w_i_s, w_j_k, w_j_n, w_j_i, w_j_j, w_j_p, w_j_s, w_p_k, w_p_n, w_p_i, w_p_j, w_p_p, w_p_s, w_c_k, w_c_n, w_c_i, w_c_j, w_c_p, w_c_s, w_u_k, w_u_n, w_u_i, w_u_j, w_u_p, w_u_s, q_nf, ↓reduceIte, if_true, if_false, eq_self, and_true, true_and, and_false, false_and, Option.bind_some, ne_eq, not_false_eq_true, not_true_eq_false, nI_add, pk_mul, pk_sub, nI_ac, q_tlt, q_flt, q_tle, q_fle, q_teq, q_feq, q_tin, nI_cl, q_m1, q_m2, q_m3, q_m4, q_m5, q_m6, q_m7, q_l1, q_l2, q_l3, q_l4, q_l5, q_l6, lN_add, lN_mul, lN_sub, lN_i, nI_l, q_rem, q_rem2, q_div, q_shl, q_shr, q_i0, q_i1, q_i2, q_i3, q_i4, q_i5, q_i6, q_i7, q_i8, q_i9, q_i10, q_i11, q_i12, q_i14, q_i15, q_i16, q_i17, q_i18, q_i19, q_i20, q_i22, q_i24, q_i26, q_i28, q_i30, q_i31, q_i32, q_i35, q_i36, q_i38, q_i40, q_i42, q_i43, q_i48, q_i51, q_i52, q_i56, q_i63, q_i64, q_i67, q_i80, q_i95, q_i99, q_i126, q_i127, q_i128, q_i255, q_i256, q_i512, q_i1024, q_i12000, q_i32512, q_i32768, q_i131072, q_j0, q_j1, q_j2, q_j3, q_j4, q_j8, q_j256, Nat.one_mul, Nat.zero_add, Nat.add_zero, Nat.sub_zero, Nat.mul_one, q_ofN, a1, a2, a3, a4, a5, w_4_k, w_4_n, w_4_i, w_4_p, hp1, f_Mo_lay_197, w_4_1, e]
theorem l_m207 {O : zO} {M : zM} {m pa fr NN ps pb pc rw o last : Nat} {u : Nat → Nat} {T : Nat → Int32} (h : zLy M m pa fr NN ps pb pc rw o u) (hu : zSh o last u) (hla : last < NN) (hT : ∀ k, k < 2 ^ o → T (rw + k) = nI (tS o u k)) : ∀ d k, k + d = 2 ^ o → ∀ N B E, (∀ j, j < NN → N j = nI (nB u j + ctb (fun i => tS o u i == j) k)) → (∀ j, j < k → B (rw + j) = nI (bS o u j) ∧ E (rw + j) = nI (eS o u j)) → ∃ N' B' E', (∀ j, j < 2 ^ o → B' (rw + j) = nI (bS o u j) ∧ E' (rw + j) = nI (eS o u j)) ∧ oS rw (2 ^ o) B B' ∧ oS rw (2 ^ o) E E' ∧ zEv (fun n => f_Mo_lay_207 O n m (nI o) ps pb pc (nI rw) (nI (2 ^ o)) (nI k) (w_4 M (m + 18) ps pb pc N T B E)) ((), w_4 M (m + 18) ps pb pc N' T B' E') := by
  obtain ⟨a1, a2, a3, a4, a5, a6, a7, a8, a9, a10, a11, a12, a13, a14, a15, b1, b2, b3, b4, b5, b6, b7⟩ := h
  have hp := pw_9 hu.2.1
  have hl := hu.2.2.1
  have h9 := hu.2.1
  intro d
  induction d with
  | zero =>
    intro k hk N B E hN hB
    refine ⟨N, B, E, fun j hj => hB j (by omega), oS.rf, oS.rf, zEv.succ ((zEv.some _).to fun n => ?_)⟩
    rw [f_Mo_lay_207]
    simp (disch := omega) only [zlet, w_i_k, w_i_n, w_i_i, w_i_j, w_i_p, w_i_s, w_j_k, w_j_n, w_j_i, w_j_j, w_j_p, w_j_s, w_p_k, w_p_n, w_p_i, w_p_j, w_p_p, w_p_s, w_c_k, w_c_n, w_c_i, w_c_j, w_c_p, w_c_s, w_u_k, w_u_n, w_u_i, w_u_j, w_u_p, w_u_s, q_nf, ↓reduceIte, if_true, if_false, eq_self, and_true, true_and, and_false, false_and, Option.bind_some, ne_eq, not_false_eq_true, not_true_eq_false, nI_add, pk_mul, pk_sub, nI_ac, q_tlt, q_flt, q_tle, q_fle, q_teq, q_feq, q_tin, nI_cl, q_m1, q_m2, q_m3, q_m4, q_m5, q_m6, q_m7, q_l1, q_l2, q_l3, q_l4, q_l5, q_l6, lN_add, lN_mul, lN_sub, lN_i, nI_l, q_rem, q_rem2, q_div, q_shl, q_shr, q_i0, q_i1, q_i2, q_i3, q_i4, q_i5, q_i6, q_i7, q_i8, q_i9, q_i10, q_i11, q_i12, q_i14, q_i15, q_i16, q_i17, q_i18, q_i19, q_i20, q_i22, q_i24, q_i26, q_i28, q_i30, q_i31, q_i32, q_i35, q_i36, q_i38, q_i40, q_i42, q_i43, q_i48, q_i51, q_i52, q_i56, q_i63, q_i64, q_i67, q_i80, q_i95, q_i99, q_i126, q_i127, q_i128, q_i255, q_i256, q_i512, q_i1024, q_i12000, q_i32512, q_i32768, q_i131072, q_j0, q_j1, q_j2, q_j3, q_j4, q_j8, q_j256, Nat.one_mul, Nat.zero_add, Nat.add_zero, Nat.sub_zero, Nat.mul_one, q_ofN]
  | succ d ih =>
    intro k hk N B E hN hB
    have hk2 : k < 2 ^ o := by omega
    obtain ⟨t1, t2⟩ := tS_ok hu hk2
    obtain ⟨x1, x2⟩ := xS_ok hu hk2
    obtain ⟨c1, c2, c3, c4, c5⟩ := bS_ok hu hk2
    have hx : nB u (tS o u k) + ctb (fun i => tS o u i == tS o u k) k = xS o u k := rfl
    have hNt := hN (tS o u k) (by omega)
    rw [hx] at hNt
    obtain ⟨N', B', E', n1, n2, n3, n4⟩ := ih (k + 1) (by omega) (upd N (tS o u k) (nI (xS o u k + 1))) (upd B (rw + k) (nI (bS o u k))) (upd E (rw + k) (nI (eS o u k))) (fun j hj => by
      rw [upd_at, ctb_s]
      by_cases c : j = tS o u k
      · subst c
        rw [if_pos rfl, beq_self_eq_true, if_pos rfl, ← Nat.add_assoc, hx]
      · have hb : (tS o u k == j) = false := beq_false_of_ne (fun w => c w.symm)
        rw [if_neg c, hN j hj, hb]
        rfl) (fun j hj => by
      rw [upd_at, upd_at]
      by_cases c : j = k
      · rw [if_pos (by omega), if_pos (by omega), c]; exact ⟨rfl, rfl⟩
      · rw [if_neg (by omega), if_neg (by omega)]; exact hB j (by omega))
    refine ⟨N', B', E', n1, (oS.up hk2).tr n2, (oS.up hk2).tr n3, zEv.succ ?_⟩
    have hz := c_Mo_highest (O := O) (M := w_4 M (m + 18) ps pb pc (upd N (tS o u k) (nI (xS o u k + 1))) T B E) (v := xS o u k) (by omega) (by omega)
    have hTk := hT k hk2
    have e2 : nI o - nI (hib (xS o u k)) = nI (bS o u k) := pk_sub c1
    have e3 : nI (xS o u k) <<< (nI (bS o u k) &&& nI 31) - nI (2 ^ o) = nI (eS o u k) := by
      rw [q_shl (by omega) (by omega), pk_sub c3]; rfl
    simp only [f_Mo_lay_207]
    simp (disch := omega) only [zlet, w_4_k, w_4_n, w_4_p, w_4_i, w_4_1, a1, a2, a3, a4, a8, nI_add, q_fle, q_tin, nI_cl, ↓reduceIte, q_nf, hTk, hNt, q_i1, q_i31]
    refine zEv.bind hz (n4.to fun n => ?_)
    simp (disch := omega) only [e2, e3, zlet, w_4_k, w_4_n, w_4_p, w_4_3, w_4_4, a11, a12, a13, a14, nI_add, q_tin, nI_cl, ↓reduceIte]
/-- what lay lays: at rw, for 2^o places, the tables of u -/
def zTb (o : Nat) (u : Nat → Nat) (rw : Nat) (T B E : Nat → Int32) : Prop := ∀ k, k < 2 ^ o → T (rw + k) = nI (tS o u k) ∧ B (rw + k) = nI (bS o u k) ∧ E (rw + k) = nI (eS o u k)
theorem c_Mo_lay {O : zO} {M : zM} {m pa fr NN ps pb pc rw o last : Nat} {u : Nat → Nat} (h : zLy M m pa fr NN ps pb pc rw o u) (hu : zSh o last u) (hla : last < NN) : ∃ N T B E, zTb o u rw T B E ∧ oS rw (2 ^ o) (z_i M ps) T ∧ oS rw (2 ^ o) (z_i M pb) B ∧ oS rw (2 ^ o) (z_i M pc) E ∧ zEv (fun n => F_Mo_lay O n m pa (nI fr) (nI NN) (nI o) ps pb pc (nI rw) M) ((), w_4 M (m + 18) ps pb pc N T B E) := by
  have h' := h
  obtain ⟨a1, a2, a3, a4, a5, a6, a7, a8, a9, a10, a11, a12, a13, a14, a15, b1, b2, b3, b4, b5, b6, b7⟩ := h'
  have hu' := hu
  obtain ⟨u1, u2, u3, u4, u5⟩ := hu'
  have hp := pw_9 u2
  obtain ⟨e1, e2⟩ := hc_end u5 (n := 64) (by omega)
  obtain ⟨e3, e4⟩ := hc_end u5 (n := NN) (by omega)
  obtain ⟨g1, p1, p2, p3⟩ := l_m9 (O := O) h hu (2 ^ o) 0 (by omega) (z_i M ps) (fun j hj => by omega)
  obtain ⟨g2, p4, p5, p6, p7⟩ := l_m38 (O := O) h hu NN 0 (by omega) g1 (fun k hk hk2 => by rw [show hcn u 0 = 0 from rfl] at hk; omega) (fun k hk => p1 k (by omega))
  have hm : mP o u (cum u 0) (fun k => g2 (rw + k)) := by
    refine ⟨⟨fun k _ hc => by rw [show cum u 0 = 0 from rfl] at hc; omega, fun k hk hk2 => ?_⟩, fun k hk _ => p5 k (by omega)⟩
    unfold tS
    rw [if_neg (by omega)]
    exact p4 k (by omega) hk2
  obtain ⟨T, p8, p9, p10⟩ := l_m96 (O := O) h hu NN 0 (by omega) g2 0 (Nat.pow_pos (by omega)) (by rw [show cum u 0 = 0 from rfl]; exact Nat.le_refl _) hm
  have hT : ∀ k, k < 2 ^ o → T (rw + k) = nI (tS o u k) := fun k hk => by
    by_cases c : k < 2 ^ o - hcn u 64
    · refine p8.1.1 k c ?_
      have := cw_lt (o := o) (t := 2 ^ o - hcn u 64) (wki_lt o k) (by rw [(wk_i o u1 u2).2 k hk]; exact c)
      rw [cw_all u1 u2 _ (by omega)] at this
      omega
    · exact p8.1.2 k (by omega) hk
  obtain ⟨N1, q1, q2⟩ := l_m165 (O := O) (T := T) (B := z_i M pb) (E := z_i M pc) h hu NN 0 (by omega) (z_i M (m + 18)) (fun j hj => by omega)
  obtain ⟨N2, B2, E2, r1, r2, r3, r4⟩ := l_m207 (O := O) h hu hla hT (2 ^ o) 0 (by omega) N1 (z_i M pb) (z_i M pc) (fun j hj => by rw [q1 j hj]; rfl) (fun j hj => by omega)
  refine ⟨N2, T, B2, E2, fun k hk => ⟨hT k hk, r1 k hk⟩, p2.tr (p6.tr p9), r2, r3, ?_⟩
  have eM : w_4 M (m + 18) ps pb pc (z_i M (m + 18)) T (z_i M pb) (z_i M pc) = w_u M ps T := by
    unfold w_4
    rw [w_u_self]
    refine zM_ext (fun _ => rfl) (fun _ => rfl) (fun q j => ?_) (fun _ _ => rfl) (fun _ _ => rfl) rfl
    simp only [w_u_i]
    by_cases c5 : q = pc
    · rw [if_pos c5, if_neg (by omega), c5]
    · rw [if_neg c5]
      by_cases c4 : q = pb
      · rw [if_pos c4, if_neg (by omega), c4]
      · rw [if_neg c4]
  have f3 := q2 _ r4
  rw [eM] at f3
  have f4 := p3 _ (p7 _ (p10 _ f3 |>.to fun n => by rw [wk_0]; rfl))
  refine f4.to fun n => ?_
  unfold F_Mo_lay f_Mo_lay_0
  rw [w_u_self, show (1 : Int32) = nI 1 from rfl, show (31 : Int32) = nI 31 from rfl, sh1 u2]
  rfl
