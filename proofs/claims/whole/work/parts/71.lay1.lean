/-! Share.lay, Share.number -/
def w_S (M : zM) (p : Nat) (N T B E : Nat → Int32) : zM := w_u (w_u (w_u (w_u M (p + 2) N) (p + 3) T) (p + 4) B) (p + 5) E
theorem w_S_k (M : zM) (p : Nat) (N T B E : Nat → Int32) : z_k (w_S M p N T B E) = z_k M := rfl
theorem w_S_n (M : zM) (p : Nat) (N T B E : Nat → Int32) : z_n (w_S M p N T B E) = z_n M := rfl
theorem w_S_j (M : zM) (p : Nat) (N T B E : Nat → Int32) : z_j (w_S M p N T B E) = z_j M := rfl
theorem w_S_p (M : zM) (p : Nat) (N T B E : Nat → Int32) : z_p (w_S M p N T B E) = z_p M := rfl
theorem w_S_s (M : zM) (p : Nat) (N T B E : Nat → Int32) : z_s (w_S M p N T B E) = z_s M := rfl
theorem w_S_i (M : zM) (p : Nat) (N T B E : Nat → Int32) (q j : Nat) : z_i (w_S M p N T B E) q j = if q = p + 5 then E j else if q = p + 4 then B j else if q = p + 3 then T j else if q = p + 2 then N j else z_i M q j := rfl
theorem w_S_2 (M : zM) (p k : Nat) (x : Int32) (N T B E : Nat → Int32) : w_i (w_S M p N T B E) (p + 2) k x = w_S M p (upd N k x) T B E := by
  unfold w_S
  rw [w_i_w, w_u_c _ _ _ (show p + 5 ≠ p + 2 by omega), w_u_c _ _ _ (show p + 4 ≠ p + 2 by omega), w_u_c _ _ _ (show p + 3 ≠ p + 2 by omega), w_u_u]
  congr 5
  funext j
  simp (disch := omega) only [zlet, w_i_k, w_i_n, w_i_i, w_i_j, w_i_p, w_i_s, w_j_k, w_j_n, w_j_i, w_j_j, w_j_p, w_j_s, w_p_k, w_p_n, w_p_i, w_p_j, w_p_p, w_p_s, w_c_k, w_c_n, w_c_i, w_c_j, w_c_p, w_c_s, w_u_k, w_u_n, w_u_i, w_u_j, w_u_p, w_u_s, q_nf, ↓reduceIte, if_true, if_false, eq_self, and_true, true_and, and_false, false_and, Option.bind_some, ne_eq, not_false_eq_true, not_true_eq_false]
theorem w_S_3 (M : zM) (p k : Nat) (x : Int32) (N T B E : Nat → Int32) : w_i (w_S M p N T B E) (p + 3) k x = w_S M p N (upd T k x) B E := by
  unfold w_S
  rw [w_i_w, w_u_c _ _ _ (show p + 5 ≠ p + 3 by omega), w_u_c _ _ _ (show p + 4 ≠ p + 3 by omega), w_u_u]
  congr 4
  funext j
  simp (disch := omega) only [zlet, w_i_k, w_i_n, w_i_i, w_i_j, w_i_p, w_i_s, w_j_k, w_j_n, w_j_i, w_j_j, w_j_p, w_j_s, w_p_k, w_p_n, w_p_i, w_p_j, w_p_p, w_p_s, w_c_k, w_c_n, w_c_i, w_c_j, w_c_p, w_c_s, w_u_k, w_u_n, w_u_i, w_u_j, w_u_p, w_u_s, q_nf, ↓reduceIte, if_true, if_false, eq_self, and_true, true_and, and_false, false_and, Option.bind_some, ne_eq, not_false_eq_true, not_true_eq_false]
theorem w_S_4 (M : zM) (p k : Nat) (x : Int32) (N T B E : Nat → Int32) : w_i (w_S M p N T B E) (p + 4) k x = w_S M p N T (upd B k x) E := by
  unfold w_S
  rw [w_i_w, w_u_c _ _ _ (show p + 5 ≠ p + 4 by omega), w_u_u]
  congr 3
  funext j
  simp (disch := omega) only [zlet, w_i_k, w_i_n, w_i_i, w_i_j, w_i_p, w_i_s, w_j_k, w_j_n, w_j_i, w_j_j, w_j_p, w_j_s, w_p_k, w_p_n, w_p_i, w_p_j, w_p_p, w_p_s, w_c_k, w_c_n, w_c_i, w_c_j, w_c_p, w_c_s, w_u_k, w_u_n, w_u_i, w_u_j, w_u_p, w_u_s, q_nf, ↓reduceIte, if_true, if_false, eq_self, and_true, true_and, and_false, false_and, Option.bind_some, ne_eq, not_false_eq_true, not_true_eq_false]
theorem w_S_5 (M : zM) (p k : Nat) (x : Int32) (N T B E : Nat → Int32) : w_i (w_S M p N T B E) (p + 5) k x = w_S M p N T B (upd E k x) := by
  unfold w_S
  rw [w_i_w, w_u_u]
  congr 2
  funext j
  simp (disch := omega) only [zlet, w_i_k, w_i_n, w_i_i, w_i_j, w_i_p, w_i_s, w_j_k, w_j_n, w_j_i, w_j_j, w_j_p, w_j_s, w_p_k, w_p_n, w_p_i, w_p_j, w_p_p, w_p_s, w_c_k, w_c_n, w_c_i, w_c_j, w_c_p, w_c_s, w_u_k, w_u_n, w_u_i, w_u_j, w_u_p, w_u_s, q_nf, ↓reduceIte, if_true, if_false, eq_self, and_true, true_and, and_false, false_and, Option.bind_some, ne_eq, not_false_eq_true, not_true_eq_false]
theorem w_S_self (M : zM) (p : Nat) : w_S M p (z_i M (p + 2)) (z_i M (p + 3)) (z_i M (p + 4)) (z_i M (p + 5)) = M := by
  unfold w_S
  rw [w_u_self, w_u_self, w_u_self, w_u_self]
/-- a Share's shape -/
def zShS (M : zM) (p G last : Nat) : Prop := z_k M p = 11 ∧ z_p M p 2 = p + 1 ∧ z_p M p 3 = p + 2 ∧ z_p M p 4 = p + 3 ∧ z_p M p 5 = p + 4 ∧ z_p M p 6 = p + 5 ∧ z_k M (p + 1) = 100 ∧ z_k M (p + 2) = 100 ∧ z_k M (p + 3) = 100 ∧ z_k M (p + 4) = 100 ∧ z_k M (p + 5) = 100 ∧ z_n M (p + 1) = last + 1 ∧ z_n M (p + 2) = last + 1 ∧ z_n M (p + 3) = 2 ^ G ∧ z_n M (p + 4) = 2 ^ G ∧ z_n M (p + 5) = 2 ^ G ∧ z_i M p 0 = nI G ∧ z_i M p 1 = nI last
theorem pw_le {o G : Nat} (h : o ≤ G) : 2 ^ o ≤ 2 ^ G := Nat.pow_le_pow_right (by omega) h
theorem pw_9 {o : Nat} (h : o ≤ 9) : 2 ^ o ≤ 512 := pw_le (G := 9) h
theorem sh1 {o : Nat} (h : o ≤ 9) : nI 1 <<< (nI o &&& nI 31) = nI (2 ^ o) := by
  have := pw_9 h
  rw [q_shl (by omega) (by omega), Nat.one_mul]
theorem l_nextPlace {O : zO} {M : zM} {p G last o t i d : Nat} (h : zShS M p G last) (ho : z_i M p 7 = nI o) (h5 : 5 ≤ o) (h9 : o ≤ 9) (ht : 0 < t) (ht2 : t ≤ 2 ^ o) (hd : d ≤ 2 ^ o) (h1 : wk o (i + d) < t) (h2 : ∀ e, 0 < e → e < d → ¬ wk o (i + e) < t) : ∀ c k, k + c + 1 = d → zEv (fun n => f_Share_nextPlace_24 O n (nI (wk o i)) (nI (t - 1)) (nI (2 ^ o)) (nI (stp o)) (nI (wk o (i + k))) (nI k) M) (nI (wk o (i + d)), M) := by
  obtain ⟨s1, s2⟩ := h
  have hp := pw_9 h9
  have hst : stp o ≤ 600 := by unfold stp; omega
  intro c
  induction c with
  | zero =>
    intro k hk
    have hw := wk_lt o (i + k)
    refine zEv.succ ((zEv.some _).to fun n => ?_)
    rw [f_Share_nextPlace_24]
    simp (disch := omega) only [zlet, w_i_k, w_i_n, w_i_i, w_i_j, w_i_p, w_i_s, w_j_k, w_j_n, w_j_i, w_j_j, w_j_p, w_j_s, w_p_k, w_p_n, w_p_i, w_p_j, w_p_p, w_p_s, w_c_k, w_c_n, w_c_i, w_c_j, w_c_p, w_c_s, w_u_k, w_u_n, w_u_i, w_u_j, w_u_p, w_u_s, q_nf, ↓reduceIte, if_true, if_false, eq_self, and_true, true_and, and_false, false_and, Option.bind_some, ne_eq, not_false_eq_true, not_true_eq_false, nI_add, pk_mul, pk_sub, nI_ac, q_tlt, q_flt, q_tle, q_fle, q_teq, q_feq, q_tin, nI_cl, q_m1, q_m2, q_m3, q_m4, q_m5, q_m6, q_m7, q_l1, q_l2, q_l3, q_l4, q_l5, q_l6, lN_add, lN_mul, lN_sub, lN_i, nI_l, q_rem, q_rem2, q_div, q_shl, q_shr, q_i0, q_i1, q_i2, q_i3, q_i4, q_i5, q_i6, q_i7, q_i8, q_i9, q_i10, q_i11, q_i12, q_i14, q_i15, q_i16, q_i17, q_i18, q_i19, q_i20, q_i22, q_i24, q_i26, q_i28, q_i30, q_i31, q_i32, q_i35, q_i36, q_i38, q_i40, q_i42, q_i43, q_i48, q_i51, q_i52, q_i56, q_i63, q_i64, q_i67, q_i80, q_i95, q_i99, q_i126, q_i127, q_i128, q_i255, q_i256, q_i512, q_i1024, q_i12000, q_i32512, q_i32768, q_i131072, q_j0, q_j1, q_j2, q_j3, q_j4, q_j8, q_j256, Nat.one_mul, Nat.zero_add, Nat.add_zero, Nat.sub_zero, Nat.mul_one, q_ofN]
    have e : nI (wk o (i + k) + stp o) &&& nI (2 ^ o - 1) = nI (wk o (i + d)) := by
      rw [pk_andN (by omega) o (pk_tn (by omega)), ← wk_s]
      congr 2; omega
    rw [e]
    simp (disch := omega) only [zlet, w_i_k, w_i_n, w_i_i, w_i_j, w_i_p, w_i_s, w_j_k, w_j_n, w_j_i, w_j_j, w_j_p, w_j_s, w_p_k, w_p_n, w_p_i, w_p_j, w_p_p, w_p_s, w_c_k, w_c_n, w_c_i, w_c_j, w_c_p, w_c_s, w_u_k, w_u_n, w_u_i, w_u_j, w_u_p, w_u_s, q_nf, ↓reduceIte, if_true, if_false, eq_self, and_true, true_and, and_false, false_and, Option.bind_some, ne_eq, not_false_eq_true, not_true_eq_false, nI_add, pk_mul, pk_sub, nI_ac, q_tlt, q_flt, q_tle, q_fle, q_teq, q_feq, q_tin, nI_cl, q_m1, q_m2, q_m3, q_m4, q_m5, q_m6, q_m7, q_l1, q_l2, q_l3, q_l4, q_l5, q_l6, lN_add, lN_mul, lN_sub, lN_i, nI_l, q_rem, q_rem2, q_div, q_shl, q_shr, q_i0, q_i1, q_i2, q_i3, q_i4, q_i5, q_i6, q_i7, q_i8, q_i9, q_i10, q_i11, q_i12, q_i14, q_i15, q_i16, q_i17, q_i18, q_i19, q_i20, q_i22, q_i24, q_i26, q_i28, q_i30, q_i31, q_i32, q_i35, q_i36, q_i38, q_i40, q_i42, q_i43, q_i48, q_i51, q_i52, q_i56, q_i63, q_i64, q_i67, q_i80, q_i95, q_i99, q_i126, q_i127, q_i128, q_i255, q_i256, q_i512, q_i1024, q_i12000, q_i32512, q_i32768, q_i131072, q_j0, q_j1, q_j2, q_j3, q_j4, q_j8, q_j256, Nat.one_mul, Nat.zero_add, Nat.add_zero, Nat.sub_zero, Nat.mul_one, q_ofN]
  | succ c ih =>
    intro k hk
    have hw := wk_lt o (i + k)
    have hw2 := wk_lt o (i + k + 1)
    have hn : ¬ wk o (i + k + 1) < t := h2 (k + 1) (by omega) (by omega)
    refine zEv.succ ((ih (k + 1) (by omega)).to fun n => ?_)
    rw [f_Share_nextPlace_24]
    simp (disch := omega) only [zlet, w_i_k, w_i_n, w_i_i, w_i_j, w_i_p, w_i_s, w_j_k, w_j_n, w_j_i, w_j_j, w_j_p, w_j_s, w_p_k, w_p_n, w_p_i, w_p_j, w_p_p, w_p_s, w_c_k, w_c_n, w_c_i, w_c_j, w_c_p, w_c_s, w_u_k, w_u_n, w_u_i, w_u_j, w_u_p, w_u_s, q_nf, ↓reduceIte, if_true, if_false, eq_self, and_true, true_and, and_false, false_and, Option.bind_some, ne_eq, not_false_eq_true, not_true_eq_false, nI_add, pk_mul, pk_sub, nI_ac, q_tlt, q_flt, q_tle, q_fle, q_teq, q_feq, q_tin, nI_cl, q_m1, q_m2, q_m3, q_m4, q_m5, q_m6, q_m7, q_l1, q_l2, q_l3, q_l4, q_l5, q_l6, lN_add, lN_mul, lN_sub, lN_i, nI_l, q_rem, q_rem2, q_div, q_shl, q_shr, q_i0, q_i1, q_i2, q_i3, q_i4, q_i5, q_i6, q_i7, q_i8, q_i9, q_i10, q_i11, q_i12, q_i14, q_i15, q_i16, q_i17, q_i18, q_i19, q_i20, q_i22, q_i24, q_i26, q_i28, q_i30, q_i31, q_i32, q_i35, q_i36, q_i38, q_i40, q_i42, q_i43, q_i48, q_i51, q_i52, q_i56, q_i63, q_i64, q_i67, q_i80, q_i95, q_i99, q_i126, q_i127, q_i128, q_i255, q_i256, q_i512, q_i1024, q_i12000, q_i32512, q_i32768, q_i131072, q_j0, q_j1, q_j2, q_j3, q_j4, q_j8, q_j256, Nat.one_mul, Nat.zero_add, Nat.add_zero, Nat.sub_zero, Nat.mul_one, q_ofN]
    have e : nI (wk o (i + k) + stp o) &&& nI (2 ^ o - 1) = nI (wk o (i + k + 1)) := by
      rw [pk_andN (by omega) o (pk_tn (by omega)), ← wk_s]
    rw [e]
    simp (disch := omega) only [zlet, w_i_k, w_i_n, w_i_i, w_i_j, w_i_p, w_i_s, w_j_k, w_j_n, w_j_i, w_j_j, w_j_p, w_j_s, w_p_k, w_p_n, w_p_i, w_p_j, w_p_p, w_p_s, w_c_k, w_c_n, w_c_i, w_c_j, w_c_p, w_c_s, w_u_k, w_u_n, w_u_i, w_u_j, w_u_p, w_u_s, q_nf, ↓reduceIte, if_true, if_false, eq_self, and_true, true_and, and_false, false_and, Option.bind_some, ne_eq, not_false_eq_true, not_true_eq_false, nI_add, pk_mul, pk_sub, nI_ac, q_tlt, q_flt, q_tle, q_fle, q_teq, q_feq, q_tin, nI_cl, q_m1, q_m2, q_m3, q_m4, q_m5, q_m6, q_m7, q_l1, q_l2, q_l3, q_l4, q_l5, q_l6, lN_add, lN_mul, lN_sub, lN_i, nI_l, q_rem, q_rem2, q_div, q_shl, q_shr, q_i0, q_i1, q_i2, q_i3, q_i4, q_i5, q_i6, q_i7, q_i8, q_i9, q_i10, q_i11, q_i12, q_i14, q_i15, q_i16, q_i17, q_i18, q_i19, q_i20, q_i22, q_i24, q_i26, q_i28, q_i30, q_i31, q_i32, q_i35, q_i36, q_i38, q_i40, q_i42, q_i43, q_i48, q_i51, q_i52, q_i56, q_i63, q_i64, q_i67, q_i80, q_i95, q_i99, q_i126, q_i127, q_i128, q_i255, q_i256, q_i512, q_i1024, q_i12000, q_i32512, q_i32768, q_i131072, q_j0, q_j1, q_j2, q_j3, q_j4, q_j8, q_j256, Nat.one_mul, Nat.zero_add, Nat.add_zero, Nat.sub_zero, Nat.mul_one, q_ofN]
    rfl
theorem c_nextPlace {O : zO} {M : zM} {p G last o t i d : Nat} (h : zShS M p G last) (ho : z_i M p 7 = nI o) (h5 : 5 ≤ o) (h9 : o ≤ 9) (ht : 0 < t) (ht2 : t ≤ 2 ^ o) (hd0 : 0 < d) (hd : d ≤ 2 ^ o) (h1 : wk o (i + d) < t) (h2 : ∀ e, 0 < e → e < d → ¬ wk o (i + e) < t) : zEv (fun n => F_Share_nextPlace O n p (nI (wk o i)) (nI (t - 1)) M) (nI (wk o (i + d)), M) := by
  have hp := pw_9 h9
  refine (l_nextPlace (O := O) h ho h5 h9 ht ht2 hd h1 h2 (d - 1) 0 (by omega)).to fun n => ?_
  unfold F_Share_nextPlace f_Share_nextPlace_0
  simp (disch := omega) only [zlet, w_i_k, w_i_n, w_i_i, w_i_j, w_i_p, w_i_s, w_j_k, w_j_n, w_j_i, w_j_j, w_j_p, w_j_s, w_p_k, w_p_n, w_p_i, w_p_j, w_p_p, w_p_s, w_c_k, w_c_n, w_c_i, w_c_j, w_c_p, w_c_s, w_u_k, w_u_n, w_u_i, w_u_j, w_u_p, w_u_s, q_nf, ↓reduceIte, if_true, if_false, eq_self, and_true, true_and, and_false, false_and, Option.bind_some, ne_eq, not_false_eq_true, not_true_eq_false, nI_add, pk_mul, pk_sub, nI_ac, q_tlt, q_flt, q_tle, q_fle, q_teq, q_feq, q_tin, nI_cl, q_m1, q_m2, q_m3, q_m4, q_m5, q_m6, q_m7, q_l1, q_l2, q_l3, q_l4, q_l5, q_l6, lN_add, lN_mul, lN_sub, lN_i, nI_l, q_rem, q_rem2, q_div, q_shl, q_shr, q_i0, q_i1, q_i2, q_i3, q_i4, q_i5, q_i6, q_i7, q_i8, q_i9, q_i10, q_i11, q_i12, q_i14, q_i15, q_i16, q_i17, q_i18, q_i19, q_i20, q_i22, q_i24, q_i26, q_i28, q_i30, q_i31, q_i32, q_i35, q_i36, q_i38, q_i40, q_i42, q_i43, q_i48, q_i51, q_i52, q_i56, q_i63, q_i64, q_i67, q_i80, q_i95, q_i99, q_i126, q_i127, q_i128, q_i255, q_i256, q_i512, q_i1024, q_i12000, q_i32512, q_i32768, q_i131072, q_j0, q_j1, q_j2, q_j3, q_j4, q_j8, q_j256, Nat.one_mul, Nat.zero_add, Nat.add_zero, Nat.sub_zero, Nat.mul_one, q_ofN, h.1, ho]
  rfl
