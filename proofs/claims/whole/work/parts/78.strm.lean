/-! Streams: opened, and taken from; both sides. -/
def opS (b : Nat → Nat) (fr to : Nat) : Option Nat := if fr < to ∧ b (to - 1) ≠ 0 then some (8 * (to - 1 - fr) + hib (b (to - 1))) else none
theorem opS_ok {b : Nat → Nat} {fr to L : Nat} (h : opS b fr to = some L) (hb : b (to - 1) < 256) : fr < to ∧ 8 * fr + L < 8 * to := by
  unfold opS at h
  split at h
  · rename_i c
    cases h
    have := hib_lt (v := b (to - 1)) (k := 8) hb (by omega)
    exact ⟨c.1, by omega⟩
  · cases h
theorem c_open {O : zO} {M : zM} {p r a N c fr to : Nat} {b : Nat → Nat} (hk : z_k M p = 12) (hr : zRow M r a N c b) (hpr : p ≠ r ∧ p ≠ a) (hfr : fr ≤ c) (hto : to ≤ c) : zEv (fun n => F_Stream_open O n p r (nI fr) (nI to) M) (match opS b fr to with
    | some L => (1, w_i (w_i (w_p M p 0 a) p 1 (nI fr)) p 2 (nI L))
    | none => (0, w_i (w_i (w_p M p 0 a) p 1 (nI fr)) p 2 0)) := by
  have hr' := hr
  obtain ⟨r1, r2, r3, r4, r5, r6, r7, r8⟩ := hr'
  have hrow : zRow (w_i (w_i (w_p M p 0 a) p 1 (nI fr)) p 2 0) r a N c b := by
    obtain ⟨d1, d2⟩ := hpr
    have d1' := d1.symm
    have d2' := d2.symm
    refine ⟨r1, ?_, r3, r4, ?_, r6, r7, fun j hj => ⟨(r8 j hj).1, ?_⟩⟩
    · simp (disch := omega) only [zlet, w_i_k, w_i_n, w_i_i, w_i_j, w_i_p, w_i_s, w_j_k, w_j_n, w_j_i, w_j_j, w_j_p, w_j_s, w_p_k, w_p_n, w_p_i, w_p_j, w_p_p, w_p_s, w_c_k, w_c_n, w_c_i, w_c_j, w_c_p, w_c_s, w_u_k, w_u_n, w_u_i, w_u_j, w_u_p, w_u_s, q_nf, ↓reduceIte, if_true, if_false, eq_self, and_true, true_and, and_false, false_and, Option.bind_some, ne_eq, not_false_eq_true, not_true_eq_false, d1', r2]
    · simp (disch := omega) only [zlet, w_i_k, w_i_n, w_i_i, w_i_j, w_i_p, w_i_s, w_j_k, w_j_n, w_j_i, w_j_j, w_j_p, w_j_s, w_p_k, w_p_n, w_p_i, w_p_j, w_p_p, w_p_s, w_c_k, w_c_n, w_c_i, w_c_j, w_c_p, w_c_s, w_u_k, w_u_n, w_u_i, w_u_j, w_u_p, w_u_s, q_nf, ↓reduceIte, if_true, if_false, eq_self, and_true, true_and, and_false, false_and, Option.bind_some, ne_eq, not_false_eq_true, not_true_eq_false, d1', r5]
    · simp (disch := omega) only [zlet, w_i_k, w_i_n, w_i_i, w_i_j, w_i_p, w_i_s, w_j_k, w_j_n, w_j_i, w_j_j, w_j_p, w_j_s, w_p_k, w_p_n, w_p_i, w_p_j, w_p_p, w_p_s, w_c_k, w_c_n, w_c_i, w_c_j, w_c_p, w_c_s, w_u_k, w_u_n, w_u_i, w_u_j, w_u_p, w_u_s, q_nf, ↓reduceIte, if_true, if_false, eq_self, and_true, true_and, and_false, false_and, Option.bind_some, ne_eq, not_false_eq_true, not_true_eq_false, d2']
      exact (r8 j hj).2
  have hrp : r ≠ p := fun w => hpr.1 w.symm
  have start : ∀ {α : Int32 × zM}, zEv (fun n => if nI to ≤ nI fr then some ((0 : Int32), w_i (w_i (w_p M p 0 a) p 1 (nI fr)) p 2 0) else (F_Row_at O n r (nI to - nI 1) (w_i (w_i (w_p M p 0 a) p 1 (nI fr)) p 2 0)).bind fun q15 =>
      if q15.1 = nI 0 then some ((0 : Int32), q15.2)
      else (F_JInt_numberOfLeadingZeros O n q15.1 q15.2).bind fun q17 =>
      if z_k q17.2 p = 12 then some ((1 : Int32), w_i q17.2 p 2 (((nI 8 * ((nI to - nI 1) - nI fr)) + nI 31) - q17.1)) else none) α → zEv (fun n => F_Stream_open O n p r (nI fr) (nI to) M) α := fun hα => by
    refine hα.to fun n => ?_
    unfold F_Stream_open f_Stream_open_0 f_Stream_open_35
    rw [if_pos r1, if_pos hk, r2]
    simp only [zlet]
    rw [if_neg (nI_pos (by omega)), show z_i (w_i (w_i (w_p M p 0 a) p 1 (nI fr)) p 2 0) r 1 = nI c from hrow.2.2.2.2.1, if_pos (nI_le hto (by omega))]
    rfl
  unfold opS
  by_cases c1 : fr < to
  · have hat := c_Row_at (O := O) (k := to - 1) hrow (by omega)
    rw [if_pos (by omega)] at hat
    have hb := (r8 (to - 1) (by omega)).1
    by_cases c2 : b (to - 1) = 0
    · rw [if_neg (fun w => w.2 c2)]
      refine start ?_
      simp (disch := omega) only [zlet, w_i_k, w_i_n, w_i_i, w_i_j, w_i_p, w_i_s, w_j_k, w_j_n, w_j_i, w_j_j, w_j_p, w_j_s, w_p_k, w_p_n, w_p_i, w_p_j, w_p_p, w_p_s, w_c_k, w_c_n, w_c_i, w_c_j, w_c_p, w_c_s, w_u_k, w_u_n, w_u_i, w_u_j, w_u_p, w_u_s, q_nf, ↓reduceIte, if_true, if_false, eq_self, and_true, true_and, and_false, false_and, Option.bind_some, ne_eq, not_false_eq_true, not_true_eq_false, nI_add, pk_mul, pk_sub, nI_ac, q_tlt, q_flt, q_tle, q_fle, q_teq, q_feq, q_tin, nI_cl, q_m1, q_m2, q_m3, q_m4, q_m5, q_m6, q_m7, q_l1, q_l2, q_l3, q_l4, q_l5, q_l6, lN_add, lN_mul, lN_sub, lN_i, nI_l, q_rem, q_rem2, q_div, q_shl, q_shr, q_i0, q_i1, q_i2, q_i3, q_i4, q_i5, q_i6, q_i7, q_i8, q_i9, q_i10, q_i11, q_i12, q_i14, q_i15, q_i16, q_i17, q_i18, q_i19, q_i20, q_i22, q_i24, q_i26, q_i28, q_i30, q_i31, q_i32, q_i35, q_i36, q_i38, q_i40, q_i42, q_i43, q_i48, q_i51, q_i52, q_i56, q_i63, q_i64, q_i67, q_i80, q_i95, q_i99, q_i126, q_i127, q_i128, q_i255, q_i256, q_i512, q_i1024, q_i12000, q_i32512, q_i32768, q_i131072, q_j0, q_j1, q_j2, q_j3, q_j4, q_j8, q_j256, Nat.one_mul, Nat.zero_add, Nat.add_zero, Nat.sub_zero, Nat.mul_one, q_ofN]
      refine zEv.bind hat ((zEv.some _).to fun n => ?_)
      simp (disch := omega) only [zlet, w_i_k, w_i_n, w_i_i, w_i_j, w_i_p, w_i_s, w_j_k, w_j_n, w_j_i, w_j_j, w_j_p, w_j_s, w_p_k, w_p_n, w_p_i, w_p_j, w_p_p, w_p_s, w_c_k, w_c_n, w_c_i, w_c_j, w_c_p, w_c_s, w_u_k, w_u_n, w_u_i, w_u_j, w_u_p, w_u_s, q_nf, ↓reduceIte, if_true, if_false, eq_self, and_true, true_and, and_false, false_and, Option.bind_some, ne_eq, not_false_eq_true, not_true_eq_false, nI_add, pk_mul, pk_sub, nI_ac, q_tlt, q_flt, q_tle, q_fle, q_teq, q_feq, q_tin, nI_cl, q_m1, q_m2, q_m3, q_m4, q_m5, q_m6, q_m7, q_l1, q_l2, q_l3, q_l4, q_l5, q_l6, lN_add, lN_mul, lN_sub, lN_i, nI_l, q_rem, q_rem2, q_div, q_shl, q_shr, q_i0, q_i1, q_i2, q_i3, q_i4, q_i5, q_i6, q_i7, q_i8, q_i9, q_i10, q_i11, q_i12, q_i14, q_i15, q_i16, q_i17, q_i18, q_i19, q_i20, q_i22, q_i24, q_i26, q_i28, q_i30, q_i31, q_i32, q_i35, q_i36, q_i38, q_i40, q_i42, q_i43, q_i48, q_i51, q_i52, q_i56, q_i63, q_i64, q_i67, q_i80, q_i95, q_i99, q_i126, q_i127, q_i128, q_i255, q_i256, q_i512, q_i1024, q_i12000, q_i32512, q_i32768, q_i131072, q_j0, q_j1, q_j2, q_j3, q_j4, q_j8, q_j256, Nat.one_mul, Nat.zero_add, Nat.add_zero, Nat.sub_zero, Nat.mul_one, q_ofN, c2]
    · rw [if_pos ⟨c1, c2⟩]
      refine start ?_
      simp (disch := omega) only [zlet, w_i_k, w_i_n, w_i_i, w_i_j, w_i_p, w_i_s, w_j_k, w_j_n, w_j_i, w_j_j, w_j_p, w_j_s, w_p_k, w_p_n, w_p_i, w_p_j, w_p_p, w_p_s, w_c_k, w_c_n, w_c_i, w_c_j, w_c_p, w_c_s, w_u_k, w_u_n, w_u_i, w_u_j, w_u_p, w_u_s, q_nf, ↓reduceIte, if_true, if_false, eq_self, and_true, true_and, and_false, false_and, Option.bind_some, ne_eq, not_false_eq_true, not_true_eq_false, nI_add, pk_mul, pk_sub, nI_ac, q_tlt, q_flt, q_tle, q_fle, q_teq, q_feq, q_tin, nI_cl, q_m1, q_m2, q_m3, q_m4, q_m5, q_m6, q_m7, q_l1, q_l2, q_l3, q_l4, q_l5, q_l6, lN_add, lN_mul, lN_sub, lN_i, nI_l, q_rem, q_rem2, q_div, q_shl, q_shr, q_i0, q_i1, q_i2, q_i3, q_i4, q_i5, q_i6, q_i7, q_i8, q_i9, q_i10, q_i11, q_i12, q_i14, q_i15, q_i16, q_i17, q_i18, q_i19, q_i20, q_i22, q_i24, q_i26, q_i28, q_i30, q_i31, q_i32, q_i35, q_i36, q_i38, q_i40, q_i42, q_i43, q_i48, q_i51, q_i52, q_i56, q_i63, q_i64, q_i67, q_i80, q_i95, q_i99, q_i126, q_i127, q_i128, q_i255, q_i256, q_i512, q_i1024, q_i12000, q_i32512, q_i32768, q_i131072, q_j0, q_j1, q_j2, q_j3, q_j4, q_j8, q_j256, Nat.one_mul, Nat.zero_add, Nat.add_zero, Nat.sub_zero, Nat.mul_one, q_ofN]
      refine zEv.bind hat ?_
      simp (disch := omega) only [zlet, w_i_k, w_i_n, w_i_i, w_i_j, w_i_p, w_i_s, w_j_k, w_j_n, w_j_i, w_j_j, w_j_p, w_j_s, w_p_k, w_p_n, w_p_i, w_p_j, w_p_p, w_p_s, w_c_k, w_c_n, w_c_i, w_c_j, w_c_p, w_c_s, w_u_k, w_u_n, w_u_i, w_u_j, w_u_p, w_u_s, q_nf, ↓reduceIte, if_true, if_false, eq_self, and_true, true_and, and_false, false_and, Option.bind_some, ne_eq, not_false_eq_true, not_true_eq_false, nI_add, pk_mul, pk_sub, nI_ac, q_tlt, q_flt, q_tle, q_fle, q_teq, q_feq, q_tin, nI_cl, q_m1, q_m2, q_m3, q_m4, q_m5, q_m6, q_m7, q_l1, q_l2, q_l3, q_l4, q_l5, q_l6, lN_add, lN_mul, lN_sub, lN_i, nI_l, q_rem, q_rem2, q_div, q_shl, q_shr, q_i0, q_i1, q_i2, q_i3, q_i4, q_i5, q_i6, q_i7, q_i8, q_i9, q_i10, q_i11, q_i12, q_i14, q_i15, q_i16, q_i17, q_i18, q_i19, q_i20, q_i22, q_i24, q_i26, q_i28, q_i30, q_i31, q_i32, q_i35, q_i36, q_i38, q_i40, q_i42, q_i43, q_i48, q_i51, q_i52, q_i56, q_i63, q_i64, q_i67, q_i80, q_i95, q_i99, q_i126, q_i127, q_i128, q_i255, q_i256, q_i512, q_i1024, q_i12000, q_i32512, q_i32768, q_i131072, q_j0, q_j1, q_j2, q_j3, q_j4, q_j8, q_j256, Nat.one_mul, Nat.zero_add, Nat.add_zero, Nat.sub_zero, Nat.mul_one, q_ofN]
      refine zEv.bind (c_nlz (by omega) (by omega)) ((zEv.some _).to fun n => ?_)
      have hh := hib_lt (v := b (to - 1)) (k := 8) hb (by omega)
      simp (disch := omega) only [zlet, w_i_k, w_i_n, w_i_i, w_i_j, w_i_p, w_i_s, w_j_k, w_j_n, w_j_i, w_j_j, w_j_p, w_j_s, w_p_k, w_p_n, w_p_i, w_p_j, w_p_p, w_p_s, w_c_k, w_c_n, w_c_i, w_c_j, w_c_p, w_c_s, w_u_k, w_u_n, w_u_i, w_u_j, w_u_p, w_u_s, q_nf, ↓reduceIte, if_true, if_false, eq_self, and_true, true_and, and_false, false_and, Option.bind_some, ne_eq, not_false_eq_true, not_true_eq_false, nI_add, pk_mul, pk_sub, nI_ac, q_tlt, q_flt, q_tle, q_fle, q_teq, q_feq, q_tin, nI_cl, q_m1, q_m2, q_m3, q_m4, q_m5, q_m6, q_m7, q_l1, q_l2, q_l3, q_l4, q_l5, q_l6, lN_add, lN_mul, lN_sub, lN_i, nI_l, q_rem, q_rem2, q_div, q_shl, q_shr, q_i0, q_i1, q_i2, q_i3, q_i4, q_i5, q_i6, q_i7, q_i8, q_i9, q_i10, q_i11, q_i12, q_i14, q_i15, q_i16, q_i17, q_i18, q_i19, q_i20, q_i22, q_i24, q_i26, q_i28, q_i30, q_i31, q_i32, q_i35, q_i36, q_i38, q_i40, q_i42, q_i43, q_i48, q_i51, q_i52, q_i56, q_i63, q_i64, q_i67, q_i80, q_i95, q_i99, q_i126, q_i127, q_i128, q_i255, q_i256, q_i512, q_i1024, q_i12000, q_i32512, q_i32768, q_i131072, q_j0, q_j1, q_j2, q_j3, q_j4, q_j8, q_j256, Nat.one_mul, Nat.zero_add, Nat.add_zero, Nat.sub_zero, Nat.mul_one, q_ofN, hk]
      rw [show 8 * (to - 1 - fr) + 31 - (31 - hib (b (to - 1))) = 8 * (to - 1 - fr) + hib (b (to - 1)) by omega, w_ii]
  · rw [if_neg (fun w => c1 w.1)]
    refine start ((zEv.some _).to fun n => ?_)
    simp (disch := omega) only [zlet, w_i_k, w_i_n, w_i_i, w_i_j, w_i_p, w_i_s, w_j_k, w_j_n, w_j_i, w_j_j, w_j_p, w_j_s, w_p_k, w_p_n, w_p_i, w_p_j, w_p_p, w_p_s, w_c_k, w_c_n, w_c_i, w_c_j, w_c_p, w_c_s, w_u_k, w_u_n, w_u_i, w_u_j, w_u_p, w_u_s, q_nf, ↓reduceIte, if_true, if_false, eq_self, and_true, true_and, and_false, false_and, Option.bind_some, ne_eq, not_false_eq_true, not_true_eq_false, nI_add, pk_mul, pk_sub, nI_ac, q_tlt, q_flt, q_tle, q_fle, q_teq, q_feq, q_tin, nI_cl, q_m1, q_m2, q_m3, q_m4, q_m5, q_m6, q_m7, q_l1, q_l2, q_l3, q_l4, q_l5, q_l6, lN_add, lN_mul, lN_sub, lN_i, nI_l, q_rem, q_rem2, q_div, q_shl, q_shr, q_i0, q_i1, q_i2, q_i3, q_i4, q_i5, q_i6, q_i7, q_i8, q_i9, q_i10, q_i11, q_i12, q_i14, q_i15, q_i16, q_i17, q_i18, q_i19, q_i20, q_i22, q_i24, q_i26, q_i28, q_i30, q_i31, q_i32, q_i35, q_i36, q_i38, q_i40, q_i42, q_i43, q_i48, q_i51, q_i52, q_i56, q_i63, q_i64, q_i67, q_i80, q_i95, q_i99, q_i126, q_i127, q_i128, q_i255, q_i256, q_i512, q_i1024, q_i12000, q_i32512, q_i32768, q_i131072, q_j0, q_j1, q_j2, q_j3, q_j4, q_j8, q_j256, Nat.one_mul, Nat.zero_add, Nat.add_zero, Nat.sub_zero, Nat.mul_one, q_ofN]
theorem c_Mo_open {O : zO} {M : zM} {m c fr to : Nat} {b : Nat → Nat} (hin : zIn13 M m (m + 1) c b) (hto : to ≤ c) (hfr : fr ≤ c) : zEv (fun n => F_Mo_open O n m (nI fr) (nI to) M) (match opS b fr to with
    | some L => (1, w_i (w_i M m 47 (nI (8 * fr))) m 48 (nI L))
    | none => (0, M)) := by
  obtain ⟨i1, i2, i3, i4, i5, i6, i7⟩ := hin
  unfold opS
  by_cases c1 : fr < to
  · obtain ⟨hb, hb2⟩ := i7 (to - 1) (by omega)
    by_cases c2 : b (to - 1) = 0
    · rw [if_neg (fun w => w.2 c2)]
      refine (zEv.some _).to fun n => ?_
      rw [c2] at hb2
      unfold F_Mo_open f_Mo_open_0 f_Mo_open_16
      simp (disch := omega) only [zlet, w_i_k, w_i_n, w_i_i, w_i_j, w_i_p, w_i_s, w_j_k, w_j_n, w_j_i, w_j_j, w_j_p, w_j_s, w_p_k, w_p_n, w_p_i, w_p_j, w_p_p, w_p_s, w_c_k, w_c_n, w_c_i, w_c_j, w_c_p, w_c_s, w_u_k, w_u_n, w_u_i, w_u_j, w_u_p, w_u_s, q_nf, ↓reduceIte, if_true, if_false, eq_self, and_true, true_and, and_false, false_and, Option.bind_some, ne_eq, not_false_eq_true, not_true_eq_false, nI_add, pk_mul, pk_sub, nI_ac, q_tlt, q_flt, q_tle, q_fle, q_teq, q_feq, q_tin, nI_cl, q_m1, q_m2, q_m3, q_m4, q_m5, q_m6, q_m7, q_l1, q_l2, q_l3, q_l4, q_l5, q_l6, lN_add, lN_mul, lN_sub, lN_i, nI_l, q_rem, q_rem2, q_div, q_shl, q_shr, q_i0, q_i1, q_i2, q_i3, q_i4, q_i5, q_i6, q_i7, q_i8, q_i9, q_i10, q_i11, q_i12, q_i14, q_i15, q_i16, q_i17, q_i18, q_i19, q_i20, q_i22, q_i24, q_i26, q_i28, q_i30, q_i31, q_i32, q_i35, q_i36, q_i38, q_i40, q_i42, q_i43, q_i48, q_i51, q_i52, q_i56, q_i63, q_i64, q_i67, q_i80, q_i95, q_i99, q_i126, q_i127, q_i128, q_i255, q_i256, q_i512, q_i1024, q_i12000, q_i32512, q_i32768, q_i131072, q_j0, q_j1, q_j2, q_j3, q_j4, q_j8, q_j256, Nat.one_mul, Nat.zero_add, Nat.add_zero, Nat.sub_zero, Nat.mul_one, q_ofN, i1, i2, i3, i4, hb2]
    · rw [if_pos ⟨c1, c2⟩]
      unfold F_Mo_open f_Mo_open_0 f_Mo_open_16
      simp (disch := omega) only [zlet, w_i_k, w_i_n, w_i_i, w_i_j, w_i_p, w_i_s, w_j_k, w_j_n, w_j_i, w_j_j, w_j_p, w_j_s, w_p_k, w_p_n, w_p_i, w_p_j, w_p_p, w_p_s, w_c_k, w_c_n, w_c_i, w_c_j, w_c_p, w_c_s, w_u_k, w_u_n, w_u_i, w_u_j, w_u_p, w_u_s, q_nf, ↓reduceIte, if_true, if_false, eq_self, and_true, true_and, and_false, false_and, Option.bind_some, ne_eq, not_false_eq_true, not_true_eq_false, nI_add, pk_mul, pk_sub, nI_ac, q_tlt, q_flt, q_tle, q_fle, q_teq, q_feq, q_tin, nI_cl, q_m1, q_m2, q_m3, q_m4, q_m5, q_m6, q_m7, q_l1, q_l2, q_l3, q_l4, q_l5, q_l6, lN_add, lN_mul, lN_sub, lN_i, nI_l, q_rem, q_rem2, q_div, q_shl, q_shr, q_i0, q_i1, q_i2, q_i3, q_i4, q_i5, q_i6, q_i7, q_i8, q_i9, q_i10, q_i11, q_i12, q_i14, q_i15, q_i16, q_i17, q_i18, q_i19, q_i20, q_i22, q_i24, q_i26, q_i28, q_i30, q_i31, q_i32, q_i35, q_i36, q_i38, q_i40, q_i42, q_i43, q_i48, q_i51, q_i52, q_i56, q_i63, q_i64, q_i67, q_i80, q_i95, q_i99, q_i126, q_i127, q_i128, q_i255, q_i256, q_i512, q_i1024, q_i12000, q_i32512, q_i32768, q_i131072, q_j0, q_j1, q_j2, q_j3, q_j4, q_j8, q_j256, Nat.one_mul, Nat.zero_add, Nat.add_zero, Nat.sub_zero, Nat.mul_one, q_ofN, i1, i2, i3, i4, hb2]
      refine zEv.bind (c_Mo_highest (by omega) (by omega)) ((zEv.some _).to fun n => ?_)
      simp (disch := omega) only [zlet, w_i_k, w_i_n, w_i_i, w_i_j, w_i_p, w_i_s, w_j_k, w_j_n, w_j_i, w_j_j, w_j_p, w_j_s, w_p_k, w_p_n, w_p_i, w_p_j, w_p_p, w_p_s, w_c_k, w_c_n, w_c_i, w_c_j, w_c_p, w_c_s, w_u_k, w_u_n, w_u_i, w_u_j, w_u_p, w_u_s, q_nf, ↓reduceIte, if_true, if_false, eq_self, and_true, true_and, and_false, false_and, Option.bind_some, ne_eq, not_false_eq_true, not_true_eq_false, nI_add, pk_mul, pk_sub, nI_ac, q_tlt, q_flt, q_tle, q_fle, q_teq, q_feq, q_tin, nI_cl, q_m1, q_m2, q_m3, q_m4, q_m5, q_m6, q_m7, q_l1, q_l2, q_l3, q_l4, q_l5, q_l6, lN_add, lN_mul, lN_sub, lN_i, nI_l, q_rem, q_rem2, q_div, q_shl, q_shr, q_i0, q_i1, q_i2, q_i3, q_i4, q_i5, q_i6, q_i7, q_i8, q_i9, q_i10, q_i11, q_i12, q_i14, q_i15, q_i16, q_i17, q_i18, q_i19, q_i20, q_i22, q_i24, q_i26, q_i28, q_i30, q_i31, q_i32, q_i35, q_i36, q_i38, q_i40, q_i42, q_i43, q_i48, q_i51, q_i52, q_i56, q_i63, q_i64, q_i67, q_i80, q_i95, q_i99, q_i126, q_i127, q_i128, q_i255, q_i256, q_i512, q_i1024, q_i12000, q_i32512, q_i32768, q_i131072, q_j0, q_j1, q_j2, q_j3, q_j4, q_j8, q_j256, Nat.one_mul, Nat.zero_add, Nat.add_zero, Nat.sub_zero, Nat.mul_one, q_ofN, i1]
  · rw [if_neg (fun w => c1 w.1)]
    refine (zEv.some _).to fun n => ?_
    unfold F_Mo_open f_Mo_open_0 f_Mo_open_16
    simp (disch := omega) only [zlet, w_i_k, w_i_n, w_i_i, w_i_j, w_i_p, w_i_s, w_j_k, w_j_n, w_j_i, w_j_j, w_j_p, w_j_s, w_p_k, w_p_n, w_p_i, w_p_j, w_p_p, w_p_s, w_c_k, w_c_n, w_c_i, w_c_j, w_c_p, w_c_s, w_u_k, w_u_n, w_u_i, w_u_j, w_u_p, w_u_s, q_nf, ↓reduceIte, if_true, if_false, eq_self, and_true, true_and, and_false, false_and, Option.bind_some, ne_eq, not_false_eq_true, not_true_eq_false, nI_add, pk_mul, pk_sub, nI_ac, q_tlt, q_flt, q_tle, q_fle, q_teq, q_feq, q_tin, nI_cl, q_m1, q_m2, q_m3, q_m4, q_m5, q_m6, q_m7, q_l1, q_l2, q_l3, q_l4, q_l5, q_l6, lN_add, lN_mul, lN_sub, lN_i, nI_l, q_rem, q_rem2, q_div, q_shl, q_shr, q_i0, q_i1, q_i2, q_i3, q_i4, q_i5, q_i6, q_i7, q_i8, q_i9, q_i10, q_i11, q_i12, q_i14, q_i15, q_i16, q_i17, q_i18, q_i19, q_i20, q_i22, q_i24, q_i26, q_i28, q_i30, q_i31, q_i32, q_i35, q_i36, q_i38, q_i40, q_i42, q_i43, q_i48, q_i51, q_i52, q_i56, q_i63, q_i64, q_i67, q_i80, q_i95, q_i99, q_i126, q_i127, q_i128, q_i255, q_i256, q_i512, q_i1024, q_i12000, q_i32512, q_i32768, q_i131072, q_j0, q_j1, q_j2, q_j3, q_j4, q_j8, q_j256, Nat.one_mul, Nat.zero_add, Nat.add_zero, Nat.sub_zero, Nat.mul_one, q_ofN]
/-- a class's stream: where its bytes lie, from which index -/
def zStr (M : zM) (p a N c : Nat) (b : Nat → Nat) (fr : Nat) : Prop := z_k M p = 12 ∧ z_p M p 0 = a ∧ a ≠ 0 ∧ a ≠ p ∧ z_k M a = 101 ∧ z_n M a = N ∧ z_i M p 1 = nI fr ∧ c ≤ N ∧ N ≤ 32768 ∧ ∀ j, j < c → b j < 256 ∧ z_i M a j = sb_b (b j)
theorem zStr.w2 {M : zM} {p a N c fr : Nat} {b : Nat → Nat} {x : Int32} (h : zStr M p a N c b fr) : zStr (w_i M p 2 x) p a N c b fr := by
  obtain ⟨h1, h2, h3, h4, h5, h6, h7, h8, h9, h10⟩ := h
  refine ⟨h1, h2, h3, h4, h5, h6, ?_, h8, h9, fun j hj => ⟨(h10 j hj).1, ?_⟩⟩
  · rw [w_i_ne _ _ (by omega)]; exact h7
  · rw [w_i_ne _ _ (fun w => h4 w.1)]; exact (h10 j hj).2
theorem l_take {O : zO} {M : zM} {p a N c fr top low K : Nat} {b : Nat → Nat} (h : zStr M p a N c b fr) (hlow : low ≤ top) (hw : top - low ≤ 32) (hA : fr + low / 8 + K ≤ c) (hK : K ≤ 6) : ∀ j, j ≤ K → zEv (fun n => f_Stream_take_63 O n p (nI top) (nI low) (lN (nb b (fr + low / 8 + j) (K - j))) (nI (fr + low / 8 + j) - 1) M) (if 0 ≤ z_i M p 2 then lN (nb b (fr + low / 8) K / 2 ^ (low % 8) % 2 ^ (top - low)) else lN (nb b (fr + low / 8) K / 2 ^ (low % 8) % 2 ^ (top - low)) <<< ((-(z_i M p 2)).toInt64 &&& 63), M) := by
  obtain ⟨h1, h2, h3, h4, h5, h6, h7, h8, h9, h10⟩ := h
  have hnb : ∀ j, j ≤ K → nb b (fr + low / 8 + j) (K - j) < 256 ^ 6 := fun j hj => by
    have h9 : nb b (fr + low / 8 + j) (K - j) < 256 ^ (K - j) := nb_lt (fun i hi => (h10 _ (by omega)).1)
    have : 256 ^ (K - j) ≤ 256 ^ 6 := Nat.pow_le_pow_right (by omega) (by omega)
    omega
  have htop : top ≤ 400000 := by omega
  intro j
  induction j with
  | zero =>
    intro _
    have hv := hnb 0 (by omega)
    rw [Nat.add_zero, Nat.sub_zero] at hv
    refine zEv.succ ((zEv.some _).to fun n => ?_)
    have hx : (nI (fr + low / 8) - 1 < nI (fr + low / 8)) = True := by
      apply eq_true
      by_cases c0 : fr + low / 8 = 0
      · rw [c0]; decide
      · rw [nI_s1 (by omega)]; exact nI_lt (by omega) (by omega)
    have e1 : (1 : Int64) <<< ((nI (top - low)).toInt64 &&& 63) - 1 = lN (2 ^ (top - low) - 1) := by
      have := wb_shl 1 (k := top - low) (by omega)
      rw [show lN 1 = 1 from rfl, Nat.one_mul] at this
      rw [this, show (1 : Int64) = lN 1 from rfl, lN_sub (Nat.pow_pos (by omega))]
    rw [f_Stream_take_63]
    rw [if_pos h1, h7, show (3 : Int32) &&& 31 = nI 3 &&& nI 31 from rfl, q_shr (by omega) (by omega), nI_add, Nat.add_zero, Nat.sub_zero, if_pos (of_eq_true hx)]
    simp only [zlet]
    rw [pk_sub hlow, e1, nI_and7 (by omega), wb_shr (by omega) (by omega), wb_mask (Nat.lt_of_le_of_lt (Nat.div_le_self _ _) (by omega)) (by omega)]
    unfold f_Stream_take_158
    split <;> rfl
  | succ j ih =>
    intro hj
    have hb := h10 (fr + low / 8 + j) (by omega)
    have hv := hnb (j + 1) hj
    have hA' : nb b (fr + low / 8 + (j + 1)) (K - (j + 1)) * 256 + b (fr + low / 8 + j) = nb b (fr + low / 8 + j) (K - j) := by
      rw [show K - j = (K - (j + 1)) + 1 by omega]
      show _ = b (fr + low / 8 + j) + 256 * nb b (fr + low / 8 + j + 1) (K - (j + 1))
      rw [show fr + low / 8 + (j + 1) = fr + low / 8 + j + 1 by omega]
      omega
    have e1 : nI (fr + low / 8 + (j + 1)) - 1 = nI (fr + low / 8 + j) := by rw [nI_s1 (by omega)]; congr 1
    refine zEv.succ ((ih (by omega)).to fun n => ?_)
    rw [f_Stream_take_63, if_pos h1, h7, show (3 : Int32) &&& 31 = nI 3 &&& nI 31 from rfl, q_shr (by omega) (by omega), nI_add, e1, if_neg (nI_nlt (by omega) (by omega)), if_neg (nI_pos (by omega)), h2, if_pos h5, h6, show Int32.ofNat N = nI N from rfl, if_neg (fun w => by have := (nI_leI (by omega) (by omega)).mp w; omega), if_pos (zin_nI (by omega) (by omega)), nI_cl (by omega), hb.2, z_byte hb.1]
    unfold f_Stream_take_111
    simp only [zlet]
    rw [z_lg_step (by omega) hb.1, hA', ← Int32.sub_eq_add_neg]
/-- the value of n bits, L being left -/
def tkS (b : Nat → Nat) (fr L n : Nat) : Nat := if n ≤ L then bf b (8 * fr + L - n) n else bf b (8 * fr) L * 2 ^ (n - L)
theorem nI_nn {d : Nat} (h : d < 2147483648) : -(-nI d) = nI d := Int32.neg_neg
theorem c_take {O : zO} {M : zM} {p a N c fr L m : Nat} {b : Nat → Nat} (h : zStr M p a N c b fr) (hL : z_i M p 2 = nI L) (hc : 8 * fr + L ≤ 8 * c) (hm : m ≤ 32) : zEv (fun n => F_Stream_take O n p (nI m) M) (lN (tkS b fr L m), w_i M p 2 (nI L - nI m)) := by
  have h' := h
  obtain ⟨h1, h2, h3, h4, h5, h6, h7, h8, h9, h10⟩ := h'
  have hcc : c ≤ 32768 := by omega
  by_cases c0 : L = 0 ∨ m = 0
  · have ev : tkS b fr L m = 0 := by
      unfold tkS
      rcases c0 with c0 | c0
      · rw [c0]
        split
        · rename_i w
          rw [show m = 0 by omega]; rfl
        · rw [show bf b (8 * fr) 0 = 0 from rfl, Nat.zero_mul]
      · rw [c0, if_pos (by omega)]; rfl
    rw [ev]
    refine (zEv.some _).to fun n => ?_
    unfold F_Stream_take f_Stream_take_0 f_Stream_take_30
    rw [if_pos h1]
    simp only [zlet]
    rw [hL]
    by_cases c1 : L = 0
    · rw [if_pos (show nI L ≤ 0 by rw [c1]; decide)]; rfl
    · rw [if_neg (nI_nle (by omega) (by omega)), if_pos (show nI m ≤ 0 by rw [show m = 0 by omega]; decide)]; rfl
  · have hL1 : 0 < L := by omega
    have hm1 : 0 < m := by omega
    have hstr := h.w2 (x := nI L - nI m)
    -- low: what is left, or nothing
    have start : ∀ {α : Int64 × zM} (low : Nat), low = L - m → zEv (fun n => f_Stream_take_63 O n p (nI L) (nI low) (lN 0) (nI (fr + (L - 1) / 8 + 1) - 1) (w_i M p 2 (nI L - nI m))) α → zEv (fun n => F_Stream_take O n p (nI m) M) α := fun {α} low hlow hα => by
      refine hα.to fun n => ?_
      unfold F_Stream_take f_Stream_take_0
      rw [if_pos h1]
      simp only [zlet]
      rw [hL, if_neg (nI_nle (by omega) (by omega)), if_neg (nI_nle (by omega) (by omega)), show z_p (w_i M p 2 (nI L - nI m)) p 0 = a from h2, if_neg h3, w_i_eq]
      have e47 : ∀ s0, f_Stream_take_47 O n p (nI L) s0 (w_i M p 2 (nI L - nI m)) = f_Stream_take_63 O n p (nI L) s0 (lN 0) (nI (fr + (L - 1) / 8 + 1) - 1) (w_i M p 2 (nI L - nI m)) := fun s0 => by
        unfold f_Stream_take_47
        rw [if_pos (show z_k (w_i M p 2 (nI L - nI m)) p = 12 from h1), w_i_ne _ _ (by omega), h7, nI_s1 hL1, show (3 : Int32) &&& 31 = nI 3 &&& nI 31 from rfl, q_shr (by omega) (by omega), nI_add, nI_s1 (by omega)]
        rfl
      by_cases c1 : m < L
      · rw [pk_sub (by omega), if_neg (nI_nle (by omega) (by omega)), ← pk_sub (a := L) (b := m) (by omega), e47, pk_sub (by omega), ← hlow]
      · have hle : nI L - nI m ≤ 0 := by
          by_cases c2 : L = m
          · rw [c2]; rw [Int32.sub_self]; decide
          · have := pk_sneg (a := L) (b := m) (by omega) (by omega)
            rw [Int32.le_iff_toInt_le]; rw [Int32.lt_iff_toInt_lt] at this; omega
        rw [if_pos hle, e47, hlow, show L - m = 0 by omega]
        rfl
    have hst := l_take (O := O) (top := L) (low := L - m) (K := (L - 1) / 8 - (L - m) / 8 + 1) hstr (by omega) (by omega) (by omega) (by omega) ((L - 1) / 8 - (L - m) / 8 + 1) (Nat.le_refl _)
    rw [Nat.sub_self, show nb b (fr + (L - m) / 8 + ((L - 1) / 8 - (L - m) / 8 + 1)) 0 = 0 from rfl, show fr + (L - m) / 8 + ((L - 1) / 8 - (L - m) / 8 + 1) = fr + (L - 1) / 8 + 1 by omega, w_i_eq] at hst
    have hval : nb b (fr + (L - m) / 8) ((L - 1) / 8 - (L - m) / 8 + 1) / 2 ^ ((L - m) % 8) % 2 ^ (L - (L - m)) = bf b (8 * fr + (L - m)) (L - (L - m)) := by
      have := bf_nb b (p := 8 * fr + (L - m)) (n := L - (L - m)) (a := fr + (L - m) / 8) (k := (L - 1) / 8 - (L - m) / 8 + 1) (by omega) (by omega) (fun i hi => (h10 _ (by omega)).1)
      rw [this, show (8 * fr + (L - m)) % 8 = (L - m) % 8 by omega]
    rw [hval] at hst
    refine start (L - m) rfl (hst.eq ?_)
    unfold tkS
    by_cases c1 : m ≤ L
    · rw [if_pos c1, pk_sub c1, if_pos (nI_pos' (by omega)), show L - (L - m) = m by omega, show 8 * fr + (L - m) = 8 * fr + L - m by omega]
    · have hneg : nI L - nI m = -nI (m - L) := by
        rw [← pk_sub (a := m) (b := L) (by omega)]
        rw [Int32.neg_sub]
      rw [if_neg c1, hneg, if_neg (show ¬ 0 ≤ -nI (m - L) from by
        rw [Int32.le_iff_toInt_le, q_neg (by omega)]; show ¬ (0 : Int) ≤ _; omega), Int32.neg_neg, wb_shl _ (by omega), show L - m = 0 by omega, Nat.add_zero, Nat.sub_zero]
