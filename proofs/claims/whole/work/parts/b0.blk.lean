/-! A block: both sides together. -/
/-- the class within a frame -/
def zFC (M : zM) (X cN : Nat) (b : Nat → Nat) (hc : Option (Nat × (Nat → Nat))) (tb0 tb1 tb2 : Option tbT) (mo fs v c : Nat) (cb : Nat → Nat) (dc : Nat) (db : Nat → Nat) (d : Nat × Nat × Nat) (done : Nat) : Prop :=
  zSF M X ∧ zRow M (X + 1) (X + 2) 12000 cN b ∧ zHc M X hc ∧ zTC M X 0 tb0 ∧ zTC M X 1 tb1 ∧ zTC M X 2 tb2 ∧ (∀ k, k < 3 → zTB M (X + 97 + 12 * k) (kno k) (kn k)) ∧ (∃ bs, zCt M (X + 70) (X + 71) (X + 6) mo fs bs v) ∧ zRow M (X + 71) (X + 72) 32768 c cb ∧ zRow M (X + 6) (X + 7) 12000 dc db ∧ zLt M (X + 91) d ∧ z_i M (X + 69) 4 = nI done ∧ ∃ c0 lb0, zLr M X c0 lb0
/-- the reference within a frame -/
def zFM (M : zM) (m cN : Nat) (b : Nat → Nat) (hc : Option (Nat × (Nat → Nat))) (tb0 tb1 tb2 : Option tbT) (mo fs v c : Nat) (cb : Nat → Nat) (dc : Nat) (db : Nat → Nat) (d : Nat × Nat × Nat) (done : Nat) : Prop :=
  zMo M m ∧ zMI M m cN b ∧ zMH M m hc ∧ zMTb M m 0 tb0 ∧ zMTb M m 1 tb1 ∧ zMTb M m 2 tb2 ∧ z_i M m 29 = nI mo ∧ z_i M m 31 = nI fs ∧ z_i M m 32 = nI (mbS v) ∧ z_j M m 38 = lN v ∧ z_i M m 30 = nI c ∧ (∀ j, j < c → z_i M (m + 22) j = nI (cb j)) ∧ z_i M m 5 = nI dc ∧ (∀ j, j < dc → z_i M (m + 3) j = nI (db j)) ∧ zLt M (m + 15) d ∧ z_i M m 37 = nI done
def zBd (fs c mo v : Nat) (d : Nat × Nat × Nat) : Prop := fs ≤ c ∧ c ≤ mo ∧ mo ≤ 32768 ∧ v < 18446744073709551616 ∧ 1 ≤ d.1 ∧ d.1 < 4294967296 ∧ 1 ≤ d.2.1 ∧ d.2.1 < 4294967296 ∧ 1 ≤ d.2.2 ∧ d.2.2 < 4294967296
/-- heads, blocks and window told alike -/
def zAr (M M2 : zM) (X m : Nat) : Prop := z_i M (X + 69) 2 = z_i M2 m 35 ∧ z_i M (X + 69) 3 = z_i M2 m 36 ∧ z_i M (X + 69) 5 = z_i M2 m 39
def zAb (M M2 : zM) (X m : Nat) : Prop := zAr M M2 X m ∧ z_i M (X + 69) 4 = z_i M2 m 37 ∧ z_i M (X + 71) 1 = z_i M2 m 30
def fRe (f : Nat) : Prop := f ≠ 1 ∧ f ≠ 3 ∧ f ≠ 5 ∧ f ≠ 6 ∧ f ≠ 7
def jBd (X m : Nat) (M M2 : zM) (fc fm : Nat → Option (Int32 × zM)) : Prop := ∃ f pl M' M2', f ≠ 0 ∧ f ≤ 20 ∧ zEv fc (0, fl X M' f pl) ∧ zEv fm (0, flm m M2' f pl) ∧ zSt (sRd X) M M' ∧ zKp X M M' ∧ zRf fRe (sRm m) m M2 M2' ∧ zAb M' M2' X m ∧ ∃ c' cb', zRow M' (X + 71) (X + 72) 32768 c' cb'
theorem fRd_e {f : Nat} (h : fRd f) : fRe f := by unfold fRd at h; unfold fRe; omega
theorem jBad.bd {X m mo : Nat} {M M2 : zM} {fc fm : Nat → Option (Int32 × zM)} (h : jBad X m mo M M2 fc fm) (a : zAr M M2 X m) : jBd X m M M2 fc fm := by
  obtain ⟨f, pl, c', done', M', M2', w1, w2, w3, w4, w5, w6, w7, w8, w9, ⟨cb', w10⟩, w11, w12, w13⟩ := h
  refine ⟨f, pl, M', M2', w1, w2, w3, w4, w5, w6, w8.mono (fun f hf => fRd_e hf) (fun _ h => h), ⟨⟨?_, ?_, ?_⟩, w12.trans w13.symm, w10.2.2.2.2.1.trans w11.symm⟩, c', cb', w10⟩
  · rw [(w7 2 (by omega)).1, w8.f (by unfold fRd; omega)]; exact a.1
  · rw [(w7 3 (by omega)).1, w8.f (by unfold fRd; omega)]; exact a.2.1
  · rw [(w7 5 (by omega)).1, w8.f (by unfold fRd; omega)]; exact a.2.2
theorem jBd.to {X m : Nat} {M M2 M1 M3 : zM} {fc fm gc gm : Nat → Option (Int32 × zM)} (h : jBd X m M1 M3 fc fm) (st : zSt (sRd X) M M1) (kp : zKp X M M1) (rf : zRf fRe (sRm m) m M2 M3) (hc : ∀ {x : zM}, zEv fc (0, x) → zEv gc (0, x)) (hm : ∀ {x : zM}, zEv fm (0, x) → zEv gm (0, x)) : jBd X m M M2 gc gm := by
  obtain ⟨f, pl, M', M2', w1, w2, w3, w4, w5, w6, w7, w8⟩ := h
  exact ⟨f, pl, M', M2', w1, w2, hc w3, hm w4, st.tr w5, kp.tr w6, rf.tr w7, w8⟩
set_option maxRecDepth 100000 in
set_option maxHeartbeats 4000000 in
theorem c_lacks {O : zO} {M : zM} {X cN pl k : Nat} {b : Nat → Nat} (hx : zSF M X) (hin : zRow M (X + 1) (X + 2) 12000 cN b) (h6 : z_i M (X + 73) 6 = nI pl) (hp : pl ≤ cN) (hk : k < 9223372036854775808) : zEv (fun n => F_FR_lacks O n (X + 73) (lN k) M) (if pl + k ≤ cN then 0 else 1, M) := by
  have k73 := hx.k73
  have p0 := hx.p73_0
  have r1 := hin.1
  have r5 := hin.2.2.2.2.1
  have hc := hin.cN
  refine (zEv.some _).to fun n => ?_
  unfold F_FR_lacks f_FR_lacks_0 f_FR_lacks_23
  rw [if_pos k73, p0, if_pos r1, r5, h6, pk_sub hp, nI_l (show cN - pl < 2 ^ 31 by omega)]
  by_cases c : pl + k ≤ cN
  · rw [if_pos (show 0 ≤ lg_cmp (lN (cN - pl)) (lN k) by rw [lg_cmp_ge, pk_lLE (by omega) (by omega)]; omega), if_pos c]
    rfl
  · rw [if_neg (show ¬ 0 ≤ lg_cmp (lN (cN - pl)) (lN k) by rw [lg_cmp_ge, pk_lLE (by omega) (by omega)]; omega), if_neg c]
    rfl
set_option maxRecDepth 100000 in
set_option maxHeartbeats 4000000 in
theorem c_endsWithin {O : zO} {M : zM} {X cN : Nat} {b : Nat → Nat} (hx : zSF M X) (hin : zRow M (X + 1) (X + 2) 12000 cN b) : zEv (fun n => F_FR_endsWithin O n (X + 73) M) (0, fl X M 1 cN) := by
  have k73 := hx.k73
  have k69 := hx.k69
  have p0 := hx.p73_0
  have p2 := hx.p73_2
  have r1 := hin.1
  have r5 := hin.2.2.2.2.1
  unfold F_FR_endsWithin f_FR_endsWithin_0
  repeat first | with_reducible refine zEv.zl ?_ | (with_reducible refine zEv.ip ?_ ?_; focus (simp only [k73, k69, p0, p2, r1]; done)) | (with_reducible refine zEv.ip ?_ ?_; focus (simp (disch := omega) only [zlet, w_i_k, w_i_n, w_i_i, w_i_j, w_i_p, w_i_s, w_j_k, w_j_n, w_j_i, w_j_j, w_j_p, w_j_s, w_p_k, w_p_n, w_p_i, w_p_j, w_p_p, w_p_s, w_c_k, w_c_n, w_c_i, w_c_j, w_c_p, w_c_s, w_u_k, w_u_n, w_u_i, w_u_j, w_u_p, w_u_s, q_nf, ↓reduceIte, if_true, if_false, eq_self, and_true, true_and, and_false, false_and, Option.bind_some, ne_eq, not_false_eq_true, not_true_eq_false, nI_add, pk_mul, pk_sub, nI_ac, q_tlt, q_flt, q_tle, q_fle, q_teq, q_feq, q_tin, nI_cl, q_m1, q_m2, q_m3, q_m4, q_m5, q_m6, q_m7, q_l1, q_l2, q_l3, q_l4, q_l5, q_l6, lN_add, lN_mul, lN_sub, lN_i, nI_l, q_rem, q_rem2, q_div, q_shl, q_shr, q_i0, q_i1, q_i2, q_i3, q_i4, q_i5, q_i6, q_i7, q_i8, q_i9, q_i10, q_i11, q_i12, q_i14, q_i15, q_i16, q_i17, q_i18, q_i19, q_i20, q_i22, q_i24, q_i26, q_i28, q_i30, q_i31, q_i32, q_i35, q_i36, q_i38, q_i40, q_i42, q_i43, q_i48, q_i51, q_i52, q_i56, q_i63, q_i64, q_i67, q_i80, q_i95, q_i99, q_i126, q_i127, q_i128, q_i255, q_i256, q_i512, q_i1024, q_i12000, q_i32512, q_i32768, q_i131072, q_j0, q_j1, q_j2, q_j3, q_j4, q_j8, q_j256, Nat.one_mul, Nat.zero_add, Nat.add_zero, Nat.sub_zero, Nat.mul_one, q_ofN, q_c1, q_c2, q_c3, q_c4, q_c5, q_j12000, q_j32768, q_j131072, q_j2147483647, q_j4294967295, q_j255, q_j12, q_i13, q_i21, q_i23, q_i25, q_i27, q_i29, q_i33, q_i34, q_i37, q_i39, q_i41, q_i44, q_i45, q_i46, q_i47, q_i49, q_i50, q_i53, q_i54, q_i55, q_i77, q_i164, q_i181, q_i236, q_i253, q_i2048, k73, k69, p0, p2, r1]; done)) | (with_reducible refine zEv.in_ ?_ ?_; focus (simp (disch := omega) only [zlet, w_i_k, w_i_n, w_i_i, w_i_j, w_i_p, w_i_s, w_j_k, w_j_n, w_j_i, w_j_j, w_j_p, w_j_s, w_p_k, w_p_n, w_p_i, w_p_j, w_p_p, w_p_s, w_c_k, w_c_n, w_c_i, w_c_j, w_c_p, w_c_s, w_u_k, w_u_n, w_u_i, w_u_j, w_u_p, w_u_s, q_nf, ↓reduceIte, if_true, if_false, eq_self, and_true, true_and, and_false, false_and, Option.bind_some, ne_eq, not_false_eq_true, not_true_eq_false, nI_add, pk_mul, pk_sub, nI_ac, q_tlt, q_flt, q_tle, q_fle, q_teq, q_feq, q_tin, nI_cl, q_m1, q_m2, q_m3, q_m4, q_m5, q_m6, q_m7, q_l1, q_l2, q_l3, q_l4, q_l5, q_l6, lN_add, lN_mul, lN_sub, lN_i, nI_l, q_rem, q_rem2, q_div, q_shl, q_shr, q_i0, q_i1, q_i2, q_i3, q_i4, q_i5, q_i6, q_i7, q_i8, q_i9, q_i10, q_i11, q_i12, q_i14, q_i15, q_i16, q_i17, q_i18, q_i19, q_i20, q_i22, q_i24, q_i26, q_i28, q_i30, q_i31, q_i32, q_i35, q_i36, q_i38, q_i40, q_i42, q_i43, q_i48, q_i51, q_i52, q_i56, q_i63, q_i64, q_i67, q_i80, q_i95, q_i99, q_i126, q_i127, q_i128, q_i255, q_i256, q_i512, q_i1024, q_i12000, q_i32512, q_i32768, q_i131072, q_j0, q_j1, q_j2, q_j3, q_j4, q_j8, q_j256, Nat.one_mul, Nat.zero_add, Nat.add_zero, Nat.sub_zero, Nat.mul_one, q_ofN, q_c1, q_c2, q_c3, q_c4, q_c5, q_j12000, q_j32768, q_j131072, q_j2147483647, q_j4294967295, q_j255, q_j12, q_i13, q_i21, q_i23, q_i25, q_i27, q_i29, q_i33, q_i34, q_i37, q_i39, q_i41, q_i44, q_i45, q_i46, q_i47, q_i49, q_i50, q_i53, q_i54, q_i55, q_i77, q_i164, q_i181, q_i236, q_i253, q_i2048, k73, k69, p0, p2, r1]; done))
  first | with_reducible refine zEv.bind (c_fail (O := O) (x := nI 1) (y := nI cN) k69) ?_ | (with_reducible refine zEv.bq (c_fail (O := O) (x := nI 1) (y := nI cN) k69) ?_ ?_; focus (intro n; simp (disch := omega) only [zlet, w_i_k, w_i_n, w_i_i, w_i_j, w_i_p, w_i_s, w_j_k, w_j_n, w_j_i, w_j_j, w_j_p, w_j_s, w_p_k, w_p_n, w_p_i, w_p_j, w_p_p, w_p_s, w_c_k, w_c_n, w_c_i, w_c_j, w_c_p, w_c_s, w_u_k, w_u_n, w_u_i, w_u_j, w_u_p, w_u_s, q_nf, ↓reduceIte, if_true, if_false, eq_self, and_true, true_and, and_false, false_and, Option.bind_some, ne_eq, not_false_eq_true, not_true_eq_false, nI_add, pk_mul, pk_sub, nI_ac, q_tlt, q_flt, q_tle, q_fle, q_teq, q_feq, q_tin, nI_cl, q_m1, q_m2, q_m3, q_m4, q_m5, q_m6, q_m7, q_l1, q_l2, q_l3, q_l4, q_l5, q_l6, lN_add, lN_mul, lN_sub, lN_i, nI_l, q_rem, q_rem2, q_div, q_shl, q_shr, q_i0, q_i1, q_i2, q_i3, q_i4, q_i5, q_i6, q_i7, q_i8, q_i9, q_i10, q_i11, q_i12, q_i14, q_i15, q_i16, q_i17, q_i18, q_i19, q_i20, q_i22, q_i24, q_i26, q_i28, q_i30, q_i31, q_i32, q_i35, q_i36, q_i38, q_i40, q_i42, q_i43, q_i48, q_i51, q_i52, q_i56, q_i63, q_i64, q_i67, q_i80, q_i95, q_i99, q_i126, q_i127, q_i128, q_i255, q_i256, q_i512, q_i1024, q_i12000, q_i32512, q_i32768, q_i131072, q_j0, q_j1, q_j2, q_j3, q_j4, q_j8, q_j256, Nat.one_mul, Nat.zero_add, Nat.add_zero, Nat.sub_zero, Nat.mul_one, q_ofN, q_c1, q_c2, q_c3, q_c4, q_c5, q_j12000, q_j32768, q_j131072, q_j2147483647, q_j4294967295, q_j255, q_j12, q_i13, q_i21, q_i23, q_i25, q_i27, q_i29, q_i33, q_i34, q_i37, q_i39, q_i41, q_i44, q_i45, q_i46, q_i47, q_i49, q_i50, q_i53, q_i54, q_i55, q_i77, q_i164, q_i181, q_i236, q_i253, q_i2048, p0, p2, r5]; done))
  exact zEv.some _
set_option maxRecDepth 100000 in
set_option maxHeartbeats 4000000 in
theorem c_has {O : zO} {M : zM} {m cN pl k : Nat} {b : Nat → Nat} (hm : zMo M m) (hi : zMI M m cN b) (h28 : z_i M m 28 = nI pl) (hp : pl ≤ cN) (hk : k < 2147483648) : (pl + k ≤ cN → zEv (fun n => F_Mo_has O n m (nI k) M) (1, M)) ∧ (¬ pl + k ≤ cN → zEv (fun n => F_Mo_has O n m (nI k) M) (0, flm m M 1 cN)) := by
  have mk := hm.k
  have h1 := hi.1
  have hc := hi.2.1
  refine ⟨fun c => ?_, fun c => ?_⟩
  · unfold F_Mo_has f_Mo_has_0
    repeat first | with_reducible refine zEv.zl ?_ | (with_reducible refine zEv.ip ?_ ?_; focus (simp only [mk, h1, h28]; done)) | (with_reducible refine zEv.ip ?_ ?_; focus (simp (disch := omega) only [zlet, w_i_k, w_i_n, w_i_i, w_i_j, w_i_p, w_i_s, w_j_k, w_j_n, w_j_i, w_j_j, w_j_p, w_j_s, w_p_k, w_p_n, w_p_i, w_p_j, w_p_p, w_p_s, w_c_k, w_c_n, w_c_i, w_c_j, w_c_p, w_c_s, w_u_k, w_u_n, w_u_i, w_u_j, w_u_p, w_u_s, q_nf, ↓reduceIte, if_true, if_false, eq_self, and_true, true_and, and_false, false_and, Option.bind_some, ne_eq, not_false_eq_true, not_true_eq_false, nI_add, pk_mul, pk_sub, nI_ac, q_tlt, q_flt, q_tle, q_fle, q_teq, q_feq, q_tin, nI_cl, q_m1, q_m2, q_m3, q_m4, q_m5, q_m6, q_m7, q_l1, q_l2, q_l3, q_l4, q_l5, q_l6, lN_add, lN_mul, lN_sub, lN_i, nI_l, q_rem, q_rem2, q_div, q_shl, q_shr, q_i0, q_i1, q_i2, q_i3, q_i4, q_i5, q_i6, q_i7, q_i8, q_i9, q_i10, q_i11, q_i12, q_i14, q_i15, q_i16, q_i17, q_i18, q_i19, q_i20, q_i22, q_i24, q_i26, q_i28, q_i30, q_i31, q_i32, q_i35, q_i36, q_i38, q_i40, q_i42, q_i43, q_i48, q_i51, q_i52, q_i56, q_i63, q_i64, q_i67, q_i80, q_i95, q_i99, q_i126, q_i127, q_i128, q_i255, q_i256, q_i512, q_i1024, q_i12000, q_i32512, q_i32768, q_i131072, q_j0, q_j1, q_j2, q_j3, q_j4, q_j8, q_j256, Nat.one_mul, Nat.zero_add, Nat.add_zero, Nat.sub_zero, Nat.mul_one, q_ofN, q_c1, q_c2, q_c3, q_c4, q_c5, q_j12000, q_j32768, q_j131072, q_j2147483647, q_j4294967295, q_j255, q_j12, q_i13, q_i21, q_i23, q_i25, q_i27, q_i29, q_i33, q_i34, q_i37, q_i39, q_i41, q_i44, q_i45, q_i46, q_i47, q_i49, q_i50, q_i53, q_i54, q_i55, q_i77, q_i164, q_i181, q_i236, q_i253, q_i2048, mk, h1, h28]; done)) | (with_reducible refine zEv.in_ ?_ ?_; focus (simp (disch := omega) only [zlet, w_i_k, w_i_n, w_i_i, w_i_j, w_i_p, w_i_s, w_j_k, w_j_n, w_j_i, w_j_j, w_j_p, w_j_s, w_p_k, w_p_n, w_p_i, w_p_j, w_p_p, w_p_s, w_c_k, w_c_n, w_c_i, w_c_j, w_c_p, w_c_s, w_u_k, w_u_n, w_u_i, w_u_j, w_u_p, w_u_s, q_nf, ↓reduceIte, if_true, if_false, eq_self, and_true, true_and, and_false, false_and, Option.bind_some, ne_eq, not_false_eq_true, not_true_eq_false, nI_add, pk_mul, pk_sub, nI_ac, q_tlt, q_flt, q_tle, q_fle, q_teq, q_feq, q_tin, nI_cl, q_m1, q_m2, q_m3, q_m4, q_m5, q_m6, q_m7, q_l1, q_l2, q_l3, q_l4, q_l5, q_l6, lN_add, lN_mul, lN_sub, lN_i, nI_l, q_rem, q_rem2, q_div, q_shl, q_shr, q_i0, q_i1, q_i2, q_i3, q_i4, q_i5, q_i6, q_i7, q_i8, q_i9, q_i10, q_i11, q_i12, q_i14, q_i15, q_i16, q_i17, q_i18, q_i19, q_i20, q_i22, q_i24, q_i26, q_i28, q_i30, q_i31, q_i32, q_i35, q_i36, q_i38, q_i40, q_i42, q_i43, q_i48, q_i51, q_i52, q_i56, q_i63, q_i64, q_i67, q_i80, q_i95, q_i99, q_i126, q_i127, q_i128, q_i255, q_i256, q_i512, q_i1024, q_i12000, q_i32512, q_i32768, q_i131072, q_j0, q_j1, q_j2, q_j3, q_j4, q_j8, q_j256, Nat.one_mul, Nat.zero_add, Nat.add_zero, Nat.sub_zero, Nat.mul_one, q_ofN, q_c1, q_c2, q_c3, q_c4, q_c5, q_j12000, q_j32768, q_j131072, q_j2147483647, q_j4294967295, q_j255, q_j12, q_i13, q_i21, q_i23, q_i25, q_i27, q_i29, q_i33, q_i34, q_i37, q_i39, q_i41, q_i44, q_i45, q_i46, q_i47, q_i49, q_i50, q_i53, q_i54, q_i55, q_i77, q_i164, q_i181, q_i236, q_i253, q_i2048, mk, h1, h28]; done))
    exact zEv.some _
  · unfold F_Mo_has f_Mo_has_0
    refine zEv.ip mk ?_
    rw [h1, h28, pk_sub hp]
    refine zEv.in_ (fun w => by have := (nI_leI (by omega) (by omega)).mp w; omega) ?_
    refine zEv.bind (c_wrong (x := nI 1) (y := nI cN) mk) (zEv.ip rfl (zEv.some _))
theorem l_blk151 {O : zO} {m cN at_ n kind : Nat} {y : Int32} {b cb : Nat → Nat} (hk : kind < 2) (hn : n < 2000000) (hat : (if kind = 1 then at_ + 1 else at_ + n) ≤ cN) : ∀ (d k c : Nat) (M : zM), k + d = n → c + d ≤ 32768 → zMo M m → zMI M m cN b → z_i M m 28 = nI at_ → z_i M m 30 = nI c → (∀ j, j < c → z_i M (m + 22) j = nI (cb j)) → (∀ i, i < d → cb (c + i) = if kind = 1 then b at_ else b (at_ + k + i)) → ∃ M', (∀ α, zEv (fun q => f_Mo_block_207 O q m y M') α → zEv (fun q => f_Mo_block_151 O q m (nI kind) (nI n) y (nI k) M) α) ∧ zRf (fun f => f = 30) (fun q => q = m + 22) m M M' ∧ z_i M' m 30 = nI (c + d) ∧ ∀ j, j < c + d → z_i M' (m + 22) j = nI (cb j) := by
  intro d
  induction d with
  | zero =>
    intro k c M hk2 hc hm hi h28 h30 hcb hh
    refine ⟨M, fun α hα => zEv.succ ?_, zRf.rf, h30, hcb⟩
    simp only [f_Mo_block_151]
    exact zEv.ip ((nI_leI (by omega) (by omega)).mpr (by omega)) hα
  | succ d ih =>
    intro k c M hk2 hc hm hi h28 h30 hcb hh
    have hcN := hi.2.1
    have h0 := hh 0 (by omega)
    rw [Nat.add_zero] at h0
    generalize hM1 : w_i (w_i M (m + 22) c (nI (cb c))) m 30 (nI (c + 1)) = M1
    have r1 : zRf (fun f => f = 30) (fun q => q = m + 22) m M M1 := by rw [← hM1]; exact (zRf.rf.wi (by exact rfl) (by omega)).wf (by exact rfl)
    obtain ⟨M', i1, i2, i3, i4⟩ := ih (k + 1) (c + 1) M1 (by omega) (by omega) (r1.mo hm) (hi.rf r1 (by omega) (by omega)) (by rw [r1.f (by omega)]; exact h28) (by rw [← hM1]; exact w_i_eq _ _ _ _) (fun j hj => by
      rw [← hM1]
      by_cases cj : j = c
      · subst cj
        simp (disch := omega) only [zlet, w_i_k, w_i_n, w_i_i, w_i_j, w_i_p, w_i_s, w_j_k, w_j_n, w_j_i, w_j_j, w_j_p, w_j_s, w_p_k, w_p_n, w_p_i, w_p_j, w_p_p, w_p_s, w_c_k, w_c_n, w_c_i, w_c_j, w_c_p, w_c_s, w_u_k, w_u_n, w_u_i, w_u_j, w_u_p, w_u_s, q_nf, ↓reduceIte, if_true, if_false, eq_self, and_true, true_and, and_false, false_and, Option.bind_some, ne_eq, not_false_eq_true, not_true_eq_false]
      · simp (disch := omega) only [zlet, w_i_k, w_i_n, w_i_i, w_i_j, w_i_p, w_i_s, w_j_k, w_j_n, w_j_i, w_j_j, w_j_p, w_j_s, w_p_k, w_p_n, w_p_i, w_p_j, w_p_p, w_p_s, w_c_k, w_c_n, w_c_i, w_c_j, w_c_p, w_c_s, w_u_k, w_u_n, w_u_i, w_u_j, w_u_p, w_u_s, q_nf, ↓reduceIte, if_true, if_false, eq_self, and_true, true_and, and_false, false_and, Option.bind_some, ne_eq, not_false_eq_true, not_true_eq_false, cj]
        exact hcb j (by omega)) (fun i hi => by
      have := hh (i + 1) (by omega)
      rw [show c + 1 + i = c + (i + 1) by omega, this]
      split
      · rfl
      · congr 1; omega)
    rw [show c + 1 + d = c + (d + 1) by omega] at i3 i4
    refine ⟨M', fun α hα => zEv.succ ?_, r1.tr i2, i3, i4⟩
    have fin : ∀ {q : Nat}, q < cN → cb c = b q → zEv (fun n' => f_Mo_block_189 O (f_Mo_block_151 O n') n' m (nI kind) (nI n) y (nI k) (m + 22) (nI c) (m + 1) (nI q) M) α := fun {q} hq e => by
      have hb := (hi.2.2 q hq).2
      unfold f_Mo_block_189
      repeat first | with_reducible refine zEv.zl ?_ | (with_reducible refine zEv.ip ?_ ?_; focus (simp only [hm.k, hm.p1, hm.k1, hm.n1, hm.p22, hm.k22, hm.n22]; done)) | (with_reducible refine zEv.ip ?_ ?_; focus (simp (disch := omega) only [zlet, w_i_k, w_i_n, w_i_i, w_i_j, w_i_p, w_i_s, w_j_k, w_j_n, w_j_i, w_j_j, w_j_p, w_j_s, w_p_k, w_p_n, w_p_i, w_p_j, w_p_p, w_p_s, w_c_k, w_c_n, w_c_i, w_c_j, w_c_p, w_c_s, w_u_k, w_u_n, w_u_i, w_u_j, w_u_p, w_u_s, q_nf, ↓reduceIte, if_true, if_false, eq_self, and_true, true_and, and_false, false_and, Option.bind_some, ne_eq, not_false_eq_true, not_true_eq_false, nI_add, pk_mul, pk_sub, nI_ac, q_tlt, q_flt, q_tle, q_fle, q_teq, q_feq, q_tin, nI_cl, q_m1, q_m2, q_m3, q_m4, q_m5, q_m6, q_m7, q_l1, q_l2, q_l3, q_l4, q_l5, q_l6, lN_add, lN_mul, lN_sub, lN_i, nI_l, q_rem, q_rem2, q_div, q_shl, q_shr, q_i0, q_i1, q_i2, q_i3, q_i4, q_i5, q_i6, q_i7, q_i8, q_i9, q_i10, q_i11, q_i12, q_i14, q_i15, q_i16, q_i17, q_i18, q_i19, q_i20, q_i22, q_i24, q_i26, q_i28, q_i30, q_i31, q_i32, q_i35, q_i36, q_i38, q_i40, q_i42, q_i43, q_i48, q_i51, q_i52, q_i56, q_i63, q_i64, q_i67, q_i80, q_i95, q_i99, q_i126, q_i127, q_i128, q_i255, q_i256, q_i512, q_i1024, q_i12000, q_i32512, q_i32768, q_i131072, q_j0, q_j1, q_j2, q_j3, q_j4, q_j8, q_j256, Nat.one_mul, Nat.zero_add, Nat.add_zero, Nat.sub_zero, Nat.mul_one, q_ofN, q_c1, q_c2, q_c3, q_c4, q_c5, q_j12000, q_j32768, q_j131072, q_j2147483647, q_j4294967295, q_j255, q_j12, q_i13, q_i21, q_i23, q_i25, q_i27, q_i29, q_i33, q_i34, q_i37, q_i39, q_i41, q_i44, q_i45, q_i46, q_i47, q_i49, q_i50, q_i53, q_i54, q_i55, q_i77, q_i164, q_i181, q_i236, q_i253, q_i2048, hm.k, hm.p1, hm.k1, hm.n1, hm.p22, hm.k22, hm.n22]; done)) | (with_reducible refine zEv.in_ ?_ ?_; focus (simp (disch := omega) only [zlet, w_i_k, w_i_n, w_i_i, w_i_j, w_i_p, w_i_s, w_j_k, w_j_n, w_j_i, w_j_j, w_j_p, w_j_s, w_p_k, w_p_n, w_p_i, w_p_j, w_p_p, w_p_s, w_c_k, w_c_n, w_c_i, w_c_j, w_c_p, w_c_s, w_u_k, w_u_n, w_u_i, w_u_j, w_u_p, w_u_s, q_nf, ↓reduceIte, if_true, if_false, eq_self, and_true, true_and, and_false, false_and, Option.bind_some, ne_eq, not_false_eq_true, not_true_eq_false, nI_add, pk_mul, pk_sub, nI_ac, q_tlt, q_flt, q_tle, q_fle, q_teq, q_feq, q_tin, nI_cl, q_m1, q_m2, q_m3, q_m4, q_m5, q_m6, q_m7, q_l1, q_l2, q_l3, q_l4, q_l5, q_l6, lN_add, lN_mul, lN_sub, lN_i, nI_l, q_rem, q_rem2, q_div, q_shl, q_shr, q_i0, q_i1, q_i2, q_i3, q_i4, q_i5, q_i6, q_i7, q_i8, q_i9, q_i10, q_i11, q_i12, q_i14, q_i15, q_i16, q_i17, q_i18, q_i19, q_i20, q_i22, q_i24, q_i26, q_i28, q_i30, q_i31, q_i32, q_i35, q_i36, q_i38, q_i40, q_i42, q_i43, q_i48, q_i51, q_i52, q_i56, q_i63, q_i64, q_i67, q_i80, q_i95, q_i99, q_i126, q_i127, q_i128, q_i255, q_i256, q_i512, q_i1024, q_i12000, q_i32512, q_i32768, q_i131072, q_j0, q_j1, q_j2, q_j3, q_j4, q_j8, q_j256, Nat.one_mul, Nat.zero_add, Nat.add_zero, Nat.sub_zero, Nat.mul_one, q_ofN, q_c1, q_c2, q_c3, q_c4, q_c5, q_j12000, q_j32768, q_j131072, q_j2147483647, q_j4294967295, q_j255, q_j12, q_i13, q_i21, q_i23, q_i25, q_i27, q_i29, q_i33, q_i34, q_i37, q_i39, q_i41, q_i44, q_i45, q_i46, q_i47, q_i49, q_i50, q_i53, q_i54, q_i55, q_i77, q_i164, q_i181, q_i236, q_i253, q_i2048, hm.k, hm.p1, hm.k1, hm.n1, hm.p22, hm.k22, hm.n22]; done))
      refine (i1 α hα).to fun n' => ?_
      rw [← hM1]
      simp (disch := omega) only [zlet, w_i_k, w_i_n, w_i_i, w_i_j, w_i_p, w_i_s, w_j_k, w_j_n, w_j_i, w_j_j, w_j_p, w_j_s, w_p_k, w_p_n, w_p_i, w_p_j, w_p_p, w_p_s, w_c_k, w_c_n, w_c_i, w_c_j, w_c_p, w_c_s, w_u_k, w_u_n, w_u_i, w_u_j, w_u_p, w_u_s, q_nf, ↓reduceIte, if_true, if_false, eq_self, and_true, true_and, and_false, false_and, Option.bind_some, ne_eq, not_false_eq_true, not_true_eq_false, nI_add, pk_mul, pk_sub, nI_ac, q_tlt, q_flt, q_tle, q_fle, q_teq, q_feq, q_tin, nI_cl, q_m1, q_m2, q_m3, q_m4, q_m5, q_m6, q_m7, q_l1, q_l2, q_l3, q_l4, q_l5, q_l6, lN_add, lN_mul, lN_sub, lN_i, nI_l, q_rem, q_rem2, q_div, q_shl, q_shr, q_i0, q_i1, q_i2, q_i3, q_i4, q_i5, q_i6, q_i7, q_i8, q_i9, q_i10, q_i11, q_i12, q_i14, q_i15, q_i16, q_i17, q_i18, q_i19, q_i20, q_i22, q_i24, q_i26, q_i28, q_i30, q_i31, q_i32, q_i35, q_i36, q_i38, q_i40, q_i42, q_i43, q_i48, q_i51, q_i52, q_i56, q_i63, q_i64, q_i67, q_i80, q_i95, q_i99, q_i126, q_i127, q_i128, q_i255, q_i256, q_i512, q_i1024, q_i12000, q_i32512, q_i32768, q_i131072, q_j0, q_j1, q_j2, q_j3, q_j4, q_j8, q_j256, Nat.one_mul, Nat.zero_add, Nat.add_zero, Nat.sub_zero, Nat.mul_one, q_ofN, q_c1, q_c2, q_c3, q_c4, q_c5, q_j12000, q_j32768, q_j131072, q_j2147483647, q_j4294967295, q_j255, q_j12, q_i13, q_i21, q_i23, q_i25, q_i27, q_i29, q_i33, q_i34, q_i37, q_i39, q_i41, q_i44, q_i45, q_i46, q_i47, q_i49, q_i50, q_i53, q_i54, q_i55, q_i77, q_i164, q_i181, q_i236, q_i253, q_i2048, h30, hb, e]
    simp only [f_Mo_block_151]
    refine zEv.in_ (fun w => by have := (nI_leI (by omega) (by omega)).mp w; omega) (zEv.ip hm.k ?_)
    rw [hm.p22, hm.p1, h30, h28]
    by_cases ck : kind = 1
    · rw [if_pos ck] at hat h0
      refine zEv.ip (by rw [ck]; rfl) (fin (by omega) h0)
    · rw [if_neg ck] at hat h0
      rw [nI_add]
      refine zEv.in_ (fun w => ck ((nI_eq (b := 1) (by omega) (by omega)).mp w)) (fin (by omega) (by rw [h0]; rfl))
