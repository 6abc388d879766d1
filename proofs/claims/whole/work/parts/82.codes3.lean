/-! Codes of the class: the cells laid; a description told. -/
theorem cum_step {t a s : Nat} {w : Nat → Nat} (hs : s < 256) : cum (amu w) (256 * a + (s + 1)) = cum (amu w) (256 * a + s) + (if w s = a + 1 then 2 ^ a else 0) := by
  show cum (amu w) (256 * a + s) + (am w (256 * a + s) + 1 - 1) = _
  unfold am
  rw [show (256 * a + s) % 256 = s by omega, show (256 * a + s) / 256 = a by omega]
  omega
theorem cum_tail {a n : Nat} {w : Nat → Nat} (h : ∀ s, n ≤ s → s < 256 → w s = 0) : ∀ d, n + d ≤ 256 → cum (amu w) (256 * a + (n + d)) = cum (amu w) (256 * a + n)
  | 0, _ => rfl
  | d + 1, hd => by
    rw [show n + (d + 1) = (n + d) + 1 by omega, cum_step (t := 0) (by omega), if_neg (by rw [h _ (by omega) (by omega)]; omega), cum_tail h d (by omega)]
    rfl
theorem cum_top {t a s : Nat} {w : Nat → Nat} (h : zCW t w) (ha : a < t) (hs : s ≤ 256) : cum (amu w) (256 * a + s) ≤ 2 ^ t := by
  rw [← cum_CW h]
  exact cum_mono _ (by omega)
theorem clS_at {t a s k : Nat} {w : Nat → Nat} (ha : a < t) (hs : s < 256) (hw : w s = a + 1) (hk : k < 2 ^ a) : clS t w (cum (amu w) (256 * a + s) + k) = s := by
  unfold clS
  obtain ⟨f, hf⟩ : ∃ f, 256 * t = (f + 1) + (256 * a + s) := ⟨256 * t - (256 * a + s) - 1, by omega⟩
  rw [hf, sy_at]
  have e : amu w (256 * a + s) = 2 ^ a + 1 := by
    unfold amu am
    rw [show (256 * a + s) % 256 = s by omega, show (256 * a + s) / 256 = a by omega, if_pos hw]
  rw [sy, if_pos (by rw [e]; omega)]
  omega
theorem w_u2 (M : zM) {a b : Nat} (g h g2 : Nat → Int32) (hab : a ≠ b) : w_u (w_u (w_u M a g) b h) a g2 = w_u (w_u M a g2) b h := by
  rw [w_u_c _ _ _ (fun e => hab e.symm), w_u_u]
theorem l_fill4 {O : zO} {M : zM} {a N fr to : Nat} {x : Int32} {g : Nat → Int32} (h1 : z_k M a = 100) (h2 : z_n M a = N) (h3 : N < 100000) (h4 : to ≤ N) : ∀ d k, fr + k + d = to → zEv (fun n => f_JArr_fill_IIII_10 O n a (nI to) x (nI (fr + k)) (w_u M a (rnF g fr k x))) ((), w_u M a (rnF g fr (k + d) x)) := by
  intro d
  induction d with
  | zero =>
    intro k hk
    refine zEv.succ ((zEv.some _).to fun n => ?_)
    rw [f_JArr_fill_IIII_10]
    simp (disch := omega) only [zlet, w_i_k, w_i_n, w_i_i, w_i_j, w_i_p, w_i_s, w_j_k, w_j_n, w_j_i, w_j_j, w_j_p, w_j_s, w_p_k, w_p_n, w_p_i, w_p_j, w_p_p, w_p_s, w_c_k, w_c_n, w_c_i, w_c_j, w_c_p, w_c_s, w_u_k, w_u_n, w_u_i, w_u_j, w_u_p, w_u_s, q_nf, ↓reduceIte, if_true, if_false, eq_self, and_true, true_and, and_false, false_and, Option.bind_some, ne_eq, not_false_eq_true, not_true_eq_false, nI_add, pk_mul, pk_sub, nI_ac, q_tlt, q_flt, q_tle, q_fle, q_teq, q_feq, q_tin, nI_cl, q_m1, q_m2, q_m3, q_m4, q_m5, q_m6, q_m7, q_l1, q_l2, q_l3, q_l4, q_l5, q_l6, lN_add, lN_mul, lN_sub, lN_i, nI_l, q_rem, q_rem2, q_div, q_shl, q_shr, q_i0, q_i1, q_i2, q_i3, q_i4, q_i5, q_i6, q_i7, q_i8, q_i9, q_i10, q_i11, q_i12, q_i14, q_i15, q_i16, q_i17, q_i18, q_i19, q_i20, q_i22, q_i24, q_i26, q_i28, q_i30, q_i31, q_i32, q_i35, q_i36, q_i38, q_i40, q_i42, q_i43, q_i48, q_i51, q_i52, q_i56, q_i63, q_i64, q_i67, q_i80, q_i95, q_i99, q_i126, q_i127, q_i128, q_i255, q_i256, q_i512, q_i1024, q_i12000, q_i32512, q_i32768, q_i131072, q_j0, q_j1, q_j2, q_j3, q_j4, q_j8, q_j256, Nat.one_mul, Nat.zero_add, Nat.add_zero, Nat.sub_zero, Nat.mul_one, q_ofN]
  | succ d ih =>
    intro k hk
    have := ih (k + 1) (by omega)
    rw [show k + 1 + d = k + (d + 1) by omega] at this
    refine zEv.succ (this.to fun n => ?_)
    rw [f_JArr_fill_IIII_10]
    simp (disch := omega) only [zlet, w_i_k, w_i_n, w_i_i, w_i_j, w_i_p, w_i_s, w_j_k, w_j_n, w_j_i, w_j_j, w_j_p, w_j_s, w_p_k, w_p_n, w_p_i, w_p_j, w_p_p, w_p_s, w_c_k, w_c_n, w_c_i, w_c_j, w_c_p, w_c_s, w_u_k, w_u_n, w_u_i, w_u_j, w_u_p, w_u_s, q_nf, ↓reduceIte, if_true, if_false, eq_self, and_true, true_and, and_false, false_and, Option.bind_some, ne_eq, not_false_eq_true, not_true_eq_false, nI_add, pk_mul, pk_sub, nI_ac, q_tlt, q_flt, q_tle, q_fle, q_teq, q_feq, q_tin, nI_cl, q_m1, q_m2, q_m3, q_m4, q_m5, q_m6, q_m7, q_l1, q_l2, q_l3, q_l4, q_l5, q_l6, lN_add, lN_mul, lN_sub, lN_i, nI_l, q_rem, q_rem2, q_div, q_shl, q_shr, q_i0, q_i1, q_i2, q_i3, q_i4, q_i5, q_i6, q_i7, q_i8, q_i9, q_i10, q_i11, q_i12, q_i14, q_i15, q_i16, q_i17, q_i18, q_i19, q_i20, q_i22, q_i24, q_i26, q_i28, q_i30, q_i31, q_i32, q_i35, q_i36, q_i38, q_i40, q_i42, q_i43, q_i48, q_i51, q_i52, q_i56, q_i63, q_i64, q_i67, q_i80, q_i95, q_i99, q_i126, q_i127, q_i128, q_i255, q_i256, q_i512, q_i1024, q_i12000, q_i32512, q_i32768, q_i131072, q_j0, q_j1, q_j2, q_j3, q_j4, q_j8, q_j256, Nat.one_mul, Nat.zero_add, Nat.add_zero, Nat.sub_zero, Nat.mul_one, q_ofN, h1, h2, w_u_w, rnF_s]
    rfl
theorem c_fill4 {O : zO} {M : zM} {a N fr to : Nat} {x : Int32} {g : Nat → Int32} (h1 : z_k M a = 100) (h2 : z_n M a = N) (h3 : N < 100000) (h4 : to ≤ N) (h5 : fr ≤ to) : zEv (fun n => F_JArr_fill_IIII O n a (nI fr) (nI to) x (w_u M a g)) ((), w_u M a (rnF g fr (to - fr) x)) := by
  have := l_fill4 (O := O) (fr := fr) (to := to) (x := x) (g := g) h1 h2 h3 h4 (to - fr) 0 (by omega)
  rw [rnF_0, Nat.zero_add, Nat.add_zero] at this
  refine this.to fun n => ?_
  unfold F_JArr_fill_IIII f_JArr_fill_IIII_0 F_JArr_rangeCheck f_JArr_rangeCheck_0
  simp (disch := omega) only [zlet, w_i_k, w_i_n, w_i_i, w_i_j, w_i_p, w_i_s, w_j_k, w_j_n, w_j_i, w_j_j, w_j_p, w_j_s, w_p_k, w_p_n, w_p_i, w_p_j, w_p_p, w_p_s, w_c_k, w_c_n, w_c_i, w_c_j, w_c_p, w_c_s, w_u_k, w_u_n, w_u_i, w_u_j, w_u_p, w_u_s, q_nf, ↓reduceIte, if_true, if_false, eq_self, and_true, true_and, and_false, false_and, Option.bind_some, ne_eq, not_false_eq_true, not_true_eq_false, nI_add, pk_mul, pk_sub, nI_ac, q_tlt, q_flt, q_tle, q_fle, q_teq, q_feq, q_tin, nI_cl, q_m1, q_m2, q_m3, q_m4, q_m5, q_m6, q_m7, q_l1, q_l2, q_l3, q_l4, q_l5, q_l6, lN_add, lN_mul, lN_sub, lN_i, nI_l, q_rem, q_rem2, q_div, q_shl, q_shr, q_i0, q_i1, q_i2, q_i3, q_i4, q_i5, q_i6, q_i7, q_i8, q_i9, q_i10, q_i11, q_i12, q_i14, q_i15, q_i16, q_i17, q_i18, q_i19, q_i20, q_i22, q_i24, q_i26, q_i28, q_i30, q_i31, q_i32, q_i35, q_i36, q_i38, q_i40, q_i42, q_i43, q_i48, q_i51, q_i52, q_i56, q_i63, q_i64, q_i67, q_i80, q_i95, q_i99, q_i126, q_i127, q_i128, q_i255, q_i256, q_i512, q_i1024, q_i12000, q_i32512, q_i32768, q_i131072, q_j0, q_j1, q_j2, q_j3, q_j4, q_j8, q_j256, Nat.one_mul, Nat.zero_add, Nat.add_zero, Nat.sub_zero, Nat.mul_one, q_ofN, h1, h2]
/-- the codes as they stand in the class -/
def zCd (M : zM) (p t : Nat) (w : Nat → Nat) : Prop := z_i M p 5 = nI t ∧ (∀ c, c < 2 ^ t → z_i M (p + 3) c = nI (clS t w c)) ∧ ∀ s, s < 256 → 1 ≤ w s → z_i M (p + 2) s = nI (t + 1 - w s)
theorem l_lay14 {O : zO} {M : zM} {p t K a : Nat} {w : Nat → Nat} (hS : zCdS M p) (h5 : z_i M p 5 = nI t) (h6 : z_i M p 6 = nI K) (hK : K ≤ 256) (hw : ∀ s, s < K → z_i M (p + 1) s = nI (w s)) (hCW : zCW t w) (ha : a < t) : ∀ d s, s + d = K → ∀ gc gl, (∀ c, c < cum (amu w) (256 * a + s) → gc c = nI (clS t w c)) → (∀ s', s' < K → 1 ≤ w s' → (w s' ≤ a ∨ (w s' = a + 1 ∧ s' < s)) → gl s' = nI (t + 1 - w s')) → ∃ gc' gl', (∀ c, c < cum (amu w) (256 * a + K) → gc' c = nI (clS t w c)) ∧ (∀ s', s' < K → 1 ≤ w s' → w s' ≤ a + 1 → gl' s' = nI (t + 1 - w s')) ∧
    zEk (fun n (k4 : Nat → Int32 → Int32 → zM → Option (Unit × zM)) => f_Codes_lay_14 O k4 n p (nI (cum (amu w) (256 * a + s))) (nI (a + 1)) (nI s) (w_u (w_u M (p + 3) gc) (p + 2) gl)) (fun k4 => k4 p (nI (cum (amu w) (256 * a + K))) (nI (a + 2)) (w_u (w_u M (p + 3) gc') (p + 2) gl')) := by
  obtain ⟨s1, s2, s3, s4, s5, s6, s7, s8, s9, s10, s11, s12, s13, s14⟩ := hS
  have ht := hCW.2.1
  have hpt : 2 ^ t ≤ 2 ^ 11 := Nat.pow_le_pow_right (by omega) ht
  have hpa : 2 ^ a ≤ 2 ^ t := Nat.pow_le_pow_right (by omega) (by omega)
  have hpa0 : 0 < 2 ^ a := Nat.pow_pos (by omega)
  intro d
  induction d with
  | zero =>
    intro s hs gc gl hgc hgl
    have e : s = K := by omega
    subst e
    refine ⟨gc, gl, hgc, fun s' h1 h2 h3 => hgl s' h1 h2 (by omega), zEk.succ (zEk.of fun n K => ?_)⟩
    rw [f_Codes_lay_14]
    simp (disch := omega) only [zlet, w_i_k, w_i_n, w_i_i, w_i_j, w_i_p, w_i_s, w_j_k, w_j_n, w_j_i, w_j_j, w_j_p, w_j_s, w_p_k, w_p_n, w_p_i, w_p_j, w_p_p, w_p_s, w_c_k, w_c_n, w_c_i, w_c_j, w_c_p, w_c_s, w_u_k, w_u_n, w_u_i, w_u_j, w_u_p, w_u_s, q_nf, ↓reduceIte, if_true, if_false, eq_self, and_true, true_and, and_false, false_and, Option.bind_some, ne_eq, not_false_eq_true, not_true_eq_false, nI_add, pk_mul, pk_sub, nI_ac, q_tlt, q_flt, q_tle, q_fle, q_teq, q_feq, q_tin, nI_cl, q_m1, q_m2, q_m3, q_m4, q_m5, q_m6, q_m7, q_l1, q_l2, q_l3, q_l4, q_l5, q_l6, lN_add, lN_mul, lN_sub, lN_i, nI_l, q_rem, q_rem2, q_div, q_shl, q_shr, q_i0, q_i1, q_i2, q_i3, q_i4, q_i5, q_i6, q_i7, q_i8, q_i9, q_i10, q_i11, q_i12, q_i14, q_i15, q_i16, q_i17, q_i18, q_i19, q_i20, q_i22, q_i24, q_i26, q_i28, q_i30, q_i31, q_i32, q_i35, q_i36, q_i38, q_i40, q_i42, q_i43, q_i48, q_i51, q_i52, q_i56, q_i63, q_i64, q_i67, q_i80, q_i95, q_i99, q_i126, q_i127, q_i128, q_i255, q_i256, q_i512, q_i1024, q_i12000, q_i32512, q_i32768, q_i131072, q_j0, q_j1, q_j2, q_j3, q_j4, q_j8, q_j256, Nat.one_mul, Nat.zero_add, Nat.add_zero, Nat.sub_zero, Nat.mul_one, q_ofN, s1, h6]
  | succ d ih =>
    intro s hs gc gl hgc hgl
    have hws := hw s (by omega)
    have hct := cum_top hCW ha (show s + 1 ≤ 256 by omega)
    have hst := cum_step (t := t) (a := a) (w := w) (show s < 256 by omega)
    have hwt := hCW.2.2.2.1 s
    by_cases c1 : w s = a + 1
    · rw [if_pos c1] at hst
      obtain ⟨gc', gl', i1, i2, i3⟩ := ih (s + 1) (by omega) (rnF gc (cum (amu w) (256 * a + s)) (2 ^ a) (nI s)) (upd gl s (nI (t + 1 - (a + 1)))) (fun c hc => by
        by_cases cc : c < cum (amu w) (256 * a + s)
        · rw [rn_out (by omega)]; exact hgc c cc
        · rw [rn_in (by omega) (by omega)]
          have := clS_at (k := c - cum (amu w) (256 * a + s)) ha (show s < 256 by omega) c1 (by omega)
          rw [show cum (amu w) (256 * a + s) + (c - cum (amu w) (256 * a + s)) = c by omega] at this
          rw [this]) (fun s' h1 h2 h3 => by
        rw [upd_at]
        by_cases cc : s' = s
        · rw [if_pos cc, cc, c1]
        · rw [if_neg cc]; exact hgl s' h1 h2 (by omega))
      refine ⟨gc', gl', i1, i2, zEk.succ ?_⟩
      have hf := c_fill4 (O := O) (M := w_u M (p + 2) gl) (a := p + 3) (fr := cum (amu w) (256 * a + s)) (to := cum (amu w) (256 * a + s) + 2 ^ a) (x := nI s) (g := gc) s9 s12 (by omega) (by omega) (by omega)
      rw [← w_u_c _ _ _ (show p + 3 ≠ p + 2 by omega), ← w_u_c _ _ _ (show p + 3 ≠ p + 2 by omega), Nat.add_sub_cancel_left] at hf
      simp only [f_Codes_lay_14]
      have e1 : nI (cum (amu w) (256 * a + s)) + ((1 : Int32) <<< ((nI (a + 1) - 1) &&& 31)) = nI (cum (amu w) (256 * a + s) + 2 ^ a) := by
        rw [nI_s1 (by omega), Nat.add_sub_cancel, show (1 : Int32) = nI 1 from rfl, nI_shl (by omega) (by omega), Nat.one_mul, nI_add]
      repeat first | with_reducible refine zEk.zl ?_ | (with_reducible refine zEk.ip ?_ ?_; focus (simp only [s1, s2, s4, s7, s10, h6, hws, c1]; done)) | (with_reducible refine zEk.ip ?_ ?_; focus (simp (disch := omega) only [zlet, w_i_k, w_i_n, w_i_i, w_i_j, w_i_p, w_i_s, w_j_k, w_j_n, w_j_i, w_j_j, w_j_p, w_j_s, w_p_k, w_p_n, w_p_i, w_p_j, w_p_p, w_p_s, w_c_k, w_c_n, w_c_i, w_c_j, w_c_p, w_c_s, w_u_k, w_u_n, w_u_i, w_u_j, w_u_p, w_u_s, q_nf, ↓reduceIte, if_true, if_false, eq_self, and_true, true_and, and_false, false_and, Option.bind_some, ne_eq, not_false_eq_true, not_true_eq_false, nI_add, pk_mul, pk_sub, nI_ac, q_tlt, q_flt, q_tle, q_fle, q_teq, q_feq, q_tin, nI_cl, q_m1, q_m2, q_m3, q_m4, q_m5, q_m6, q_m7, q_l1, q_l2, q_l3, q_l4, q_l5, q_l6, lN_add, lN_mul, lN_sub, lN_i, nI_l, q_rem, q_rem2, q_div, q_shl, q_shr, q_i0, q_i1, q_i2, q_i3, q_i4, q_i5, q_i6, q_i7, q_i8, q_i9, q_i10, q_i11, q_i12, q_i14, q_i15, q_i16, q_i17, q_i18, q_i19, q_i20, q_i22, q_i24, q_i26, q_i28, q_i30, q_i31, q_i32, q_i35, q_i36, q_i38, q_i40, q_i42, q_i43, q_i48, q_i51, q_i52, q_i56, q_i63, q_i64, q_i67, q_i80, q_i95, q_i99, q_i126, q_i127, q_i128, q_i255, q_i256, q_i512, q_i1024, q_i12000, q_i32512, q_i32768, q_i131072, q_j0, q_j1, q_j2, q_j3, q_j4, q_j8, q_j256, Nat.one_mul, Nat.zero_add, Nat.add_zero, Nat.sub_zero, Nat.mul_one, q_ofN, s1, s2, s4, s7, s10, h6, hws, c1]; done)) | (with_reducible refine zEk.in_ ?_ ?_; focus (simp (disch := omega) only [zlet, w_i_k, w_i_n, w_i_i, w_i_j, w_i_p, w_i_s, w_j_k, w_j_n, w_j_i, w_j_j, w_j_p, w_j_s, w_p_k, w_p_n, w_p_i, w_p_j, w_p_p, w_p_s, w_c_k, w_c_n, w_c_i, w_c_j, w_c_p, w_c_s, w_u_k, w_u_n, w_u_i, w_u_j, w_u_p, w_u_s, q_nf, ↓reduceIte, if_true, if_false, eq_self, and_true, true_and, and_false, false_and, Option.bind_some, ne_eq, not_false_eq_true, not_true_eq_false, nI_add, pk_mul, pk_sub, nI_ac, q_tlt, q_flt, q_tle, q_fle, q_teq, q_feq, q_tin, nI_cl, q_m1, q_m2, q_m3, q_m4, q_m5, q_m6, q_m7, q_l1, q_l2, q_l3, q_l4, q_l5, q_l6, lN_add, lN_mul, lN_sub, lN_i, nI_l, q_rem, q_rem2, q_div, q_shl, q_shr, q_i0, q_i1, q_i2, q_i3, q_i4, q_i5, q_i6, q_i7, q_i8, q_i9, q_i10, q_i11, q_i12, q_i14, q_i15, q_i16, q_i17, q_i18, q_i19, q_i20, q_i22, q_i24, q_i26, q_i28, q_i30, q_i31, q_i32, q_i35, q_i36, q_i38, q_i40, q_i42, q_i43, q_i48, q_i51, q_i52, q_i56, q_i63, q_i64, q_i67, q_i80, q_i95, q_i99, q_i126, q_i127, q_i128, q_i255, q_i256, q_i512, q_i1024, q_i12000, q_i32512, q_i32768, q_i131072, q_j0, q_j1, q_j2, q_j3, q_j4, q_j8, q_j256, Nat.one_mul, Nat.zero_add, Nat.add_zero, Nat.sub_zero, Nat.mul_one, q_ofN, s1, s2, s4, s7, s10, h6, hws, c1]; done))
      rw [e1]
      first | with_reducible refine zEk.bind (hf) ?_ | (with_reducible refine zEk.bq (hf) ?_ ?_; focus (intro n; simp (disch := omega) only [zlet, w_i_k, w_i_n, w_i_i, w_i_j, w_i_p, w_i_s, w_j_k, w_j_n, w_j_i, w_j_j, w_j_p, w_j_s, w_p_k, w_p_n, w_p_i, w_p_j, w_p_p, w_p_s, w_c_k, w_c_n, w_c_i, w_c_j, w_c_p, w_c_s, w_u_k, w_u_n, w_u_i, w_u_j, w_u_p, w_u_s, q_nf, ↓reduceIte, if_true, if_false, eq_self, and_true, true_and, and_false, false_and, Option.bind_some, ne_eq, not_false_eq_true, not_true_eq_false, nI_add, pk_mul, pk_sub, nI_ac, q_tlt, q_flt, q_tle, q_fle, q_teq, q_feq, q_tin, nI_cl, q_m1, q_m2, q_m3, q_m4, q_m5, q_m6, q_m7, q_l1, q_l2, q_l3, q_l4, q_l5, q_l6, lN_add, lN_mul, lN_sub, lN_i, nI_l, q_rem, q_rem2, q_div, q_shl, q_shr, q_i0, q_i1, q_i2, q_i3, q_i4, q_i5, q_i6, q_i7, q_i8, q_i9, q_i10, q_i11, q_i12, q_i14, q_i15, q_i16, q_i17, q_i18, q_i19, q_i20, q_i22, q_i24, q_i26, q_i28, q_i30, q_i31, q_i32, q_i35, q_i36, q_i38, q_i40, q_i42, q_i43, q_i48, q_i51, q_i52, q_i56, q_i63, q_i64, q_i67, q_i80, q_i95, q_i99, q_i126, q_i127, q_i128, q_i255, q_i256, q_i512, q_i1024, q_i12000, q_i32512, q_i32768, q_i131072, q_j0, q_j1, q_j2, q_j3, q_j4, q_j8, q_j256, Nat.one_mul, Nat.zero_add, Nat.add_zero, Nat.sub_zero, Nat.mul_one, q_ofN, s4]; done))
      repeat first | with_reducible refine zEk.zl ?_ | (with_reducible refine zEk.ip ?_ ?_; focus (simp only [s1, s3, s8, s11]; done)) | (with_reducible refine zEk.ip ?_ ?_; focus (simp (disch := omega) only [zlet, w_i_k, w_i_n, w_i_i, w_i_j, w_i_p, w_i_s, w_j_k, w_j_n, w_j_i, w_j_j, w_j_p, w_j_s, w_p_k, w_p_n, w_p_i, w_p_j, w_p_p, w_p_s, w_c_k, w_c_n, w_c_i, w_c_j, w_c_p, w_c_s, w_u_k, w_u_n, w_u_i, w_u_j, w_u_p, w_u_s, q_nf, ↓reduceIte, if_true, if_false, eq_self, and_true, true_and, and_false, false_and, Option.bind_some, ne_eq, not_false_eq_true, not_true_eq_false, nI_add, pk_mul, pk_sub, nI_ac, q_tlt, q_flt, q_tle, q_fle, q_teq, q_feq, q_tin, nI_cl, q_m1, q_m2, q_m3, q_m4, q_m5, q_m6, q_m7, q_l1, q_l2, q_l3, q_l4, q_l5, q_l6, lN_add, lN_mul, lN_sub, lN_i, nI_l, q_rem, q_rem2, q_div, q_shl, q_shr, q_i0, q_i1, q_i2, q_i3, q_i4, q_i5, q_i6, q_i7, q_i8, q_i9, q_i10, q_i11, q_i12, q_i14, q_i15, q_i16, q_i17, q_i18, q_i19, q_i20, q_i22, q_i24, q_i26, q_i28, q_i30, q_i31, q_i32, q_i35, q_i36, q_i38, q_i40, q_i42, q_i43, q_i48, q_i51, q_i52, q_i56, q_i63, q_i64, q_i67, q_i80, q_i95, q_i99, q_i126, q_i127, q_i128, q_i255, q_i256, q_i512, q_i1024, q_i12000, q_i32512, q_i32768, q_i131072, q_j0, q_j1, q_j2, q_j3, q_j4, q_j8, q_j256, Nat.one_mul, Nat.zero_add, Nat.add_zero, Nat.sub_zero, Nat.mul_one, q_ofN, s1, s3, s8, s11]; done)) | (with_reducible refine zEk.in_ ?_ ?_; focus (simp (disch := omega) only [zlet, w_i_k, w_i_n, w_i_i, w_i_j, w_i_p, w_i_s, w_j_k, w_j_n, w_j_i, w_j_j, w_j_p, w_j_s, w_p_k, w_p_n, w_p_i, w_p_j, w_p_p, w_p_s, w_c_k, w_c_n, w_c_i, w_c_j, w_c_p, w_c_s, w_u_k, w_u_n, w_u_i, w_u_j, w_u_p, w_u_s, q_nf, ↓reduceIte, if_true, if_false, eq_self, and_true, true_and, and_false, false_and, Option.bind_some, ne_eq, not_false_eq_true, not_true_eq_false, nI_add, pk_mul, pk_sub, nI_ac, q_tlt, q_flt, q_tle, q_fle, q_teq, q_feq, q_tin, nI_cl, q_m1, q_m2, q_m3, q_m4, q_m5, q_m6, q_m7, q_l1, q_l2, q_l3, q_l4, q_l5, q_l6, lN_add, lN_mul, lN_sub, lN_i, nI_l, q_rem, q_rem2, q_div, q_shl, q_shr, q_i0, q_i1, q_i2, q_i3, q_i4, q_i5, q_i6, q_i7, q_i8, q_i9, q_i10, q_i11, q_i12, q_i14, q_i15, q_i16, q_i17, q_i18, q_i19, q_i20, q_i22, q_i24, q_i26, q_i28, q_i30, q_i31, q_i32, q_i35, q_i36, q_i38, q_i40, q_i42, q_i43, q_i48, q_i51, q_i52, q_i56, q_i63, q_i64, q_i67, q_i80, q_i95, q_i99, q_i126, q_i127, q_i128, q_i255, q_i256, q_i512, q_i1024, q_i12000, q_i32512, q_i32768, q_i131072, q_j0, q_j1, q_j2, q_j3, q_j4, q_j8, q_j256, Nat.one_mul, Nat.zero_add, Nat.add_zero, Nat.sub_zero, Nat.mul_one, q_ofN, s1, s3, s8, s11]; done))
      refine i3.to fun n K => ?_
      unfold f_Codes_lay_69
      simp (disch := omega) only [zlet, w_i_k, w_i_n, w_i_i, w_i_j, w_i_p, w_i_s, w_j_k, w_j_n, w_j_i, w_j_j, w_j_p, w_j_s, w_p_k, w_p_n, w_p_i, w_p_j, w_p_p, w_p_s, w_c_k, w_c_n, w_c_i, w_c_j, w_c_p, w_c_s, w_u_k, w_u_n, w_u_i, w_u_j, w_u_p, w_u_s, q_nf, ↓reduceIte, if_true, if_false, eq_self, and_true, true_and, and_false, false_and, Option.bind_some, ne_eq, not_false_eq_true, not_true_eq_false, nI_add, pk_mul, pk_sub, nI_ac, q_tlt, q_flt, q_tle, q_fle, q_teq, q_feq, q_tin, nI_cl, q_m1, q_m2, q_m3, q_m4, q_m5, q_m6, q_m7, q_l1, q_l2, q_l3, q_l4, q_l5, q_l6, lN_add, lN_mul, lN_sub, lN_i, nI_l, q_rem, q_rem2, q_div, q_shl, q_shr, q_i0, q_i1, q_i2, q_i3, q_i4, q_i5, q_i6, q_i7, q_i8, q_i9, q_i10, q_i11, q_i12, q_i14, q_i15, q_i16, q_i17, q_i18, q_i19, q_i20, q_i22, q_i24, q_i26, q_i28, q_i30, q_i31, q_i32, q_i35, q_i36, q_i38, q_i40, q_i42, q_i43, q_i48, q_i51, q_i52, q_i56, q_i63, q_i64, q_i67, q_i80, q_i95, q_i99, q_i126, q_i127, q_i128, q_i255, q_i256, q_i512, q_i1024, q_i12000, q_i32512, q_i32768, q_i131072, q_j0, q_j1, q_j2, q_j3, q_j4, q_j8, q_j256, Nat.one_mul, Nat.zero_add, Nat.add_zero, Nat.sub_zero, Nat.mul_one, q_ofN, s3, w_u_w, h5]
      rw [← hst]
    · have hst2 : cum (amu w) (256 * a + (s + 1)) = cum (amu w) (256 * a + s) := by rw [hst, if_neg c1]; rfl
      rw [if_neg c1] at hst
      obtain ⟨gc', gl', i1, i2, i3⟩ := ih (s + 1) (by omega) gc gl (fun c hc => hgc c (by omega)) (fun s' h1 h2 h3 => hgl s' h1 h2 (by
        rcases h3 with h3 | ⟨h3, h4⟩
        · exact Or.inl h3
        · exact Or.inr ⟨h3, by have : s' ≠ s := fun e => c1 (e ▸ h3); omega⟩))
      refine ⟨gc', gl', i1, i2, zEk.succ ?_⟩
      simp only [f_Codes_lay_14]
      repeat first | with_reducible refine zEk.zl ?_ | (with_reducible refine zEk.ip ?_ ?_; focus (simp only [s1, s2, s4, s7, s10, h6, hws]; done)) | (with_reducible refine zEk.ip ?_ ?_; focus (simp (disch := omega) only [zlet, w_i_k, w_i_n, w_i_i, w_i_j, w_i_p, w_i_s, w_j_k, w_j_n, w_j_i, w_j_j, w_j_p, w_j_s, w_p_k, w_p_n, w_p_i, w_p_j, w_p_p, w_p_s, w_c_k, w_c_n, w_c_i, w_c_j, w_c_p, w_c_s, w_u_k, w_u_n, w_u_i, w_u_j, w_u_p, w_u_s, q_nf, ↓reduceIte, if_true, if_false, eq_self, and_true, true_and, and_false, false_and, Option.bind_some, ne_eq, not_false_eq_true, not_true_eq_false, nI_add, pk_mul, pk_sub, nI_ac, q_tlt, q_flt, q_tle, q_fle, q_teq, q_feq, q_tin, nI_cl, q_m1, q_m2, q_m3, q_m4, q_m5, q_m6, q_m7, q_l1, q_l2, q_l3, q_l4, q_l5, q_l6, lN_add, lN_mul, lN_sub, lN_i, nI_l, q_rem, q_rem2, q_div, q_shl, q_shr, q_i0, q_i1, q_i2, q_i3, q_i4, q_i5, q_i6, q_i7, q_i8, q_i9, q_i10, q_i11, q_i12, q_i14, q_i15, q_i16, q_i17, q_i18, q_i19, q_i20, q_i22, q_i24, q_i26, q_i28, q_i30, q_i31, q_i32, q_i35, q_i36, q_i38, q_i40, q_i42, q_i43, q_i48, q_i51, q_i52, q_i56, q_i63, q_i64, q_i67, q_i80, q_i95, q_i99, q_i126, q_i127, q_i128, q_i255, q_i256, q_i512, q_i1024, q_i12000, q_i32512, q_i32768, q_i131072, q_j0, q_j1, q_j2, q_j3, q_j4, q_j8, q_j256, Nat.one_mul, Nat.zero_add, Nat.add_zero, Nat.sub_zero, Nat.mul_one, q_ofN, s1, s2, s4, s7, s10, h6, hws]; done)) | (with_reducible refine zEk.in_ ?_ ?_; focus (simp (disch := omega) only [zlet, w_i_k, w_i_n, w_i_i, w_i_j, w_i_p, w_i_s, w_j_k, w_j_n, w_j_i, w_j_j, w_j_p, w_j_s, w_p_k, w_p_n, w_p_i, w_p_j, w_p_p, w_p_s, w_c_k, w_c_n, w_c_i, w_c_j, w_c_p, w_c_s, w_u_k, w_u_n, w_u_i, w_u_j, w_u_p, w_u_s, q_nf, ↓reduceIte, if_true, if_false, eq_self, and_true, true_and, and_false, false_and, Option.bind_some, ne_eq, not_false_eq_true, not_true_eq_false, nI_add, pk_mul, pk_sub, nI_ac, q_tlt, q_flt, q_tle, q_fle, q_teq, q_feq, q_tin, nI_cl, q_m1, q_m2, q_m3, q_m4, q_m5, q_m6, q_m7, q_l1, q_l2, q_l3, q_l4, q_l5, q_l6, lN_add, lN_mul, lN_sub, lN_i, nI_l, q_rem, q_rem2, q_div, q_shl, q_shr, q_i0, q_i1, q_i2, q_i3, q_i4, q_i5, q_i6, q_i7, q_i8, q_i9, q_i10, q_i11, q_i12, q_i14, q_i15, q_i16, q_i17, q_i18, q_i19, q_i20, q_i22, q_i24, q_i26, q_i28, q_i30, q_i31, q_i32, q_i35, q_i36, q_i38, q_i40, q_i42, q_i43, q_i48, q_i51, q_i52, q_i56, q_i63, q_i64, q_i67, q_i80, q_i95, q_i99, q_i126, q_i127, q_i128, q_i255, q_i256, q_i512, q_i1024, q_i12000, q_i32512, q_i32768, q_i131072, q_j0, q_j1, q_j2, q_j3, q_j4, q_j8, q_j256, Nat.one_mul, Nat.zero_add, Nat.add_zero, Nat.sub_zero, Nat.mul_one, q_ofN, s1, s2, s4, s7, s10, h6, hws]; done))
      refine i3.to fun n K => ?_
      unfold f_Codes_lay_69
      simp (disch := omega) only [zlet, w_i_k, w_i_n, w_i_i, w_i_j, w_i_p, w_i_s, w_j_k, w_j_n, w_j_i, w_j_j, w_j_p, w_j_s, w_p_k, w_p_n, w_p_i, w_p_j, w_p_p, w_p_s, w_c_k, w_c_n, w_c_i, w_c_j, w_c_p, w_c_s, w_u_k, w_u_n, w_u_i, w_u_j, w_u_p, w_u_s, q_nf, ↓reduceIte, if_true, if_false, eq_self, and_true, true_and, and_false, false_and, Option.bind_some, ne_eq, not_false_eq_true, not_true_eq_false, nI_add, pk_mul, pk_sub, nI_ac, q_tlt, q_flt, q_tle, q_fle, q_teq, q_feq, q_tin, nI_cl, q_m1, q_m2, q_m3, q_m4, q_m5, q_m6, q_m7, q_l1, q_l2, q_l3, q_l4, q_l5, q_l6, lN_add, lN_mul, lN_sub, lN_i, nI_l, q_rem, q_rem2, q_div, q_shl, q_shr, q_i0, q_i1, q_i2, q_i3, q_i4, q_i5, q_i6, q_i7, q_i8, q_i9, q_i10, q_i11, q_i12, q_i14, q_i15, q_i16, q_i17, q_i18, q_i19, q_i20, q_i22, q_i24, q_i26, q_i28, q_i30, q_i31, q_i32, q_i35, q_i36, q_i38, q_i40, q_i42, q_i43, q_i48, q_i51, q_i52, q_i56, q_i63, q_i64, q_i67, q_i80, q_i95, q_i99, q_i126, q_i127, q_i128, q_i255, q_i256, q_i512, q_i1024, q_i12000, q_i32512, q_i32768, q_i131072, q_j0, q_j1, q_j2, q_j3, q_j4, q_j8, q_j256, Nat.one_mul, Nat.zero_add, Nat.add_zero, Nat.sub_zero, Nat.mul_one, q_ofN]
      rw [hst2]
theorem l_lay4 {O : zO} {M : zM} {p t K : Nat} {w : Nat → Nat} (hS : zCdS M p) (h5 : z_i M p 5 = nI t) (h6 : z_i M p 6 = nI K) (hK : K ≤ 256) (hw : ∀ s, s < K → z_i M (p + 1) s = nI (w s)) (hw0 : ∀ s, K ≤ s → w s = 0) (hCW : zCW t w) : ∀ d a, a + d = t → ∀ gc gl, (∀ c, c < cum (amu w) (256 * a) → gc c = nI (clS t w c)) → (∀ s', s' < K → 1 ≤ w s' → w s' ≤ a → gl s' = nI (t + 1 - w s')) → ∃ gc' gl', (∀ c, c < 2 ^ t → gc' c = nI (clS t w c)) ∧ (∀ s', s' < K → 1 ≤ w s' → gl' s' = nI (t + 1 - w s')) ∧
    zEv (fun n => f_Codes_lay_4 O n p (nI (cum (amu w) (256 * a))) (nI (a + 1)) (w_u (w_u M (p + 3) gc) (p + 2) gl)) ((), w_u (w_u M (p + 3) gc') (p + 2) gl') := by
  have s1 := hS.1
  have ht := hCW.2.1
  intro d
  induction d with
  | zero =>
    intro a ha gc gl hgc hgl
    have e : a = t := by omega
    subst e
    rw [cum_CW hCW] at hgc ⊢
    refine ⟨gc, gl, hgc, fun s' h1 h2 => hgl s' h1 h2 (hCW.2.2.2.1 s'), zEv.succ ((zEv.some _).to fun n => ?_)⟩
    rw [f_Codes_lay_4]
    simp (disch := omega) only [zlet, w_i_k, w_i_n, w_i_i, w_i_j, w_i_p, w_i_s, w_j_k, w_j_n, w_j_i, w_j_j, w_j_p, w_j_s, w_p_k, w_p_n, w_p_i, w_p_j, w_p_p, w_p_s, w_c_k, w_c_n, w_c_i, w_c_j, w_c_p, w_c_s, w_u_k, w_u_n, w_u_i, w_u_j, w_u_p, w_u_s, q_nf, ↓reduceIte, if_true, if_false, eq_self, and_true, true_and, and_false, false_and, Option.bind_some, ne_eq, not_false_eq_true, not_true_eq_false, nI_add, pk_mul, pk_sub, nI_ac, q_tlt, q_flt, q_tle, q_fle, q_teq, q_feq, q_tin, nI_cl, q_m1, q_m2, q_m3, q_m4, q_m5, q_m6, q_m7, q_l1, q_l2, q_l3, q_l4, q_l5, q_l6, lN_add, lN_mul, lN_sub, lN_i, nI_l, q_rem, q_rem2, q_div, q_shl, q_shr, q_i0, q_i1, q_i2, q_i3, q_i4, q_i5, q_i6, q_i7, q_i8, q_i9, q_i10, q_i11, q_i12, q_i14, q_i15, q_i16, q_i17, q_i18, q_i19, q_i20, q_i22, q_i24, q_i26, q_i28, q_i30, q_i31, q_i32, q_i35, q_i36, q_i38, q_i40, q_i42, q_i43, q_i48, q_i51, q_i52, q_i56, q_i63, q_i64, q_i67, q_i80, q_i95, q_i99, q_i126, q_i127, q_i128, q_i255, q_i256, q_i512, q_i1024, q_i12000, q_i32512, q_i32768, q_i131072, q_j0, q_j1, q_j2, q_j3, q_j4, q_j8, q_j256, Nat.one_mul, Nat.zero_add, Nat.add_zero, Nat.sub_zero, Nat.mul_one, q_ofN, s1, h5]
  | succ d ih =>
    intro a ha gc gl hgc hgl
    obtain ⟨gc1, gl1, j1, j2, j3⟩ := l_lay14 (O := O) (a := a) hS h5 h6 hK hw hCW (by omega) K 0 (by omega) gc gl hgc (fun s' h1 h2 h3 => hgl s' h1 h2 (by omega))
    have e1 : cum (amu w) (256 * a + K) = cum (amu w) (256 * (a + 1)) := by
      have := cum_tail (a := a) (n := K) (w := w) (fun s h1 _ => hw0 s h1) (256 - K) (by omega)
      rw [show 256 * a + (K + (256 - K)) = 256 * (a + 1) by omega] at this
      exact this.symm
    rw [e1] at j1 j3
    obtain ⟨gc', gl', i1, i2, i3⟩ := ih (a + 1) (by omega) gc1 gl1 j1 j2
    refine ⟨gc', gl', i1, i2, zEv.succ ?_⟩
    simp only [f_Codes_lay_4]
    repeat first | with_reducible refine zEv.zl ?_ | (with_reducible refine zEv.ip ?_ ?_; focus (simp only [s1, h5]; done)) | (with_reducible refine zEv.ip ?_ ?_; focus (simp (disch := omega) only [zlet, w_i_k, w_i_n, w_i_i, w_i_j, w_i_p, w_i_s, w_j_k, w_j_n, w_j_i, w_j_j, w_j_p, w_j_s, w_p_k, w_p_n, w_p_i, w_p_j, w_p_p, w_p_s, w_c_k, w_c_n, w_c_i, w_c_j, w_c_p, w_c_s, w_u_k, w_u_n, w_u_i, w_u_j, w_u_p, w_u_s, q_nf, ↓reduceIte, if_true, if_false, eq_self, and_true, true_and, and_false, false_and, Option.bind_some, ne_eq, not_false_eq_true, not_true_eq_false, nI_add, pk_mul, pk_sub, nI_ac, q_tlt, q_flt, q_tle, q_fle, q_teq, q_feq, q_tin, nI_cl, q_m1, q_m2, q_m3, q_m4, q_m5, q_m6, q_m7, q_l1, q_l2, q_l3, q_l4, q_l5, q_l6, lN_add, lN_mul, lN_sub, lN_i, nI_l, q_rem, q_rem2, q_div, q_shl, q_shr, q_i0, q_i1, q_i2, q_i3, q_i4, q_i5, q_i6, q_i7, q_i8, q_i9, q_i10, q_i11, q_i12, q_i14, q_i15, q_i16, q_i17, q_i18, q_i19, q_i20, q_i22, q_i24, q_i26, q_i28, q_i30, q_i31, q_i32, q_i35, q_i36, q_i38, q_i40, q_i42, q_i43, q_i48, q_i51, q_i52, q_i56, q_i63, q_i64, q_i67, q_i80, q_i95, q_i99, q_i126, q_i127, q_i128, q_i255, q_i256, q_i512, q_i1024, q_i12000, q_i32512, q_i32768, q_i131072, q_j0, q_j1, q_j2, q_j3, q_j4, q_j8, q_j256, Nat.one_mul, Nat.zero_add, Nat.add_zero, Nat.sub_zero, Nat.mul_one, q_ofN, s1, h5]; done)) | (with_reducible refine zEv.in_ ?_ ?_; focus (simp (disch := omega) only [zlet, w_i_k, w_i_n, w_i_i, w_i_j, w_i_p, w_i_s, w_j_k, w_j_n, w_j_i, w_j_j, w_j_p, w_j_s, w_p_k, w_p_n, w_p_i, w_p_j, w_p_p, w_p_s, w_c_k, w_c_n, w_c_i, w_c_j, w_c_p, w_c_s, w_u_k, w_u_n, w_u_i, w_u_j, w_u_p, w_u_s, q_nf, ↓reduceIte, if_true, if_false, eq_self, and_true, true_and, and_false, false_and, Option.bind_some, ne_eq, not_false_eq_true, not_true_eq_false, nI_add, pk_mul, pk_sub, nI_ac, q_tlt, q_flt, q_tle, q_fle, q_teq, q_feq, q_tin, nI_cl, q_m1, q_m2, q_m3, q_m4, q_m5, q_m6, q_m7, q_l1, q_l2, q_l3, q_l4, q_l5, q_l6, lN_add, lN_mul, lN_sub, lN_i, nI_l, q_rem, q_rem2, q_div, q_shl, q_shr, q_i0, q_i1, q_i2, q_i3, q_i4, q_i5, q_i6, q_i7, q_i8, q_i9, q_i10, q_i11, q_i12, q_i14, q_i15, q_i16, q_i17, q_i18, q_i19, q_i20, q_i22, q_i24, q_i26, q_i28, q_i30, q_i31, q_i32, q_i35, q_i36, q_i38, q_i40, q_i42, q_i43, q_i48, q_i51, q_i52, q_i56, q_i63, q_i64, q_i67, q_i80, q_i95, q_i99, q_i126, q_i127, q_i128, q_i255, q_i256, q_i512, q_i1024, q_i12000, q_i32512, q_i32768, q_i131072, q_j0, q_j1, q_j2, q_j3, q_j4, q_j8, q_j256, Nat.one_mul, Nat.zero_add, Nat.add_zero, Nat.sub_zero, Nat.mul_one, q_ofN, s1, h5]; done))
    exact j3.use (k := fun n => f_Codes_lay_4 O n) i3
theorem c_Codes_lay {O : zO} {M : zM} {p t K : Nat} {w : Nat → Nat} (hS : zCdS M p) (h5 : z_i M p 5 = nI t) (h6 : z_i M p 6 = nI K) (hK : K ≤ 256) (hw : ∀ s, s < K → z_i M (p + 1) s = nI (w s)) (hw0 : ∀ s, K ≤ s → w s = 0) (hCW : zCW t w) : ∃ M', zEv (fun n => F_Codes_lay O n p M) ((), M') ∧ zSt (fun q => p ≤ q ∧ q ≤ p + 10) M M' ∧ zCdS M' p ∧ zCd M' p t w := by
  obtain ⟨gc, gl, i1, i2, i3⟩ := l_lay4 (O := O) hS h5 h6 hK hw hw0 hCW t 0 (by omega) (z_i M (p + 3)) (z_i M (p + 2)) (fun c hc => by rw [show cum (amu w) (256 * 0) = 0 from rfl] at hc; omega) (fun s' h1 h2 h3 => by omega)
  refine ⟨_, i3.to fun n => ?_, (zSt.rf.wu ⟨by omega, by omega⟩).wu ⟨by omega, by omega⟩, (hS.wu (by omega)).wu (by omega), ?_, fun c hc => ?_, fun s hs h1 => ?_⟩
  · rw [w_u_self, show w_u M (p + 2) (z_i M (p + 2)) = M from w_u_self M (p + 2)]
    rfl
  · simp (disch := omega) only [zlet, w_i_k, w_i_n, w_i_i, w_i_j, w_i_p, w_i_s, w_j_k, w_j_n, w_j_i, w_j_j, w_j_p, w_j_s, w_p_k, w_p_n, w_p_i, w_p_j, w_p_p, w_p_s, w_c_k, w_c_n, w_c_i, w_c_j, w_c_p, w_c_s, w_u_k, w_u_n, w_u_i, w_u_j, w_u_p, w_u_s, q_nf, ↓reduceIte, if_true, if_false, eq_self, and_true, true_and, and_false, false_and, Option.bind_some, ne_eq, not_false_eq_true, not_true_eq_false]
    exact h5
  · simp (disch := omega) only [zlet, w_i_k, w_i_n, w_i_i, w_i_j, w_i_p, w_i_s, w_j_k, w_j_n, w_j_i, w_j_j, w_j_p, w_j_s, w_p_k, w_p_n, w_p_i, w_p_j, w_p_p, w_p_s, w_c_k, w_c_n, w_c_i, w_c_j, w_c_p, w_c_s, w_u_k, w_u_n, w_u_i, w_u_j, w_u_p, w_u_s, q_nf, ↓reduceIte, if_true, if_false, eq_self, and_true, true_and, and_false, false_and, Option.bind_some, ne_eq, not_false_eq_true, not_true_eq_false]
    exact i1 c hc
  · simp (disch := omega) only [zlet, w_i_k, w_i_n, w_i_i, w_i_j, w_i_p, w_i_s, w_j_k, w_j_n, w_j_i, w_j_j, w_j_p, w_j_s, w_p_k, w_p_n, w_p_i, w_p_j, w_p_p, w_p_s, w_c_k, w_c_n, w_c_i, w_c_j, w_c_p, w_c_s, w_u_k, w_u_n, w_u_i, w_u_j, w_u_p, w_u_s, q_nf, ↓reduceIte, if_true, if_false, eq_self, and_true, true_and, and_false, false_and, Option.bind_some, ne_eq, not_false_eq_true, not_true_eq_false]
    exact i2 s (by have := hw0 s; omega) h1
theorem plW_le {b : Nat → Nat} {fr k : Nat} (h : b (fr + k / 2) < 256) : plW b fr k ≤ 15 := by
  unfold plW
  split <;> omega
theorem wtS_le {T B E b : Nat → Nat} {p o : Nat} (hwf : wfT o 11 T B E) : ∀ (f n L now oth : Nat) (w : Nat → Nat) (n' : Nat) (w' : Nat → Nat), now < 2 ^ o → oth < 2 ^ o → (∀ j, w j ≤ 15) → wtS T B E b p f n L now oth w = some (n', w') → ∀ j, w' j ≤ 15
  | 0, n, L, now, oth, w, n', w', _, _, _, h => by simp [wtS] at h
  | f + 1, n, L, now, oth, w, n', w', h1, h2, hw, h => by
    have hu : ∀ (u : Nat → Nat) (x k : Nat), (∀ j, u j ≤ 15) → k < 2 ^ o → ∀ j, upN u x (T k) j ≤ 15 := fun u x k hu hk j => by
      have := (hwf.2 k hk).1
      unfold upN
      split
      · omega
      · exact hu j
    simp only [wtS] at h
    split at h
    · split at h
      · cases h
      · cases h
        exact hu _ _ _ (hu _ _ _ hw h1) h2
    · exact wtS_le hwf f _ _ _ _ _ _ _ h2 (hwf.nx h1) (hu _ _ _ hw h1) h
theorem dsC_0 {n t : Nat} {w w' : Nat → Nat} (h : dsC n w = some (t, w')) : ∀ s, n + 1 ≤ s → w' s = 0 := by
  unfold dsC at h
  by_cases c1 : wgt w n = 0
  · rw [if_pos c1] at h; cases h
  rw [if_neg c1] at h
  by_cases c2 : 11 < hib (wgt w n) + 1
  · rw [if_pos c2] at h; cases h
  rw [if_neg c2] at h
  generalize hr : 2 ^ (hib (wgt w n) + 1) - wgt w n = r at h
  by_cases c3 : 2 ^ hib r ≠ r
  · rw [if_pos c3] at h; cases h
  rw [if_neg c3] at h
  by_cases c4 : one1 w n + (if hib r + 1 = 1 then 1 else 0) < 2
  · rw [if_pos c4] at h; cases h
  rw [if_neg c4] at h
  simp only [Option.some.injEq, Prod.mk.injEq] at h
  intro s hs
  rw [← h.2]
  unfold cut
  rw [if_neg (by omega)]
