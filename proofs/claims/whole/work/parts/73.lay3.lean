/-! Share.number; Share.lay as a whole. -/
def nB (u : Nat → Nat) (s : Nat) : Nat := if u s = 0 then 1 else u s - 1
theorem l_num2 {O : zO} {M : zM} {p G last o : Nat} {u : Nat → Nat} {T B E : Nat → Int32} (h : zShS M p G last) (hG : o ≤ G) (hG9 : G ≤ 9) (hu : zSh o last u) (ho : z_i M p 7 = nI o) (hpt : ∀ s, s ≤ last → z_i M (p + 1) s = nI (u s) - 1) : ∀ d s, s + d = last + 1 → ∀ N, (∀ j, j < s → N j = nI (nB u j)) → ∃ N', (∀ j, j ≤ last → N' j = nI (nB u j)) ∧ ∀ α, zEv (fun n => f_Share_number_50 O n p (nI (2 ^ o)) 0 (w_S M p N' T B E)) α → zEv (fun n => f_Share_number_2 O n p (nI s) (w_S M p N T B E)) α := by
  obtain ⟨s1, s2, s3, s4, s5, s6, s7, s8, s9, s10, s11, s12, s13, s14, s15, s16, s17, s18⟩ := h
  have hl := hu.2.2.1
  have h9 := hu.2.1
  have hp := pw_9 hu.2.1
  intro d
  induction d with
  | zero =>
    intro s hs N hN
    have e : s = last + 1 := by omega
    subst e
    refine ⟨N, fun j hj => hN j (by omega), fun α hα => zEv.succ (hα.to fun n => ?_)⟩
    rw [f_Share_number_2]
    simp (disch := omega) only [zlet, w_i_k, w_i_n, w_i_i, w_i_j, w_i_p, w_i_s, w_j_k, w_j_n, w_j_i, w_j_j, w_j_p, w_j_s, w_p_k, w_p_n, w_p_i, w_p_j, w_p_p, w_p_s, w_c_k, w_c_n, w_c_i, w_c_j, w_c_p, w_c_s, w_u_k, w_u_n, w_u_i, w_u_j, w_u_p, w_u_s, q_nf, ↓reduceIte, if_true, if_false, eq_self, and_true, true_and, and_false, false_and, Option.bind_some, ne_eq, not_false_eq_true, not_true_eq_false, nI_add, pk_mul, pk_sub, nI_ac, q_tlt, q_flt, q_tle, q_fle, q_teq, q_feq, q_tin, nI_cl, q_m1, q_m2, q_m3, q_m4, q_m5, q_m6, q_m7, q_l1, q_l2, q_l3, q_l4, q_l5, q_l6, lN_add, lN_mul, lN_sub, lN_i, nI_l, q_rem, q_rem2, q_div, q_shl, q_shr, q_i0, q_i1, q_i2, q_i3, q_i4, q_i5, q_i6, q_i7, q_i8, q_i9, q_i10, q_i11, q_i12, q_i14, q_i15, q_i16, q_i17, q_i18, q_i19, q_i20, q_i22, q_i24, q_i26, q_i28, q_i30, q_i31, q_i32, q_i35, q_i36, q_i38, q_i40, q_i42, q_i43, q_i48, q_i51, q_i52, q_i56, q_i63, q_i64, q_i67, q_i80, q_i95, q_i99, q_i126, q_i127, q_i128, q_i255, q_i256, q_i512, q_i1024, q_i12000, q_i32512, q_i32768, q_i131072, q_j0, q_j1, q_j2, q_j3, q_j4, q_j8, q_j256, Nat.one_mul, Nat.zero_add, Nat.add_zero, Nat.sub_zero, Nat.mul_one, q_ofN, s1, s18, w_S_k, w_S_n, w_S_i, w_S_p, ho]
  | succ d ih =>
    intro s hs N hN
    have hp1 := hpt s (by omega)
    have hul := u_le hu s
    obtain ⟨N', n1, n2⟩ := ih (s + 1) (by omega) (upd N s (nI (nB u s))) (fun j hj => by
      rw [upd_at]
      by_cases c : j = s
      · rw [if_pos c, c]
      · rw [if_neg c]; exact hN j (by omega))
    refine ⟨N', n1, fun α hα => zEv.succ ((n2 α hα).to fun n => ?_)⟩
    rw [f_Share_number_2]
    rw [show (0 : Int32) = nI 0 from rfl] at *
    by_cases c : u s = 0
    · have e : nB u s = 1 := by unfold nB; rw [if_pos c]
      rw [c, nI_z1] at hp1
      simp (disch := omega) only [zlet, w_i_k, w_i_n, w_i_i, w_i_j, w_i_p, w_i_s, w_j_k, w_j_n, w_j_i, w_j_j, w_j_p, w_j_s, w_p_k, w_p_n, w_p_i, w_p_j, w_p_p, w_p_s, w_c_k, w_c_n, w_c_i, w_c_j, w_c_p, w_c_s, w_u_k, w_u_n, w_u_i, w_u_j, w_u_p, w_u_s, q_nf, ↓reduceIte, if_true, if_false, eq_self, and_true, true_and, and_false, false_and, Option.bind_some, ne_eq, not_false_eq_true, not_true_eq_false, nI_add, pk_mul, pk_sub, nI_ac, q_tlt, q_flt, q_tle, q_fle, q_teq, q_feq, q_tin, nI_cl, q_m1, q_m2, q_m3, q_m4, q_m5, q_m6, q_m7, q_l1, q_l2, q_l3, q_l4, q_l5, q_l6, lN_add, lN_mul, lN_sub, lN_i, nI_l, q_rem, q_rem2, q_div, q_shl, q_shr, q_i0, q_i1, q_i2, q_i3, q_i4, q_i5, q_i6, q_i7, q_i8, q_i9, q_i10, q_i11, q_i12, q_i14, q_i15, q_i16, q_i17, q_i18, q_i19, q_i20, q_i22, q_i24, q_i26, q_i28, q_i30, q_i31, q_i32, q_i35, q_i36, q_i38, q_i40, q_i42, q_i43, q_i48, q_i51, q_i52, q_i56, q_i63, q_i64, q_i67, q_i80, q_i95, q_i99, q_i126, q_i127, q_i128, q_i255, q_i256, q_i512, q_i1024, q_i12000, q_i32512, q_i32768, q_i131072, q_j0, q_j1, q_j2, q_j3, q_j4, q_j8, q_j256, Nat.one_mul, Nat.zero_add, Nat.add_zero, Nat.sub_zero, Nat.mul_one, q_ofN, s1, s2, s3, s7, s8, s12, s13, s18, w_S_k, w_S_n, w_S_i, w_S_p, hp1, f_Share_number_34, w_S_2, e]
    · have e : nB u s = u s - 1 := by unfold nB; rw [if_neg c]
      rw [nI_m1 (by omega)] at hp1
      simp (disch := omega) only [zlet, w_i_k, w_i_n, w_i_i, w_i_j, w_i_p, w_i_s, w_j_k, w_j_n, w_j_i, w_j_j, w_j_p, w_j_s, w_p_k, w_p_n, w_p_i, w_p_j, w_p_p, w_p_s, w_c_k, w_c_n, w_c_i, w_c_j, w_c_p, w_c_s, w_u_k, w_u_n, w_u_i, w_u_j, w_u_p, w_u_s, q_nf, ↓reduceIte, if_true, if_false, eq_self, and_true, true_and, and_false, false_and, Option.bind_some, ne_eq, not_false_eq_true, not_true_eq_false, nI_add, pk_mul, pk_sub, nI_ac, q_tlt, q_flt, q_tle, q_fle, q_teq, q_feq, q_tin, nI_cl, q_m1, q_m2, q_m3, q_m4, q_m5, q_m6, q_m7, q_l1, q_l2, q_l3, q_l4, q_l5, q_l6, lN_add, lN_mul, lN_sub, lN_i, nI_l, q_rem, q_rem2, q_div, q_shl, q_shr, q_i0, q_i1, q_i2, q_i3, q_i4, q_i5, q_i6, q_i7, q_i8, q_i9, q_i10, q_i11, q_i12, q_i14, q_i15, q_i16, q_i17, q_i18, q_i19, q_i20, q_i22, q_i24, q_i26, q_i28, q_i30, q_i31, q_i32, q_i35, q_i36, q_i38, q_i40, q_i42, q_i43, q_i48, q_i51, q_i52, q_i56, q_i63, q_i64, q_i67, q_i80, q_i95, q_i99, q_i126, q_i127, q_i128, q_i255, q_i256, q_i512, q_i1024, q_i12000, q_i32512, q_i32768, q_i131072, q_j0, q_j1, q_j2, q_j3, q_j4, q_j8, q_j256, Nat.one_mul, Nat.zero_add, Nat.add_zero, Nat.sub_zero, Nat.mul_one, q_ofN, s1, s2, s3, s7, s8, s12, s13, s18, w_S_k, w_S_n, w_S_i, w_S_p, hp1, f_Share_number_34, w_S_2, e]
theorem ctb_s (P : Nat → Bool) (k : Nat) : ctb P (k + 1) = ctb P k + if P k then 1 else 0 := rfl
theorem l_num50 {O : zO} {M : zM} {p G last o : Nat} {u : Nat → Nat} {T : Nat → Int32} (h : zShS M p G last) (hG : o ≤ G) (hG9 : G ≤ 9) (hu : zSh o last u) (ho : z_i M p 7 = nI o) (hT : ∀ k, k < 2 ^ o → T k = nI (tS o u k)) : ∀ d k, k + d = 2 ^ o → ∀ N B E, (∀ j, j ≤ last → N j = nI (nB u j + ctb (fun i => tS o u i == j) k)) → (∀ j, j < k → B j = nI (bS o u j) ∧ E j = nI (eS o u j)) → ∃ N' B' E', (∀ j, j < 2 ^ o → B' j = nI (bS o u j) ∧ E' j = nI (eS o u j)) ∧ zEv (fun n => f_Share_number_50 O n p (nI (2 ^ o)) (nI k) (w_S M p N T B E)) ((), w_S M p N' T B' E') := by
  obtain ⟨s1, s2, s3, s4, s5, s6, s7, s8, s9, s10, s11, s12, s13, s14, s15, s16, s17, s18⟩ := h
  have hl := hu.2.2.1
  have h9 := hu.2.1
  have hp := pw_9 hu.2.1
  have hoG := pw_le hG
  have hG5 := pw_9 hG9
  intro d
  induction d with
  | zero =>
    intro k hk N B E hN hB
    refine ⟨N, B, E, fun j hj => hB j (by omega), zEv.succ ((zEv.some _).to fun n => ?_)⟩
    rw [f_Share_number_50]
    simp (disch := omega) only [zlet, w_i_k, w_i_n, w_i_i, w_i_j, w_i_p, w_i_s, w_j_k, w_j_n, w_j_i, w_j_j, w_j_p, w_j_s, w_p_k, w_p_n, w_p_i, w_p_j, w_p_p, w_p_s, w_c_k, w_c_n, w_c_i, w_c_j, w_c_p, w_c_s, w_u_k, w_u_n, w_u_i, w_u_j, w_u_p, w_u_s, q_nf, ↓reduceIte, if_true, if_false, eq_self, and_true, true_and, and_false, false_and, Option.bind_some, ne_eq, not_false_eq_true, not_true_eq_false, nI_add, pk_mul, pk_sub, nI_ac, q_tlt, q_flt, q_tle, q_fle, q_teq, q_feq, q_tin, nI_cl, q_m1, q_m2, q_m3, q_m4, q_m5, q_m6, q_m7, q_l1, q_l2, q_l3, q_l4, q_l5, q_l6, lN_add, lN_mul, lN_sub, lN_i, nI_l, q_rem, q_rem2, q_div, q_shl, q_shr, q_i0, q_i1, q_i2, q_i3, q_i4, q_i5, q_i6, q_i7, q_i8, q_i9, q_i10, q_i11, q_i12, q_i14, q_i15, q_i16, q_i17, q_i18, q_i19, q_i20, q_i22, q_i24, q_i26, q_i28, q_i30, q_i31, q_i32, q_i35, q_i36, q_i38, q_i40, q_i42, q_i43, q_i48, q_i51, q_i52, q_i56, q_i63, q_i64, q_i67, q_i80, q_i95, q_i99, q_i126, q_i127, q_i128, q_i255, q_i256, q_i512, q_i1024, q_i12000, q_i32512, q_i32768, q_i131072, q_j0, q_j1, q_j2, q_j3, q_j4, q_j8, q_j256, Nat.one_mul, Nat.zero_add, Nat.add_zero, Nat.sub_zero, Nat.mul_one, q_ofN]
  | succ d ih =>
    intro k hk N B E hN hB
    have hk2 : k < 2 ^ o := by omega
    obtain ⟨t1, t2⟩ := tS_ok hu hk2
    obtain ⟨x1, x2⟩ := xS_ok hu hk2
    obtain ⟨b1, b2, b3, b4, b5⟩ := bS_ok hu hk2
    have hx : nB u (tS o u k) + ctb (fun i => tS o u i == tS o u k) k = xS o u k := rfl
    have hNt := hN (tS o u k) t2
    rw [hx] at hNt
    obtain ⟨N', B', E', n1, n2⟩ := ih (k + 1) (by omega) (upd N (tS o u k) (nI (xS o u k + 1))) (upd B k (nI (bS o u k))) (upd E k (nI (eS o u k))) (fun j hj => by
      rw [upd_at, ctb_s]
      by_cases c : j = tS o u k
      · subst c
        rw [if_pos rfl, beq_self_eq_true, if_pos rfl, ← Nat.add_assoc, hx]
      · have hb : (tS o u k == j) = false := beq_false_of_ne (fun w => c w.symm)
        rw [if_neg c, hN j hj, hb]
        rfl) (fun j hj => by
      rw [upd_at, upd_at]
      by_cases c : j = k
      · rw [if_pos c, if_pos c, c]; exact ⟨rfl, rfl⟩
      · rw [if_neg c, if_neg c]; exact hB j (by omega))
    refine ⟨N', B', E', n1, zEv.succ ?_⟩
    have hz := c_nlz (O := O) (M := w_S M p (upd N (tS o u k) (nI (xS o u k + 1))) T B E) (v := xS o u k) (by omega) (by omega)
    refine zEv.to (g := fun n => (F_JInt_numberOfLeadingZeros O n (nI (xS o u k)) (w_S M p (upd N (tS o u k) (nI (xS o u k + 1))) T B E)).bind fun q17 => if z_k q17.2 p = 11 then
        if z_k q17.2 (z_p q17.2 p 5) = 100 then
        if zin (nI k) (z_n q17.2 (z_p q17.2 p 5)) = true then
        zlet (w_i q17.2 (z_p q17.2 p 5) (nI k).toNatClampNeg (nI o - ((31 : Int32) - q17.1))) fun M24 =>
        if z_k M24 (z_p M24 p 6) = 100 then
        if zin (nI k) (z_n M24 (z_p M24 p 6)) = true then
        zlet (w_i M24 (z_p M24 p 6) (nI k).toNatClampNeg ((nI (xS o u k) <<< ((nI o - ((31 : Int32) - q17.1)) &&& 31)) - nI (2 ^ o))) fun M30 =>
        zlet (nI k + (1 : Int32)) fun v35 =>
        f_Share_number_50 O n p (nI (2 ^ o)) v35 M30
        else none
        else none
        else none
        else none
        else none) ?_ (fun n => ?_)
    · refine zEv.bind hz (n2.to fun n => ?_)
      have e1 : (31 : Int32) - nI (31 - hib (xS o u k)) = nI (hib (xS o u k)) := by
        rw [show (31 : Int32) = nI 31 from rfl, pk_sub (by omega), show 31 - (31 - hib (xS o u k)) = hib (xS o u k) by omega]
      have e2 : nI o - nI (hib (xS o u k)) = nI (bS o u k) := pk_sub b1
      have e3 : nI (xS o u k) <<< (nI (bS o u k) &&& 31) - nI (2 ^ o) = nI (eS o u k) := by
        rw [nI_shl (by omega) (by omega), pk_sub b3]; rfl
      dsimp only
      rw [e1, e2, e3]
      simp (disch := omega) only [zlet, w_i_k, w_i_n, w_i_i, w_i_j, w_i_p, w_i_s, w_j_k, w_j_n, w_j_i, w_j_j, w_j_p, w_j_s, w_p_k, w_p_n, w_p_i, w_p_j, w_p_p, w_p_s, w_c_k, w_c_n, w_c_i, w_c_j, w_c_p, w_c_s, w_u_k, w_u_n, w_u_i, w_u_j, w_u_p, w_u_s, q_nf, ↓reduceIte, if_true, if_false, eq_self, and_true, true_and, and_false, false_and, Option.bind_some, ne_eq, not_false_eq_true, not_true_eq_false, nI_add, pk_mul, pk_sub, nI_ac, q_tlt, q_flt, q_tle, q_fle, q_teq, q_feq, q_tin, nI_cl, q_m1, q_m2, q_m3, q_m4, q_m5, q_m6, q_m7, q_l1, q_l2, q_l3, q_l4, q_l5, q_l6, lN_add, lN_mul, lN_sub, lN_i, nI_l, q_rem, q_rem2, q_div, q_shl, q_shr, q_i0, q_i1, q_i2, q_i3, q_i4, q_i5, q_i6, q_i7, q_i8, q_i9, q_i10, q_i11, q_i12, q_i14, q_i15, q_i16, q_i17, q_i18, q_i19, q_i20, q_i22, q_i24, q_i26, q_i28, q_i30, q_i31, q_i32, q_i35, q_i36, q_i38, q_i40, q_i42, q_i43, q_i48, q_i51, q_i52, q_i56, q_i63, q_i64, q_i67, q_i80, q_i95, q_i99, q_i126, q_i127, q_i128, q_i255, q_i256, q_i512, q_i1024, q_i12000, q_i32512, q_i32768, q_i131072, q_j0, q_j1, q_j2, q_j3, q_j4, q_j8, q_j256, Nat.one_mul, Nat.zero_add, Nat.add_zero, Nat.sub_zero, Nat.mul_one, q_ofN, s1, s5, s6, s10, s11, s15, s16, w_S_k, w_S_n, w_S_p, w_S_4, w_S_5]
    · rw [f_Share_number_50]
      have hTk := hT k hk2
      simp (disch := omega) only [zlet, w_i_k, w_i_n, w_i_i, w_i_j, w_i_p, w_i_s, w_j_k, w_j_n, w_j_i, w_j_j, w_j_p, w_j_s, w_p_k, w_p_n, w_p_i, w_p_j, w_p_p, w_p_s, w_c_k, w_c_n, w_c_i, w_c_j, w_c_p, w_c_s, w_u_k, w_u_n, w_u_i, w_u_j, w_u_p, w_u_s, q_nf, ↓reduceIte, if_true, if_false, eq_self, and_true, true_and, and_false, false_and, Option.bind_some, ne_eq, not_false_eq_true, not_true_eq_false, nI_add, pk_mul, pk_sub, nI_ac, q_tlt, q_flt, q_tle, q_fle, q_teq, q_feq, q_tin, nI_cl, q_m1, q_m2, q_m3, q_m4, q_m5, q_m6, q_m7, q_l1, q_l2, q_l3, q_l4, q_l5, q_l6, lN_add, lN_mul, lN_sub, lN_i, nI_l, q_rem, q_rem2, q_div, q_shl, q_shr, q_i0, q_i1, q_i2, q_i3, q_i4, q_i5, q_i6, q_i7, q_i8, q_i9, q_i10, q_i11, q_i12, q_i14, q_i15, q_i16, q_i17, q_i18, q_i19, q_i20, q_i22, q_i24, q_i26, q_i28, q_i30, q_i31, q_i32, q_i35, q_i36, q_i38, q_i40, q_i42, q_i43, q_i48, q_i51, q_i52, q_i56, q_i63, q_i64, q_i67, q_i80, q_i95, q_i99, q_i126, q_i127, q_i128, q_i255, q_i256, q_i512, q_i1024, q_i12000, q_i32512, q_i32768, q_i131072, q_j0, q_j1, q_j2, q_j3, q_j4, q_j8, q_j256, Nat.one_mul, Nat.zero_add, Nat.add_zero, Nat.sub_zero, Nat.mul_one, q_ofN, s1, s3, s4, s8, s9, s13, s14, w_S_k, w_S_n, w_S_i, w_S_p, w_S_2, hTk, hNt, ho]
theorem c_Share_lay {O : zO} {M : zM} {p G last o : Nat} {u : Nat → Nat} (h : zShS M p G last) (hG : o ≤ G) (hG9 : G ≤ 9) (hu : zSh o last u) (ho : z_i M p 7 = nI o) (hpt : ∀ s, s ≤ last → z_i M (p + 1) s = nI (u s) - 1) : ∃ N T B E, (∀ k, k < 2 ^ o → T k = nI (tS o u k) ∧ B k = nI (bS o u k) ∧ E k = nI (eS o u k)) ∧ zEv (fun n => F_Share_lay O n p M) ((), w_S M p N T B E) := by
  have hu' := hu
  obtain ⟨u1, u2, u3, u4, u5⟩ := hu'
  have hp := pw_9 u2
  obtain ⟨e1, e2⟩ := hc_end u5 (n := 64) (by omega)
  obtain ⟨g1, a1, a2⟩ := l_lay11 (O := O) h hG hG9 hu hpt (last + 1) 0 (by omega) (z_i M (p + 3)) (fun k hk hk2 => by rw [show hcn u 0 = 0 from rfl] at hk; omega)
  have hL0 : lP o u (cum u 0) g1 := by
    refine ⟨fun k _ hc => by rw [show cum u 0 = 0 from rfl] at hc; omega, fun k hk hk2 => ?_⟩
    unfold tS
    rw [if_neg (by omega)]
    exact a1 k (by omega) hk2
  have hP0 : pP o u (cum u 0) 0 := fun w => ⟨0, Nat.pow_pos (by omega), by rw [wk_0]; exact Nat.lt_of_le_of_lt (Nat.zero_le _) w, rfl, by rw [wk_0]; rfl⟩
  obtain ⟨T, c1, c2⟩ := l_lay52 (O := O) h hG hG9 hu ho hpt (last + 1) 0 (by omega) g1 0 hL0 hP0
  have hT : ∀ k, k < 2 ^ o → T k = nI (tS o u k) := fun k hk => by
    by_cases c : k < 2 ^ o - hcn u 64
    · refine c1.1 k c ?_
      have := cw_lt (o := o) (t := 2 ^ o - hcn u 64) (wki_lt o k) (by rw [(wk_i o u1 u2).2 k hk]; exact c)
      rw [cw_all u1 u2 _ (by omega)] at this
      omega
    · exact c1.2 k (by omega) hk
  have hSS : ∀ (N T B E : Nat → Int32), zShS (w_S M p N T B E) p G last ∧ z_i (w_S M p N T B E) p 7 = nI o ∧ ∀ s, s ≤ last → z_i (w_S M p N T B E) (p + 1) s = nI (u s) - 1 := fun N T B E => by
    obtain ⟨s1, s2, s3, s4, s5, s6, s7, s8, s9, s10, s11, s12, s13, s14, s15, s16, s17, s18⟩ := h
    refine ⟨⟨s1, s2, s3, s4, s5, s6, s7, s8, s9, s10, s11, s12, s13, s14, s15, s16, ?_, ?_⟩, ?_, fun s hs => ?_⟩
    · simp (disch := omega) only [zlet, w_i_k, w_i_n, w_i_i, w_i_j, w_i_p, w_i_s, w_j_k, w_j_n, w_j_i, w_j_j, w_j_p, w_j_s, w_p_k, w_p_n, w_p_i, w_p_j, w_p_p, w_p_s, w_c_k, w_c_n, w_c_i, w_c_j, w_c_p, w_c_s, w_u_k, w_u_n, w_u_i, w_u_j, w_u_p, w_u_s, q_nf, ↓reduceIte, if_true, if_false, eq_self, and_true, true_and, and_false, false_and, Option.bind_some, ne_eq, not_false_eq_true, not_true_eq_false, w_S_i]
      exact s17
    · simp (disch := omega) only [zlet, w_i_k, w_i_n, w_i_i, w_i_j, w_i_p, w_i_s, w_j_k, w_j_n, w_j_i, w_j_j, w_j_p, w_j_s, w_p_k, w_p_n, w_p_i, w_p_j, w_p_p, w_p_s, w_c_k, w_c_n, w_c_i, w_c_j, w_c_p, w_c_s, w_u_k, w_u_n, w_u_i, w_u_j, w_u_p, w_u_s, q_nf, ↓reduceIte, if_true, if_false, eq_self, and_true, true_and, and_false, false_and, Option.bind_some, ne_eq, not_false_eq_true, not_true_eq_false, w_S_i]
      exact s18
    · simp (disch := omega) only [zlet, w_i_k, w_i_n, w_i_i, w_i_j, w_i_p, w_i_s, w_j_k, w_j_n, w_j_i, w_j_j, w_j_p, w_j_s, w_p_k, w_p_n, w_p_i, w_p_j, w_p_p, w_p_s, w_c_k, w_c_n, w_c_i, w_c_j, w_c_p, w_c_s, w_u_k, w_u_n, w_u_i, w_u_j, w_u_p, w_u_s, q_nf, ↓reduceIte, if_true, if_false, eq_self, and_true, true_and, and_false, false_and, Option.bind_some, ne_eq, not_false_eq_true, not_true_eq_false, w_S_i]
      exact ho
    · simp (disch := omega) only [zlet, w_i_k, w_i_n, w_i_i, w_i_j, w_i_p, w_i_s, w_j_k, w_j_n, w_j_i, w_j_j, w_j_p, w_j_s, w_p_k, w_p_n, w_p_i, w_p_j, w_p_p, w_p_s, w_c_k, w_c_n, w_c_i, w_c_j, w_c_p, w_c_s, w_u_k, w_u_n, w_u_i, w_u_j, w_u_p, w_u_s, q_nf, ↓reduceIte, if_true, if_false, eq_self, and_true, true_and, and_false, false_and, Option.bind_some, ne_eq, not_false_eq_true, not_true_eq_false, w_S_i]
      exact hpt s hs
  obtain ⟨N1, d1, d2⟩ := l_num2 (O := O) (T := T) (B := z_i M (p + 4)) (E := z_i M (p + 5)) h hG hG9 hu ho hpt (last + 1) 0 (by omega) (z_i M (p + 2)) (fun j hj => by omega)
  obtain ⟨N2, B2, E2, f1, f2⟩ := l_num50 (O := O) h hG hG9 hu ho hT (2 ^ o) 0 (by omega) N1 (z_i M (p + 4)) (z_i M (p + 5)) (fun j hj => by rw [d1 j hj]; rfl) (fun j hj => by omega)
  refine ⟨N2, T, B2, E2, fun k hk => ⟨hT k hk, f1 k hk⟩, ?_⟩
  have f3 := d2 _ f2
  have eM : w_S M p (z_i M (p + 2)) T (z_i M (p + 4)) (z_i M (p + 5)) = w_u M (p + 3) T := by
    unfold w_S
    rw [w_u_self]
    refine zM_ext (fun _ => rfl) (fun _ => rfl) (fun q j => ?_) (fun _ _ => rfl) (fun _ _ => rfl) rfl
    simp only [w_u_i]
    by_cases c5 : q = p + 5
    · rw [if_pos c5, if_neg (by omega), c5]
    · rw [if_neg c5]
      by_cases c4 : q = p + 4
      · rw [if_pos c4, if_neg (by omega), c4]
      · rw [if_neg c4]
  have f4 := c2 _ (zEv.bind (a := ((), w_S M p N2 T B2 E2)) (f := fun n => F_Share_number O n p (w_u M (p + 3) T)) (g := fun n q2 => some ((), q2.2)) (f3.to fun n => by
    rw [eM]
    unfold F_Share_number f_Share_number_0
    rfl) (zEv.some _))
  rw [e1] at f4
  refine (a2 _ f4).to fun n => ?_
  unfold F_Share_lay f_Share_lay_0
  rw [w_u_self, if_pos h.1, ho, show (1 : Int32) = nI 1 from rfl, show (31 : Int32) = nI 31 from rfl, sh1 u2]
  rfl
