/-! The end of a frame, and its blocks: both sides together. -/
/-- the reader's own fields within a frame -/
def zRd (M : zM) (X pl : Nat) (summed sized : Bool) (due : Nat) (sp : Nat) : Prop := z_i M (X + 73) 6 = nI pl ∧ z_i M (X + 73) 8 = nI (if summed then 1 else 0) ∧ z_i M (X + 73) 9 = nI (if sized then 1 else 0) ∧ z_j M (X + 73) 10 = lN due ∧ z_i M (X + 73) 11 = nI sp
theorem zFC.w73 {M M1 : zM} {X cN mo fs v c dc done : Nat} {b cb db : Nat → Nat} {hc : Option (Nat × (Nat → Nat))} {tb0 tb1 tb2 : Option tbT} {d : Nat × Nat × Nat} (h : zFC M X cN b hc tb0 tb1 tb2 mo fs v c cb dc db d done) (st : zSt (fun q => q = X + 73) M M1) (kp : zKp X M M1) : zFC M1 X cN b hc tb0 tb1 tb2 mo fs v c cb dc db d done := by
  obtain ⟨a1, a2, a3, a4, a5, a6, a7, ⟨bs, a8⟩, a9, a10, a11, a12, c0, lb0, a13⟩ := h
  exact ⟨a1.kp kp, a2.st st (by omega) (by omega), a3.st (st.i (by omega) _) (st.p (by omega) _) st (fun q h1 h2 => by omega), a4.sto st (by omega) (by omega) (fun q hq => by omega) (by omega), a5.sto st (by omega) (by omega) (fun q hq => by omega) (by omega), a6.sto st (by omega) (by omega) (fun q hq => by omega) (by omega), fun k hk => (a7 k hk).st st (by omega) (by omega) (by omega) (by omega), ⟨bs, a8.st st (by omega)⟩, a9.st st (by omega) (by omega), a10.st st (by omega) (by omega), a11.st st (by omega), by rw [st.i (by omega)]; exact a12, c0, lb0, a13.st st (by omega) (by omega)⟩
theorem lN_and32 (w : Int64) : ∃ k, k < 4294967296 ∧ w &&& (4294967295 : Int64) = lN k ∧ w.toInt32 = nI k := by
  obtain ⟨n, hn, e⟩ := wb_of w
  refine ⟨n % 4294967296, Nat.mod_lt _ (by omega), ?_, ?_⟩
  · rw [e]
    exact wb_mask (n := n) (k := 32) hn (by decide)
  · rw [e, lN_i]
    apply Int32.toBitVec_inj.mp
    show BitVec.ofNat 32 n = BitVec.ofNat 32 (n % 4294967296)
    apply BitVec.eq_of_toNat_eq
    rw [BitVec.toNat_ofNat, BitVec.toNat_ofNat]
    omega
theorem nI_eq32 {a b : Nat} (ha : a < 4294967296) (hb : b < 4294967296) : nI a = nI b ↔ a = b := by
  refine ⟨fun h => ?_, fun h => by rw [h]⟩
  have := congrArg (fun x : Int32 => x.toBitVec.toNat) h
  have e : ∀ {n : Nat}, n < 4294967296 → (nI n).toBitVec.toNat = n := fun {n} hn => by
    show (BitVec.ofNat 32 n).toNat = n
    rw [BitVec.toNat_ofNat]
    omega
  simp only [e ha, e hb] at this
  exact this
/-- the reference's text behind the last block -/
def rE1 (O : zO) (n m : Nat) (l1 l6 : Int32) (l7 : Int64) (l9 : Int32) (M : zM) : Option (Int32 × zM) :=
  if ((l1 / (4 : Int32)) - (l1 / (4 : Int32)) / (2 : Int32) * (2 : Int32)) = (1 : Int32) then
  if z_k M m = 13 then
  (F_Mo_has O n m (4 : Int32) M).bind fun q2 =>
  if q2.1 = 0 then
  some ((0 : Int32), q2.2)
  else
  if z_k q2.2 m = 13 then
  (F_Mo_number O n m (z_i q2.2 m 28) (4 : Int32) q2.2).bind fun q5 =>
  if z_k q5.2 m = 13 then
  (F_Mo_sum O n m (z_i q5.2 m 31) (z_i q5.2 m 30) q5.2).bind fun q8 =>
  if q5.1.toInt32 = q8.1.toInt32 then
  if z_k q8.2 m = 13 then
  zlet (w_i q8.2 m 28 ((z_i q8.2 m 28) + (4 : Int32))) fun M11 =>
  f_Mo_frame_487 O n m l6 l7 l9 M11
  else none
  else
  if z_k q8.2 m = 13 then
  (F_Mo_wrong O n m (8 : Int32) (z_i q8.2 m 28) q8.2).bind fun q15 =>
  if q15.1 = 0 ∨ q15.1 = 1 then
  some (q15.1, q15.2)
  else none
  else none
  else none
  else none
  else none
  else
  f_Mo_frame_487 O n m l6 l7 l9 M
theorem zAb.of {M M2 : zM} {X m cN mo fs v c dc done : Nat} {b cb db : Nat → Nat} {hc : Option (Nat × (Nat → Nat))} {tb0 tb1 tb2 : Option tbT} {d : Nat × Nat × Nat} (h : zFC M X cN b hc tb0 tb1 tb2 mo fs v c cb dc db d done) (h2 : zFM M2 m cN b hc tb0 tb1 tb2 mo fs v c cb dc db d done) (ha : zAr M M2 X m) : zAb M M2 X m := ⟨ha, h.2.2.2.2.2.2.2.2.2.2.2.1.trans h2.2.2.2.2.2.2.2.2.2.2.2.2.2.2.2.symm, h.2.2.2.2.2.2.2.2.1.2.2.2.2.1.trans h2.2.2.2.2.2.2.2.2.2.2.1.symm⟩
set_option maxRecDepth 100000 in
set_option maxHeartbeats 4000000 in
theorem j_end {O : zO} {M M2 : zM} {X m cN pl mo fs v c dc done due sp head : Nat} {b cb db : Nat → Nat} {hc : Option (Nat × (Nat → Nat))} {tb0 tb1 tb2 : Option tbT} {d : Nat × Nat × Nat} {summed sized : Bool} {sb : Nat} (h : zFC M X cN b hc tb0 tb1 tb2 mo fs v c cb dc db d done) (h2 : zFM M2 m cN b hc tb0 tb1 tb2 mo fs v c cb dc db d done) (hb : zBd fs c mo v d) (ha : zAr M M2 X m) (hr : zRd M X pl summed sized due sp) (h28 : z_i M2 m 28 = nI pl) (hp : pl ≤ cN) (hs : summed = decide (head / 4 % 2 = 1)) (hhd : head < 256) (hz : sized = decide (0 < sb)) (hsb : sb < 100) (hdue : due < 18446744073709551616) :
    jBd X m M M2 (fun n => F_FR_endFrame O n (X + 73) M) (fun n => rE1 O n m (nI head) (nI sb) (lN due) (nI sp) M2) ∨
    (∃ pl' M' M2', zEv (fun n => F_FR_endFrame O n (X + 73) M) (1, M') ∧ zEv (fun n => rE1 O n m (nI head) (nI sb) (lN due) (nI sp) M2) (1, M2') ∧ zSt (fun q => q = X + 73) M M' ∧ zKp X M M' ∧ zRf (fun f => f = 28) (sL4 m) m M2 M2' ∧ z_i M' (X + 73) 6 = nI pl' ∧ z_i M' (X + 73) 7 = nI 0 ∧ z_i M2' m 28 = nI pl' ∧ pl ≤ pl' ∧ pl' ≤ cN) := by
  have hx := h.1
  have hin := h.2.1
  have hm := h2.1
  have hi2 := h2.2.1
  have mk := hm.k
  have hc9 := hin.cN
  have k73 := hx.k73
  obtain ⟨b1, b2, b3, b4, bd⟩ := hb
  obtain ⟨r6, r8, r9, r10, r11⟩ := hr
  obtain ⟨bs, ct⟩ := h.2.2.2.2.2.2.2.1
  have row := h.2.2.2.2.2.2.2.2.1
  obtain ⟨g1, g2, g3, g4, g5, g6, g7, g8, g9, g10, g11, g12, g13, g14, g15, g16⟩ := h2
  -- the size is held against what came
  have tail : ∀ {P Q : zM} {q : Nat}, zSt (fun q => q = X + 73) M P → zKp X M P → (∀ f, f ≠ 6 → f ≠ 7 → z_i P (X + 73) f = z_i M (X + 73) f) → z_j P (X + 73) 10 = lN due → zRf (fun f => f = 28) (sL4 m) m M2 Q → (zEv (fun n => f_FR_endFrame_78 O n (X + 73) P) (1, P) ∧ zEv (fun n => f_Mo_frame_487 O n m (nI sb) (lN due) (nI sp) Q) (1, Q)) ∨ (zEv (fun n => f_FR_endFrame_78 O n (X + 73) P) (0, fl X P 9 sp) ∧ zEv (fun n => f_Mo_frame_487 O n m (nI sb) (lN due) (nI sp) Q) (0, flm m Q 9 sp)) := fun {P Q q} sP kP fP jP rQ => by
    have xP := hx.kp kP
    have a73 := xP.k73
    have a70 := xP.k70
    have a69 := xP.k69
    have p3 := xP.p73_3
    have p2 := xP.p73_2
    have mkQ := (rQ.mo hm).k
    have q30 : z_i Q m 30 = nI c := by rw [rQ.f (by omega)]; exact g11
    have q31 : z_i Q m 31 = nI fs := by rw [rQ.f (by omega)]; exact g8
    have rowP := row.st sP (by omega) (by omega)
    obtain ⟨a1, a2, a3, a4, a5, a6, a7⟩ := ct.st sP (by omega)
    have hof : zEv (fun n => F_Content_ofFrame O n (X + 70) P) (nI (c - fs), P) := by
      have u1 := rowP.1
      have u5 := rowP.2.2.2.2.1
      refine (zEv.some _).to fun n => ?_
      unfold F_Content_ofFrame f_Content_ofFrame_0
      simp (disch := omega) only [zlet, w_i_k, w_i_n, w_i_i, w_i_j, w_i_p, w_i_s, w_j_k, w_j_n, w_j_i, w_j_j, w_j_p, w_j_s, w_p_k, w_p_n, w_p_i, w_p_j, w_p_p, w_p_s, w_c_k, w_c_n, w_c_i, w_c_j, w_c_p, w_c_s, w_u_k, w_u_n, w_u_i, w_u_j, w_u_p, w_u_s, q_nf, ↓reduceIte, if_true, if_false, eq_self, and_true, true_and, and_false, false_and, Option.bind_some, ne_eq, not_false_eq_true, not_true_eq_false, nI_add, pk_mul, pk_sub, nI_ac, q_tlt, q_flt, q_tle, q_fle, q_teq, q_feq, q_tin, nI_cl, q_m1, q_m2, q_m3, q_m4, q_m5, q_m6, q_m7, q_l1, q_l2, q_l3, q_l4, q_l5, q_l6, lN_add, lN_mul, lN_sub, lN_i, nI_l, q_rem, q_rem2, q_div, q_shl, q_shr, q_i0, q_i1, q_i2, q_i3, q_i4, q_i5, q_i6, q_i7, q_i8, q_i9, q_i10, q_i11, q_i12, q_i14, q_i15, q_i16, q_i17, q_i18, q_i19, q_i20, q_i22, q_i24, q_i26, q_i28, q_i30, q_i31, q_i32, q_i35, q_i36, q_i38, q_i40, q_i42, q_i43, q_i48, q_i51, q_i52, q_i56, q_i63, q_i64, q_i67, q_i80, q_i95, q_i99, q_i126, q_i127, q_i128, q_i255, q_i256, q_i512, q_i1024, q_i12000, q_i32512, q_i32768, q_i131072, q_j0, q_j1, q_j2, q_j3, q_j4, q_j8, q_j256, Nat.one_mul, Nat.zero_add, Nat.add_zero, Nat.sub_zero, Nat.mul_one, q_ofN, q_c1, q_c2, q_c3, q_c4, q_c5, q_j12000, q_j32768, q_j131072, q_j2147483647, q_j4294967295, q_j255, q_j12, q_i13, q_i21, q_i23, q_i25, q_i27, q_i29, q_i33, q_i34, q_i37, q_i39, q_i41, q_i44, q_i45, q_i46, q_i47, q_i49, q_i50, q_i53, q_i54, q_i55, q_i77, q_i164, q_i181, q_i236, q_i253, q_i2048, a1, a2, u1, u5, a5]
    have e9 : z_i P (X + 73) 9 = nI (if sized then 1 else 0) := by rw [fP 9 (by omega) (by omega)]; exact r9
    have e11 : z_i P (X + 73) 11 = nI sp := by rw [fP 11 (by omega) (by omega)]; exact r11
    by_cases c0 : sb = 0
    · have hsz : sized = false := by rw [hz]; exact decide_eq_false (by omega)
      subst hsz
      subst c0
      left
      refine ⟨?_, ?_⟩
      · unfold f_FR_endFrame_78
        refine zEv.ip a73 ?_
        rw [e9]
        exact zEv.ip rfl (zEv.some _)
      · unfold f_Mo_frame_487
        exact zEv.ip rfl (zEv.some _)
    · have hsz : sized = true := by rw [hz]; exact decide_eq_true (by omega)
      subst hsz
      have nsb : ¬ nI sb = 0 := nI_ne0 (by omega) (by omega)
      have ec : ∀ {A : Type} {f g : Nat → Option (A × zM)} {r : A × zM}, True → True := fun _ => trivial
      have goC : ∀ {α : Int32 × zM}, zEv (fun n => if lN due = lN (c - fs) then some ((1 : Int32), P) else (F_Rep_fail O n (X + 69) (nI 9) (nI sp) P).bind fun q7 => if q7.1 = 0 ∨ q7.1 = 1 then some (q7.1, q7.2) else none) α → zEv (fun n => f_FR_endFrame_78 O n (X + 73) P) α := fun {α} hα => by
        unfold f_FR_endFrame_78
        refine zEv.ip a73 ?_
        rw [e9]
        refine zEv.in_ (by decide) ?_
        rw [p3]
        refine zEv.ip a70 (zEv.bind hof ?_)
        refine hα.to fun n => ?_
        dsimp only
        rw [jP, nI_l (show c - fs < 2 ^ 31 by omega)]
        simp only [lg_cmp_eq, a73, p2, a69, if_true, e11]
        rfl
      have goM : ∀ {α : Int32 × zM}, zEv (fun n => if lN due = lN (c - fs) then some ((1 : Int32), Q) else (F_Mo_wrong O n m (nI 9) (nI sp) Q).bind fun q2 => if q2.1 = 0 then f_Mo_frame_524 O n (0 : Int32) q2.2 else f_Mo_frame_519 O n q2.2) α → zEv (fun n => f_Mo_frame_487 O n m (nI sb) (lN due) (nI sp) Q) α := fun {α} hα => by
        unfold f_Mo_frame_487
        refine zEv.in_ nsb (zEv.ip mkQ ?_)
        rw [q30, q31, pk_sub b1, nI_l (show c - fs < 2 ^ 31 by omega)]
        refine hα.to fun n => ?_
        simp only [lg_cmp_eq]
        rfl
      by_cases ce : lN due = lN (c - fs)
      · exact Or.inl ⟨goC (zEv.ip ce (zEv.some _)), goM (zEv.ip ce (zEv.some _))⟩
      · refine Or.inr ⟨goC (zEv.in_ ce (zEv.bind (c_fail a69) (zEv.some _))), goM (zEv.in_ ce (zEv.bind (c_wrong mkQ) (zEv.ip rfl ?_)))⟩
        unfold f_Mo_frame_524
        exact zEv.ip (Or.inl rfl) (zEv.some _)
  generalize hP1 : w_i M (X + 73) 7 (nI 0) = P1
  have sP1 : zSt (fun q => q = X + 73) M P1 := by rw [← hP1]; exact zSt.rf.wi (by exact rfl)
  have kP1 : zKp X M P1 := by rw [← hP1]; exact zKp.rf.wi (Or.inl (by rw [k73]; omega))
  have fP1 : ∀ f, f ≠ 6 → f ≠ 7 → z_i P1 (X + 73) f = z_i M (X + 73) f := fun f h1 h2 => by rw [← hP1, w_i_ne _ _ (fun w => h2 w.2)]
  have jP1 : z_j P1 (X + 73) 10 = lN due := by rw [← hP1]; exact r10
  have xP1 := hx.kp kP1
  have hF1 := h.w73 sP1 kP1
  have abs : ∀ {P Q : zM}, zSt (fun q => q = X + 73) M P → zRf (fun f => f = 28) (sL4 m) m M2 Q → zAb P Q X m := fun {P Q} s r => by
    refine ⟨⟨?_, ?_, ?_⟩, ?_, ?_⟩
    · rw [s.i (by omega), r.f (by omega)]; exact ha.1
    · rw [s.i (by omega), r.f (by omega)]; exact ha.2.1
    · rw [s.i (by omega), r.f (by omega)]; exact ha.2.2
    · rw [s.i (by omega), r.f (by omega)]; exact h.2.2.2.2.2.2.2.2.2.2.2.1.trans g16.symm
    · rw [s.i (by omega), r.f (by omega)]; exact row.2.2.2.2.1.trans g11.symm
  have bad : ∀ {f q : Nat} {P Q : zM} {fc fm : Nat → Option (Int32 × zM)}, f ≠ 0 → f ≤ 20 → zSt (fun q => q = X + 73) M P → zKp X M P → zRf (fun f => f = 28) (sL4 m) m M2 Q → zEv fc (0, fl X P f q) → zEv fm (0, flm m Q f q) → jBd X m M M2 fc fm := fun {f q P Q fc fm} h1 h2 s k r hc hm => ⟨f, q, P, Q, h1, h2, hc, hm, s.mono (fun q hq => by unfold sRd; omega), k, r.mono (fun f hf => by unfold fRe; omega) (fun q hq => by unfold sL4 at hq; unfold sRm; omega), abs s r, c, cb, row.st s (by omega) (by omega)⟩
  have e8 : z_i P1 (X + 73) 8 = nI (if summed then 1 else 0) := by rw [fP1 8 (by omega) (by omega)]; exact r8
  have e6 : z_i P1 (X + 73) 6 = nI pl := by rw [← hP1, w_i_ne _ _ (by omega)]; exact r6
  have e7 : z_i P1 (X + 73) 7 = nI 0 := by rw [← hP1]; exact w_i_eq _ _ _ _
  have ehead : nI head / (4 : Int32) - nI head / (4 : Int32) / (2 : Int32) * (2 : Int32) = nI (head / 4 % 2) := by
    rw [show (4 : Int32) = nI 4 from rfl, show (2 : Int32) = nI 2 from rfl, q_div (by omega) (by omega) (by omega), q_div (by omega) (by omega) (by omega), pk_mul, q_rem]
  have toC : ∀ {α : Int32 × zM}, zEv (fun n => if nI (if summed then 1 else 0) = 0 then f_FR_endFrame_78 O n (X + 73) P1 else
      (F_FR_lacks O n (X + 73) (4 : Int64) P1).bind fun q5 =>
      if q5.1 = 0 then
      if z_k q5.2 (X + 73) = 5 then
      if z_k q5.2 (z_p q5.2 (X + 73) 0) = 9 then
      (F_Row_number O n (z_p q5.2 (X + 73) 0) (z_i q5.2 (X + 73) 6) (4 : Int32) q5.2).bind fun q9 =>
      if z_k q9.2 (X + 73) = 5 then
      if z_k q9.2 (z_p q9.2 (X + 73) 3) = 3 then
      (F_Content_wideSum O n (z_p q9.2 (X + 73) 3) q9.2).bind fun q13 =>
      if (lg_cmp q9.1 (q13.1 &&& (4294967295 : Int64))) = 0 then
      if z_k q13.2 (X + 73) = 5 then
      zlet (w_i q13.2 (X + 73) 6 ((z_i q13.2 (X + 73) 6) + (4 : Int32))) fun M16 =>
      f_FR_endFrame_78 O n (X + 73) M16
      else none
      else
      if z_k q13.2 (X + 73) = 5 then
      if z_k q13.2 (z_p q13.2 (X + 73) 2) = 8 then
      (F_Rep_fail O n (z_p q13.2 (X + 73) 2) (8 : Int32) (z_i q13.2 (X + 73) 6) q13.2).bind fun q21 =>
      if q21.1 = 0 ∨ q21.1 = 1 then
      some (q21.1, q21.2)
      else none
      else none
      else none
      else none
      else none
      else none
      else none
      else
      if z_k q5.2 (X + 73) = 5 then
      (F_FR_endsWithin O n (X + 73) q5.2).bind fun q26 =>
      if q26.1 = 0 ∨ q26.1 = 1 then
      some (q26.1, q26.2)
      else none
      else none) α → zEv (fun n => F_FR_endFrame O n (X + 73) M) α := fun {α} hα => by
    unfold F_FR_endFrame f_FR_endFrame_0
    refine zEv.ip k73 (zEv.zl ?_)
    rw [show (0 : Int32) = nI 0 from rfl, hP1, e8]
    exact hα
  cases summed with
  | false =>
    have hn : ¬ head / 4 % 2 = 1 := of_decide_eq_false hs.symm
    have toM : ∀ {α : Int32 × zM}, zEv (fun n => f_Mo_frame_487 O n m (nI sb) (lN due) (nI sp) M2) α → zEv (fun n => rE1 O n m (nI head) (nI sb) (lN due) (nI sp) M2) α := fun {α} hα => by
      unfold rE1
      rw [ehead]
      exact zEv.in_ (fun w => hn ((nI_eq (b := 1) (by omega) (by omega)).mp w)) hα
    rcases tail (q := 0) sP1 kP1 fP1 jP1 zRf.rf with ⟨u1, u2⟩ | ⟨u1, u2⟩
    · exact Or.inr ⟨pl, P1, M2, toC (zEv.ip rfl u1), toM u2, sP1, kP1, zRf.rf, e6, e7, h28, Nat.le_refl _, hp⟩
    · exact Or.inl (bad (by omega) (by omega) sP1 kP1 zRf.rf (toC (zEv.ip rfl u1)) (toM u2))
  | true =>
    have hn : head / 4 % 2 = 1 := of_decide_eq_true hs.symm
    have hlk := c_lacks (O := O) (k := 4) xP1 hF1.2.1 e6 hp (by omega)
    have hhas := c_has (O := O) (k := 4) hm hi2 h28 hp (by omega)
    have nt : ¬ nI (if true = true then 1 else 0) = (0 : Int32) := by decide
    have a73 := xP1.k73
    by_cases c4 : pl + 4 ≤ cN
    · rw [if_pos c4] at hlk
      have hh := hhas.1 c4
      have hnum := c_Row_number (O := O) hF1.2.1 pl 4 (by omega) (by omega)
      rw [if_pos c4] at hnum
      have hn4 : nb b pl 4 < 4294967296 := nb_lt (k := 4) (fun i hi => hin.b (by omega))
      obtain ⟨bs1, ct1⟩ := hF1.2.2.2.2.2.2.2.1
      have hws := c_wideSum (O := O) ct1 hF1.2.2.2.2.2.2.2.2.1 b1
      obtain ⟨Q1, su1, su2⟩ := c_sum (O := O) (fs := fs) (c := c) (cb := cb) hm g12 (fun j hj => row.b hj) row.cN b1
      have hn2 := c_Mo_number (O := O) (hi2.in_ hm) pl 4 (by omega) c4
      obtain ⟨kk, hk1, hk2, hk3⟩ := lN_and32 (wuS cb fs c)
      have p0 := xP1.p73_0
      have p2 := xP1.p73_2
      have p3 := xP1.p73_3
      have a1 := xP1.k1
      have a70 := xP1.k70
      have a69 := xP1.k69
      have mkQ := (su2.mo hm).k
      have q28 : z_i Q1 m 28 = nI pl := by rw [su2.f (fun h => h)]; exact h28
      have toC2 : ∀ {α : Int32 × zM}, zEv (fun n => if lN (nb b pl 4) = lN kk then f_FR_endFrame_78 O n (X + 73) (w_i P1 (X + 73) 6 (nI (pl + 4))) else (F_Rep_fail O n (X + 69) (nI 8) (nI pl) P1).bind fun q21 => if q21.1 = 0 ∨ q21.1 = 1 then some (q21.1, q21.2) else none) α → zEv (fun n => F_FR_endFrame O n (X + 73) M) α := fun {α} hα => by
        refine toC (zEv.in_ nt (zEv.bind hlk (zEv.ip rfl (zEv.ip a73 ?_))))
        dsimp only
        rw [p0, e6]
        refine zEv.ip a1 (zEv.bind hnum (zEv.ip a73 ?_))
        dsimp only
        rw [p3]
        refine zEv.ip a70 (zEv.bind hws ?_)
        refine hα.to fun n => ?_
        dsimp only
        rw [hk2]
        simp only [lg_cmp_eq, a73, a69, p2, e6, if_true, zlet, show (4 : Int32) = nI 4 from rfl, nI_add]
        rfl
      have toM2 : ∀ {α : Int32 × zM}, zEv (fun n => if nI (nb b pl 4) = nI kk then f_Mo_frame_487 O n m (nI sb) (lN due) (nI sp) (w_i Q1 m 28 (nI (pl + 4))) else (F_Mo_wrong O n m (nI 8) (nI pl) Q1).bind fun q15 => if q15.1 = 0 ∨ q15.1 = 1 then some (q15.1, q15.2) else none) α → zEv (fun n => rE1 O n m (nI head) (nI sb) (lN due) (nI sp) M2) α := fun {α} hα => by
        unfold rE1
        rw [ehead, hn]
        refine zEv.ip rfl (zEv.ip mk (zEv.bind hh (zEv.in_ (show ¬ (1 : Int32) = 0 by decide) (zEv.ip mk ?_))))
        dsimp only
        rw [h28]
        refine zEv.bind hn2 (zEv.ip mk ?_)
        dsimp only
        rw [g8, g11]
        refine zEv.bind su1 ?_
        refine hα.to fun n => ?_
        dsimp only
        rw [hk3, lN_i]
        simp only [mkQ, q28, if_true, zlet, show (4 : Int32) = nI 4 from rfl, nI_add]
        rfl
      have rQ1 : zRf (fun f => f = 28) (sL4 m) m M2 Q1 := su2.mono (fun _ h => absurd h id) (fun _ h => h)
      by_cases ce : nb b pl 4 = kk
      · have sP2 : zSt (fun q => q = X + 73) M (w_i P1 (X + 73) 6 (nI (pl + 4))) := sP1.wi (by exact rfl)
        have kP2 : zKp X M (w_i P1 (X + 73) 6 (nI (pl + 4))) := kP1.wi (Or.inl (by rw [a73]; omega))
        have fP2 : ∀ f, f ≠ 6 → f ≠ 7 → z_i (w_i P1 (X + 73) 6 (nI (pl + 4))) (X + 73) f = z_i M (X + 73) f := fun f h1 h2 => by rw [w_i_ne _ _ (fun w => h1 w.2)]; exact fP1 f h1 h2
        have rQ2 : zRf (fun f => f = 28) (sL4 m) m M2 (w_i Q1 m 28 (nI (pl + 4))) := rQ1.wf (by exact rfl)
        rcases tail (q := 0) sP2 kP2 fP2 jP1 rQ2 with ⟨u1, u2⟩ | ⟨u1, u2⟩
        · exact Or.inr ⟨pl + 4, _, _, toC2 (zEv.ip (by rw [ce]) u1), toM2 (zEv.ip (by rw [ce]) u2), sP2, kP2, rQ2, w_i_eq _ _ _ _, by rw [w_i_ne _ _ (by omega)]; exact e7, w_i_eq _ _ _ _, by omega, c4⟩
        · exact Or.inl (bad (by omega) (by omega) sP2 kP2 rQ2 (toC2 (zEv.ip (by rw [ce]) u1)) (toM2 (zEv.ip (by rw [ce]) u2)))
      · refine Or.inl (bad (f := 8) (q := pl) (by omega) (by omega) sP1 kP1 rQ1 (toC2 (zEv.in_ (fun w => ce ((pk_lEQ (by omega) (by omega)).mp w)) (zEv.bind (c_fail a69) (zEv.some _)))) (toM2 (zEv.in_ (fun w => ce ((nI_eq32 hn4 hk1).mp w)) (zEv.bind (c_wrong mkQ) (zEv.some _)))))
    · rw [if_neg c4] at hlk
      have hh := hhas.2 c4
      refine Or.inl (bad (f := 1) (q := cN) (by omega) (by omega) sP1 kP1 zRf.rf (toC (zEv.in_ nt (zEv.bind hlk (zEv.in_ (show ¬ (1 : Int32) = 0 by decide) (zEv.ip a73 (zEv.bind (c_endsWithin xP1 hF1.2.1) (zEv.some _))))))) ?_)
      unfold rE1
      rw [ehead, hn]
      exact zEv.ip rfl (zEv.ip mk (zEv.bind hh (zEv.ip rfl (zEv.some _))))
