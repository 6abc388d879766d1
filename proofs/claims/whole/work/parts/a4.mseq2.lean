/-! One sequence: what it does, in the reference. -/
def zMc (M : zM) (m many used mo fs v c dc : Nat) (lb cb db : Nat → Nat) (d : Nat × Nat × Nat) : Prop := z_i M m 42 = nI many ∧ z_i M m 43 = nI used ∧ (∀ j, j < many → z_i M (m + 23) j = nI (lb j)) ∧ z_i M m 29 = nI mo ∧ z_i M m 31 = nI fs ∧ z_i M m 32 = nI (mbS v) ∧ z_j M m 38 = lN v ∧ z_i M m 30 = nI c ∧ (∀ j, j < c → z_i M (m + 22) j = nI (cb j)) ∧ z_i M m 5 = nI dc ∧ (∀ j, j < dc → z_i M (m + 3) j = nI (db j)) ∧ zLt M (m + 15) d
theorem zLt.rf {F S : Nat → Prop} {M M1 : zM} {m p : Nat} {d : Nat × Nat × Nat} (h : zLt M p d) (g : zRf F S m M M1) (h1 : p ≠ m) (h2 : ¬ S p) : zLt M1 p d := ⟨(g.j h1 h2 0).trans h.1, (g.j h1 h2 1).trans h.2.1, (g.j h1 h2 2).trans h.2.2⟩
theorem zMc.rf {F S : Nat → Prop} {M M1 : zM} {m many used mo fs v c dc : Nat} {lb cb db : Nat → Nat} {d : Nat × Nat × Nat} (h : zMc M m many used mo fs v c dc lb cb db d) (g : zRf F S m M M1) (hF : ∀ f, f = 42 ∨ f = 43 ∨ f = 29 ∨ f = 31 ∨ f = 32 ∨ f = 38 ∨ f = 30 ∨ f = 5 → ¬ F f) (hS : ∀ q, q = m + 23 ∨ q = m + 22 ∨ q = m + 3 ∨ q = m + 15 → ¬ S q) : zMc M1 m many used mo fs v c dc lb cb db d := by
  obtain ⟨a1, a2, a3, a4, a5, a6, a7, a8, a9, a10, a11, a12⟩ := h
  exact ⟨(g.f (hF _ (by omega))).trans a1, (g.f (hF _ (by omega))).trans a2, fun j hj => (g.i (by omega) (hS _ (by omega)) j).trans (a3 j hj), (g.f (hF _ (by omega))).trans a4, (g.f (hF _ (by omega))).trans a5, (g.f (hF _ (by omega))).trans a6, (g.g (hF _ (by omega))).trans a7, (g.f (hF _ (by omega))).trans a8, fun j hj => (g.i (by omega) (hS _ (by omega)) j).trans (a9 j hj), (g.f (hF _ (by omega))).trans a10, fun j hj => (g.i (by omega) (hS _ (by omega)) j).trans (a11 j hj), a12.rf g (by omega) (hS _ (by omega))⟩
def fS (f : Nat) : Prop := f = 30 ∨ f = 43 ∨ f = 37
def sS (m q : Nat) : Prop := q = m + 15 ∨ q = m + 22
set_option maxRecDepth 100000 in
set_option maxHeartbeats 4000000 in
theorem c_M412 {O : zO} {M : zM} {m many used mo fs bs v c dc d0 d1 d2 vv mt lt nn here i done : Nat} {lb cb db : Nat → Nat} (hm : zMo M m) (h : zMc M m many used mo fs v c dc lb cb db (d0, d1, d2)) (hmany : many ≤ 131072) (hu : used ≤ many) (hfs : fs ≤ bs) (hbs : bs ≤ c) (hcm : c ≤ mo) (hmo : mo ≤ 32768) (hdc : dc ≤ 12000) (hvv : v < 18446744073709551616) (hd0 : 1 ≤ d0) (hd0' : d0 < 4294967296) (hd1 : 1 ≤ d1) (hd1' : d1 < 4294967296) (hd2 : 1 ≤ d2) (hd2' : d2 < 4294967296) (hv1 : 1 ≤ vv) (hv2 : vv < 4294967296) (hmt : mt ≤ 140000) (hlt : lt ≤ 140000) (h37 : z_i M m 37 = nI done) (hi : i < 1000000) :
    (sqN many used lt mt c fs bs dc v mo (chS vv lt d0 d1 d2).1 ≠ 0 → ∃ M', zEv (fun q => f_Mo_sequences_412 O (f_Mo_sequences_116 O q) q m (nI nn) (nI here) (nI bs) (nI i) (lN vv) (nI mt) (nI lt) M) (0, flm m M' (sqN many used lt mt c fs bs dc v mo (chS vv lt d0 d1 d2).1) here) ∧ zRf (fun _ => False) (sS m) m M M') ∧
    (sqN many used lt mt c fs bs dc v mo (chS vv lt d0 d1 d2).1 = 0 → ∀ cb', (∀ j, j < c → cb' j = cb j) → (∀ i, i < lt → cb' (c + i) = lb (used + i)) → (∀ i, i < mt → cb' (c + lt + i) = if fs + (chS vv lt d0 d1 d2).1 ≤ c + lt + i then cb' (c + lt + i - (chS vv lt d0 d1 d2).1) else db (dc + (c + lt + i) - ((chS vv lt d0 d1 d2).1 + fs))) → ∃ M', (∀ α, zEv (fun q => f_Mo_sequences_116 O q m (nI nn) (nI here) (nI bs) (nI (i + 1)) M') α → zEv (fun q => f_Mo_sequences_412 O (f_Mo_sequences_116 O q) q m (nI nn) (nI here) (nI bs) (nI i) (lN vv) (nI mt) (nI lt) M) α) ∧ zRf fS (sS m) m M M' ∧ zMc M' m many (used + lt) mo fs v (c + lt + mt) dc lb cb' db (chS vv lt d0 d1 d2) ∧ z_i M' m 37 = nI (done + 1)) := by
  obtain ⟨a1, a2, a3, a4, a5, a6, a7, a8, a9, a10, a11, a12⟩ := h
  have mk := hm.k
  have hmb := mbS_le v
  obtain ⟨M1, ch1, ch2, ch3⟩ := c_distanceOf (O := O) (v := vv) (lit := lt) hm a12 hv1 (by omega) (by omega) hd0 (by omega)
  have hdd := (chS_lt (lit := lt) (v := vv) (N := 8589934592) (d0 := d0) (d1 := d1) (d2 := d2) (by omega) (by omega) (by omega) (by omega)).1
  generalize hch : chS vv lt d0 d1 d2 = ch at ch1 ch3 hdd ⊢
  have hm1 := ch2.mo hm
  have mk1 := hm1.k
  have F : ∀ f, z_i M1 m f = z_i M m f := fun f => ch2.f (fun h => h)
  have b30 := (F 30).trans a8
  have b31 := (F 31).trans a5
  have b32 := (F 32).trans a6
  have b29 := (F 29).trans a4
  have b43 := (F 43).trans a2
  have b5 := (F 5).trans a10
  have b37 := (F 37).trans h37
  have b38 : z_j M1 m 38 = lN v := (ch2.g (fun h => h)).trans a7
  obtain ⟨tf, tf1, tf2, tf3⟩ := c_isTooFar (O := O) (d := ch.1) (sf := c - fs + lt) hm1 b38 hvv b5 hdc (by omega) hdd
  have r1 : zRf (fun _ => False) (sS m) m M M1 := ch2.mono (fun _ h => h) (fun q hq => Or.inl hq)
  have fail : ∀ {f : Nat} {M1 : zM}, z_k M1 m = 13 → zEv (fun n => (F_Mo_wrong O n m (nI f) (nI here) M1).bind fun q5 => if q5.1 = 0 ∨ q5.1 = 1 then some (q5.1, q5.2) else none) (0, flm m M1 f here) := fun {f M1} r => zEv.bind (c_wrong r) (zEv.some _)
  have go : ∀ {α : Int32 × zM}, zEv (fun q => if nI lt ≤ nI (many - used) then
      if tf = 0 then
      if nI ((c - bs) + lt + mt) ≤ nI (mbS v) then
      if nI (lt + mt) ≤ nI (mo - c) then
      (F_Mo_copy O q m (nI lt) (nI ch.1) (nI mt) M1).bind fun q10 =>
      if z_k q10.2 m = 13 then
      zlet (w_i q10.2 m 37 ((z_i q10.2 m 37) + (1 : Int32))) fun M13 =>
      zlet (nI i + (1 : Int32)) fun v16 =>
      f_Mo_sequences_116 O q m (nI nn) (nI here) (nI bs) v16 M13
      else none
      else
      (F_Mo_wrong O q m (nI 7) (nI here) M1).bind fun q18 =>
      if q18.1 = 0 ∨ q18.1 = 1 then
      some (q18.1, q18.2)
      else none
      else
      (F_Mo_wrong O q m (nI 20) (nI here) M1).bind fun q22 =>
      if q22.1 = 0 ∨ q22.1 = 1 then
      some (q22.1, q22.2)
      else none
      else
      (F_Mo_wrong O q m (nI 18) (nI here) M1).bind fun q27 =>
      if q27.1 = 0 ∨ q27.1 = 1 then
      some (q27.1, q27.2)
      else none
      else
      (F_Mo_wrong O q m (nI 19) (nI here) M).bind fun q31 =>
      if q31.1 = 0 ∨ q31.1 = 1 then
      some (q31.1, q31.2)
      else none) α → zEv (fun q => f_Mo_sequences_412 O (f_Mo_sequences_116 O q) q m (nI nn) (nI here) (nI bs) (nI i) (lN vv) (nI mt) (nI lt) M) α := fun {α} hα => by
    unfold f_Mo_sequences_412
    repeat first | with_reducible refine zEv.zl ?_ | (with_reducible refine zEv.ip ?_ ?_; focus (simp only [mk]; done)) | (with_reducible refine zEv.ip ?_ ?_; focus (simp (disch := omega) only [zlet, w_i_k, w_i_n, w_i_i, w_i_j, w_i_p, w_i_s, w_j_k, w_j_n, w_j_i, w_j_j, w_j_p, w_j_s, w_p_k, w_p_n, w_p_i, w_p_j, w_p_p, w_p_s, w_c_k, w_c_n, w_c_i, w_c_j, w_c_p, w_c_s, w_u_k, w_u_n, w_u_i, w_u_j, w_u_p, w_u_s, q_nf, ↓reduceIte, if_true, if_false, eq_self, and_true, true_and, and_false, false_and, Option.bind_some, ne_eq, not_false_eq_true, not_true_eq_false, nI_add, pk_mul, pk_sub, nI_ac, q_tlt, q_flt, q_tle, q_fle, q_teq, q_feq, q_tin, nI_cl, q_m1, q_m2, q_m3, q_m4, q_m5, q_m6, q_m7, q_l1, q_l2, q_l3, q_l4, q_l5, q_l6, lN_add, lN_mul, lN_sub, lN_i, nI_l, q_rem, q_rem2, q_div, q_shl, q_shr, q_i0, q_i1, q_i2, q_i3, q_i4, q_i5, q_i6, q_i7, q_i8, q_i9, q_i10, q_i11, q_i12, q_i14, q_i15, q_i16, q_i17, q_i18, q_i19, q_i20, q_i22, q_i24, q_i26, q_i28, q_i30, q_i31, q_i32, q_i35, q_i36, q_i38, q_i40, q_i42, q_i43, q_i48, q_i51, q_i52, q_i56, q_i63, q_i64, q_i67, q_i80, q_i95, q_i99, q_i126, q_i127, q_i128, q_i255, q_i256, q_i512, q_i1024, q_i12000, q_i32512, q_i32768, q_i131072, q_j0, q_j1, q_j2, q_j3, q_j4, q_j8, q_j256, Nat.one_mul, Nat.zero_add, Nat.add_zero, Nat.sub_zero, Nat.mul_one, q_ofN, q_c1, q_c2, q_c3, q_c4, q_c5, q_j12000, q_j32768, q_j131072, q_j2147483647, q_j4294967295, q_j255, q_j12, q_i13, q_i21, q_i23, q_i25, q_i27, q_i29, q_i33, q_i34, q_i37, q_i39, q_i41, q_i44, q_i45, q_i46, q_i47, q_i49, q_i50, q_i53, q_i54, q_i55, q_i77, q_i164, q_i181, q_i236, q_i253, q_i2048, mk]; done)) | (with_reducible refine zEv.in_ ?_ ?_; focus (simp (disch := omega) only [zlet, w_i_k, w_i_n, w_i_i, w_i_j, w_i_p, w_i_s, w_j_k, w_j_n, w_j_i, w_j_j, w_j_p, w_j_s, w_p_k, w_p_n, w_p_i, w_p_j, w_p_p, w_p_s, w_c_k, w_c_n, w_c_i, w_c_j, w_c_p, w_c_s, w_u_k, w_u_n, w_u_i, w_u_j, w_u_p, w_u_s, q_nf, ↓reduceIte, if_true, if_false, eq_self, and_true, true_and, and_false, false_and, Option.bind_some, ne_eq, not_false_eq_true, not_true_eq_false, nI_add, pk_mul, pk_sub, nI_ac, q_tlt, q_flt, q_tle, q_fle, q_teq, q_feq, q_tin, nI_cl, q_m1, q_m2, q_m3, q_m4, q_m5, q_m6, q_m7, q_l1, q_l2, q_l3, q_l4, q_l5, q_l6, lN_add, lN_mul, lN_sub, lN_i, nI_l, q_rem, q_rem2, q_div, q_shl, q_shr, q_i0, q_i1, q_i2, q_i3, q_i4, q_i5, q_i6, q_i7, q_i8, q_i9, q_i10, q_i11, q_i12, q_i14, q_i15, q_i16, q_i17, q_i18, q_i19, q_i20, q_i22, q_i24, q_i26, q_i28, q_i30, q_i31, q_i32, q_i35, q_i36, q_i38, q_i40, q_i42, q_i43, q_i48, q_i51, q_i52, q_i56, q_i63, q_i64, q_i67, q_i80, q_i95, q_i99, q_i126, q_i127, q_i128, q_i255, q_i256, q_i512, q_i1024, q_i12000, q_i32512, q_i32768, q_i131072, q_j0, q_j1, q_j2, q_j3, q_j4, q_j8, q_j256, Nat.one_mul, Nat.zero_add, Nat.add_zero, Nat.sub_zero, Nat.mul_one, q_ofN, q_c1, q_c2, q_c3, q_c4, q_c5, q_j12000, q_j32768, q_j131072, q_j2147483647, q_j4294967295, q_j255, q_j12, q_i13, q_i21, q_i23, q_i25, q_i27, q_i29, q_i33, q_i34, q_i37, q_i39, q_i41, q_i44, q_i45, q_i46, q_i47, q_i49, q_i50, q_i53, q_i54, q_i55, q_i77, q_i164, q_i181, q_i236, q_i253, q_i2048, mk]; done))
    rw [a1, a2, pk_sub hu]
    by_cases c19 : lt ≤ many - used
    · refine zEv.ip ((nI_leI (by omega) (by omega)).mpr c19) (zEv.bind ch1 (zEv.ip mk1 ?_))
      dsimp only
      rw [b30, b31, nI_add, pk_sub (show fs ≤ c + lt by omega), nI_l (show c + lt - fs < 2 ^ 31 by omega), show c + lt - fs = c - fs + lt by omega]
      refine zEv.zl (zEv.bind tf1 ?_)
      refine hα.to fun q => ?_
      rw [if_pos ((nI_leI (by omega) (by omega)).mpr c19)]
      simp only [mk1, if_true, b30, b32, b29, pk_sub hbs, pk_sub hcm, nI_add, lN_i]
      rfl
    · refine zEv.in_ (fun w => c19 ((nI_leI (by omega) (by omega)).mp w)) ?_
      refine hα.to fun q => ?_
      rw [if_neg (fun w => c19 ((nI_leI (by omega) (by omega)).mp w))]
      rfl
  unfold sqN
  by_cases c19 : many - used < lt
  · rw [if_pos c19]
    refine ⟨fun _ => ⟨M, go ?_, zRf.rf⟩, fun w => absurd w (by decide)⟩
    exact zEv.in_ (fun w => by have := (nI_leI (by omega) (by omega)).mp w; omega) (fail mk)
  rw [if_neg c19]
  have i19 : nI lt ≤ nI (many - used) := (nI_leI (by omega) (by omega)).mpr (by omega)
  by_cases c18 : tfB ch.1 (c - fs + lt) dc v = true
  · rw [if_pos c18]
    have : tf = 1 := tf3.mpr (tfB_iff.mp c18)
    subst this
    refine ⟨fun _ => ⟨M1, go ?_, r1⟩, fun w => absurd w (by decide)⟩
    exact zEv.ip i19 (zEv.in_ (by decide) (fail mk1))
  rw [if_neg c18]
  have htf : tf = 0 := by
    rcases tf2 with e | e
    · exact e
    · exact absurd (tfB_iff.mpr (tf3.mp e)) c18
  subst htf
  by_cases c20 : mbS v < (c - bs) + (lt + mt)
  · rw [if_pos c20]
    refine ⟨fun _ => ⟨M1, go ?_, r1⟩, fun w => absurd w (by decide)⟩
    exact zEv.ip i19 (zEv.ip rfl (zEv.in_ (fun w => by have := (nI_leI (by omega) (by omega)).mp w; omega) (fail mk1)))
  rw [if_neg c20]
  have i20 : nI ((c - bs) + lt + mt) ≤ nI (mbS v) := (nI_leI (by omega) (by omega)).mpr (by omega)
  by_cases c7 : mo - c < lt + mt
  · rw [if_pos c7]
    refine ⟨fun _ => ⟨M1, go ?_, r1⟩, fun w => absurd w (by decide)⟩
    exact zEv.ip i19 (zEv.ip rfl (zEv.ip i20 (zEv.in_ (fun w => by have := (nI_leI (by omega) (by omega)).mp w; omega) (fail mk1))))
  rw [if_neg c7]
  refine ⟨fun w => absurd rfl w, fun _ cb' g1 g2 g3 => ?_⟩
  have i7 : nI (lt + mt) ≤ nI (mo - c) := (nI_leI (by omega) (by omega)).mpr (by omega)
  have ntf : ¬ tfS ch.1 (c - fs + lt) dc v := fun w => c18 (tfB_iff.mpr w)
  unfold tfS at ntf
  have G : ∀ q j, q ≠ m → q ≠ m + 15 → z_i M1 q j = z_i M q j := fun q j h1 h2 => ch2.i h1 h2 j
  obtain ⟨M2, cp1, cp2, cp3, cp4, cp5⟩ := c_Mo_copy (O := O) (M := M1) (fs := fs) (d := ch.1) (dc := dc) (c := c) (u := used) (many := many) (lit := lt) (k := mt) (db := db) (b' := cb') (lb := lb) hm1 b30 b43 b31 b5 (fun j hj => by rw [G _ _ (by omega) (by omega)]; exact a11 j hj) (fun j hj => by rw [G _ _ (by omega) (by omega)]; exact a3 j hj) hmany (by omega) (by omega) (by omega) (by omega) hdc (by omega) (fun j hj => by rw [G _ _ (by omega) (by omega), g1 j hj]; exact a9 j hj) g2 g3
  have mk2 := (cp2.mo hm1).k
  have c37 : z_i M2 m 37 = nI done := by rw [cp2.f (by unfold fC; omega)]; exact b37
  have r2 : zRf fS (sS m) m M M2 := (r1.mono (fun _ h => absurd h id) (fun _ h => h)).tr (cp2.mono (fun f hf => by unfold fC at hf; unfold fS; omega) (fun q hq => Or.inr hq))
  have r3 : zRf fS (sS m) m M (w_i M2 m 37 (nI (done + 1))) := r2.wf (by unfold fS; omega)
  refine ⟨w_i M2 m 37 (nI (done + 1)), fun α hα => go (zEv.ip i19 (zEv.ip rfl (zEv.ip i20 (zEv.ip i7 (zEv.bind cp1 (zEv.ip mk2 ?_)))))), r3, ?_, w_i_eq _ _ _ _⟩
  · refine hα.to fun q => ?_
    dsimp only
    rw [c37, nI_1, nI_1]
    rfl
  · have W : ∀ f, f ≠ 37 → z_i (w_i M2 m 37 (nI (done + 1))) m f = z_i M2 m f := fun f hf => w_i_ne _ _ (fun w => hf w.2)
    have K : ∀ f, f ≠ 30 → f ≠ 43 → z_i M2 m f = z_i M m f := fun f h1 h2 => (cp2.f (by unfold fC; omega)).trans (F f)
    refine ⟨?_, ?_, fun j hj => ?_, ?_, ?_, ?_, ?_, ?_, fun j hj => ?_, ?_, fun j hj => ?_, ?_⟩
    · rw [W _ (by omega), K _ (by omega) (by omega)]; exact a1
    · rw [W _ (by omega)]; exact cp4
    · rw [w_i_ne _ _ (by omega), cp2.i (by omega) (by omega), G _ _ (by omega) (by omega)]; exact a3 j hj
    · rw [W _ (by omega), K _ (by omega) (by omega)]; exact a4
    · rw [W _ (by omega), K _ (by omega) (by omega)]; exact a5
    · rw [W _ (by omega), K _ (by omega) (by omega)]; exact a6
    · show z_j M2 m 38 = lN v
      rw [cp2.g (by unfold fC; omega)]; exact b38
    · rw [W _ (by omega)]; exact cp3
    · rw [w_i_ne _ _ (by omega)]; exact cp5 j hj
    · rw [W _ (by omega), K _ (by omega) (by omega)]; exact a10
    · rw [w_i_ne _ _ (by omega), cp2.i (by omega) (by omega), G _ _ (by omega) (by omega)]; exact a11 j hj
    · have := ch3.rf cp2 (by omega) (by omega)
      exact ⟨this.1, this.2.1, this.2.2⟩
