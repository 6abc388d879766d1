/-! A block as a whole: both sides together. -/
set_option maxRecDepth 100000 in
set_option maxHeartbeats 4000000 in
theorem j_block {O : zO} {M M2 : zM} {X m cN pl mo fs v c dc done : Nat} {b cb db : Nat → Nat} {hc : Option (Nat × (Nat → Nat))} {tb0 tb1 tb2 : Option tbT} {d : Nat × Nat × Nat} (hO : zTabOk O) (h : zFC M X cN b hc tb0 tb1 tb2 mo fs v c cb dc db d done) (h2 : zFM M2 m cN b hc tb0 tb1 tb2 mo fs v c cb dc db d done) (hb : zBd fs c mo v d) (ha : zAr M M2 X m) (h6 : z_i M (X + 73) 6 = nI pl) (h28 : z_i M2 m 28 = nI pl) (hp : pl + 3 ≤ cN) :
    jBd X m M M2 (fun n => F_FR_block O n (X + 73) M) (fun n => F_Mo_block O n m M2) ∨
    (∃ hc' tb0' tb1' tb2' c' cb' d' done' to M' M2', (∀ α, zEv (fun n => f_FR_block_203 O n (X + 73) (nI (nb b pl 3)) (nI to) (nI 1) M') α → zEv (fun n => F_FR_block O n (X + 73) M) α) ∧ zEv (fun n => F_Mo_block O n m M2) (1, M2') ∧ zSt (sRb X) M M' ∧ zKp X M M' ∧ zRf fRe (sRm m) m M2 M2' ∧ zFC M' X cN b hc' tb0' tb1' tb2' mo fs v c' cb' dc db d' done' ∧ zFM M2' m cN b hc' tb0' tb1' tb2' mo fs v c' cb' dc db d' done' ∧ zBd fs c' mo v d' ∧ zAr M' M2' X m ∧ z_i M' (X + 69) 0 = z_i M (X + 69) 0 ∧ z_i M2' m 28 = nI to ∧ pl + 3 ≤ to ∧ to ≤ cN) := by
  have hx := h.1
  have hin := h.2.1
  have hm := h2.1
  have hi2 := h2.2.1
  have hc9 := hin.cN
  have k73 := hx.k73
  have k69 := hx.k69
  have k1 := hx.k1
  have p0 := hx.p73_0
  have p2 := hx.p73_2
  have mk := hm.k
  obtain ⟨b1, b2, b3, b4, bd⟩ := hb
  have hlk := c_lacks (O := O) (k := 3) hx hin h6 (by omega) (by omega)
  rw [if_pos hp] at hlk
  have hnum := c_Row_number (O := O) hin pl 3 (by omega) (by omega)
  rw [if_pos hp] at hnum
  generalize htd : nb b pl 3 = td at *
  have htl : td < 16777216 := by rw [← htd]; exact nb_lt (k := 3) (fun i hi => hin.b (by omega))
  generalize hkd : td / 2 % 4 = kind
  generalize hnn : td / 8 = nn
  have hkind : kind < 4 := by omega
  have ek : (nI td >>> ((1 : Int32) &&& 31)) &&& (3 : Int32) = nI kind := by
    rw [show (1 : Int32) &&& 31 = nI 1 &&& 31 from rfl, nI_shr (by omega) (by omega), ← hkd]
    exact pk_andN (by omega) 2 (by decide)
  have en : nI td >>> ((3 : Int32) &&& 31) = nI nn := by
    rw [show (3 : Int32) &&& 31 = nI 3 &&& 31 from rfl, nI_shr (by omega) (by omega), ← hnn]
  -- the block is counted
  generalize hA1 : w_i M (X + 69) 3 (z_i M (X + 69) 3 + 1) = A1
  have hF1 : zFC A1 X cN b hc tb0 tb1 tb2 mo fs v c cb dc db d done := by rw [← hA1]; exact h.w69 (by omega)
  have stA : zSt (fun q => q = X + 69) M A1 := by rw [← hA1]; exact zSt.rf.wi (by exact rfl)
  have kpA : zKp X M A1 := by rw [← hA1]; exact zKp.rf.wi (Or.inl (by rw [k69]; omega))
  generalize hB1 : w_i M2 m 36 (z_i M2 m 36 + 1) = B1
  have rfB : zRf (fun f => f = 36) sN m M2 B1 := by rw [← hB1]; exact zRf.rf.wf (by exact rfl)
  have hG1 : zFM B1 m cN b hc tb0 tb1 tb2 mo fs v c cb dc db d done := h2.rf rfB (fun f hf => by omega) (fun _ _ h => h)
  have haA : zAr A1 B1 X m := by
    rw [← hA1, ← hB1]
    refine ⟨?_, ?_, ?_⟩
    · rw [w_i_ne _ _ (by omega), w_i_ne _ _ (by omega)]; exact ha.1
    · rw [w_i_eq, w_i_eq, ha.2.1]
    · rw [w_i_ne _ _ (by omega), w_i_ne _ _ (by omega)]; exact ha.2.2
  have x1 := hF1.1
  have m1 := hG1.1
  have mkB := m1.k
  have e28 : z_i B1 m 28 = nI pl := by rw [rfB.f (by omega)]; exact h28
  have e6 : z_i A1 (X + 73) 6 = nI pl := by rw [stA.i (by omega)]; exact h6
  have a73 := x1.k73
  have a69 := x1.k69
  have a70 := x1.k70
  have q2 := x1.p73_2
  have q3 := x1.p73_3
  have q0 := x1.p73_0
  have inA := hF1.2.1
  obtain ⟨bs0, ctA⟩ := hF1.2.2.2.2.2.2.2.1
  have hmost := c_mostOfBlock (O := O) ctA
  have hmb := mbS_le v
  have rfBe : zRf fRe (sRm m) m M2 B1 := rfB.mono (fun f hf => by unfold fRe; omega) (fun _ h => absurd h id)
  have stAd : zSt (sRd X) M A1 := stA.mono (fun q hq => by unfold sRd; omega)
  have rowA := hF1.2.2.2.2.2.2.2.2.1
  have abA : ∀ {P Q : zM}, zSt (fun q => q = X + 69 ∨ q = X + 70 ∨ q = X + 73) A1 P → zOf (X + 69) (fun _ => False) A1 P → zRf (fun f => f = 28) sN m B1 Q → zAb P Q X m := fun {P Q} s o r => by
    refine ⟨⟨?_, ?_, ?_⟩, ?_, ?_⟩
    · rw [(o 2 (fun h => h)).1, r.f (by omega)]; exact haA.1
    · rw [(o 3 (fun h => h)).1, r.f (by omega)]; exact haA.2.1
    · rw [(o 5 (fun h => h)).1, r.f (by omega)]; exact haA.2.2
    · rw [(o 4 (fun h => h)).1, r.f (by omega)]; exact hF1.2.2.2.2.2.2.2.2.2.2.2.1.trans hG1.2.2.2.2.2.2.2.2.2.2.2.2.2.2.2.symm
    · rw [s.i (by omega), r.f (by omega)]; exact rowA.2.2.2.2.1.trans hG1.2.2.2.2.2.2.2.2.2.2.1.symm
  -- both sides up to where the kind is looked at
  have toC : ∀ {α : Int32 × zM}, zEv (fun n => if nI kind = (3 : Int32) then
      (F_Rep_fail O n (X + 69) (nI 5) (nI pl) A1).bind fun q34 =>
      if q34.1 = 0 ∨ q34.1 = 1 then
      some (q34.1, q34.2)
      else none
      else
      if nI nn ≤ nI (mbS v) then
      if nI kind = (1 : Int32) then
      f_FR_block_115 O n (X + 73) (nI td) (nI kind) (nI nn) (nI (pl + 3)) (nI (pl + 3)) (1 : Int32) A1
      else
      f_FR_block_115 O n (X + 73) (nI td) (nI kind) (nI nn) (nI (pl + 3)) (nI (pl + 3)) (nI nn) A1
      else
      (F_Rep_fail O n (X + 69) (nI 6) (nI pl) A1).bind fun q29 =>
      if q29.1 = 0 ∨ q29.1 = 1 then
      some (q29.1, q29.2)
      else none) α → zEv (fun n => F_FR_block O n (X + 73) M) α := fun {α} hα => by
    unfold F_FR_block f_FR_block_0
    refine zEv.ip k73 (zEv.bind hlk (zEv.ip rfl (zEv.ip k73 ?_)))
    dsimp only
    rw [p0, h6]
    refine zEv.ip k1 (zEv.bind hnum ?_)
    dsimp only
    rw [lN_i]
    refine zEv.zl (zEv.ip k73 ?_)
    rw [p2]
    refine zEv.ip k69 ?_
    rw [hA1, ek, en]
    refine zEv.zl (zEv.zl (zEv.zl ?_))
    rw [q2, e6]
    by_cases c3 : kind = 3
    · refine zEv.ip (by rw [c3]; rfl) (zEv.ip a69 ?_)
      refine hα.to fun n => ?_
      rw [if_pos (by rw [c3]; rfl)]
      rfl
    · have n3 : ¬ nI kind = (3 : Int32) := fun w => c3 ((nI_eq (b := 3) (by omega) (by omega)).mp w)
      refine zEv.in_ n3 ?_
      rw [q3]
      refine zEv.ip a70 (zEv.bind hmost ?_)
      refine hα.to fun n => ?_
      rw [if_neg n3]
      simp only [a73, a69, q2, e6, if_true, zlet, show (3 : Int32) = nI 3 from rfl, nI_add]
      rfl
  have toM : ∀ {α : Int32 × zM}, zEv (fun n => if nI kind = (3 : Int32) then
      (F_Mo_wrong O n m (nI 5) (nI pl) B1).bind fun q25 =>
      if q25.1 = 0 ∨ q25.1 = 1 then
      some (q25.1, q25.2)
      else none
      else
      if nI nn ≤ nI (mbS v) then
      if nI kind = (1 : Int32) then
      f_Mo_block_88 O n m (nI pl) (nI kind) (nI nn) (1 : Int32) (w_i B1 m 28 (nI (pl + 3)))
      else
      f_Mo_block_88 O n m (nI pl) (nI kind) (nI nn) (nI nn) (w_i B1 m 28 (nI (pl + 3)))
      else
      (F_Mo_wrong O n m (nI 6) (nI pl) B1).bind fun q20 =>
      if q20.1 = 0 ∨ q20.1 = 1 then
      some (q20.1, q20.2)
      else none) α → zEv (fun n => F_Mo_block O n m M2) α := fun {α} hα => by
    have hn2 := c_Mo_number (O := O) (hG1.2.1.in_ m1) pl 3 (by omega) (by omega)
    rw [htd] at hn2
    have e1 : nI td / (2 : Int32) - nI td / (2 : Int32) / (4 : Int32) * (4 : Int32) = nI kind := by
      rw [show (2 : Int32) = nI 2 from rfl, show (4 : Int32) = nI 4 from rfl, q_div (by omega) (by omega) (by omega), q_div (by omega) (by omega) (by omega), pk_mul, q_rem, hkd]
    have e2 : nI td / (8 : Int32) = nI nn := by rw [show (8 : Int32) = nI 8 from rfl, q_div (by omega) (by omega) (by omega), hnn]
    have m32 := hG1.2.2.2.2.2.2.2.2.1
    unfold F_Mo_block f_Mo_block_0
    refine zEv.ip mk (zEv.zl ?_)
    rw [hB1]
    refine zEv.zl ?_
    rw [e28]
    refine zEv.bind hn2 ?_
    dsimp only
    rw [lN_i]
    refine zEv.zl ?_
    rw [e1, e2]
    refine zEv.zl (zEv.zl (hα.to fun n => ?_))
    simp only [mkB, if_true, m32, e28, show (3 : Int32) = nI 3 from rfl, nI_add, zlet]
    rfl
  have cfail : ∀ {f q : Nat} {P : zM}, z_k P (X + 69) = 8 → zEv (fun n => (F_Rep_fail O n (X + 69) (nI f) (nI q) P).bind fun q15 => if q15.1 = 0 ∨ q15.1 = 1 then some (q15.1, q15.2) else none) (0, fl X P f q) := fun {f q P} h => zEv.bind (c_fail h) (zEv.some _)
  have mfail : ∀ {f q : Nat} {P : zM}, z_k P m = 13 → zEv (fun n => (F_Mo_wrong O n m (nI f) (nI q) P).bind fun q5 => if q5.1 = 0 ∨ q5.1 = 1 then some (q5.1, q5.2) else none) (0, flm m P f q) := fun {f q P} r => zEv.bind (c_wrong r) (zEv.some _)
  by_cases c3 : kind = 3
  · refine Or.inl ⟨5, pl, A1, B1, by omega, by omega, toC (zEv.ip (by rw [c3]; rfl) (cfail a69)), toM (zEv.ip (by rw [c3]; rfl) (mfail mkB)), stAd, kpA, rfBe, abA zSt.rf zOf.rf zRf.rf, c, cb, rowA⟩
  have n3 : ¬ nI kind = (3 : Int32) := fun w => c3 ((nI_eq (b := 3) (by omega) (by omega)).mp w)
  by_cases c6 : mbS v < nn
  · have i6 : ¬ nI nn ≤ nI (mbS v) := fun w => by have := (nI_leI (by omega) (by omega)).mp w; omega
    refine Or.inl ⟨6, pl, A1, B1, by omega, by omega, toC (zEv.in_ n3 (zEv.in_ i6 (cfail a69))), toM (zEv.in_ n3 (zEv.in_ i6 (mfail mkB))), stAd, kpA, rfBe, abA zSt.rf zOf.rf zRf.rf, c, cb, rowA⟩
  have i6 : nI nn ≤ nI (mbS v) := (nI_leI (by omega) (by omega)).mpr (by omega)
  generalize hby : (if kind = 1 then 1 else nn) = by_
  have hbyl : by_ ≤ 131072 := by rw [← hby]; split <;> omega
  have to115 : ∀ {α : Int32 × zM}, zEv (fun n => f_FR_block_115 O n (X + 73) (nI td) (nI kind) (nI nn) (nI (pl + 3)) (nI (pl + 3)) (nI by_) A1) α → zEv (fun n => F_FR_block O n (X + 73) M) α := fun {α} hα => by
    refine toC (zEv.in_ n3 (zEv.ip i6 ?_))
    by_cases c1 : kind = 1
    · rw [← hby, if_pos c1] at hα
      exact zEv.ip (by rw [c1]; rfl) hα
    · rw [← hby, if_neg c1] at hα
      exact zEv.in_ (fun w => c1 ((nI_eq (b := 1) (by omega) (by omega)).mp w)) hα
  have to88 : ∀ {α : Int32 × zM}, zEv (fun n => f_Mo_block_88 O n m (nI pl) (nI kind) (nI nn) (nI by_) (w_i B1 m 28 (nI (pl + 3)))) α → zEv (fun n => F_Mo_block O n m M2) α := fun {α} hα => by
    refine toM (zEv.in_ n3 (zEv.ip i6 ?_))
    by_cases c1 : kind = 1
    · rw [← hby, if_pos c1] at hα
      exact zEv.ip (by rw [c1]; rfl) hα
    · rw [← hby, if_neg c1] at hα
      exact zEv.in_ (fun w => c1 ((nI_eq (b := 1) (by omega) (by omega)).mp w)) hα
  generalize hB2 : w_i B1 m 28 (nI (pl + 3)) = B2 at to88
  have rf2 : zRf (fun f => f = 28) sN m B1 B2 := by rw [← hB2]; exact zRf.rf.wf (by exact rfl)
  have hG2 := hG1.rf rf2 (fun f hf => by omega) (fun _ _ h => h)
  have mkB2 := hG2.1.k
  have e282 : z_i B2 m 28 = nI (pl + 3) := by rw [← hB2]; exact w_i_eq _ _ _ _
  have rf2e : zRf fRe (sRm m) m M2 B2 := rfBe.tr (rf2.mono (fun f hf => by unfold fRe; omega) (fun _ h => absurd h id))
  have haB : zAr A1 B2 X m := ⟨by rw [rf2.f (by omega)]; exact haA.1, by rw [rf2.f (by omega)]; exact haA.2.1, by rw [rf2.f (by omega)]; exact haA.2.2⟩
  rcases j_bk1 (O := O) (td := td) (fc := fun n => F_FR_block O n (X + 73) M) (fm := fun n => F_Mo_block O n m M2) hO hF1 hG2 ⟨b1, b2, b3, b4, bd⟩ haB e6 e282 hp (by omega) (by omega) hby to115 to88 with z | ⟨hc', tb0', tb1', tb2', c', cb', d', done', to, M', M2', z1, z2, z3, z4, z5, z6, z7, z8, z9, z10, z11⟩
  · exact Or.inl (z.to stAd kpA rf2e (fun h => h) (fun h => h))
  · exact Or.inr ⟨hc', tb0', tb1', tb2', c', cb', d', done', to, M', M2', z1, z2, (stA.mono (fun q hq => by unfold sRb sRd; omega)).tr z3, kpA.tr z4, rf2e.tr z5, z6, z7, z8, z9, z10.trans (by rw [← hA1, w_i_ne _ _ (by omega)]), z11⟩
