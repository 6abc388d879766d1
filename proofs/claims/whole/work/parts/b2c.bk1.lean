/-! A block behind its head: both sides together. -/
/-- cells of a read, the reader's own apart -/
def sRb (X q : Nat) : Prop := sRd X q ∧ q ≠ X + 73
theorem sRb_d {X q : Nat} (h : sRb X q) : sRd X q := h.1
def byS (kind nn : Nat) : Nat := if kind = 1 then 1 else nn
-- behind the head of a block
set_option maxRecDepth 100000 in
set_option maxHeartbeats 4000000 in
theorem j_bk1 {O : zO} {A1 B2 : zM} {X m cN pl mo fs v c dc done td kind nn by_ : Nat} {b cb db : Nat → Nat} {hc : Option (Nat × (Nat → Nat))} {tb0 tb1 tb2 : Option tbT} {d : Nat × Nat × Nat} {fc fm : Nat → Option (Int32 × zM)} (hO : zTabOk O) (hF1 : zFC A1 X cN b hc tb0 tb1 tb2 mo fs v c cb dc db d done) (hG2 : zFM B2 m cN b hc tb0 tb1 tb2 mo fs v c cb dc db d done) (hb : zBd fs c mo v d) (haA : zAr A1 B2 X m) (e6 : z_i A1 (X + 73) 6 = nI pl) (e282 : z_i B2 m 28 = nI (pl + 3)) (hp : pl + 3 ≤ cN) (hkind : kind < 3) (hnl : nn ≤ 131072) (hby : (if kind = 1 then 1 else nn) = by_)
    (to115 : ∀ {α : Int32 × zM}, zEv (fun n => f_FR_block_115 O n (X + 73) (nI td) (nI kind) (nI nn) (nI (pl + 3)) (nI (pl + 3)) (nI by_) A1) α → zEv fc α) (to88 : ∀ {α : Int32 × zM}, zEv (fun n => f_Mo_block_88 O n m (nI pl) (nI kind) (nI nn) (nI by_) B2) α → zEv fm α) :
    jBd X m A1 B2 fc fm ∨
    (∃ hc' tb0' tb1' tb2' c' cb' d' done' to M' M2', (∀ α, zEv (fun n => f_FR_block_203 O n (X + 73) (nI td) (nI to) (nI 1) M') α → zEv fc α) ∧ zEv fm (1, M2') ∧ zSt (sRb X) A1 M' ∧ zKp X A1 M' ∧ zRf fRe (sRm m) m B2 M2' ∧ zFC M' X cN b hc' tb0' tb1' tb2' mo fs v c' cb' dc db d' done' ∧ zFM M2' m cN b hc' tb0' tb1' tb2' mo fs v c' cb' dc db d' done' ∧ zBd fs c' mo v d' ∧ zAr M' M2' X m ∧ z_i M' (X + 69) 0 = z_i A1 (X + 69) 0 ∧ z_i M2' m 28 = nI to ∧ pl + 3 ≤ to ∧ to ≤ cN) := by
  have hbyl : by_ ≤ 131072 := by rw [← hby]; split <;> omega
  have hbyS : byS kind nn = by_ := hby
  clear hby
  have x1 := hF1.1
  have inA := hF1.2.1
  have hc9 := inA.cN
  have a73 := x1.k73
  have a70 := x1.k70
  have a69 := x1.k69
  have q0 := x1.p73_0
  have q2 := x1.p73_2
  have q3 := x1.p73_3
  have m1 := hG2.1
  have mkB2 := m1.k
  have hmb := mbS_le v
  obtain ⟨b1, b2, b3, b4, bd⟩ := hb
  have rf2e : zRf fRe (sRm m) m B2 B2 := zRf.rf
  have rf2 : zRf (fun f => f = 28) sN m B2 B2 := zRf.rf
  have rowA := hF1.2.2.2.2.2.2.2.2.1
  have abA : ∀ {P Q : zM}, zSt (fun q => q = X + 69 ∨ q = X + 70 ∨ q = X + 73) A1 P → zOf (X + 69) (fun _ => False) A1 P → zRf (fun f => f = 28) sN m B2 Q → zAb P Q X m := fun {P Q} s o r => by
    have n28 : ∀ f, f = 35 ∨ f = 36 ∨ f = 39 ∨ f = 37 ∨ f = 30 → z_i Q m f = z_i B2 m f := fun f hf => r.f (by omega)
    have n71 : z_i P (X + 71) 1 = z_i A1 (X + 71) 1 := s.i (by omega) 1
    refine ⟨⟨?_, ?_, ?_⟩, ?_, ?_⟩
    · rw [(o 2 (fun h => h)).1, n28 35 (by decide)]; exact haA.1
    · rw [(o 3 (fun h => h)).1, n28 36 (by decide)]; exact haA.2.1
    · rw [(o 5 (fun h => h)).1, n28 39 (by decide)]; exact haA.2.2
    · rw [(o 4 (fun h => h)).1, n28 37 (by decide)]; exact hF1.2.2.2.2.2.2.2.2.2.2.2.1.trans hG2.2.2.2.2.2.2.2.2.2.2.2.2.2.2.2.symm
    · rw [n71, n28 30 (by decide)]; exact rowA.2.2.2.2.1.trans hG2.2.2.2.2.2.2.2.2.2.2.1.symm
  have cfail : ∀ {f q : Nat} {P : zM}, z_k P (X + 69) = 8 → zEv (fun n => (F_Rep_fail O n (X + 69) (nI f) (nI q) P).bind fun q15 => if q15.1 = 0 ∨ q15.1 = 1 then some (q15.1, q15.2) else none) (0, fl X P f q) := fun {f q P} h => zEv.bind (c_fail h) (zEv.some _)
  have mfail : ∀ {f q : Nat} {P : zM}, z_k P m = 13 → zEv (fun n => (F_Mo_wrong O n m (nI f) (nI q) P).bind fun q5 => if q5.1 = 0 ∨ q5.1 = 1 then some (q5.1, q5.2) else none) (0, flm m P f q) := fun {f q P} r => zEv.bind (c_wrong r) (zEv.some _)
  have hhas := c_has (O := O) (k := by_) hG2.1 hG2.2.1 e282 hp (by omega)
  by_cases ct : pl + 3 + by_ ≤ cN
  · -- all bytes are there
    have hh := hhas.1 ct
    obtain ⟨hF2, ctB⟩ := hF1.w70
    generalize hA2 : w_i A1 (X + 70) 4 (nI c) = A2 at hF2 ctB
    have stA2 : zSt (fun q => q = X + 70) A1 A2 := by rw [← hA2]; exact zSt.rf.wi (by exact rfl)
    have kpA2 : zKp X A1 A2 := by rw [← hA2]; exact zKp.rf.wi (Or.inl (by rw [a70]; omega))
    have x2 := hF2.1
    have c73 := x2.k73
    have c70 := x2.k70
    have c69 := x2.k69
    have c74 := x2.k74
    have c71 := x2.k71
    have c1 := x2.k1
    have s0 := x2.p73_0
    have s2 := x2.p73_2
    have s3 := x2.p73_3
    have s4 := x2.p73_4
    have s5 := x2.p73_5
    have s700 := x2.p70_0
    have p700 := x1.p70_0
    have a71 := x1.k71
    have hsb : zEv (fun n => F_Content_startBlock O n (X + 70) A1) ((), A2) := by
      refine (zEv.some _).to fun n => ?_
      unfold F_Content_startBlock f_Content_startBlock_0
      rw [if_pos a70, p700, if_pos a71, rowA.2.2.2.2.1, ← hA2]
      rfl
    have kpC := kpA2
    have stC : zSt (sRb X) A1 A2 := stA2.mono (fun q hq => by unfold sRb sRd; omega)
    have e62 : z_i A2 (X + 73) 6 = nI pl := by rw [stA2.i (by omega)]; exact e6
    have toC2 : ∀ {α : Int32 × zM}, zEv (fun n => if (2 : Int32) ≤ nI kind then
        cPk O n X (nI td) (nI (pl + 3 + by_)) (nI (pl + 3)) (nI (mbS v)) A2
        else
        (F_FR_plain O n (X + 73) (nI kind) (nI nn) A2).bind fun q23 =>
        f_FR_block_203 O n (X + 73) (nI td) (nI (pl + 3 + by_)) q23.1 q23.2) α → zEv fc α := fun {α} hα => by
      refine to115 ?_
      unfold f_FR_block_115
      rw [nI_add]
      refine zEv.zl (zEv.ip a73 ?_)
      rw [q0, inA.2.2.2.2.1, q3]
      refine zEv.ip inA.1 (zEv.ip ((nI_leI (by omega) (by omega)).mpr ct) (zEv.ip a70 (zEv.bind hsb ?_)))
      dsimp only
      have hmost2 := c_mostOfBlock (O := O) ctB
      by_cases c2 : 2 ≤ kind
      · have i2 : (2 : Int32) ≤ nI kind := (nI_leI (a := 2) (by omega) (by omega)).mpr c2
        refine zEv.ip i2 (zEv.ip c73 ?_)
        rw [s3]
        refine zEv.ip c70 (zEv.bind hmost2 ?_)
        dsimp only
        rw [s4]
        refine zEv.ip c74 (hα.to fun n => ?_)
        rw [if_pos i2]
        rfl
      · have i2 : ¬ (2 : Int32) ≤ nI kind := fun w => c2 ((nI_leI (a := 2) (by omega) (by omega)).mp w)
        refine zEv.in_ i2 (zEv.ip c73 (hα.to fun n => ?_))
        rw [if_neg i2]
    have to88b : ∀ {α : Int32 × zM}, zEv (fun n => if nI kind = (2 : Int32) then
        (F_Mo_packed O n m (nI (pl + 3 + by_)) B2).bind fun q11 =>
        if q11.1 = 0 then
        some ((0 : Int32), q11.2)
        else
        f_Mo_block_207 O n m (nI (pl + 3 + by_)) q11.2
        else
        if nI nn ≤ nI (mo - c) then
        f_Mo_block_151 O n m (nI kind) (nI nn) (nI (pl + 3 + by_)) (nI 0) B2
        else
        (F_Mo_wrong O n m (nI 7) (nI pl) B2).bind fun q7 =>
        if q7.1 = 0 ∨ q7.1 = 1 then
        some (q7.1, q7.2)
        else none) α → zEv fm α := fun {α} hα => by
      have m29 := hG2.2.2.2.2.2.2.1
      have m30 := hG2.2.2.2.2.2.2.2.2.2.2.1
      refine to88 ?_
      unfold f_Mo_block_88
      refine zEv.ip mkB2 (zEv.bind hh (zEv.in_ (show ¬ (1 : Int32) = 0 by decide) (zEv.ip mkB2 (zEv.zl ?_))))
      dsimp only
      rw [e282, nI_add, m29, m30, pk_sub b2]
      exact hα
    by_cases c2 : kind = 2
    · have haA2 : zAr A2 B2 X m := by
        refine ⟨?_, ?_, ?_⟩
        · rw [stA2.i (by omega), rf2.f (by omega)]; exact haA.1
        · rw [stA2.i (by omega), rf2.f (by omega)]; exact haA.2.1
        · rw [stA2.i (by omega), rf2.f (by omega)]; exact haA.2.2
      have i2 : (2 : Int32) ≤ nI kind := (nI_leI (a := 2) (by omega) (by omega)).mpr (by omega)
      have j2 : nI kind = (2 : Int32) := by rw [c2]; rfl
      rcases j_pack (O := O) (td := td) (fr := pl + 3) (to := pl + 3 + by_) hO hF2 ctB hG2 ⟨b1, b2, b3, b4, bd⟩ e282 (by omega) ct haA2 with z | z
      · exact Or.inl (z.to (stC.mono (fun q hq => sRb_d hq)) kpC rf2e (fun h => toC2 (zEv.ip i2 h)) (fun h => to88b (zEv.ip j2 (zEv.bind h (zEv.ip rfl (zEv.some _))))))
      · obtain ⟨hc', tb0', tb1', tb2', c', cb', d', done', M', M2', z1, z2, z3, z4, z5, z6, z7, z8, z9⟩ := z
        have mk' := z8.1.k
        have z3' : zSt (sRb X) A2 M' := z3
        have r7 : zRf (fun f => f = 28) sN m M2' (w_i M2' m 28 (nI (pl + 3 + by_))) := zRf.rf.wf (by exact rfl)
        refine Or.inr ⟨hc', tb0', tb1', tb2', c', cb', d', done', pl + 3 + by_, M', w_i M2' m 28 (nI (pl + 3 + by_)), fun α hα => toC2 (zEv.ip i2 (z1 α hα)), to88b (zEv.ip j2 (zEv.bind z2 (zEv.in_ (show ¬ (1 : Int32) = 0 by decide) ?_))), stC.tr z3', kpC.tr z4, (rf2e.tr (z6.mono (fun f hf => fRd_e hf) (fun _ h => h))).tr (r7.mono (fun f hf => by unfold fRe; omega) (fun _ h => absurd h id)), z7, z8.rf r7 (fun f hf => by omega) (fun _ _ h => h), z9, ⟨?_, ?_, ?_⟩, ?_, w_i_eq _ _ _ _, by omega, ct⟩
        · unfold f_Mo_block_207
          exact zEv.ip mk' (zEv.some _)
        · rw [(z5 2 (by omega)).1, r7.f (by omega), z6.f (by unfold fRd; omega)]; exact haA2.1
        · rw [(z5 3 (by omega)).1, r7.f (by omega), z6.f (by unfold fRd; omega)]; exact haA2.2.1
        · rw [(z5 5 (by omega)).1, r7.f (by omega), z6.f (by unfold fRd; omega)]; exact haA2.2.2
        · rw [(z5 0 (by omega)).1, stA2.i (by omega)]
    · -- plain bytes
      have hk2 : kind < 2 := by omega
      have i2 : ¬ (2 : Int32) ≤ nI kind := fun w => by have := (nI_leI (a := 2) (by omega) (by omega)).mp w; omega
      have j2 : ¬ nI kind = (2 : Int32) := fun w => c2 ((nI_eq (b := 2) (by omega) (by omega)).mp w)
      have f9 := hF2.2.2.2.2.2.2.2.2.1
      have s71 : ∀ q, zS2 (X + 71) (X + 72) q → sRb X q := fun q hq => by unfold zS2 at hq; unfold sRb sRd; omega
      have n69 : ¬ zS2 (X + 71) (X + 72) (X + 69) := by unfold zS2; omega
      rcases j_plain (O := O) (kind := kind) (nn := nn) hF2 hG2 ctB b2 b3 hk2 (by omega) hbyS.symm ct e62 e282 with ⟨c7, plain⟩ | ⟨c7, cb', P, Q, u1, u2, sp, kpP, u5, u6, u7⟩
      · refine Or.inl ⟨7, pl, A2, B2, by decide, by decide, toC2 (zEv.in_ i2 (zEv.bind plain ?_)), to88b (zEv.in_ j2 (zEv.in_ (fun w => by have := (nI_leI (by omega) (by omega)).mp w; omega) (mfail mkB2))), stC.mono (fun q hq => sRb_d hq), kpC, rf2e, abA (stA2.mono (fun q hq => by omega)) (zOf.rf.st stA2 (by omega)) rf2, c, cb, f9⟩
        unfold f_FR_block_203
        exact zEv.ip rfl (zEv.some _)
      · have mkQ := u7.1.k
        have r7 : zRf (fun f => f = 28) sN m Q (w_i Q m 28 (nI (pl + 3 + by_))) := zRf.rf.wf (by exact rfl)
        have r8 : zRf (fun f => f = 28 ∨ f = 30) (fun q => q = m + 22) m B2 (w_i Q m 28 (nI (pl + 3 + by_))) := (u5.mono (fun f hf => Or.inr hf) (fun _ h => h)).wf (Or.inl rfl)
        refine Or.inr ⟨hc, tb0, tb1, tb2, c + nn, cb', d, done, pl + 3 + by_, P, w_i Q m 28 (nI (pl + 3 + by_)), fun α hα => toC2 (zEv.in_ i2 (zEv.bind u1 hα)), to88b (zEv.in_ j2 (zEv.ip ((nI_leI (by omega) (by omega)).mpr (by omega)) (u2 _ ?_))), stC.tr (sp.mono s71), kpC.tr kpP, rf2e.tr (r8.mono (fun f hf => by unfold fRe; omega) (fun q hq => by unfold sRm; omega)), u6, u7.rf r7 (fun f hf => by omega) (fun _ _ h => h), ⟨by omega, by omega, b3, b4, bd⟩, ⟨?_, ?_, ?_⟩, ?_, w_i_eq _ _ _ _, by omega, ct⟩
        · unfold f_Mo_block_207
          exact zEv.ip mkQ (zEv.some _)
        · rw [sp.i n69, stA2.i (by omega), r8.f (by omega), rf2.f (by omega)]; exact haA.1
        · rw [sp.i n69, stA2.i (by omega), r8.f (by omega), rf2.f (by omega)]; exact haA.2.1
        · rw [sp.i n69, stA2.i (by omega), r8.f (by omega), rf2.f (by omega)]; exact haA.2.2
        · rw [sp.i n69, stA2.i (by omega)]
  · have hh := hhas.2 ct
    refine Or.inl ⟨1, cN, A1, B2, by omega, by omega, to115 ?_, to88 ?_, zSt.rf, zKp.rf, rf2e, abA zSt.rf zOf.rf rf2, c, cb, rowA⟩
    · unfold f_FR_block_115
      rw [nI_add]
      refine zEv.zl (zEv.ip a73 ?_)
      rw [q0, inA.2.2.2.2.1]
      refine zEv.ip inA.1 (zEv.in_ (fun w => ct ((nI_leI (by omega) (by omega)).mp w)) (zEv.bind (c_endsWithin x1 inA) (zEv.some _)))
    · unfold f_Mo_block_88
      exact zEv.ip mkB2 (zEv.bind hh (zEv.ip rfl (zEv.some _)))
