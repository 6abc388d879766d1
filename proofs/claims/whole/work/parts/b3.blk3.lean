/-! A block as a whole: both sides together. -/
theorem zFC.w69 {M : zM} {X cN mo fs v c dc done f : Nat} {x : Int32} {b cb db : Nat → Nat} {hc : Option (Nat × (Nat → Nat))} {tb0 tb1 tb2 : Option tbT} {d : Nat × Nat × Nat} (h : zFC M X cN b hc tb0 tb1 tb2 mo fs v c cb dc db d done) (hf : f ≠ 4) : zFC (w_i M (X + 69) f x) X cN b hc tb0 tb1 tb2 mo fs v c cb dc db d done := by
  obtain ⟨a1, a2, a3, a4, a5, a6, a7, ⟨bs, a8⟩, a9, a10, a11, a12, c0, lb0, a13⟩ := h
  have st : zSt (fun q => q = X + 69) M (w_i M (X + 69) f x) := zSt.rf.wi (by exact rfl)
  have k69 := a1.k69
  exact ⟨a1.kp (zKp.rf.wi (Or.inl (by rw [k69]; omega))), a2.st st (by omega) (by omega), a3.st (st.i (by omega) _) (st.p (by omega) _) st (fun q h1 h2 => by omega), a4.sto st (by omega) (by omega) (fun q hq => by omega) (by omega), a5.sto st (by omega) (by omega) (fun q hq => by omega) (by omega), a6.sto st (by omega) (by omega) (fun q hq => by omega) (by omega), fun k hk => (a7 k hk).st st (by omega) (by omega) (by omega) (by omega), ⟨bs, a8.st st (by omega)⟩, a9.st st (by omega) (by omega), a10.st st (by omega) (by omega), a11.st st (by omega), by rw [w_i_ne _ _ (fun w => hf w.2.symm)]; exact a12, c0, lb0, a13.st st (by omega) (by omega)⟩
theorem zFC.w70 {M : zM} {X cN mo fs v c dc done : Nat} {b cb db : Nat → Nat} {hc : Option (Nat × (Nat → Nat))} {tb0 tb1 tb2 : Option tbT} {d : Nat × Nat × Nat} (h : zFC M X cN b hc tb0 tb1 tb2 mo fs v c cb dc db d done) : zFC (w_i M (X + 70) 4 (nI c)) X cN b hc tb0 tb1 tb2 mo fs v c cb dc db d done ∧ zCt (w_i M (X + 70) 4 (nI c)) (X + 70) (X + 71) (X + 6) mo fs c v := by
  obtain ⟨a1, a2, a3, a4, a5, a6, a7, ⟨bs, a8⟩, a9, a10, a11, a12, c0, lb0, a13⟩ := h
  have st : zSt (fun q => q = X + 70) M (w_i M (X + 70) 4 (nI c)) := zSt.rf.wi (by exact rfl)
  have k70 := a1.k70
  have ct : zCt (w_i M (X + 70) 4 (nI c)) (X + 70) (X + 71) (X + 6) mo fs c v := by
    obtain ⟨u1, u2, u3, u4, u5, u6, u7⟩ := a8
    exact ⟨u1, u2, u3, by rw [w_i_ne _ _ (by omega)]; exact u4, by rw [w_i_ne _ _ (by omega)]; exact u5, w_i_eq _ _ _ _, u7⟩
  exact ⟨⟨a1.kp (zKp.rf.wi (Or.inl (by rw [k70]; omega))), a2.st st (by omega) (by omega), a3.st (st.i (by omega) _) (st.p (by omega) _) st (fun q h1 h2 => by omega), a4.sto st (by omega) (by omega) (fun q hq => by omega) (by omega), a5.sto st (by omega) (by omega) (fun q hq => by omega) (by omega), a6.sto st (by omega) (by omega) (fun q hq => by omega) (by omega), fun k hk => (a7 k hk).st st (by omega) (by omega) (by omega) (by omega), ⟨c, ct⟩, a9.st st (by omega) (by omega), a10.st st (by omega) (by omega), a11.st st (by omega), by rw [w_i_ne _ _ (by omega)]; exact a12, c0, lb0, a13.st st (by omega) (by omega)⟩, ct⟩
theorem zFM.rf {F S : Nat → Prop} {M M1 : zM} {m cN mo fs v c dc done : Nat} {b cb db : Nat → Nat} {hc : Option (Nat × (Nat → Nat))} {tb0 tb1 tb2 : Option tbT} {d : Nat × Nat × Nat} (h : zFM M m cN b hc tb0 tb1 tb2 mo fs v c cb dc db d done) (g : zRf F S m M M1) (hF : ∀ f, f = 1 ∨ f = 13 ∨ f = 29 ∨ f = 31 ∨ f = 32 ∨ f = 38 ∨ f = 30 ∨ f = 5 ∨ f = 37 → ¬ F f) (hS : ∀ q, q = m + 1 ∨ q = m + 3 ∨ q = m + 8 ∨ q = m + 9 ∨ (m + 11 ≤ q ∧ q ≤ m + 15) ∨ q = m + 22 → ¬ S q) : zFM M1 m cN b hc tb0 tb1 tb2 mo fs v c cb dc db d done := by
  obtain ⟨a1, a2, a3, a4, a5, a6, a7, a8, a9, a10, a11, a12, a13, a14, a15, a16⟩ := h
  exact ⟨g.mo a1, a2.rf g (hF _ (by omega)) (hS _ (by omega)), a3.rf g (hF _ (by omega)) (hS _ (by omega)) (hS _ (by omega)), a4.rfo g (fun q h1 h2 => hS q (by omega)), a5.rfo g (fun q h1 h2 => hS q (by omega)), a6.rfo g (fun q h1 h2 => hS q (by omega)), (g.f (hF _ (by omega))).trans a7, (g.f (hF _ (by omega))).trans a8, (g.f (hF _ (by omega))).trans a9, (g.g (hF _ (by omega))).trans a10, (g.f (hF _ (by omega))).trans a11, fun j hj => (g.i (by omega) (hS _ (by omega)) j).trans (a12 j hj), (g.f (hF _ (by omega))).trans a13, fun j hj => (g.i (by omega) (hS _ (by omega)) j).trans (a14 j hj), a15.rf g (by omega) (hS _ (by omega)), (g.f (hF _ (by omega))).trans a16⟩
theorem zFC.row {M P : zM} {X cN mo fs bs v c c' dc done : Nat} {b cb cb' db : Nat → Nat} {hc : Option (Nat × (Nat → Nat))} {tb0 tb1 tb2 : Option tbT} {d : Nat × Nat × Nat} (h : zFC M X cN b hc tb0 tb1 tb2 mo fs v c cb dc db d done) (ctB : zCt M (X + 70) (X + 71) (X + 6) mo fs bs v) (sp : zSt (zS2 (X + 71) (X + 72)) M P) (rp : zRow P (X + 71) (X + 72) 32768 c' cb') (kp : zKp X M P) : zFC P X cN b hc tb0 tb1 tb2 mo fs v c' cb' dc db d done := by
  obtain ⟨f1, f2, f3, f4, f5, f6, f7, f8, f9, f10, f11, f12, g0, glb, f13⟩ := h
  exact ⟨f1.kp kp, f2.st sp (by unfold zS2; omega) (by unfold zS2; omega), f3.st (sp.i (by unfold zS2; omega) _) (sp.p (by unfold zS2; omega) _) sp (fun q h1 h2 => by unfold zS2; omega), f4.sto sp (by unfold zS2; omega) (by unfold zS2; omega) (fun q hq => by unfold zS2; omega) (by omega), f5.sto sp (by unfold zS2; omega) (by unfold zS2; omega) (fun q hq => by unfold zS2; omega) (by omega), f6.sto sp (by unfold zS2; omega) (by unfold zS2; omega) (fun q hq => by unfold zS2; omega) (by omega), fun k hk => (f7 k hk).st sp (by unfold zS2; omega) (by unfold zS2; omega) (by unfold zS2; omega) (by unfold zS2; omega), ⟨bs, ctB.st sp (by unfold zS2; omega)⟩, rp, f10.st sp (by unfold zS2; omega) (by unfold zS2; omega), f11.st sp (by unfold zS2; omega), by rw [sp.i (by unfold zS2; omega)]; exact f12, g0, glb, f13.st sp (by unfold zS2; omega) (by unfold zS2; omega)⟩
theorem zFM.row {M Q : zM} {m cN mo fs v c c' dc done : Nat} {b cb cb' db : Nat → Nat} {hc : Option (Nat × (Nat → Nat))} {tb0 tb1 tb2 : Option tbT} {d : Nat × Nat × Nat} (h : zFM M m cN b hc tb0 tb1 tb2 mo fs v c cb dc db d done) (r7 : zRf (fun f => f = 28 ∨ f = 30) (fun q => q = m + 22) m M Q) (e30 : z_i Q m 30 = nI c') (el : ∀ j, j < c' → z_i Q (m + 22) j = nI (cb' j)) : zFM Q m cN b hc tb0 tb1 tb2 mo fs v c' cb' dc db d done := by
  obtain ⟨g1, g2, g3, g4, g5, g6, g7, g8, g9, g10, g11, g12, g13, g14, g15, g16⟩ := h
  exact ⟨r7.mo g1, g2.rf r7 (by omega) (by omega), g3.rf r7 (by omega) (by omega) (by omega), g4.rfo r7 (fun q h1 h2 => by omega), g5.rfo r7 (fun q h1 h2 => by omega), g6.rfo r7 (fun q h1 h2 => by omega), (r7.f (by omega)).trans g7, (r7.f (by omega)).trans g8, (r7.f (by omega)).trans g9, (r7.g (by omega)).trans g10, e30, el, (r7.f (by omega)).trans g13, fun j hj => (r7.i (by omega) (by omega) j).trans (g14 j hj), g15.rf r7 (by omega) (by omega), (r7.f (by omega)).trans g16⟩
/-- cells of a read, the reader's own apart -/
def sRb (X q : Nat) : Prop := X + 69 ≤ q ∧ q ≤ X + 132 ∧ q ≠ X + 73
theorem sRb_d {X q : Nat} (h : sRb X q) : sRd X q := by unfold sRb at h; unfold sRd; omega
set_option maxRecDepth 100000 in
set_option maxHeartbeats 4000000 in
theorem j_block {O : zO} {M M2 : zM} {X m cN pl mo fs v c dc done : Nat} {b cb db : Nat → Nat} {hc : Option (Nat × (Nat → Nat))} {tb0 tb1 tb2 : Option tbT} {d : Nat × Nat × Nat} (hO : zTabOk O) (h : zFC M X cN b hc tb0 tb1 tb2 mo fs v c cb dc db d done) (h2 : zFM M2 m cN b hc tb0 tb1 tb2 mo fs v c cb dc db d done) (hb : zBd fs c mo v d) (ha : zAr M M2 X m) (h6 : z_i M (X + 73) 6 = nI pl) (h28 : z_i M2 m 28 = nI pl) (hp : pl + 3 ≤ cN) :
    jBd X m M M2 (fun n => F_FR_block O n (X + 73) M) (fun n => F_Mo_block O n m M2) ∨
    (∃ hc' tb0' tb1' tb2' c' cb' d' done' to M' M2', (∀ α, zEv (fun n => f_FR_block_203 O n (X + 73) (nI (nb b pl 3)) (nI to) (nI 1) M') α → zEv (fun n => F_FR_block O n (X + 73) M) α) ∧ zEv (fun n => F_Mo_block O n m M2) (1, M2') ∧ zSt (sRb X) M M' ∧ zKp X M M' ∧ zRf fRe (sRm m) m M2 M2' ∧ zFC M' X cN b hc' tb0' tb1' tb2' mo fs v c' cb' dc db d' done' ∧ zFM M2' m cN b hc' tb0' tb1' tb2' mo fs v c' cb' dc db d' done' ∧ zBd fs c' mo v d' ∧ zAr M' M2' X m ∧ z_i M' (X + 69) 0 = z_i M (X + 69) 0 ∧ z_i M2' m 28 = nI to ∧ pl + 3 ≤ to ∧ to ≤ cN) := by
  have hx := h.1
  have hin := h.2.1
  have hm := h2.1
  have hi2 := h2.2.1
  have hc9 := hin.cN
  have k73 := hx.k73
  have k69 := hx.k69
  have k1 := hx.k1
  have p0 := hx.p73_0
  have p2 := hx.p73_2
  have mk := hm.k
  obtain ⟨b1, b2, b3, b4, bd⟩ := hb
  have hlk := c_lacks (O := O) (k := 3) hx hin h6 (by omega) (by omega)
  rw [if_pos hp] at hlk
  have hnum := c_Row_number (O := O) hin pl 3 (by omega) (by omega)
  rw [if_pos hp] at hnum
  generalize htd : nb b pl 3 = td at *
  have htl : td < 16777216 := by rw [← htd]; exact nb_lt (k := 3) (fun i hi => hin.b (by omega))
  generalize hkd : td / 2 % 4 = kind
  generalize hnn : td / 8 = nn
  have hkind : kind < 4 := by omega
  have ek : (nI td >>> ((1 : Int32) &&& 31)) &&& (3 : Int32) = nI kind := by
    rw [show (1 : Int32) &&& 31 = nI 1 &&& 31 from rfl, nI_shr (by omega) (by omega), ← hkd]
    exact pk_andN (by omega) 2 (by decide)
  have en : nI td >>> ((3 : Int32) &&& 31) = nI nn := by
    rw [show (3 : Int32) &&& 31 = nI 3 &&& 31 from rfl, nI_shr (by omega) (by omega), ← hnn]
  -- the block is counted
  generalize hA1 : w_i M (X + 69) 3 (z_i M (X + 69) 3 + 1) = A1
  have hF1 : zFC A1 X cN b hc tb0 tb1 tb2 mo fs v c cb dc db d done := by rw [← hA1]; exact h.w69 (by omega)
  have stA : zSt (fun q => q = X + 69) M A1 := by rw [← hA1]; exact zSt.rf.wi (by exact rfl)
  have kpA : zKp X M A1 := by rw [← hA1]; exact zKp.rf.wi (Or.inl (by rw [k69]; omega))
  generalize hB1 : w_i M2 m 36 (z_i M2 m 36 + 1) = B1
  have rfB : zRf (fun f => f = 36) sN m M2 B1 := by rw [← hB1]; exact zRf.rf.wf (by exact rfl)
  have hG1 : zFM B1 m cN b hc tb0 tb1 tb2 mo fs v c cb dc db d done := h2.rf rfB (fun f hf => by omega) (fun _ _ h => h)
  have haA : zAr A1 B1 X m := by
    rw [← hA1, ← hB1]
    refine ⟨?_, ?_, ?_⟩
    · rw [w_i_ne _ _ (by omega), w_i_ne _ _ (by omega)]; exact ha.1
    · rw [w_i_eq, w_i_eq, ha.2.1]
    · rw [w_i_ne _ _ (by omega), w_i_ne _ _ (by omega)]; exact ha.2.2
  have x1 := hF1.1
  have m1 := hG1.1
  have mkB := m1.k
  have e28 : z_i B1 m 28 = nI pl := by rw [rfB.f (by omega)]; exact h28
  have e6 : z_i A1 (X + 73) 6 = nI pl := by rw [stA.i (by omega)]; exact h6
  have a73 := x1.k73
  have a69 := x1.k69
  have a70 := x1.k70
  have q2 := x1.p73_2
  have q3 := x1.p73_3
  have q0 := x1.p73_0
  have inA := hF1.2.1
  obtain ⟨bs0, ctA⟩ := hF1.2.2.2.2.2.2.2.1
  have hmost := c_mostOfBlock (O := O) ctA
  have hmb := mbS_le v
  have rfBe : zRf fRe (sRm m) m M2 B1 := rfB.mono (fun f hf => by unfold fRe; omega) (fun _ h => absurd h id)
  have stAd : zSt (sRd X) M A1 := stA.mono (fun q hq => by unfold sRd; omega)
  have rowA := hF1.2.2.2.2.2.2.2.2.1
  have abA : ∀ {P Q : zM}, zSt (fun q => q = X + 69 ∨ q = X + 70 ∨ q = X + 73) A1 P → zOf (X + 69) (fun _ => False) A1 P → zRf (fun f => f = 28) sN m B1 Q → zAb P Q X m := fun {P Q} s o r => by
    refine ⟨⟨?_, ?_, ?_⟩, ?_, ?_⟩
    · rw [(o 2 (fun h => h)).1, r.f (by omega)]; exact haA.1
    · rw [(o 3 (fun h => h)).1, r.f (by omega)]; exact haA.2.1
    · rw [(o 5 (fun h => h)).1, r.f (by omega)]; exact haA.2.2
    · rw [(o 4 (fun h => h)).1, r.f (by omega)]; exact hF1.2.2.2.2.2.2.2.2.2.2.2.1.trans hG1.2.2.2.2.2.2.2.2.2.2.2.2.2.2.2.symm
    · rw [s.i (by omega), r.f (by omega)]; exact rowA.2.2.2.2.1.trans hG1.2.2.2.2.2.2.2.2.2.2.1.symm
  -- both sides up to where the kind is looked at
  have toC : ∀ {α : Int32 × zM}, zEv (fun n => if nI kind = (3 : Int32) then
      (F_Rep_fail O n (X + 69) (nI 5) (nI pl) A1).bind fun q34 =>
      if q34.1 = 0 ∨ q34.1 = 1 then
      some (q34.1, q34.2)
      else none
      else
      if nI nn ≤ nI (mbS v) then
      if nI kind = (1 : Int32) then
      f_FR_block_115 O n (X + 73) (nI td) (nI kind) (nI nn) (nI (pl + 3)) (nI (pl + 3)) (1 : Int32) A1
      else
      f_FR_block_115 O n (X + 73) (nI td) (nI kind) (nI nn) (nI (pl + 3)) (nI (pl + 3)) (nI nn) A1
      else
      (F_Rep_fail O n (X + 69) (nI 6) (nI pl) A1).bind fun q29 =>
      if q29.1 = 0 ∨ q29.1 = 1 then
      some (q29.1, q29.2)
      else none) α → zEv (fun n => F_FR_block O n (X + 73) M) α := fun {α} hα => by
    unfold F_FR_block f_FR_block_0
    refine zEv.ip k73 (zEv.bind hlk (zEv.ip rfl (zEv.ip k73 ?_)))
    dsimp only
    rw [p0, h6]
    refine zEv.ip k1 (zEv.bind hnum ?_)
    dsimp only
    rw [lN_i]
    refine zEv.zl (zEv.ip k73 ?_)
    rw [p2]
    refine zEv.ip k69 ?_
    rw [hA1, ek, en]
    refine zEv.zl (zEv.zl (zEv.zl ?_))
    rw [q2, e6]
    by_cases c3 : kind = 3
    · refine zEv.ip (by rw [c3]; rfl) (zEv.ip a69 ?_)
      refine hα.to fun n => ?_
      rw [if_pos (by rw [c3]; rfl)]
      rfl
    · have n3 : ¬ nI kind = (3 : Int32) := fun w => c3 ((nI_eq (b := 3) (by omega) (by omega)).mp w)
      refine zEv.in_ n3 ?_
      rw [q3]
      refine zEv.ip a70 (zEv.bind hmost ?_)
      refine hα.to fun n => ?_
      rw [if_neg n3]
      simp only [a73, a69, q2, e6, if_true, zlet, show (3 : Int32) = nI 3 from rfl, nI_add]
      rfl
  have toM : ∀ {α : Int32 × zM}, zEv (fun n => if nI kind = (3 : Int32) then
      (F_Mo_wrong O n m (nI 5) (nI pl) B1).bind fun q25 =>
      if q25.1 = 0 ∨ q25.1 = 1 then
      some (q25.1, q25.2)
      else none
      else
      if nI nn ≤ nI (mbS v) then
      if nI kind = (1 : Int32) then
      f_Mo_block_88 O n m (nI pl) (nI kind) (nI nn) (1 : Int32) (w_i B1 m 28 (nI (pl + 3)))
      else
      f_Mo_block_88 O n m (nI pl) (nI kind) (nI nn) (nI nn) (w_i B1 m 28 (nI (pl + 3)))
      else
      (F_Mo_wrong O n m (nI 6) (nI pl) B1).bind fun q20 =>
      if q20.1 = 0 ∨ q20.1 = 1 then
      some (q20.1, q20.2)
      else none) α → zEv (fun n => F_Mo_block O n m M2) α := fun {α} hα => by
    have hn2 := c_Mo_number (O := O) (hG1.2.1.in_ m1) pl 3 (by omega) (by omega)
    rw [htd] at hn2
    have e1 : nI td / (2 : Int32) - nI td / (2 : Int32) / (4 : Int32) * (4 : Int32) = nI kind := by
      rw [show (2 : Int32) = nI 2 from rfl, show (4 : Int32) = nI 4 from rfl, q_div (by omega) (by omega) (by omega), q_div (by omega) (by omega) (by omega), pk_mul, q_rem, hkd]
    have e2 : nI td / (8 : Int32) = nI nn := by rw [show (8 : Int32) = nI 8 from rfl, q_div (by omega) (by omega) (by omega), hnn]
    have m32 := hG1.2.2.2.2.2.2.2.2.1
    unfold F_Mo_block f_Mo_block_0
    refine zEv.ip mk (zEv.zl ?_)
    rw [hB1]
    refine zEv.zl ?_
    rw [e28]
    refine zEv.bind hn2 ?_
    dsimp only
    rw [lN_i]
    refine zEv.zl ?_
    rw [e1, e2]
    refine zEv.zl (zEv.zl (hα.to fun n => ?_))
    simp only [mkB, if_true, m32, e28, show (3 : Int32) = nI 3 from rfl, nI_add, zlet]
    rfl
  have cfail : ∀ {f q : Nat} {P : zM}, z_k P (X + 69) = 8 → zEv (fun n => (F_Rep_fail O n (X + 69) (nI f) (nI q) P).bind fun q15 => if q15.1 = 0 ∨ q15.1 = 1 then some (q15.1, q15.2) else none) (0, fl X P f q) := fun {f q P} h => zEv.bind (c_fail h) (zEv.some _)
  have mfail : ∀ {f q : Nat} {P : zM}, z_k P m = 13 → zEv (fun n => (F_Mo_wrong O n m (nI f) (nI q) P).bind fun q5 => if q5.1 = 0 ∨ q5.1 = 1 then some (q5.1, q5.2) else none) (0, flm m P f q) := fun {f q P} r => zEv.bind (c_wrong r) (zEv.some _)
  by_cases c3 : kind = 3
  · refine Or.inl ⟨5, pl, A1, B1, by omega, by omega, toC (zEv.ip (by rw [c3]; rfl) (cfail a69)), toM (zEv.ip (by rw [c3]; rfl) (mfail mkB)), stAd, kpA, rfBe, abA zSt.rf zOf.rf zRf.rf, c, cb, rowA⟩
  have n3 : ¬ nI kind = (3 : Int32) := fun w => c3 ((nI_eq (b := 3) (by omega) (by omega)).mp w)
  by_cases c6 : mbS v < nn
  · have i6 : ¬ nI nn ≤ nI (mbS v) := fun w => by have := (nI_leI (by omega) (by omega)).mp w; omega
    refine Or.inl ⟨6, pl, A1, B1, by omega, by omega, toC (zEv.in_ n3 (zEv.in_ i6 (cfail a69))), toM (zEv.in_ n3 (zEv.in_ i6 (mfail mkB))), stAd, kpA, rfBe, abA zSt.rf zOf.rf zRf.rf, c, cb, rowA⟩
  have i6 : nI nn ≤ nI (mbS v) := (nI_leI (by omega) (by omega)).mpr (by omega)
  generalize hby : (if kind = 1 then 1 else nn) = by_
  have hbyl : by_ ≤ 131072 := by rw [← hby]; split <;> omega
  have to115 : ∀ {α : Int32 × zM}, zEv (fun n => f_FR_block_115 O n (X + 73) (nI td) (nI kind) (nI nn) (nI (pl + 3)) (nI (pl + 3)) (nI by_) A1) α → zEv (fun n => F_FR_block O n (X + 73) M) α := fun {α} hα => by
    refine toC (zEv.in_ n3 (zEv.ip i6 ?_))
    by_cases c1 : kind = 1
    · rw [← hby, if_pos c1] at hα
      exact zEv.ip (by rw [c1]; rfl) hα
    · rw [← hby, if_neg c1] at hα
      exact zEv.in_ (fun w => c1 ((nI_eq (b := 1) (by omega) (by omega)).mp w)) hα
  have to88 : ∀ {α : Int32 × zM}, zEv (fun n => f_Mo_block_88 O n m (nI pl) (nI kind) (nI nn) (nI by_) (w_i B1 m 28 (nI (pl + 3)))) α → zEv (fun n => F_Mo_block O n m M2) α := fun {α} hα => by
    refine toM (zEv.in_ n3 (zEv.ip i6 ?_))
    by_cases c1 : kind = 1
    · rw [← hby, if_pos c1] at hα
      exact zEv.ip (by rw [c1]; rfl) hα
    · rw [← hby, if_neg c1] at hα
      exact zEv.in_ (fun w => c1 ((nI_eq (b := 1) (by omega) (by omega)).mp w)) hα
  generalize hB2 : w_i B1 m 28 (nI (pl + 3)) = B2 at to88
  have rf2 : zRf (fun f => f = 28) sN m B1 B2 := by rw [← hB2]; exact zRf.rf.wf (by exact rfl)
  have hG2 := hG1.rf rf2 (fun f hf => by omega) (fun _ _ h => h)
  have mkB2 := hG2.1.k
  have e282 : z_i B2 m 28 = nI (pl + 3) := by rw [← hB2]; exact w_i_eq _ _ _ _
  have hhas := c_has (O := O) (k := by_) hG2.1 hG2.2.1 e282 hp (by omega)
  have rf2e : zRf fRe (sRm m) m M2 B2 := rfBe.tr (rf2.mono (fun f hf => by unfold fRe; omega) (fun _ h => absurd h id))
  by_cases ct : pl + 3 + by_ ≤ cN
  · -- all bytes are there
    have hh := hhas.1 ct
    obtain ⟨hF2, ctB⟩ := hF1.w70
    generalize hA2 : w_i A1 (X + 70) 4 (nI c) = A2 at hF2 ctB
    have stA2 : zSt (fun q => q = X + 70) A1 A2 := by rw [← hA2]; exact zSt.rf.wi (by exact rfl)
    have kpA2 : zKp X A1 A2 := by rw [← hA2]; exact zKp.rf.wi (Or.inl (by rw [a70]; omega))
    have x2 := hF2.1
    have c73 := x2.k73
    have c70 := x2.k70
    have c69 := x2.k69
    have c74 := x2.k74
    have c71 := x2.k71
    have c1 := x2.k1
    have s0 := x2.p73_0
    have s2 := x2.p73_2
    have s3 := x2.p73_3
    have s4 := x2.p73_4
    have s5 := x2.p73_5
    have s700 := x2.p70_0
    have p700 := x1.p70_0
    have a71 := x1.k71
    have hsb : zEv (fun n => F_Content_startBlock O n (X + 70) A1) ((), A2) := by
      refine (zEv.some _).to fun n => ?_
      unfold F_Content_startBlock f_Content_startBlock_0
      rw [if_pos a70, p700, if_pos a71, rowA.2.2.2.2.1, ← hA2]
      rfl
    have kpC := kpA.tr kpA2
    have stC : zSt (sRb X) M A2 := (stA.mono (fun q hq => by unfold sRb; omega)).tr (stA2.mono (fun q hq => by unfold sRb; omega))
    have e62 : z_i A2 (X + 73) 6 = nI pl := by rw [stA2.i (by omega)]; exact e6
    have toC2 : ∀ {α : Int32 × zM}, zEv (fun n => if (2 : Int32) ≤ nI kind then
        cPk O n X (nI td) (nI (pl + 3 + by_)) (nI (pl + 3)) (nI (mbS v)) A2
        else
        (F_FR_plain O n (X + 73) (nI kind) (nI nn) A2).bind fun q23 =>
        f_FR_block_203 O n (X + 73) (nI td) (nI (pl + 3 + by_)) q23.1 q23.2) α → zEv (fun n => F_FR_block O n (X + 73) M) α := fun {α} hα => by
      refine to115 ?_
      unfold f_FR_block_115
      rw [nI_add]
      refine zEv.zl (zEv.ip a73 ?_)
      rw [q0, inA.2.2.2.2.1, q3]
      refine zEv.ip inA.1 (zEv.ip ((nI_leI (by omega) (by omega)).mpr ct) (zEv.ip a70 (zEv.bind hsb ?_)))
      dsimp only
      have hmost2 := c_mostOfBlock (O := O) ctB
      by_cases c2 : 2 ≤ kind
      · have i2 : (2 : Int32) ≤ nI kind := (nI_leI (a := 2) (by omega) (by omega)).mpr c2
        refine zEv.ip i2 (zEv.ip c73 ?_)
        rw [s3]
        refine zEv.ip c70 (zEv.bind hmost2 ?_)
        dsimp only
        rw [s4]
        refine zEv.ip c74 (hα.to fun n => ?_)
        rw [if_pos i2]
        rfl
      · have i2 : ¬ (2 : Int32) ≤ nI kind := fun w => c2 ((nI_leI (a := 2) (by omega) (by omega)).mp w)
        refine zEv.in_ i2 (zEv.ip c73 (hα.to fun n => ?_))
        rw [if_neg i2]
    have to88b : ∀ {α : Int32 × zM}, zEv (fun n => if nI kind = (2 : Int32) then
        (F_Mo_packed O n m (nI (pl + 3 + by_)) B2).bind fun q11 =>
        if q11.1 = 0 then
        some ((0 : Int32), q11.2)
        else
        f_Mo_block_207 O n m (nI (pl + 3 + by_)) q11.2
        else
        if nI nn ≤ nI (mo - c) then
        f_Mo_block_151 O n m (nI kind) (nI nn) (nI (pl + 3 + by_)) (nI 0) B2
        else
        (F_Mo_wrong O n m (nI 7) (nI pl) B2).bind fun q7 =>
        if q7.1 = 0 ∨ q7.1 = 1 then
        some (q7.1, q7.2)
        else none) α → zEv (fun n => F_Mo_block O n m M2) α := fun {α} hα => by
      have m29 := hG2.2.2.2.2.2.2.1
      have m30 := hG2.2.2.2.2.2.2.2.2.2.2.1
      refine to88 ?_
      unfold f_Mo_block_88
      refine zEv.ip mkB2 (zEv.bind hh (zEv.in_ (show ¬ (1 : Int32) = 0 by decide) (zEv.ip mkB2 (zEv.zl ?_))))
      dsimp only
      rw [e282, nI_add, m29, m30, pk_sub b2]
      exact hα
    by_cases c2 : kind = 2
    · have hby2 : by_ = nn := by rw [← hby, if_neg (by omega)]
      have haA2 : zAr A2 B2 X m := by
        refine ⟨?_, ?_, ?_⟩
        · rw [stA2.i (by omega), rf2.f (by omega)]; exact haA.1
        · rw [stA2.i (by omega), rf2.f (by omega)]; exact haA.2.1
        · rw [stA2.i (by omega), rf2.f (by omega)]; exact haA.2.2
      have i2 : (2 : Int32) ≤ nI kind := (nI_leI (a := 2) (by omega) (by omega)).mpr (by omega)
      have j2 : nI kind = (2 : Int32) := by rw [c2]; rfl
      rcases j_pack (O := O) (td := td) (fr := pl + 3) (to := pl + 3 + by_) hO hF2 ctB hG2 ⟨b1, b2, b3, b4, bd⟩ e282 (by omega) ct haA2 with z | z
      · exact Or.inl (z.to (stC.mono (fun q hq => sRb_d hq)) kpC rf2e (fun h => toC2 (zEv.ip i2 h)) (fun h => to88b (zEv.ip j2 (zEv.bind h (zEv.ip rfl (zEv.some _))))))
      · obtain ⟨hc', tb0', tb1', tb2', c', cb', d', done', M', M2', z1, z2, z3, z4, z5, z6, z7, z8, z9⟩ := z
        have mk' := z8.1.k
        have z3' : zSt (sRb X) A2 M' := z3
        have r7 : zRf (fun f => f = 28) sN m M2' (w_i M2' m 28 (nI (pl + 3 + by_))) := zRf.rf.wf (by exact rfl)
        refine Or.inr ⟨hc', tb0', tb1', tb2', c', cb', d', done', pl + 3 + by_, M', w_i M2' m 28 (nI (pl + 3 + by_)), fun α hα => toC2 (zEv.ip i2 (z1 α hα)), to88b (zEv.ip j2 (zEv.bind z2 (zEv.in_ (show ¬ (1 : Int32) = 0 by decide) ?_))), stC.tr z3', kpC.tr z4, (rf2e.tr (z6.mono (fun f hf => fRd_e hf) (fun _ h => h))).tr (r7.mono (fun f hf => by unfold fRe; omega) (fun _ h => absurd h id)), z7, z8.rf r7 (fun f hf => by omega) (fun _ _ h => h), z9, ⟨?_, ?_, ?_⟩, ?_, w_i_eq _ _ _ _, by omega, ct⟩
        · unfold f_Mo_block_207
          exact zEv.ip mk' (zEv.some _)
        · rw [(z5 2 (by omega)).1, r7.f (by omega), z6.f (by unfold fRd; omega)]; exact haA2.1
        · rw [(z5 3 (by omega)).1, r7.f (by omega), z6.f (by unfold fRd; omega)]; exact haA2.2.1
        · rw [(z5 5 (by omega)).1, r7.f (by omega), z6.f (by unfold fRd; omega)]; exact haA2.2.2
        · rw [(z5 0 (by omega)).1, stA2.i (by omega), ← hA1, w_i_ne _ _ (by omega)]
    · -- plain bytes
      have hk2 : kind < 2 := by omega
      have i2 : ¬ (2 : Int32) ≤ nI kind := fun w => by have := (nI_leI (a := 2) (by omega) (by omega)).mp w; omega
      have j2 : ¬ nI kind = (2 : Int32) := fun w => c2 ((nI_eq (b := 2) (by omega) (by omega)).mp w)
      have f9 := hF2.2.2.2.2.2.2.2.2.1
      have f2 := hF2.2.1
      have g1 := hG2.1
      have g2 := hG2.2.1
      have g11 := hG2.2.2.2.2.2.2.2.2.2.2.1
      have g12 := hG2.2.2.2.2.2.2.2.2.2.2.2.1
      have om := c_overMost (O := O) (k := nn) ctB f9 b2 b3 (by omega)
      by_cases c7 : mo - c < nn
      · rw [if_neg (by omega)] at om
        have plain : zEv (fun n => F_FR_plain O n (X + 73) (nI kind) (nI nn) A2) (0, fl X A2 7 pl) := by
          unfold F_FR_plain f_FR_plain_0
          refine zEv.ip c73 ?_
          rw [s3]
          refine zEv.ip c70 (zEv.bind om (zEv.in_ (show ¬ (1 : Int32) = 0 by decide) (zEv.ip c73 ?_)))
          dsimp only
          rw [s2, e62]
          exact zEv.ip c69 (cfail c69)
        refine Or.inl ⟨7, pl, A2, B2, by omega, by omega, toC2 (zEv.in_ i2 (zEv.bind plain ?_)), to88b (zEv.in_ j2 (zEv.in_ (fun w => by have := (nI_leI (by omega) (by omega)).mp w; omega) (mfail mkB2))), stC.mono (fun q hq => sRb_d hq), kpC, rf2e, abA (stA2.mono (fun q hq => by omega)) (zOf.rf.st stA2 (by omega)) rf2, c, cb, f9⟩
        unfold f_FR_block_203
        exact zEv.ip rfl (zEv.some _)
      · rw [if_pos (by omega)] at om
        have fin : ∀ {cb' : Nat → Nat} {P : zM}, zEv (fun n => F_FR_plain O n (X + 73) (nI kind) (nI nn) A2) (1, P) → zSt (zS2 (X + 71) (X + 72)) A2 P → zRow P (X + 71) (X + 72) 32768 (c + nn) cb' → (∀ j, j < c → cb' j = cb j) → (∀ i, i < nn → cb' (c + i) = if kind = 1 then b (pl + 3) else b (pl + 3 + i)) → ∃ hc' tb0' tb1' tb2' c' cb' d' done' to M' M2', (∀ α, zEv (fun n => f_FR_block_203 O n (X + 73) (nI td) (nI to) (nI 1) M') α → zEv (fun n => F_FR_block O n (X + 73) M) α) ∧ zEv (fun n => F_Mo_block O n m M2) (1, M2') ∧ zSt (sRb X) M M' ∧ zKp X M M' ∧ zRf fRe (sRm m) m M2 M2' ∧ zFC M' X cN b hc' tb0' tb1' tb2' mo fs v c' cb' dc db d' done' ∧ zFM M2' m cN b hc' tb0' tb1' tb2' mo fs v c' cb' dc db d' done' ∧ zBd fs c' mo v d' ∧ zAr M' M2' X m ∧ z_i M' (X + 69) 0 = z_i M (X + 69) 0 ∧ z_i M2' m 28 = nI to ∧ pl + 3 ≤ to ∧ to ≤ cN := fun {cb' P} hpl sp rp h1 h2 => by
          obtain ⟨Q, l1, l2, l3, l4⟩ := l_blk151 (O := O) (m := m) (cN := cN) (at_ := pl + 3) (n := nn) (kind := kind) (y := nI (pl + 3 + by_)) (b := b) (cb := cb') hk2 (by omega) (by
            rw [← hby] at ct
            by_cases w : kind = 1
            · rw [if_pos w] at ct ⊢; omega
            · rw [if_neg w] at ct ⊢; omega) nn 0 c B2 (by omega) (by omega) g1 g2 e282 g11 (fun j hj => by rw [h1 j hj]; exact g12 j hj) (fun i hi => by rw [h2 i hi])
          have mkQ := (l2.mo g1).k
          have r7 : zRf (fun f => f = 28 ∨ f = 30) (fun q => q = m + 22) m B2 (w_i Q m 28 (nI (pl + 3 + by_))) := (l2.mono (fun f hf => Or.inr hf) (fun _ h => h)).wf (Or.inl rfl)
          have kpP : zKp X A2 P := sp.row f9 rp ⟨by unfold zNs; omega, by unfold zNs; omega⟩
          refine ⟨hc, tb0, tb1, tb2, c + nn, cb', d, done, pl + 3 + by_, P, w_i Q m 28 (nI (pl + 3 + by_)), fun α hα => toC2 (zEv.in_ i2 (zEv.bind hpl hα)), to88b (zEv.in_ j2 (zEv.ip ((nI_leI (by omega) (by omega)).mpr (by omega)) (l1 _ ?_))), stC.tr (sp.mono (fun q hq => by unfold zS2 at hq; unfold sRb; omega)), kpC.tr kpP, rf2e.tr (r7.mono (fun f hf => by unfold fRe; omega) (fun q hq => by unfold sRm; omega)), ?_, ?_, ⟨by omega, by omega, b3, b4, bd⟩, ⟨?_, ?_, ?_⟩, ?_, w_i_eq _ _ _ _, by omega, ct⟩
          · unfold f_Mo_block_207
            exact zEv.ip mkQ (zEv.some _)
          · exact hF2.row ctB sp rp kpP
          · exact hG2.row r7 (by rw [w_i_ne _ _ (by omega)]; exact l3) (fun j hj => by rw [w_i_ne _ _ (by omega)]; exact l4 j hj)
          · rw [sp.i (by unfold zS2; omega), stA2.i (by omega), r7.f (by omega), rf2.f (by omega)]; exact haA.1
          · rw [sp.i (by unfold zS2; omega), stA2.i (by omega), r7.f (by omega), rf2.f (by omega)]; exact haA.2.1
          · rw [sp.i (by unfold zS2; omega), stA2.i (by omega), r7.f (by omega), rf2.f (by omega)]; exact haA.2.2
          · rw [sp.i (by unfold zS2; omega), stA2.i (by omega), ← hA1, w_i_ne _ _ (by omega)]
        right
        by_cases c0 : kind = 0
        · have hb0 : by_ = nn := by rw [← hby, if_neg (by omega)]
          obtain ⟨P, u1, u2, u3⟩ := c_putPart (O := O) (fr := pl + 3) (k := nn) f9 f2 (by omega) (by omega) (by rw [Nat.min_eq_left (by omega)]; omega)
          rw [Nat.min_eq_left (by omega)] at u3
          refine fin (P := P) ?_ u2 u3 (fun j hj => ext_lo hj) (fun i hi => by rw [ext_hi, if_neg (by omega)])
          unfold F_FR_plain f_FR_plain_0
          refine zEv.ip c73 ?_
          rw [s3]
          refine zEv.ip c70 (zEv.bind om (zEv.ip rfl (zEv.ip (by rw [c0]; rfl) (zEv.ip c73 ?_))))
          dsimp only
          rw [s3, s700, s0, e62, show (3 : Int32) = nI 3 from rfl, nI_add]
          refine zEv.ip c70 (zEv.ip c71 (zEv.bind u1 ?_))
          exact zEv.some _
        · have c1k : kind = 1 := by omega
          have hb1 : by_ = 1 := by rw [← hby, if_pos c1k]
          have hat := c_Row_at (O := O) (k := pl + 3) f2 (by omega)
          rw [if_pos (by omega)] at hat
          obtain ⟨P, u1, u2, u3⟩ := c_putTimes (O := O) (v := b (pl + 3)) (x := nI (b (pl + 3))) (k := nn) f9 (f2.b (by omega)) rfl (by omega)
          rw [Nat.min_eq_left (by omega)] at u3
          refine fin (P := P) ?_ u2 u3 (fun j hj => ext_lo hj) (fun i hi => by rw [ext_hi, if_pos c1k])
          unfold F_FR_plain f_FR_plain_0
          refine zEv.ip c73 ?_
          rw [s3]
          refine zEv.ip c70 (zEv.bind om (zEv.ip rfl (zEv.in_ (fun w => c0 ((nI_eq (b := 0) (by omega) (by omega)).mp w)) (zEv.ip c73 ?_))))
          dsimp only
          rw [s3, s700, s0, e62, show (3 : Int32) = nI 3 from rfl, nI_add]
          refine zEv.ip c70 (zEv.ip c1 (zEv.bind hat (zEv.ip c71 (zEv.bind u1 ?_))))
          exact zEv.some _
  · have hh := hhas.2 ct
    refine Or.inl ⟨1, cN, A1, B2, by omega, by omega, to115 ?_, to88 ?_, stAd, kpA, rf2e, abA zSt.rf zOf.rf rf2, c, cb, rowA⟩
    · unfold f_FR_block_115
      rw [nI_add]
      refine zEv.zl (zEv.ip a73 ?_)
      rw [q0, inA.2.2.2.2.1]
      refine zEv.ip inA.1 (zEv.in_ (fun w => ct ((nI_leI (by omega) (by omega)).mp w)) (zEv.bind (c_endsWithin x1 inA) (zEv.some _)))
    · unfold f_Mo_block_88
      exact zEv.ip mkB2 (zEv.bind hh (zEv.ip rfl (zEv.some _)))
