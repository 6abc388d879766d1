/-! Plain bytes: both sides together. -/
theorem zFC.w69 {M : zM} {X cN mo fs v c dc done f : Nat} {x : Int32} {b cb db : Nat → Nat} {hc : Option (Nat × (Nat → Nat))} {tb0 tb1 tb2 : Option tbT} {d : Nat × Nat × Nat} (h : zFC M X cN b hc tb0 tb1 tb2 mo fs v c cb dc db d done) (hf : f ≠ 4) : zFC (w_i M (X + 69) f x) X cN b hc tb0 tb1 tb2 mo fs v c cb dc db d done := by
  obtain ⟨a1, a2, a3, a4, a5, a6, a7, ⟨bs, a8⟩, a9, a10, a11, a12, c0, lb0, a13⟩ := h
  have st : zSt (fun q => q = X + 69) M (w_i M (X + 69) f x) := zSt.rf.wi (by exact rfl)
  have k69 := a1.k69
  exact ⟨a1.kp (zKp.rf.wi (Or.inl (by rw [k69]; omega))), a2.st st (by omega) (by omega), a3.st (st.i (by omega) _) (st.p (by omega) _) st (fun q h1 h2 => by omega), a4.sto st (by omega) (by omega) (fun q hq => by omega) (by omega), a5.sto st (by omega) (by omega) (fun q hq => by omega) (by omega), a6.sto st (by omega) (by omega) (fun q hq => by omega) (by omega), fun k hk => (a7 k hk).st st (by omega) (by omega) (by omega) (by omega), ⟨bs, a8.st st (by omega)⟩, a9.st st (by omega) (by omega), a10.st st (by omega) (by omega), a11.st st (by omega), by rw [w_i_ne _ _ (fun w => hf w.2.symm)]; exact a12, c0, lb0, a13.st st (by omega) (by omega)⟩
theorem zFC.w70 {M : zM} {X cN mo fs v c dc done : Nat} {b cb db : Nat → Nat} {hc : Option (Nat × (Nat → Nat))} {tb0 tb1 tb2 : Option tbT} {d : Nat × Nat × Nat} (h : zFC M X cN b hc tb0 tb1 tb2 mo fs v c cb dc db d done) : zFC (w_i M (X + 70) 4 (nI c)) X cN b hc tb0 tb1 tb2 mo fs v c cb dc db d done ∧ zCt (w_i M (X + 70) 4 (nI c)) (X + 70) (X + 71) (X + 6) mo fs c v := by
  obtain ⟨a1, a2, a3, a4, a5, a6, a7, ⟨bs, a8⟩, a9, a10, a11, a12, c0, lb0, a13⟩ := h
  have st : zSt (fun q => q = X + 70) M (w_i M (X + 70) 4 (nI c)) := zSt.rf.wi (by exact rfl)
  have k70 := a1.k70
  have ct : zCt (w_i M (X + 70) 4 (nI c)) (X + 70) (X + 71) (X + 6) mo fs c v := by
    obtain ⟨u1, u2, u3, u4, u5, u6, u7⟩ := a8
    exact ⟨u1, u2, u3, by rw [w_i_ne _ _ (by omega)]; exact u4, by rw [w_i_ne _ _ (by omega)]; exact u5, w_i_eq _ _ _ _, u7⟩
  exact ⟨⟨a1.kp (zKp.rf.wi (Or.inl (by rw [k70]; omega))), a2.st st (by omega) (by omega), a3.st (st.i (by omega) _) (st.p (by omega) _) st (fun q h1 h2 => by omega), a4.sto st (by omega) (by omega) (fun q hq => by omega) (by omega), a5.sto st (by omega) (by omega) (fun q hq => by omega) (by omega), a6.sto st (by omega) (by omega) (fun q hq => by omega) (by omega), fun k hk => (a7 k hk).st st (by omega) (by omega) (by omega) (by omega), ⟨c, ct⟩, a9.st st (by omega) (by omega), a10.st st (by omega) (by omega), a11.st st (by omega), by rw [w_i_ne _ _ (by omega)]; exact a12, c0, lb0, a13.st st (by omega) (by omega)⟩, ct⟩
theorem zFM.rf {F S : Nat → Prop} {M M1 : zM} {m cN mo fs v c dc done : Nat} {b cb db : Nat → Nat} {hc : Option (Nat × (Nat → Nat))} {tb0 tb1 tb2 : Option tbT} {d : Nat × Nat × Nat} (h : zFM M m cN b hc tb0 tb1 tb2 mo fs v c cb dc db d done) (g : zRf F S m M M1) (hF : ∀ f, f = 1 ∨ f = 13 ∨ f = 29 ∨ f = 31 ∨ f = 32 ∨ f = 38 ∨ f = 30 ∨ f = 5 ∨ f = 37 → ¬ F f) (hS : ∀ q, q = m + 1 ∨ q = m + 3 ∨ q = m + 8 ∨ q = m + 9 ∨ (m + 11 ≤ q ∧ q ≤ m + 15) ∨ q = m + 22 → ¬ S q) : zFM M1 m cN b hc tb0 tb1 tb2 mo fs v c cb dc db d done := by
  obtain ⟨a1, a2, a3, a4, a5, a6, a7, a8, a9, a10, a11, a12, a13, a14, a15, a16⟩ := h
  exact ⟨g.mo a1, a2.rf g (hF _ (by omega)) (hS _ (by omega)), a3.rf g (hF _ (by omega)) (hS _ (by omega)) (hS _ (by omega)), a4.rfo g (fun q h1 h2 => hS q (by omega)), a5.rfo g (fun q h1 h2 => hS q (by omega)), a6.rfo g (fun q h1 h2 => hS q (by omega)), (g.f (hF _ (by omega))).trans a7, (g.f (hF _ (by omega))).trans a8, (g.f (hF _ (by omega))).trans a9, (g.g (hF _ (by omega))).trans a10, (g.f (hF _ (by omega))).trans a11, fun j hj => (g.i (by omega) (hS _ (by omega)) j).trans (a12 j hj), (g.f (hF _ (by omega))).trans a13, fun j hj => (g.i (by omega) (hS _ (by omega)) j).trans (a14 j hj), a15.rf g (by omega) (hS _ (by omega)), (g.f (hF _ (by omega))).trans a16⟩
theorem zFC.row {M P : zM} {X cN mo fs bs v c c' dc done : Nat} {b cb cb' db : Nat → Nat} {hc : Option (Nat × (Nat → Nat))} {tb0 tb1 tb2 : Option tbT} {d : Nat × Nat × Nat} (h : zFC M X cN b hc tb0 tb1 tb2 mo fs v c cb dc db d done) (ctB : zCt M (X + 70) (X + 71) (X + 6) mo fs bs v) (sp : zSt (zS2 (X + 71) (X + 72)) M P) (rp : zRow P (X + 71) (X + 72) 32768 c' cb') (kp : zKp X M P) : zFC P X cN b hc tb0 tb1 tb2 mo fs v c' cb' dc db d done := by
  obtain ⟨f1, f2, f3, f4, f5, f6, f7, f8, f9, f10, f11, f12, g0, glb, f13⟩ := h
  exact ⟨f1.kp kp, f2.st sp (by unfold zS2; omega) (by unfold zS2; omega), f3.st (sp.i (by unfold zS2; omega) _) (sp.p (by unfold zS2; omega) _) sp (fun q h1 h2 => by unfold zS2; omega), f4.sto sp (by unfold zS2; omega) (by unfold zS2; omega) (fun q hq => by unfold zS2; omega) (by omega), f5.sto sp (by unfold zS2; omega) (by unfold zS2; omega) (fun q hq => by unfold zS2; omega) (by omega), f6.sto sp (by unfold zS2; omega) (by unfold zS2; omega) (fun q hq => by unfold zS2; omega) (by omega), fun k hk => (f7 k hk).st sp (by unfold zS2; omega) (by unfold zS2; omega) (by unfold zS2; omega) (by unfold zS2; omega), ⟨bs, ctB.st sp (by unfold zS2; omega)⟩, rp, f10.st sp (by unfold zS2; omega) (by unfold zS2; omega), f11.st sp (by unfold zS2; omega), by rw [sp.i (by unfold zS2; omega)]; exact f12, g0, glb, f13.st sp (by unfold zS2; omega) (by unfold zS2; omega)⟩
theorem zFM.row {M Q : zM} {m cN mo fs v c c' dc done : Nat} {b cb cb' db : Nat → Nat} {hc : Option (Nat × (Nat → Nat))} {tb0 tb1 tb2 : Option tbT} {d : Nat × Nat × Nat} (h : zFM M m cN b hc tb0 tb1 tb2 mo fs v c cb dc db d done) (r7 : zRf (fun f => f = 28 ∨ f = 30) (fun q => q = m + 22) m M Q) (e30 : z_i Q m 30 = nI c') (el : ∀ j, j < c' → z_i Q (m + 22) j = nI (cb' j)) : zFM Q m cN b hc tb0 tb1 tb2 mo fs v c' cb' dc db d done := by
  obtain ⟨g1, g2, g3, g4, g5, g6, g7, g8, g9, g10, g11, g12, g13, g14, g15, g16⟩ := h
  exact ⟨r7.mo g1, g2.rf r7 (by omega) (by omega), g3.rf r7 (by omega) (by omega) (by omega), g4.rfo r7 (fun q h1 h2 => by omega), g5.rfo r7 (fun q h1 h2 => by omega), g6.rfo r7 (fun q h1 h2 => by omega), (r7.f (by omega)).trans g7, (r7.f (by omega)).trans g8, (r7.f (by omega)).trans g9, (r7.g (by omega)).trans g10, e30, el, (r7.f (by omega)).trans g13, fun j hj => (r7.i (by omega) (by omega) j).trans (g14 j hj), g15.rf r7 (by omega) (by omega), (r7.f (by omega)).trans g16⟩
-- plain bytes
set_option maxRecDepth 100000 in
set_option maxHeartbeats 4000000 in
theorem j_plain {O : zO} {A B : zM} {X m cN pl mo fs v c dc done kind nn by_ : Nat} {b cb db : Nat → Nat} {hc : Option (Nat × (Nat → Nat))} {tb0 tb1 tb2 : Option tbT} {d : Nat × Nat × Nat} (hF : zFC A X cN b hc tb0 tb1 tb2 mo fs v c cb dc db d done) (hG : zFM B m cN b hc tb0 tb1 tb2 mo fs v c cb dc db d done) (ctB : zCt A (X + 70) (X + 71) (X + 6) mo fs c v) (hcm : c ≤ mo) (hmo : mo ≤ 32768) (hk : kind < 2) (hn : nn < 2000000) (hby : by_ = if kind = 1 then 1 else nn) (ct : pl + 3 + by_ ≤ cN) (e6 : z_i A (X + 73) 6 = nI pl) (e28 : z_i B m 28 = nI (pl + 3)) :
    (mo - c < nn ∧ zEv (fun n => F_FR_plain O n (X + 73) (nI kind) (nI nn) A) (0, fl X A 7 pl)) ∨
    (¬ mo - c < nn ∧ ∃ cb' P Q, zEv (fun n => F_FR_plain O n (X + 73) (nI kind) (nI nn) A) (1, P) ∧ (∀ α, zEv (fun q => f_Mo_block_207 O q m (nI (pl + 3 + by_)) Q) α → zEv (fun q => f_Mo_block_151 O q m (nI kind) (nI nn) (nI (pl + 3 + by_)) (nI 0) B) α) ∧ zSt (zS2 (X + 71) (X + 72)) A P ∧ zKp X A P ∧ zRf (fun f => f = 30) (fun q => q = m + 22) m B Q ∧ zFC P X cN b hc tb0 tb1 tb2 mo fs v (c + nn) cb' dc db d done ∧ zFM Q m cN b hc tb0 tb1 tb2 mo fs v (c + nn) cb' dc db d done) := by
  have x2 := hF.1
  have c73 := x2.k73
  have c70 := x2.k70
  have c69 := x2.k69
  have c71 := x2.k71
  have c1 := x2.k1
  have s0 := x2.p73_0
  have s2 := x2.p73_2
  have s3 := x2.p73_3
  have s700 := x2.p70_0
  have f9 := hF.2.2.2.2.2.2.2.2.1
  have f2 := hF.2.1
  have hcN := f2.cN
  have g1 := hG.1
  have g2 := hG.2.1
  have g11 := hG.2.2.2.2.2.2.2.2.2.2.1
  have g12 := hG.2.2.2.2.2.2.2.2.2.2.2.1
  have om := c_overMost (O := O) (k := nn) ctB f9 hcm hmo (by omega)
  by_cases c7 : mo - c < nn
  · rw [if_neg (by omega)] at om
    refine Or.inl ⟨c7, ?_⟩
    unfold F_FR_plain f_FR_plain_0
    refine zEv.ip c73 ?_
    rw [s3]
    refine zEv.ip c70 (zEv.bind om (zEv.in_ (show ¬ (1 : Int32) = 0 by decide) (zEv.ip c73 ?_)))
    dsimp only
    rw [s2, e6]
    exact zEv.ip c69 (zEv.bind (c_fail c69) (zEv.ip (Or.inl rfl) (zEv.some _)))
  · rw [if_pos (by omega)] at om
    refine Or.inr ⟨c7, ?_⟩
    have fin : ∀ {cb' : Nat → Nat} {P : zM}, zEv (fun n => F_FR_plain O n (X + 73) (nI kind) (nI nn) A) (1, P) → zSt (zS2 (X + 71) (X + 72)) A P → zRow P (X + 71) (X + 72) 32768 (c + nn) cb' → (∀ j, j < c → cb' j = cb j) → (∀ i, i < nn → cb' (c + i) = if kind = 1 then b (pl + 3) else b (pl + 3 + i)) → ∃ cb' P Q, zEv (fun n => F_FR_plain O n (X + 73) (nI kind) (nI nn) A) (1, P) ∧ (∀ α, zEv (fun q => f_Mo_block_207 O q m (nI (pl + 3 + by_)) Q) α → zEv (fun q => f_Mo_block_151 O q m (nI kind) (nI nn) (nI (pl + 3 + by_)) (nI 0) B) α) ∧ zSt (zS2 (X + 71) (X + 72)) A P ∧ zKp X A P ∧ zRf (fun f => f = 30) (fun q => q = m + 22) m B Q ∧ zFC P X cN b hc tb0 tb1 tb2 mo fs v (c + nn) cb' dc db d done ∧ zFM Q m cN b hc tb0 tb1 tb2 mo fs v (c + nn) cb' dc db d done := fun {cb' P} hpl sp rp h1 h2 => by
      obtain ⟨Q, l1, l2, l3, l4⟩ := l_blk151 (O := O) (m := m) (cN := cN) (at_ := pl + 3) (n := nn) (kind := kind) (y := nI (pl + 3 + by_)) (b := b) (cb := cb') hk (by omega) (by
        rw [hby] at ct
        by_cases w : kind = 1
        · rw [if_pos w] at ct ⊢; omega
        · rw [if_neg w] at ct ⊢; omega) nn 0 c B (by omega) (by omega) g1 g2 e28 g11 (fun j hj => by rw [h1 j hj]; exact g12 j hj) (fun i hi => by rw [h2 i hi])
      have kpP : zKp X A P := sp.row f9 rp ⟨by unfold zNs; omega, by unfold zNs; omega⟩
      exact ⟨cb', P, Q, hpl, l1, sp, kpP, l2, hF.row ctB sp rp kpP, hG.row (l2.mono (fun f hf => Or.inr hf) (fun _ h => h)) l3 l4⟩
    by_cases c0 : kind = 0
    · have hb0 : by_ = nn := by rw [hby, if_neg (by omega)]
      obtain ⟨P, u1, u2, u3⟩ := c_putPart (O := O) (fr := pl + 3) (k := nn) f9 f2 (by omega) (by omega) (by rw [Nat.min_eq_left (by omega)]; omega)
      rw [Nat.min_eq_left (by omega)] at u3
      refine fin (P := P) ?_ u2 u3 (fun j hj => ext_lo hj) (fun i hi => by rw [ext_hi, if_neg (by omega)])
      unfold F_FR_plain f_FR_plain_0
      refine zEv.ip c73 ?_
      rw [s3]
      refine zEv.ip c70 (zEv.bind om (zEv.ip rfl (zEv.ip (by rw [c0]; rfl) (zEv.ip c73 ?_))))
      dsimp only
      rw [s3, s700, s0, e6, show (3 : Int32) = nI 3 from rfl, nI_add]
      refine zEv.ip c70 (zEv.ip c71 (zEv.bind u1 ?_))
      exact zEv.some _
    · have c1k : kind = 1 := by omega
      have hb1 : by_ = 1 := by rw [hby, if_pos c1k]
      have hat := c_Row_at (O := O) (k := pl + 3) f2 (by omega)
      rw [if_pos (by omega)] at hat
      obtain ⟨P, u1, u2, u3⟩ := c_putTimes (O := O) (v := b (pl + 3)) (x := nI (b (pl + 3))) (k := nn) f9 (f2.b (by omega)) rfl (by omega)
      rw [Nat.min_eq_left (by omega)] at u3
      refine fin (P := P) ?_ u2 u3 (fun j hj => ext_lo hj) (fun i hi => by rw [ext_hi, if_pos c1k])
      unfold F_FR_plain f_FR_plain_0
      refine zEv.ip c73 ?_
      rw [s3]
      refine zEv.ip c70 (zEv.bind om (zEv.ip rfl (zEv.in_ (fun w => c0 ((nI_eq (b := 0) (by omega) (by omega)).mp w)) (zEv.ip c73 ?_))))
      dsimp only
      rw [s3, s700, s0, e6, show (3 : Int32) = nI 3 from rfl, nI_add]
      refine zEv.ip c70 (zEv.ip c1 (zEv.bind hat (zEv.ip c71 (zEv.bind u1 ?_))))
      exact zEv.some _
