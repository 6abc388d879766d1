/-! A block: both sides together. -/
theorem zHc.of {S : Nat → Prop} {M M1 : zM} {X : Nat} {hc : Option (Nat × (Nat → Nat))} (h : zHc M X hc) (o : zOf (X + 74) (fun f => f = 8) M M1) (g : zSt S M M1) (hS : ∀ q, X ≤ q → q ≤ X + 30 ∨ (X + 76 ≤ q ∧ q ≤ X + 86) → ¬ S q) : zHc M1 X hc := h.st (o 6 (by omega)).1 (o 5 (by omega)).2.1 g hS
theorem zMH.rf' {F S : Nat → Prop} {M M1 : zM} {m : Nat} {hc : Option (Nat × (Nat → Nat))} (h : zMH M m hc) (g : zRf F S m M M1) (hF : ¬ F 13) (h8 : ¬ S (m + 8)) (h9 : ¬ S (m + 9)) : zMH M1 m hc := h.rf g hF h8 h9
theorem zTC.sto {S : Nat → Prop} {X k : Nat} {M M' : zM} {tb : Option tbT} (h : zTC M X k tb) (g : zSt S M M') (h95 : ¬ S (X + 95)) (h94 : ¬ S (X + 94)) (hS : ∀ q, (X + 33 ≤ q ∧ q ≤ X + 68) ∨ (X + 97 ≤ q ∧ q ≤ X + 132) → ¬ S q) (hk : k < 3) : zTC M' X k tb := by
  cases tb with
  | none => exact (g.i h95 k).trans h
  | some q => exact zTC.st h g h95 h94 hS hk
theorem zMTb.rfo {F S : Nat → Prop} {M M1 : zM} {m k : Nat} {tb : Option tbT} (h : zMTb M m k tb) (g : zRf F S m M M1) (hS : ∀ q, m + 11 ≤ q → q ≤ m + 14 → ¬ S q) : zMTb M1 m k tb := by
  cases tb with
  | none => exact (g.i (by omega) (hS _ (by omega) (by omega)) k).trans h
  | some q => exact zMTb.rf h g hS
theorem liS_ok {b : Nat → Nat} {fr to mb cnt beh : Nat} {lb : Nat → Nat} {hc hc' : Option (Nat × (Nat → Nat))} (h : liS b fr to mb hc = .inr (cnt, lb, beh, hc')) : cnt ≤ mb ∧ beh ≤ to := by
  unfold liS at h
  by_cases c1 : to ≤ fr
  · rw [if_pos c1] at h; cases h
  rw [if_neg c1] at h
  by_cases c2 : to < fr + wdS (b fr % 4) (b fr / 4 % 4)
  · rw [if_pos c2] at h; cases h
  rw [if_neg c2] at h
  generalize b fr % 4 = kind at h
  generalize b fr / 4 % 4 = form at h
  generalize ctS b fr kind form = ct at h
  generalize bhS b fr kind form = bh at h
  unfold liR at h
  by_cases c3 : mb < ct ∨ (1 < kind ∧ 0 < form ∧ ct < 3 * ((ct + 3) / 4))
  · rw [if_pos c3] at h; cases h
  rw [if_neg c3] at h
  by_cases c4 : kind = 3 ∧ hc.isNone = true
  · rw [if_pos c4] at h; cases h
  rw [if_neg c4] at h
  by_cases c5 : to < bh
  · rw [if_pos c5] at h; cases h
  rw [if_neg c5] at h
  by_cases c6 : kind < 2
  · rw [if_pos c6] at h
    cases h
    omega
  rw [if_neg c6] at h
  by_cases c7 : kind = 2
  · rw [if_pos c7] at h
    cases hd : dsS b (fr + wdS kind form) bh with
    | none => rw [hd] at h; cases h
    | some q =>
      obtain ⟨t, w, nx⟩ := q
      rw [hd] at h
      dsimp only at h
      cases hs : stS t w b nx bh ct form with
      | inl e => rw [hs] at h; cases h
      | inr g => rw [hs] at h; cases h; omega
  · rw [if_neg c7] at h
    cases hc with
    | none => cases h
    | some q =>
      obtain ⟨t, w⟩ := q
      dsimp only at h
      cases hs : stS t w b (fr + wdS kind form) bh ct form with
      | inl e => rw [hs] at h; cases h
      | inr g => rw [hs] at h; cases h; omega
theorem stS_f {t nx beh cnt form f pl : Nat} {w b : Nat → Nat} (h : stS t w b nx beh cnt form = .inl (f, pl)) : f = 14 := by
  unfold stS at h
  by_cases c0 : form = 0
  · rw [if_pos c0] at h
    cases hd : dec t w b nx beh cnt with
    | none => rw [hd] at h; cases h; rfl
    | some g => rw [hd] at h; cases h
  rw [if_neg c0] at h
  by_cases c1 : beh < nx + 6
  · rw [if_pos c1] at h; cases h; rfl
  rw [if_neg c1] at h
  by_cases c2 : beh < nx + 6 + nb b nx 2 + nb b (nx + 2) 2 + nb b (nx + 4) 2
  · rw [if_pos c2] at h; cases h; rfl
  rw [if_neg c2] at h
  cases h1 : dec t w b (nx + 6) (nx + 6 + nb b nx 2) ((cnt + 3) / 4) with
  | none => rw [h1] at h; cases h; rfl
  | some g1 =>
    rw [h1] at h
    dsimp only at h
    cases h2 : dec t w b (nx + 6 + nb b nx 2) (nx + 6 + nb b nx 2 + nb b (nx + 2) 2) ((cnt + 3) / 4) with
    | none => rw [h2] at h; cases h; rfl
    | some g2 =>
      rw [h2] at h
      dsimp only at h
      cases h3 : dec t w b (nx + 6 + nb b nx 2 + nb b (nx + 2) 2) (nx + 6 + nb b nx 2 + nb b (nx + 2) 2 + nb b (nx + 4) 2) ((cnt + 3) / 4) with
      | none => rw [h3] at h; cases h; rfl
      | some g3 =>
        rw [h3] at h
        dsimp only at h
        cases h4 : dec t w b (nx + 6 + nb b nx 2 + nb b (nx + 2) 2 + nb b (nx + 4) 2) beh (cnt - 3 * ((cnt + 3) / 4)) with
        | none => rw [h4] at h; cases h; rfl
        | some g4 => rw [h4] at h; cases h
theorem liS_f {b : Nat → Nat} {fr to mb f pl : Nat} {hc : Option (Nat × (Nat → Nat))} (h : liS b fr to mb hc = .inl (f, pl)) : f ≠ 0 ∧ f ≤ 20 := by
  unfold liS at h
  by_cases c1 : to ≤ fr
  · rw [if_pos c1] at h; cases h; omega
  rw [if_neg c1] at h
  by_cases c2 : to < fr + wdS (b fr % 4) (b fr / 4 % 4)
  · rw [if_pos c2] at h; cases h; omega
  rw [if_neg c2] at h
  generalize b fr % 4 = kind at h
  generalize b fr / 4 % 4 = form at h
  generalize ctS b fr kind form = ct at h
  generalize bhS b fr kind form = bh at h
  unfold liR at h
  by_cases c3 : mb < ct ∨ (1 < kind ∧ 0 < form ∧ ct < 3 * ((ct + 3) / 4))
  · rw [if_pos c3] at h; cases h; omega
  rw [if_neg c3] at h
  by_cases c4 : kind = 3 ∧ hc.isNone = true
  · rw [if_pos c4] at h; cases h; omega
  rw [if_neg c4] at h
  by_cases c5 : to < bh
  · rw [if_pos c5] at h; cases h; omega
  rw [if_neg c5] at h
  by_cases c6 : kind < 2
  · rw [if_pos c6] at h; cases h
  rw [if_neg c6] at h
  by_cases c7 : kind = 2
  · rw [if_pos c7] at h
    cases hd : dsS b (fr + wdS kind form) bh with
    | none => rw [hd] at h; cases h; omega
    | some q =>
      obtain ⟨t, w, nx⟩ := q
      rw [hd] at h
      dsimp only at h
      cases hs : stS t w b nx bh ct form with
      | inl e =>
        obtain ⟨f', pl'⟩ := e
        have := stS_f hs
        rw [hs] at h; cases h; omega
      | inr g => rw [hs] at h; cases h
  · rw [if_neg c7] at h
    cases hc with
    | none => cases h; omega
    | some q =>
      obtain ⟨t, w⟩ := q
      dsimp only at h
      cases hs : stS t w b (fr + wdS kind form) bh ct form with
      | inl e =>
        obtain ⟨f', pl'⟩ := e
        have := stS_f hs
        rw [hs] at h; cases h; omega
      | inr g => rw [hs] at h; cases h
/-- the class's text of a packed block -/
def cPk (O : zO) (n X : Nat) (td to fr mb : Int32) (M : zM) : Option (Int32 × zM) :=
  (F_Lit_take O n (X + 74) fr to mb M).bind fun q13 =>
  if q13.1 = 0 then
  f_FR_block_202 O n (X + 73) td to q13.2
  else
  if z_k q13.2 (X + 73) = 5 then
  if z_k q13.2 (z_p q13.2 (X + 73) 4) = 7 then
  if z_k q13.2 (z_p q13.2 (X + 73) 5) = 10 then
  (F_Seq_take O n (z_p q13.2 (X + 73) 5) fr (z_i q13.2 (z_p q13.2 (X + 73) 4) 9) to q13.2).bind fun q18 =>
  if q18.1 = 0 then
  f_FR_block_202 O n (X + 73) td to q18.2
  else
  f_FR_block_203 O n (X + 73) td to (1 : Int32) q18.2
  else none
  else none
  else none
-- packed: literals and sequences
set_option maxRecDepth 100000 in
set_option maxHeartbeats 4000000 in
theorem j_pack {O : zO} {M M2 : zM} {X m cN fr to td mo fs v c dc done : Nat} {b cb db : Nat → Nat} {hc : Option (Nat × (Nat → Nat))} {tb0 tb1 tb2 : Option tbT} {d : Nat × Nat × Nat} (hO : zTabOk O) (h : zFC M X cN b hc tb0 tb1 tb2 mo fs v c cb dc db d done) (hbs : zCt M (X + 70) (X + 71) (X + 6) mo fs c v) (h2 : zFM M2 m cN b hc tb0 tb1 tb2 mo fs v c cb dc db d done) (hb : zBd fs c mo v d) (h28 : z_i M2 m 28 = nI fr) (hfr : fr ≤ to) (hto : to ≤ cN) (ha : zAr M M2 X m) :
    jBd X m M M2 (fun n => cPk O n X (nI td) (nI to) (nI fr) (nI (mbS v)) M) (fun n => F_Mo_packed O n m (nI to) M2) ∨
    (∃ hc' tb0' tb1' tb2' c' cb' d' done' M' M2', (∀ α, zEv (fun n => f_FR_block_203 O n (X + 73) (nI td) (nI to) (nI 1) M') α → zEv (fun n => cPk O n X (nI td) (nI to) (nI fr) (nI (mbS v)) M) α) ∧ zEv (fun n => F_Mo_packed O n m (nI to) M2) (1, M2') ∧ zSt (fun q => sRd X q ∧ q ≠ X + 73) M M' ∧ zKp X M M' ∧ zOf (X + 69) (fun f => f = 4) M M' ∧ zRf fRd (sRm m) m M2 M2' ∧ zFC M' X cN b hc' tb0' tb1' tb2' mo fs v c' cb' dc db d' done' ∧ zFM M2' m cN b hc' tb0' tb1' tb2' mo fs v c' cb' dc db d' done' ∧ zBd fs c' mo v d') := by
  obtain ⟨hx, hin, hH, T0, T1, T2, hkn, -, hrow, hdic, hlt, h4, c0, lb0, hl0⟩ := h
  obtain ⟨hm, hi2, hMH, U0, U1, U2, m29, m31, m32, m38, m30, mcb, m5, mdb, mlt, m37⟩ := h2
  obtain ⟨b1, b2, b3, b4, b5, b6, b7, b8, b9, b10⟩ := hb
  have hmb := mbS_le v
  have mk := hm.k
  have hc9 := hin.cN
  have hdc := hdic.cN
  -- the literals
  obtain ⟨M1, s1, kp1, r1⟩ := c_Lit_take (O := O) (fr := fr) (to := to) (mb := mbS v) hx hin hl0 hH hmb hto (by omega)
  have q42 : zRf fRd (sRm m) m M2 (w_i M2 m 42 (nI 0)) := zRf.rf.wf (by unfold fRd; omega)
  obtain ⟨N1, s2, r2⟩ := c_readLiterals (O := O) (M := w_i M2 m 42 (nI 0)) (fr := fr) (to := to) (mb := mbS v) (hc := hc) (q42.mo hm) (hi2.rf q42 (by unfold fRd; omega) (by unfold sRm; omega)) (by rw [w_i_ne _ _ (by omega)]; exact h28) (by rw [w_i_ne _ _ (by omega)]; exact m32) (w_i_eq _ _ _ _) (by
      have rr : zRf (fun f => f = 42) sN m M2 (w_i M2 m 42 (nI 0)) := zRf.rf.wf (by exact rfl)
      exact hMH.rf rr (by omega) (fun h => h) (fun h => h)) hmb hto (by omega)
  have fLR : zRf fRd (sRm m) m M2 N1 := q42.tr (s2.mono (fun f hf => by unfold fL fD fDe at hf; unfold fRd; omega) (fun q hq => by unfold sLm sD at hq; unfold sRm; omega))
  have x1 := hx.kp kp1
  have hmN := fLR.mo hm
  have mkN := hmN.k
  have stR : zSt (sRd X) M M1 := s1.mono (fun q hq => by unfold sLT at hq; unfold sRd; omega)
  have n30 : z_i N1 m 30 = nI c := by rw [s2.f (by unfold fL fD fDe; omega), w_i_ne _ _ (by omega)]; exact m30
  have n37 : z_i N1 m 37 = nI done := by rw [s2.f (by unfold fL fD fDe; omega), w_i_ne _ _ (by omega)]; exact m37
  have of69 : zOf (X + 69) (fun f => f = 4) M M1 := zOf.rf.st s1 (by unfold sLT; omega)
  have toM : ∀ {α : Int32 × zM}, zEv (fun n => (F_Mo_readLiterals O n m (nI to) (w_i M2 m 42 (nI 0))).bind fun q7 => if q7.1 = 0 then some ((0 : Int32), q7.2) else if z_k q7.2 m = 13 then rP1 O n m (nI to) (nI fr) q7.2 else none) α → zEv (fun n => F_Mo_packed O n m (nI to) M2) α := fun {α} hα => by
    unfold F_Mo_packed f_Mo_packed_0
    refine zEv.ip mk (zEv.zl (zEv.zl ?_))
    rw [h28]
    exact hα
  cases hl : liS b fr to (mbS v) hc with
  | inl e =>
    obtain ⟨f, pl⟩ := e
    rw [hl] at r1 r2
    obtain ⟨f1, f2⟩ := liS_f hl
    refine Or.inl (jBad.bd (mo := mo) ⟨f, pl, c, done, M1, N1, f1, f2, (by unfold cPk f_FR_block_202 f_FR_block_203; exact zEv.bind r1 (zEv.ip rfl (zEv.ip rfl (zEv.some _)))), toM (zEv.bind r2 (zEv.ip rfl (zEv.some _))), stR, kp1, of69, fLR, b2, ⟨cb, hrow.st s1 (by unfold sLT; omega) (by unfold sLT; omega)⟩, n30, ?_, n37⟩ ha)
    rw [(s1.i (by unfold sLT; omega) 4)]
    exact h4
  | inr e =>
  obtain ⟨cnt, lb, beh, hc'⟩ := e
  rw [hl] at r1 r2
  obtain ⟨r11, r12, r13, r14, r15, r16⟩ := r1
  obtain ⟨r21, r22, r23, r24, r25⟩ := r2
  obtain ⟨l1, l2⟩ := liS_ok hl
  have hin1 := hin.st s1 (by unfold sLT; omega) (by unfold sLT; omega)
  have sT : ∀ {tb : Option tbT} {k : Nat}, k < 3 → zTC M X k tb → zTC M1 X k tb := fun {tb k} hk h => h.sto s1 (by unfold sLT; omega) (by unfold sLT; omega) (fun q hq => by unfold sLT; omega) hk
  have kn1 : ∀ k, k < 3 → zTB M1 (X + 97 + 12 * k) (kno k) (kn k) := fun k hk => (hkn k hk).st s1 (by unfold sLT; omega) (by unfold sLT; omega) (by unfold sLT; omega) (by unfold sLT; omega)
  have ct1 := hbs.st s1 (by unfold sLT; omega)
  have row1 := hrow.st s1 (by unfold sLT; omega) (by unfold sLT; omega)
  have dic1 := hdic.st s1 (by unfold sLT; omega) (by unfold sLT; omega)
  have lt1 := hlt.st s1 (by unfold sLT; omega)
  have h41 : z_i M1 (X + 69) 4 = nI done := by rw [s1.i (by unfold sLT; omega)]; exact h4
  have w42 : zRf (fun f => f = 42) sN m M2 (w_i M2 m 42 (nI 0)) := zRf.rf.wf (by exact rfl)
  have mU : ∀ {tb : Option tbT} {k : Nat}, zMTb M2 m k tb → zMTb N1 m k tb := fun {tb k} h => (h.rfo w42 (fun _ _ _ h => h)).rfo s2 (fun q h1 h2 => by unfold sLm sD; omega)
  have iN := hi2.rf fLR (by unfold fRd; omega) (by unfold sRm; omega)
  have F : ∀ f, f = 29 ∨ f = 31 ∨ f = 32 ∨ f = 5 → z_i N1 m f = z_i M2 m f := fun f hf => by rw [s2.f (by unfold fL fD fDe; omega), w_i_ne _ _ (by omega)]
  have G : ∀ q j, q = m + 22 ∨ q = m + 3 → z_i N1 q j = z_i M2 q j := fun q j hq => by rw [s2.i (by omega) (by unfold sLm sD; omega), w_i_ne _ _ (by omega)]
  obtain ⟨d0, d1, d2⟩ := d
  have mlt1 : zLt N1 (m + 15) (d0, d1, d2) := (mlt.rf w42 (by omega) (fun h => h)).rf s2 (by omega) (by unfold sLm sD; omega)
  have w43 : zRf (fun f => f = 43) sN m N1 (w_i N1 m 43 (nI 0)) := zRf.rf.wf (by exact rfl)
  have mc : zMc (w_i N1 m 43 (nI 0)) m cnt 0 mo fs v c dc lb cb db (d0, d1, d2) := by
    refine ⟨?_, w_i_eq _ _ _ _, fun j hj => ?_, ?_, ?_, ?_, ?_, ?_, fun j hj => ?_, ?_, fun j hj => ?_, mlt1.rf w43 (by omega) (fun h => h)⟩
    · rw [w_i_ne _ _ (by omega)]; exact r22
    · rw [w_i_ne _ _ (by omega)]; exact r23 j hj
    · rw [w_i_ne _ _ (by omega), F _ (by omega)]; exact m29
    · rw [w_i_ne _ _ (by omega), F _ (by omega)]; exact m31
    · rw [w_i_ne _ _ (by omega), F _ (by omega)]; exact m32
    · show z_j N1 m 38 = lN v
      rw [s2.g (by unfold fL fD fDe; omega)]; exact m38
    · rw [w_i_ne _ _ (by omega)]; exact n30
    · rw [w_i_ne _ _ (by omega), G _ _ (by omega)]; exact mcb j hj
    · rw [w_i_ne _ _ (by omega), F _ (by omega)]; exact m5
    · rw [w_i_ne _ _ (by omega), G _ _ (by omega)]; exact mdb j hj
  have a73 := x1.k73
  have a74 := x1.k74
  have a89 := x1.k89
  have p734 := x1.p73_4
  have p735 := x1.p73_5
  have clq : ∀ {y : Int32} {x : zM}, zEv (fun n => F_Seq_take O n (X + 89) (nI fr) (nI beh) (nI to) M1) (y, x) → ∀ {α : Int32 × zM}, zEv (fun n => if y = 0 then f_FR_block_202 O n (X + 73) (nI td) (nI to) x else f_FR_block_203 O n (X + 73) (nI td) (nI to) (1 : Int32) x) α → zEv (fun n => cPk O n X (nI td) (nI to) (nI fr) (nI (mbS v)) M) α := fun {y x} h {α} hα => by
    unfold cPk
    refine zEv.bind r11 (zEv.in_ (show ¬ (1 : Int32) = 0 by decide) (zEv.ip a73 ?_))
    dsimp only
    rw [p734, p735, r15]
    refine zEv.ip a74 (zEv.ip a89 (zEv.bind h hα))
  have clq0 : ∀ {x : zM}, zEv (fun n => F_Seq_take O n (X + 89) (nI fr) (nI beh) (nI to) M1) (0, x) → zEv (fun n => cPk O n X (nI td) (nI to) (nI fr) (nI (mbS v)) M) (0, x) := fun {x} h => by
    refine clq h (zEv.ip rfl ?_)
    unfold f_FR_block_202 f_FR_block_203
    exact zEv.ip rfl (zEv.some _)
  have mlq : ∀ {α : Int32 × zM}, zEv (fun n => rP1 O n m (nI to) (nI fr) N1) α → zEv (fun n => F_Mo_packed O n m (nI to) M2) α := fun {α} h => toM (zEv.bind r21 (zEv.in_ (show ¬ (1 : Int32) = 0 by decide) (zEv.ip mkN h)))
  rcases j_take (O := O) (lp := fr) (fr := beh) (to := to) hO x1 hin1 (sT (by omega) T0) (sT (by omega) T1) (sT (by omega) T2) kn1 (many := cnt) (lb := lb) ⟨r13, r14, r12, ct1, row1, dic1, lt1⟩ h41 hmN iN (mU U0) (mU U1) (mU U2) mc n37 r24 l1 b1 rfl b2 b3 hdc b4 l2 hto b5 b6 b7 b8 b9 b10 with z | z
  · exact Or.inl ((z.to stR kp1 of69 fLR (fun h => clq0 h) (fun h => mlq h)).bd ha)
  obtain ⟨tb0', tb1', tb2', c', cb', e0, e1, e2, done', M', M2', z1, z2, z3, z4, z5, z6, z7, z8, z9, z10, z11, z12, z13, z14, z15, z16, z17, z18, z19, z20, z21, z22, z23, z24, z25, z26⟩ := z
  have stF : zSt (fun q => sRd X q ∧ q ≠ X + 73) M M' := (s1.mono (fun q hq => by unfold sLT at hq; unfold sRd; omega)).tr (z3.mono (fun q hq => by unfold sPk sSeq sTa at hq; unfold sRd; omega))
  have kpF := kp1.tr z4
  have rfF : zRf fRd (sRm m) m M2 M2' := fLR.tr (z7.mono (fun f hf => by unfold fPk fSeq fB fS fTb at hf; unfold fRd; omega) (fun q hq => by unfold sPm sS sTm zTS at hq; unfold sRm; omega))
  obtain ⟨y1, y2, y3, y4, y5, y6, y7⟩ := z15
  obtain ⟨k1, k2, k3, k4, k5, k6, k7, k8, k9, k10, k11, k12⟩ := z16
  refine Or.inr ⟨hc', tb0', tb1', tb2', c', cb', (e0, e1, e2), done', M', M2', fun α hα => clq z1 (zEv.in_ (show ¬ (1 : Int32) = 0 by decide) hα), mlq z2, stF, kpF, of69.tr z6, rfF, ⟨hx.kp kpF, hin.st stF (by unfold sRd; omega) (by unfold sRd; omega), ?_, z8, z9, z10, z11, ⟨c, y4⟩, y5, y6, y7, z17, 0, lb, zLr.of y3⟩, ⟨rfF.mo hm, hi2.rf rfF (by unfold fRd; omega) (by unfold sRm; omega), ?_, z12, z13, z14, k4, k5, k6, k7, k8, k9, k10, k11, k12, z18⟩, by omega, z20, b3, b4, z21, z22, z23, z24, z25, z26⟩
  · exact r16.of z5 z3 (fun q h1 h2 => by unfold sPk sSeq sTa; omega)
  · exact r25.rf z7 (by unfold fPk fSeq fB fS fTb; omega) (by unfold sPm sS sTm zTS; omega) (by unfold sPm sS sTm zTS; omega)

