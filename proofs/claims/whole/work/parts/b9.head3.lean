/-! The head of a frame as a whole: both sides together. -/
/-- the class's text behind the size -/
def cHs (O : zO) (n : Nat) (X : Nat) (M : zM) : Option (Int32 × zM) :=
  if z_k M (X + 73) = 5 then
  if z_k M (z_p M (X + 73) 3) = 3 then
  (F_Content_startFrame O n (z_p M (X + 73) 3) M).bind fun q9 =>
  if z_k q9.2 (X + 73) = 5 then
  if z_k q9.2 (z_p q9.2 (X + 73) 4) = 7 then
  (F_Lit_startFrame O n (z_p q9.2 (X + 73) 4) (z_p q9.2 (X + 73) 1) q9.2).bind fun q13 =>
  if z_k q13.2 (X + 73) = 5 then
  if z_k q13.2 (z_p q13.2 (X + 73) 5) = 10 then
  (F_Seq_startFrame O n (z_p q13.2 (X + 73) 5) (z_p q13.2 (X + 73) 1) q13.2).bind fun q17 =>
  if z_k q17.2 (X + 73) = 5 then
  zlet (w_i q17.2 (X + 73) 7 (1 : Int32)) fun M20 =>
  some ((1 : Int32), M20)
  else none
  else none
  else none
  else none
  else none
  else none
  else none
set_option maxRecDepth 100000 in
set_option maxHeartbeats 4000000 in
theorem c_cHs {O : zO} {M : zM} {X cN mo c dc done id v : Nat} {b cb db : Nat → Nat} {dd : Option dkT} (h : zOC M X cN b mo c cb dc db done) (hd : zDC M X id dd) (hk : dkOk dd) (hw : z_j M (X + 70) 5 = lN (cwn v)) : ∃ M', zEv (fun n => cHs O n X M) (1, M') ∧ zSt (sRd X) M M' ∧ zKp X M M' ∧ zFC M' X cN b (hcO dd) (tbO dd 0) (tbO dd 1) (tbO dd 2) mo c v c cb dc db (ltO dd) done ∧ zOf (X + 73) (fun f => f = 7) M M' ∧ z_i M' (X + 73) 7 = nI 1 ∧ ∀ f, z_i M' (X + 69) f = z_i M (X + 69) f := by
  obtain ⟨hx, a2, a3, a4, a5, a6, a7, c0, lb0, a8⟩ := h
  have k70 := hx.k70
  have k71 := hx.k71
  have k73 := hx.k73
  have p3 := hx.p73_3
  have p70 := hx.p70_0
  have p71 := hx.p70_1
  generalize hA : w_i M (X + 70) 3 (nI c) = A
  have sA : zSt (fun q => q = X + 70) M A := by rw [← hA]; exact zSt.rf.wi (by exact rfl)
  have kA : zKp X M A := by rw [← hA]; exact zKp.rf.wi (Or.inl (by rw [k70]; omega))
  have xA := hx.kp kA
  have evA : zEv (fun n => F_Content_startFrame O n (X + 70) M) ((), A) := by
    refine (zEv.some _).to fun n => ?_
    unfold F_Content_startFrame f_Content_startFrame_0
    rw [if_pos k70, p70, if_pos k71, a5.2.2.2.2.1, ← hA]
    rfl
  obtain ⟨bs, -, ebs⟩ := wb_of32 (z_i M (X + 70) 4)
  have ctA : zCt A (X + 70) (X + 71) (X + 6) mo c bs v := ⟨xA.k70, xA.p70_0, xA.p70_1, by rw [← hA, w_i_ne _ _ (by omega)]; exact a4, by rw [← hA, w_i_eq], by rw [← hA, w_i_ne _ _ (by omega)]; exact ebs, by rw [← hA]; exact hw⟩
  obtain ⟨B, l1, l2, l3, l4⟩ := c_LitStart (O := O) xA hk (hd.st sA (fun q h1 h2 => by omega))
  have xB := xA.kp l3
  have dB := (hd.st sA (fun q h1 h2 => by omega)).st l2 (fun q h1 h2 => by omega)
  obtain ⟨C, s1, s2, s3, s4, s5⟩ := c_SeqStart (O := O) xB hk dB
  have xC := xB.kp s3
  have c73 := xC.k73
  have st3 : zSt (fun q => q = X + 70 ∨ q = X + 74 ∨ q = X + 94 ∨ q = X + 95 ∨ q = X + 91 ∨ q = X + 73) M C := ((sA.mono (fun q hq => by omega)).tr (l2.mono (fun q hq => by omega))).tr (s2.mono (fun q hq => by omega))
  have kp3 := (kA.tr l3).tr s3
  generalize hD : w_i C (X + 73) 7 (nI 1) = D
  have sCD : zSt (fun q => q = X + 73) C D := by rw [← hD]; exact zSt.rf.wi (by exact rfl)
  have kCD : zKp X C D := by rw [← hD]; exact zKp.rf.wi (Or.inl (by rw [c73]; omega))
  have stD := st3.tr (sCD.mono (fun q hq => by omega))
  have kpD := kp3.tr kCD
  refine ⟨D, ?_, stD.mono (fun q hq => by unfold sRd; omega), kpD, ⟨hx.kp kpD, a2.st stD (by omega) (by omega), ?_, (s4 0 (by omega)).sto sCD (by omega) (by omega) (fun q hq => by omega) (by omega), (s4 1 (by omega)).sto sCD (by omega) (by omega) (fun q hq => by omega) (by omega), (s4 2 (by omega)).sto sCD (by omega) (by omega) (fun q hq => by omega) (by omega), fun k hk => (a3 k hk).st stD (by omega) (by omega) (by omega) (by omega), ⟨bs, ((ctA.st l2 (by omega)).st s2 (by omega)).st sCD (by omega)⟩, a5.st stD (by omega) (by omega), a6.st stD (by omega) (by omega), s5.st sCD (by omega), (stD.i (by omega) 4).trans a7, c0, lb0, a8.st stD (by omega) (by omega)⟩, ?_, by rw [← hD, w_i_eq], fun f => stD.i (by omega) f⟩
  · unfold cHs
    refine zEv.ip k73 ?_
    rw [p3]
    refine zEv.ip k70 (zEv.bind evA (zEv.ip xA.k73 ?_))
    dsimp only
    rw [xA.p73_4, xA.p73_1]
    refine zEv.ip xA.k74 (zEv.bind l1 (zEv.ip xB.k73 ?_))
    dsimp only
    rw [xB.p73_5, xB.p73_1]
    refine zEv.ip xB.k89 (zEv.bind s1 (zEv.ip c73 (zEv.zl ?_)))
    dsimp only
    rw [show (1 : Int32) = nI 1 from rfl, hD]
    exact zEv.some _
  · exact (l4.st (s2.i (by omega) _) (s2.p (by omega) _) s2 (fun q h1 h2 => by omega)).st (sCD.i (by omega) _) (sCD.p (by omega) _) sCD (fun q h1 h2 => by omega)
  · intro f hf
    have e1 : z_i C (X + 73) f = z_i M (X + 73) f ∧ z_p C (X + 73) f = z_p M (X + 73) f ∧ z_j C (X + 73) f = z_j M (X + 73) f := by
      refine ⟨?_, ?_, ?_⟩
      · rw [s2.i (by omega), l2.i (by omega), sA.i (by omega)]
      · rw [s2.p (by omega), l2.p (by omega), sA.p (by omega)]
      · rw [s2.j (by omega), l2.j (by omega), sA.j (by omega)]
    rw [← hD]
    exact ⟨(w_i_ne _ _ (fun w => hf w.2)).trans e1.1, e1.2.1, e1.2.2⟩
set_option maxRecDepth 100000 in
set_option maxHeartbeats 4000000 in
theorem c_m326 {O : zO} {M : zM} {m cN mo c dc done id v : Nat} {hd sb sp : Int32} {due : Int64} {b cb db : Nat → Nat} {dd : Option dkT} (h : zOM M m cN b mo c cb dc db done) (hdm : zDM M m id dd) (hk : dkOk dd) (hw : z_j M m 38 = lN v) (hv : v < 18446744073709551616) : ∃ M', (∀ α, zEv (fun n => f_Mo_frame_375 O n m hd sb due sp (0 : Int32) M') α → zEv (fun n => f_Mo_frame_326 O n m hd sb due sp M) α) ∧ zRf (fun f => f = 13 ∨ f = 31 ∨ f = 32) (sBg m) m M M' ∧ zFM M' m cN b (hcO dd) (tbO dd 0) (tbO dd 1) (tbO dd 2) mo c v c cb dc db (ltO dd) done := by
  obtain ⟨hm, a2, a3, a4, a5, a6, a7, a8⟩ := h
  generalize hA : w_i M m 32 (nI (mbS v)) = A
  have rA : zRf (fun f => f = 32) sN m M A := by rw [← hA]; exact zRf.rf.wf (by exact rfl)
  have hmA := rA.mo hm
  obtain ⟨B, g1, g2, g3, g4, g5⟩ := c_beginFrame (O := O) hmA hk (hdm.rf rA (by omega) (by omega) (fun _ _ _ h => h))
  have hmB := g2.mo hmA
  have e30 : z_i B m 30 = nI c := by rw [g2.f (by omega), rA.f (by omega)]; exact a4
  generalize hC : w_i B m 31 (nI c) = C
  have rC : zRf (fun f => f = 31) sN m B C := by rw [← hC]; exact zRf.rf.wf (by exact rfl)
  have rr : zRf (fun f => f = 13 ∨ f = 31 ∨ f = 32) (sBg m) m M C := ((rA.mono (fun f hf => by omega) (fun _ h => False.elim h)).tr (g2.mono (fun f hf => by omega) (fun _ h => h))).tr (rC.mono (fun f hf => by omega) (fun _ h => False.elim h))
  refine ⟨C, fun α hα => ?_, rr, rr.mo hm, a2.rf rr (by omega) (by unfold sBg; omega), g3.rf rC (by omega) (fun h => h) (fun h => h), (g4 0 (by omega)).rfo rC (fun _ _ _ h => h), (g4 1 (by omega)).rfo rC (fun _ _ _ h => h), (g4 2 (by omega)).rfo rC (fun _ _ _ h => h), (rr.f (by omega)).trans a3, by rw [← hC, w_i_eq], ?_, (rr.g (by omega)).trans hw, (rr.f (by omega)).trans a4, fun j hj => (rr.i (by omega) (by unfold sBg; omega) j).trans (a5 j hj), (rr.f (by omega)).trans a6, fun j hj => (rr.i (by omega) (by unfold sBg; omega) j).trans (a7 j hj), g5.rf rC (by omega) (fun h => h), (rr.f (by omega)).trans a8⟩
  · have to357 : zEv (fun n => f_Mo_frame_357 O n m hd sb due sp m (nI (mbS v)) M) α := by
      unfold f_Mo_frame_357
      refine zEv.ip hm.k (zEv.zl ?_)
      rw [hA]
      refine zEv.ip hmA.k (zEv.bind g1 (zEv.ip hmB.k (zEv.zl ?_)))
      dsimp only
      rw [e30, hC]
      exact hα
    unfold f_Mo_frame_326 f_Mo_frame_347
    refine zEv.ip hm.k ?_
    rw [hw]
    by_cases c1 : v < 9223372036854775808
    · refine zEv.in_ (fun w => by rw [lg_cmp_lt, show (0 : Int64) = lN 0 from rfl, pk_lLT (by omega) (by omega)] at w; omega) ?_
      by_cases c2 : v ≤ 131072
      · have e2 : mbS v = v := by unfold mbS; split <;> omega
        refine zEv.ip (by rw [lg_cmp_le, show (131072 : Int64) = lN 131072 from rfl, pk_lLE (by omega) (by omega)]; exact c2) ?_
        rw [lN_i]
        rw [e2] at to357
        exact to357
      · have e2 : mbS v = 131072 := by unfold mbS; rw [if_neg (by omega)]
        refine zEv.in_ (fun w => c2 (by rw [lg_cmp_le, show (131072 : Int64) = lN 131072 from rfl, pk_lLE (by omega) (by omega)] at w; exact w)) ?_
        rw [e2] at to357
        exact to357
    · have e2 : mbS v = 131072 := by unfold mbS; rw [if_neg (by omega)]
      refine zEv.ip (by rw [lg_cmp_lt]; exact lN_neg (by omega) hv) ?_
      rw [e2] at to357
      exact to357
  · rw [← hC, w_i_ne _ _ (by omega), g2.f (by omega), ← hA, w_i_eq]
/-- the reference's text behind the mark -/
def rH (O : zO) (n : Nat) (m : Nat) (M2 : zM) : Option (Int32 × zM) :=
  (F_Mo_has O n m (1 : Int32) M2).bind fun q5 =>
  if q5.1 = 0 then
  some ((0 : Int32), q5.2)
  else
  if z_k q5.2 m = 13 then
  zlet (w_i q5.2 m 35 ((z_i q5.2 m 35) + (1 : Int32))) fun M8 =>
  if z_k M8 (z_p M8 m 0) = 100 then
  if zin (z_i M8 m 28) (z_n M8 (z_p M8 m 0)) = true then
  zlet (z_i M8 (z_p M8 m 0) (z_i M8 m 28).toNatClampNeg) fun v13 =>
  if ((v13 / (8 : Int32)) - (v13 / (8 : Int32)) / (2 : Int32) * (2 : Int32)) = (1 : Int32) then
  (F_Mo_wrong O n m (3 : Int32) (z_i M8 m 28) M8).bind fun q20 =>
  if q20.1 = 0 ∨ q20.1 = 1 then
  some (q20.1, q20.2)
  else none
  else
  zlet (w_i M8 m 28 ((z_i M8 m 28) + (1 : Int32))) fun M15 =>
  if ((v13 / (32 : Int32)) - (v13 / (32 : Int32)) / (2 : Int32) * (2 : Int32)) = (1 : Int32) then
  f_Mo_frame_85 O n m v13 (1 : Int32) M15
  else
  f_Mo_frame_85 O n m v13 (0 : Int32) M15
  else none
  else none
  else none
def idB (h : Nat) : Nat := if h % 4 = 3 then 4 else h % 4
/-- a frame begun: what holds then -/
def jFr (O : zO) (X m cN : Nat) (b : Nat → Nat) (mo dc : Nat) (db : Nat → Nat) (M M2 : zM) (fc fm : Nat → Option (Int32 × zM)) (p0 : Nat) : Prop :=
  ∃ hc tb0 tb1 tb2 fs v c cb d done head sb due sp p M' M2' summed sized, zEv fc (1, M') ∧ (∀ α, zEv (fun n => f_Mo_frame_375 O n m (nI head) (nI sb) (lN due) (nI sp) (0 : Int32) M2') α → zEv fm α) ∧ zSt (sRd X) M M' ∧ zKp X M M' ∧ zRf fRe (sRm m) m M2 M2' ∧ zFC M' X cN b hc tb0 tb1 tb2 mo fs v c cb dc db d done ∧ zFM M2' m cN b hc tb0 tb1 tb2 mo fs v c cb dc db d done ∧ zBd fs c mo v d ∧ zAr M' M2' X m ∧ zRd M' X p summed sized due sp ∧ z_i M' (X + 73) 7 = nI 1 ∧ z_i M' (X + 69) 0 = z_i M (X + 69) 0 ∧ z_i M2' m 28 = nI p ∧ p0 < p ∧ p ≤ cN ∧ summed = decide (head / 4 % 2 = 1) ∧ head < 256 ∧ sized = decide (0 < sb) ∧ sb < 100 ∧ due < 18446744073709551616
-- behind the window's byte
set_option maxRecDepth 100000 in
set_option maxHeartbeats 4000000 in
theorem j_122 {O : zO} {M M2 : zM} {X m cN mo c dc done id p hd sg : Nat} {b cb db : Nat → Nat} {dd : Option dkT} (h : zHP M M2 X m cN b mo c cb dc db done id dd p) (hid : id < 4294967296) (hk : dkOk dd) (hh0 : hd < 256) (hsg : sg < 2) (hw : sg = 0 → ∃ v, zWn M M2 X m v) (hc : c ≤ mo) (hmo : mo ≤ 32768) (e8 : z_i M (X + 73) 8 = nI (hd / 4 % 2)) {p0 : Nat} (hp0 : p0 < p) :
    jBd X m M M2 (fun n => f_FR_head_122 O n (X + 73) (nI hd) (nI sg) (nI (idB hd)) M) (fun n => f_Mo_frame_158 O n m (nI hd) (nI sg) M2) ∨
    jFr O X m cN b mo dc db M M2 (fun n => f_FR_head_122 O n (X + 73) (nI hd) (nI sg) (nI (idB hd)) M) (fun n => f_Mo_frame_158 O n m (nI hd) (nI sg) M2) p0 := by
  have hx := h.1.1
  have k73 := hx.k73
  have to172 : ∀ {α : Int32 × zM}, zEv (fun n => f_Mo_frame_172 O n m (nI hd) (nI sg) (nI (idB hd)) M2) α → zEv (fun n => f_Mo_frame_158 O n m (nI hd) (nI sg) M2) α := fun {α} hα => by
    unfold f_Mo_frame_158
    rw [show (4 : Int32) = nI 4 from rfl, q_div (by omega) (by omega) (by omega), pk_mul, q_rem]
    unfold idB at hα
    by_cases c3 : hd % 4 = 3
    · rw [if_pos c3] at hα
      exact zEv.ip (by rw [c3]; rfl) hα
    · rw [if_neg c3] at hα
      exact zEv.in_ (fun w => c3 ((nI_eq (b := 3) (by omega) (by omega)).mp w)) hα
  have hidB : idB hd ≤ 4 := by unfold idB; split <;> omega
  generalize idB hd = k at *
  have e6 : nI hd >>> ((6 : Int32) &&& 31) = nI (hd / 64) := nI_shr (r := 6) (by omega) (by omega)
  rcases j_id (O := O) (hd := nI hd) (l2 := nI sg) h hidB hid with z | ⟨z1, z2, z3⟩
  · left
    refine z.to zSt.rf zKp.rf zRf.rf (fun hα => ?_) (fun hα => to172 hα)
    unfold f_FR_head_122 f_FR_head_142
    exact zEv.ip k73 (zEv.bind hα (zEv.ip rfl (zEv.some _)))
  have h1 := h.step z1
  have s1 : zSt (sRd X) M (w_i M (X + 73) 6 (nI (p + k))) := zSt.rf.wi (by unfold sRd; omega)
  have kp1 : zKp X M (w_i M (X + 73) 6 (nI (p + k))) := zKp.rf.wi (Or.inl (by rw [k73]; omega))
  have r1 : zRf fRe (sRm m) m M2 (w_i M2 m 28 (nI (p + k))) := zRf.rf.wf (by unfold fRe; omega)
  have e81 : z_i (w_i M (X + 73) 6 (nI (p + k))) (X + 73) 8 = nI (hd / 4 % 2) := by rw [w_i_ne _ _ (by omega)]; exact e8
  have e01 : z_i (w_i M (X + 73) 6 (nI (p + k))) (X + 69) 0 = z_i M (X + 69) 0 := w_i_ne _ _ (by omega)
  have hw1 : sg = 0 → ∃ v, zWn (w_i M (X + 73) 6 (nI (p + k))) (w_i M2 m 28 (nI (p + k))) X m v := fun e => by
    obtain ⟨v, v1, v2, v3⟩ := hw e
    exact ⟨v, v1, v2, v3⟩
  generalize w_i M (X + 73) 6 (nI (p + k)) = P at z2 h1 s1 kp1 e81 e01 hw1
  generalize w_i M2 m 28 (nI (p + k)) = Q at z3 h1 r1 hw1
  have a73 := h1.1.1.k73
  have toS : ∀ {α : Int32 × zM}, zEv (fun n => (F_FR_sizeTold O n (X + 73) (nI (hd / 64)) (nI sg) P).bind fun q5 => if q5.1 = 0 then some ((0 : Int32), q5.2) else cHs O n X q5.2) α → zEv (fun n => f_FR_head_122 O n (X + 73) (nI hd) (nI sg) (nI k) M) α := fun {α} hα => by
    unfold f_FR_head_122 f_FR_head_142
    refine zEv.ip k73 (zEv.bind z2 (zEv.in_ (show ¬ (1 : Int32) = 0 by decide) (zEv.ip a73 ?_)))
    rw [e6]
    exact hα
  rcases j_size (O := O) h1 hh0 hsg hw1 with z | ⟨A, B, y1, y2, y3, y4, y5, y6, y7, y8, y9, y10, ⟨v, v1, v2, v3⟩, y11, y12, y13⟩
  · left
    exact z.to s1 kp1 r1 (fun hα => toS (zEv.bind hα (zEv.ip rfl (zEv.some _)))) (fun hα => to172 (z3 _ hα))
  right
  obtain ⟨C, c1, c2, c3, c4, c5, c6, c7⟩ := c_cHs (O := O) (v := v) y6.1 y6.2.2.1 hk v1
  obtain ⟨D, d1, d2, d3⟩ := c_m326 (O := O) (hd := nI hd) (sb := nI (sbS (hd / 64) sg)) (sp := nI (p + k)) (due := lN (dueS b (p + k) (sbS (hd / 64) sg))) y6.2.1 y6.2.2.2.1 hk v2 v3
  have ar := y6.2.2.2.2.1
  have e6p := y6.2.2.2.2.2.1
  have e28 := y6.2.2.2.2.2.2.1
  have hpN := y6.2.2.2.2.2.2.2
  have lt := ltO_ok hk
  refine ⟨hcO dd, tbO dd 0, tbO dd 1, tbO dd 2, c, v, c, cb, ltO dd, done, hd, sbS (hd / 64) sg, dueS b (p + k) (sbS (hd / 64) sg), p + k, p + k + sbS (hd / 64) sg, C, D, decide (hd / 4 % 2 = 1), decide (0 < sbS (hd / 64) sg), toS (zEv.bind y1 (zEv.in_ (show ¬ (1 : Int32) = 0 by decide) c1)), fun α hα => to172 (z3 _ (y2 _ (d1 α hα))), (s1.tr (y3.mono (fun q hq => sHd_d hq))).tr c2, (kp1.tr y4).tr c3, (r1.tr (y5.mono (fun f hf => fHd_e hf) (fun _ h => False.elim h))).tr (d2.mono (fun f hf => by unfold fRe; omega) (fun q hq => by unfold sBg at hq; unfold sRm; omega)), c4, d3, ⟨Nat.le_refl _, hc, hmo, v3, lt⟩, ⟨?_, ?_, ?_⟩, ⟨?_, ?_, ?_, ?_, ?_⟩, c6, ?_, ?_, by omega, hpN, rfl, hh0, rfl, by omega, y12⟩
  · rw [c7, d2.f (by omega)]; exact ar.1
  · rw [c7, d2.f (by omega)]; exact ar.2.1
  · rw [c7, d2.f (by omega)]; exact ar.2.2
  · rw [(c5 6 (by omega)).1]; exact e6p
  · rw [(c5 8 (by omega)).1, y7, e81]
    by_cases w : hd / 4 % 2 = 1
    · rw [w]; rfl
    · rw [show hd / 4 % 2 = 0 by omega]; rfl
  · rw [(c5 9 (by omega)).1, y8]
    by_cases w : 0 < sbS (hd / 64) sg
    · rw [if_pos w, decide_eq_true w]; rfl
    · rw [if_neg w, decide_eq_false w]; rfl
  · rw [(c5 10 (by omega)).2.2]; exact y9
  · rw [(c5 11 (by omega)).1]; exact y10
  · rw [c7, y11, e01]
  · rw [d2.f (by omega)]; exact e28
-- the head
set_option maxRecDepth 100000 in
set_option maxHeartbeats 4000000 in
theorem j_head {O : zO} {M M2 : zM} {X m cN mo c dc done id p : Nat} {b cb db : Nat → Nat} {dd : Option dkT} (h : zHP M M2 X m cN b mo c cb dc db done id dd p) (hid : id < 4294967296) (hk : dkOk dd) (hc : c ≤ mo) (hmo : mo ≤ 32768) :
    jBd X m M M2 (fun n => F_FR_head O n (X + 73) M) (fun n => rH O n m M2) ∨
    jFr O X m cN b mo dc db M M2 (fun n => F_FR_head O n (X + 73) M) (fun n => rH O n m M2) p := by
  have h0 := h
  obtain ⟨a1, a2, a3, a4, a5, a6, a7, a8⟩ := h
  have hx := a1.1
  have hin := a1.2.1
  have hm := a2.1
  have hi2 := a2.2.1
  have hc9 := hin.cN
  have k73 := hx.k73
  have k69 := hx.k69
  have k1 := hx.k1
  have p0 := hx.p73_0
  have p2 := hx.p73_2
  have hlk := c_lacks (O := O) (k := 1) hx hin a6 a8 (by omega)
  have hhas := c_has (O := O) (k := 1) hm hi2 a7 a8 (by omega)
  by_cases c1 : p + 1 ≤ cN
  · rw [if_pos c1] at hlk
    have hh := hhas.1 c1
    have hb := hin.b (show p < cN by omega)
    have hat := c_Row_at (O := O) (k := p) hin (by omega)
    rw [if_pos (by omega)] at hat
    have hbi := (hi2.2.2 p (by omega)).2
    generalize hA : w_i M (X + 69) 2 (z_i M (X + 69) 2 + 1) = A
    generalize hB : w_i M2 m 35 (z_i M2 m 35 + 1) = B
    have sA : zSt (fun q => q = X + 69) M A := by rw [← hA]; exact zSt.rf.wi (by exact rfl)
    have kA : zKp X M A := by rw [← hA]; exact zKp.rf.wi (Or.inl (by rw [k69]; omega))
    have rB : zRf (fun f => f = 35) sN m M2 B := by rw [← hB]; exact zRf.rf.wf (by exact rfl)
    have hpA : zHP A B X m cN b mo c cb dc db done id dd p := by
      refine ⟨a1.st sA kA (sA.i (by omega) 2) (by rw [← hA, w_i_ne _ _ (by omega)]) (fun q hq => by omega), a2.rf rB (fun f hf => by omega) (fun _ _ h => h), a3.st sA (fun q h1 h2 => by omega), a4.rf rB (by omega) (by omega) (fun _ _ _ h => h), ⟨?_, ?_, ?_⟩, (sA.i (by omega) 6).trans a6, (rB.f (by omega)).trans a7, a8⟩
      · rw [← hA, ← hB, w_i_eq, w_i_eq, a5.1]
      · rw [← hA, ← hB, w_i_ne _ _ (by omega), w_i_ne _ _ (by omega)]; exact a5.2.1
      · rw [← hA, ← hB, w_i_ne _ _ (by omega), w_i_ne _ _ (by omega)]; exact a5.2.2
    have xA := hpA.1.1
    have mB := hpA.2.1.1
    have fA : z_i A (X + 69) 0 = z_i M (X + 69) 0 := by rw [← hA, w_i_ne _ _ (by omega)]
    have sAd : zSt (sRd X) M A := sA.mono (fun q hq => by unfold sRd; omega)
    have rBe : zRf fRe (sRm m) m M2 B := rB.mono (fun f hf => by unfold fRe; omega) (fun _ h => False.elim h)
    have e28 : z_i B m 28 = nI p := hpA.2.2.2.2.2.2.1
    have e6 : z_i A (X + 73) 6 = nI p := hpA.2.2.2.2.2.1
    have bb : z_i B (m + 1) p = nI (b p) := by rw [rB.i (by omega) (fun h => h)]; exact hbi
    have a73 := xA.k73
    have a69 := xA.k69
    have q2 := xA.p73_2
    generalize b p = hd at hat bb hb
    have zi : zin (nI p) 12000 = true := of_eq_true (q_tin (by omega) (by omega))
    have ck : (nI p).toNatClampNeg = p := nI_cl (by omega)
    have toC : ∀ {α : Int32 × zM}, zEv (fun n => if nI (hd / 8 % 2 * 8) = 0 then zlet (w_i A (X + 73) 6 (nI (p + 1))) fun M14 => if nI (hd / 32 % 2 * 32) = 0 then f_FR_head_80 O n (X + 73) (nI hd) (0 : Int32) M14 else f_FR_head_80 O n (X + 73) (nI hd) (1 : Int32) M14 else (F_Rep_fail O n (X + 69) (nI 3) (nI p) A).bind fun q20 => if q20.1 = 0 ∨ q20.1 = 1 then some (q20.1, q20.2) else none) α → zEv (fun n => F_FR_head O n (X + 73) M) α := fun {α} hα => by
      unfold F_FR_head f_FR_head_0
      refine zEv.ip k73 (zEv.bind hlk (zEv.ip rfl (zEv.ip k73 ?_)))
      dsimp only
      rw [p0, a6]
      refine zEv.ip k1 (zEv.bind hat (zEv.ip k73 ?_))
      dsimp only
      rw [p2]
      refine zEv.ip k69 (zEv.zl ?_)
      rw [hA]
      refine hα.to fun n => ?_
      rw [bit8, bit32, e6, q2, show nI p + (1 : Int32) = nI (p + 1) from nI_add p 1]
      simp only [a69, if_true]
      rfl
    have toM : ∀ {α : Int32 × zM}, zEv (fun n => if nI (hd / 8 % 2) = (1 : Int32) then (F_Mo_wrong O n m (nI 3) (nI p) B).bind fun q20 => if q20.1 = 0 ∨ q20.1 = 1 then some (q20.1, q20.2) else none else zlet (w_i B m 28 (nI (p + 1))) fun M15 => if nI (hd / 32 % 2) = (1 : Int32) then f_Mo_frame_85 O n m (nI hd) (1 : Int32) M15 else f_Mo_frame_85 O n m (nI hd) (0 : Int32) M15) α → zEv (fun n => rH O n m M2) α := fun {α} hα => by
      unfold rH
      refine zEv.bind hh (zEv.in_ (show ¬ (1 : Int32) = 0 by decide) (zEv.ip hm.k (zEv.zl ?_)))
      dsimp only
      rw [hB, mB.p1, e28, ck, bb]
      refine zEv.ip mB.k1 (zEv.ip (by rw [mB.n1]; exact zi) (zEv.zl ?_))
      rw [show (8 : Int32) = nI 8 from rfl, show (2 : Int32) = nI 2 from rfl, show (32 : Int32) = nI 32 from rfl, q_div (by omega) (by omega) (by omega), q_div (by omega) (by omega) (by omega), q_div (by omega) (by omega) (by omega), q_div (by omega) (by omega) (by omega), pk_mul, pk_mul, q_rem, q_rem, show nI p + (1 : Int32) = nI (p + 1) from nI_add p 1]
      exact hα
    by_cases c8 : hd / 8 % 2 = 1
    · left
      refine (hpA.bad (f := 3) (q := p) (fc := fun n => F_FR_head O n (X + 73) M) (fm := fun n => rH O n m M2) (by omega) (by omega) (toC (zEv.in_ ?_ (zEv.bind (c_fail a69) (zEv.ip (Or.inl rfl) (zEv.some _))))) (toM (zEv.ip (by rw [c8]; rfl) (zEv.bind (c_wrong mB.k) (zEv.ip (Or.inl rfl) (zEv.some _)))))).to sAd kA rBe (fun h => h) (fun h => h)
      rw [c8]; decide
    · have h1 := hpA.step (k := 1) c1
      have s1 : zSt (sRd X) A (w_i A (X + 73) 6 (nI (p + 1))) := zSt.rf.wi (by unfold sRd; omega)
      have kp1 : zKp X A (w_i A (X + 73) 6 (nI (p + 1))) := zKp.rf.wi (Or.inl (by rw [a73]; omega))
      have r1 : zRf fRe (sRm m) m B (w_i B m 28 (nI (p + 1))) := zRf.rf.wf (by unfold fRe; omega)
      have f1 : z_i (w_i A (X + 73) 6 (nI (p + 1))) (X + 69) 0 = z_i A (X + 69) 0 := w_i_ne _ _ (by omega)
      have n8 : ¬ nI (hd / 8 % 2) = (1 : Int32) := fun w => c8 ((nI_eq (b := 1) (by omega) (by omega)).mp w)
      have z8 : nI (hd / 8 % 2 * 8) = 0 := by rw [show hd / 8 % 2 = 0 by omega]; rfl
      generalize w_i A (X + 73) 6 (nI (p + 1)) = P at toC h1 s1 kp1 f1
      generalize w_i B m 28 (nI (p + 1)) = Q at toM h1 r1
      generalize hsgd : hd / 32 % 2 = sg at *
      have hsg : sg < 2 := by omega
      have b73 := h1.1.1.k73
      -- the sum's bit
      generalize hP2 : w_i P (X + 73) 8 (nI (hd / 4 % 2)) = P2
      have s2 : zSt (sHd X) P P2 := by rw [← hP2]; exact zSt.rf.wi (Or.inr (Or.inr rfl))
      have kp2 : zKp X P P2 := by rw [← hP2]; exact zKp.rf.wi (Or.inl (by rw [b73]; omega))
      have h2 : zHP P2 Q X m cN b mo c cb dc db done id dd (p + 1) := h1.on s2 kp2 (by rw [← hP2, w_i_ne _ _ (by omega)]) (fun f hf => by rw [← hP2, w_i_ne _ _ (by omega)]) zRf.rf (by rw [← hP2, w_i_ne _ _ (by omega)]; exact h1.2.2.2.2.1.2.2) (by rw [← hP2, w_i_ne _ _ (by omega)]; exact h1.2.2.2.2.2.1) h1.2.2.2.2.2.2.1 c1
      have e8 : z_i P2 (X + 73) 8 = nI (hd / 4 % 2) := by rw [← hP2, w_i_eq]
      have f2 : z_i P2 (X + 69) 0 = z_i M (X + 69) 0 := by rw [← hP2, w_i_ne _ _ (by omega), f1, fA]
      have c73 := h2.1.1.k73
      have to110 : ∀ {α : Int32 × zM}, zEv (fun n => f_FR_head_110 O n (X + 73) (nI hd) (nI sg) (nI (idB hd)) P2) α → zEv (fun n => F_FR_head O n (X + 73) M) α := fun {α} hα => by
        have to93 : zEv (fun n => f_FR_head_93 O n (X + 73) (nI hd) (nI sg) (X + 73) (nI (hd / 4 % 2)) P) α := by
          unfold f_FR_head_93
          refine zEv.ip b73 (zEv.ip ?_ (zEv.zl ?_))
          · rcases (show hd / 4 % 2 = 0 ∨ hd / 4 % 2 = 1 by omega) with e | e
            · rw [e]; exact Or.inl rfl
            · rw [e]; exact Or.inr rfl
          · rw [hP2, show nI hd &&& (3 : Int32) = nI (hd % 4) from pk_andN (by omega) 2 (by decide)]
            unfold idB at hα
            by_cases w3 : hd % 4 = 3
            · rw [if_pos w3] at hα
              exact zEv.ip (by rw [w3]; rfl) hα
            · rw [if_neg w3] at hα
              exact zEv.in_ (fun w => w3 ((nI_eq (b := 3) (by omega) (by omega)).mp w)) hα
        have to80 : zEv (fun n => f_FR_head_80 O n (X + 73) (nI hd) (nI sg) P) α := by
          unfold f_FR_head_80
          rw [bit4]
          rcases (show hd / 4 % 2 = 0 ∨ hd / 4 % 2 = 1 by omega) with e | e
          · rw [e] at to93 ⊢
            exact zEv.ip rfl to93
          · rw [e] at to93 ⊢
            exact zEv.in_ (by decide) to93
        refine toC (zEv.ip z8 (zEv.zl ?_))
        rcases (show sg = 0 ∨ sg = 1 by omega) with e | e
        · rw [e] at to80 ⊢
          exact zEv.ip rfl to80
        · rw [e] at to80 ⊢
          exact zEv.in_ (by decide) to80
      have toM2 : ∀ {α : Int32 × zM}, zEv (fun n => f_Mo_frame_85 O n m (nI hd) (nI sg) Q) α → zEv (fun n => rH O n m M2) α := fun {α} hα => by
        refine toM (zEv.in_ n8 (zEv.zl ?_))
        rcases (show sg = 0 ∨ sg = 1 by omega) with e | e
        · rw [e] at hα ⊢
          exact zEv.in_ (by decide) hα
        · rw [e] at hα ⊢
          exact zEv.ip rfl hα
      have sAll : zSt (sRd X) M P2 := (sAd.tr s1).tr (s2.mono (fun q hq => sHd_d hq))
      have kAll : zKp X M P2 := (kA.tr kp1).tr kp2
      have rAll : zRf fRe (sRm m) m M2 Q := rBe.tr r1
      have fin : ∀ {P3 Q3 : zM} {p3 : Nat} {fc fm : Nat → Option (Int32 × zM)}, zSt (sRd X) P2 P3 → zKp X P2 P3 → zRf fRe (sRm m) m Q Q3 → z_i P3 (X + 69) 0 = z_i P2 (X + 69) 0 → (jBd X m P3 Q3 fc fm ∨ jFr O X m cN b mo dc db P3 Q3 fc fm p) → (∀ {y : Int32} {x : zM}, zEv fc (y, x) → zEv (fun n => f_FR_head_110 O n (X + 73) (nI hd) (nI sg) (nI (idB hd)) P2) (y, x)) → (∀ {α : Int32 × zM}, zEv fm α → zEv (fun n => f_Mo_frame_85 O n m (nI hd) (nI sg) Q) α) → jBd X m M M2 (fun n => F_FR_head O n (X + 73) M) (fun n => rH O n m M2) ∨ jFr O X m cN b mo dc db M M2 (fun n => F_FR_head O n (X + 73) M) (fun n => rH O n m M2) p := fun {P3 Q3 p3 fc fm} s k r f0 hz hcc hmm => by
        rcases hz with z | z
        · exact Or.inl (z.to (sAll.tr s) (kAll.tr k) (rAll.tr r) (fun h => to110 (hcc h)) (fun h => toM2 (hmm h)))
        · obtain ⟨x1, x2, x3, x4, x5, x6, x7, x8, x9, x10, x11, x12, x13, x14, x15, M', M2', x16, x17, y1, y2, y3, y4, y5, y6, y7, y8, y9, y10, y11, y12, y13⟩ := z
          exact Or.inr ⟨x1, x2, x3, x4, x5, x6, x7, x8, x9, x10, x11, x12, x13, x14, x15, M', M2', x16, x17, to110 (hcc y1), fun α hα => toM2 (hmm (y2 α hα)), (sAll.tr s).tr y3, (kAll.tr k).tr y4, (rAll.tr r).tr y5, y6, y7, y8, y9, y10, y11, y12.trans (f0.trans f2), y13⟩
      rcases (show sg = 0 ∨ sg = 1 by omega) with e | e
      · subst e
        rcases j_window (O := O) (hd := nI hd) h2 with z | ⟨v, P3, Q3, w1, w2, w3, w4, w5, w6, w7, w8, w9⟩
        · refine fin (p3 := 0) zSt.rf zKp.rf zRf.rf rfl (Or.inl (z.to zSt.rf zKp.rf zRf.rf (gc := fun n => f_FR_head_110 O n (X + 73) (nI hd) (nI 0) (nI (idB hd)) P2) (fun hα => ?_) (fun hα => hα))) (fun h => h) (fun h => h)
          unfold f_FR_head_110 f_FR_head_142
          exact zEv.ip rfl (zEv.ip c73 (zEv.bind hα (zEv.ip rfl (zEv.some _))))
        · refine fin (p3 := 0) (w3.mono (fun q hq => sHd_d hq)) w4 (w7.mono (fun f hf => fHd_e hf) (fun _ h => False.elim h)) (w6 0 (by omega)).1 (j_122 (O := O) (sg := 0) w8 hid hk hb (by omega) (fun _ => ⟨v, w9⟩) hc hmo ((w5 8 (by omega)).1.trans e8) (by omega)) (fun {y x} hα => ?_) (fun {α} hα => w2 _ hα)
          unfold f_FR_head_110
          exact zEv.ip rfl (zEv.ip c73 (zEv.bind w1 (zEv.in_ (show ¬ (1 : Int32) = 0 by decide) hα)))
      · subst e
        refine fin (p3 := 0) zSt.rf zKp.rf zRf.rf rfl (j_122 (O := O) (sg := 1) h2 hid hk hb (by omega) (fun w => absurd w (by decide)) hc hmo e8 (by omega)) (fun {y x} hα => ?_) (fun {α} hα => ?_)
        · unfold f_FR_head_110
          exact zEv.in_ (by decide) hα
        · unfold f_Mo_frame_85
          exact zEv.in_ (by decide) hα
  · left
    rw [if_neg c1] at hlk
    have hh := hhas.2 c1
    refine h0.bad (f := 1) (q := cN) (by omega) (by omega) ?_ ?_
    · unfold F_FR_head f_FR_head_0
      exact zEv.ip k73 (zEv.bind hlk (zEv.in_ (show ¬ (1 : Int32) = 0 by decide) (zEv.ip k73 (zEv.bind (c_endsWithin hx hin) (zEv.ip (Or.inl rfl) (zEv.some _))))))
    · unfold rH
      exact zEv.bind hh (zEv.ip rfl (zEv.some _))
