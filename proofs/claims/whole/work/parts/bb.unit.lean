/-! Units, and a read: both sides together. -/
set_option maxRecDepth 100000 in
set_option maxHeartbeats 4000000 in
theorem c_stands {O : zO} {M : zM} {m cN p w0 w1 w2 w3 : Nat} {b : Nat → Nat} (hm : zMo M m) (hi : zMI M m cN b) (hp : p + 4 ≤ cN) (h0 : w0 < 256) (h1 : w1 < 256) (h2 : w2 < 256) (h3 : w3 < 256) : zEv (fun n => F_Mo_stands O n m (nI p) (nI w0) (nI w1) (nI w2) (nI w3) M) (if b p = w0 ∧ b (p + 1) = w1 ∧ b (p + 2) = w2 ∧ b (p + 3) = w3 then 1 else 0, M) := by
  have hc := hi.2.1
  obtain ⟨b0, e0⟩ := hi.2.2 p (by omega)
  obtain ⟨b1, e1⟩ := hi.2.2 (p + 1) (by omega)
  obtain ⟨b2, e2⟩ := hi.2.2 (p + 2) (by omega)
  obtain ⟨b3, e3⟩ := hi.2.2 (p + 3) (by omega)
  have zi : ∀ k, k < 4 → zin (nI (p + k)) 12000 = true := fun k hk => of_eq_true (q_tin (by omega) (by omega))
  have q : ∀ {x y : Nat}, x < 256 → y < 256 → (nI x = nI y ↔ x = y) := fun {x y} hx hy => nI_eq (by omega) (by omega)
  unfold F_Mo_stands f_Mo_stands_0 f_Mo_stands_52 f_Mo_stands_53
  refine zEv.ip hm.k ?_
  have a1 : nI p + (1 : Int32) = nI (p + 1) := nI_add p 1
  have a2 : nI p + (2 : Int32) = nI (p + 2) := nI_add p 2
  have a3 : nI p + (3 : Int32) = nI (p + 3) := nI_add p 3
  rw [hm.p1, a1, a2, a3, nI_cl (by omega), nI_cl (by omega), nI_cl (by omega), nI_cl (by omega), e0, e1, e2, e3, hm.n1]
  refine zEv.ip hm.k1 (zEv.ip (zi 0 (by omega)) ?_)
  by_cases c0 : b p = w0
  · refine zEv.ip ((q b0 h0).mpr c0) (zEv.ip (zi 1 (by omega)) ?_)
    by_cases c1 : b (p + 1) = w1
    · refine zEv.ip ((q b1 h1).mpr c1) (zEv.ip (zi 2 (by omega)) ?_)
      by_cases c2 : b (p + 2) = w2
      · refine zEv.ip ((q b2 h2).mpr c2) (zEv.ip (zi 3 (by omega)) ?_)
        by_cases c3 : b (p + 3) = w3
        · rw [show (if b p = w0 ∧ b (p + 1) = w1 ∧ b (p + 2) = w2 ∧ b (p + 3) = w3 then (1 : Int32) else 0) = 1 from if_pos ⟨c0, c1, c2, c3⟩]
          exact zEv.ip ((q b3 h3).mpr c3) (zEv.ip (Or.inr rfl) (zEv.some _))
        · rw [show (if b p = w0 ∧ b (p + 1) = w1 ∧ b (p + 2) = w2 ∧ b (p + 3) = w3 then (1 : Int32) else 0) = 0 from if_neg (fun w => c3 w.2.2.2)]
          exact zEv.in_ (fun w => c3 ((q b3 h3).mp w)) (zEv.ip (Or.inl rfl) (zEv.some _))
      · rw [show (if b p = w0 ∧ b (p + 1) = w1 ∧ b (p + 2) = w2 ∧ b (p + 3) = w3 then (1 : Int32) else 0) = 0 from if_neg (fun w => c2 w.2.2.1)]
        exact zEv.in_ (fun w => c2 ((q b2 h2).mp w)) (zEv.ip (Or.inl rfl) (zEv.some _))
    · rw [show (if b p = w0 ∧ b (p + 1) = w1 ∧ b (p + 2) = w2 ∧ b (p + 3) = w3 then (1 : Int32) else 0) = 0 from if_neg (fun w => c1 w.2.1)]
      exact zEv.in_ (fun w => c1 ((q b1 h1).mp w)) (zEv.ip (Or.inl rfl) (zEv.some _))
  · rw [show (if b p = w0 ∧ b (p + 1) = w1 ∧ b (p + 2) = w2 ∧ b (p + 3) = w3 then (1 : Int32) else 0) = 0 from if_neg (fun w => c0 w.1)]
    exact zEv.in_ (fun w => c0 ((q b0 h0).mp w)) (zEv.ip (Or.inl rfl) (zEv.some _))
theorem nat_hi {n : Nat} (h : n < 4294967296) : n &&& 4294967280 = n / 16 * 16 := by
  have e : n / 16 * 16 = (n / 2 ^ 4) * 2 ^ 4 := rfl
  rw [e]
  apply Nat.eq_of_testBit_eq
  intro i
  rw [Nat.testBit_and, Nat.testBit_mul_two_pow, Nat.testBit_div_two_pow, show (4294967280 : Nat) = (2 ^ 28 - 1) * 2 ^ 4 by decide, Nat.testBit_mul_two_pow, Nat.testBit_two_pow_sub_one]
  by_cases c : 4 ≤ i
  · rw [decide_eq_true c, Bool.true_and, Bool.true_and, show i - 4 + 4 = i by omega]
    by_cases c2 : i - 4 < 28
    · rw [decide_eq_true c2, Bool.and_true]
    · rw [decide_eq_false c2, Bool.and_false]
      have : n.testBit i = false := Nat.testBit_lt_two_pow (Nat.lt_of_lt_of_le h (show 2 ^ 32 ≤ 2 ^ i from Nat.pow_le_pow_right (by omega) (by omega)))
      rw [this]
  · rw [decide_eq_false c, Bool.false_and, Bool.false_and, Bool.and_false]
theorem lN_hi {n : Nat} (h : n < 4294967296) : lN n &&& (4294967280 : Int64) = lN (n / 16 * 16) := by
  rw [← nat_hi h]
  apply wb_inj
  show BitVec.ofNat 64 n &&& BitVec.ofNat 64 4294967280 = BitVec.ofNat 64 (n &&& 4294967280)
  rw [BitVec.ofNat_and]
/-- the class's beginning, the mark being known -/
def cB1 (O : zO) (n X p v : Nat) (M : zM) : Option (Int32 × zM) :=
  if (lg_cmp (lN v) (4247762216 : Int64)) = 0 then
  (F_FR_head O n (X + 73) (w_i M (X + 73) 6 (nI (p + 4)))).bind fun q25 =>
  if q25.1 = 0 ∨ q25.1 = 1 then
  some (q25.1, q25.2)
  else none
  else
  if (lg_cmp (lN (v / 16 * 16)) (407710288 : Int64)) = 0 then
  (F_FR_spare O n (X + 73) (w_i M (X + 73) 6 (nI (p + 4)))).bind fun q17 =>
  if q17.1 = 0 ∨ q17.1 = 1 then
  some (q17.1, q17.2)
  else none
  else
  (F_Rep_fail O n (X + 69) (nI 2) (nI p) M).bind fun q10 =>
  if q10.1 = 0 ∨ q10.1 = 1 then
  some (q10.1, q10.2)
  else none
/-- the reference's spare frame, behind the mark -/
def rS0 (O : zO) (n m : Nat) (M15 : zM) : Option (Int32 × zM) :=
  (F_Mo_has O n m (4 : Int32) M15).bind fun q18 =>
  if q18.1 = 0 then
  some ((0 : Int32), q18.2)
  else
  if z_k q18.2 m = 13 then
  (F_Mo_number O n m (z_i q18.2 m 28) (4 : Int32) q18.2).bind fun q21 =>
  if z_k q21.2 m = 13 then
  zlet (w_i q21.2 m 28 ((z_i q21.2 m 28) + (4 : Int32))) fun M24 =>
  if (lg_cmp q21.1 ((z_i M24 m 1) - (z_i M24 m 28)).toInt64) ≤ 0 then
  zlet (w_i M24 m 28 ((z_i M24 m 28) + q21.1.toInt32)) fun M27 =>
  some ((1 : Int32), M27)
  else
  (F_Mo_wrong O n m (1 : Int32) (z_i M24 m 1) M24).bind fun q30 =>
  if q30.1 = 0 ∨ q30.1 = 1 then
  some (q30.1, q30.2)
  else none
  else none
  else none
-- a spare frame
set_option maxRecDepth 100000 in
set_option maxHeartbeats 4000000 in
theorem j_spare {O : zO} {M M2 : zM} {X m cN mo c dc done id p : Nat} {b cb db : Nat → Nat} {dd : Option dkT} (h : zHP M M2 X m cN b mo c cb dc db done id dd p) :
    jBd X m M M2 (fun n => F_FR_spare O n (X + 73) M) (fun n => rS0 O n m M2) ∨
    (∃ p' M' M2', zEv (fun n => F_FR_spare O n (X + 73) M) (1, M') ∧ zEv (fun n => rS0 O n m M2) (1, M2') ∧ zSt (fun q => q = X + 73) M M' ∧ zKp X M M' ∧ zOf (X + 73) (fun f => f = 6) M M' ∧ zRf (fun f => f = 28) sN m M2 M2' ∧ zHP M' M2' X m cN b mo c cb dc db done id dd p' ∧ p < p') := by
  have h0 := h
  obtain ⟨a1, a2, a3, a4, a5, a6, a7, a8⟩ := h
  have hx := a1.1
  have hin := a1.2.1
  have hm := a2.1
  have hi2 := a2.2.1
  have hc9 := hin.cN
  have k73 := hx.k73
  have k1 := hx.k1
  have p0 := hx.p73_0
  have hlk := c_lacks (O := O) (k := 4) hx hin a6 a8 (by omega)
  have hhas := c_has (O := O) (k := 4) hm hi2 a7 a8 (by omega)
  by_cases c1 : p + 4 ≤ cN
  · rw [if_pos c1] at hlk
    have hh := hhas.1 c1
    have hnum := c_Row_number (O := O) hin p 4 (by omega) (by omega)
    rw [if_pos c1] at hnum
    have hn2 := c_Mo_number (O := O) (hi2.in_ hm) p 4 (by omega) c1
    have hn4 : nb b p 4 < 4294967296 := nb_lt (k := 4) (fun i hi => hin.b (by omega))
    generalize nb b p 4 = nn at *
    have h1 := h0.step c1
    have e6 : z_i (w_i M (X + 73) 6 (nI (p + 4))) (X + 73) 6 = nI (p + 4) := w_i_eq _ _ _ _
    have s1 : zSt (fun q => q = X + 73) M (w_i M (X + 73) 6 (nI (p + 4))) := zSt.rf.wi (by exact rfl)
    have o1 : zOf (X + 73) (fun f => f = 6) M (w_i M (X + 73) 6 (nI (p + 4))) := fun f hf => ⟨w_i_ne _ _ (fun w => hf w.2), rfl, rfl⟩
    have kp1 : zKp X M (w_i M (X + 73) 6 (nI (p + 4))) := zKp.rf.wi (Or.inl (by rw [k73]; omega))
    have r1 : zRf (fun f => f = 28) sN m M2 (w_i M2 m 28 (nI (p + 4))) := zRf.rf.wf (by exact rfl)
    generalize hP : w_i M (X + 73) 6 (nI (p + 4)) = P at h1 e6 s1 kp1 o1
    generalize hQ : w_i M2 m 28 (nI (p + 4)) = Q at h1 r1
    have x1 := h1.1.1
    have b73 := x1.k73
    have mQ := h1.2.1.1
    have iQ := h1.2.1.2.1
    have e28 := h1.2.2.2.2.2.2.1
    have hlk2 := c_lacks (O := O) (k := nn) x1 h1.1.2.1 e6 (by omega) (by omega)
    have toC : ∀ {α : Int32 × zM}, zEv (fun n => (F_FR_lacks O n (X + 73) (lN nn) P).bind fun q12 =>
      if q12.1 = 0 then
      if z_k q12.2 (X + 73) = 5 then
      zlet (w_i q12.2 (X + 73) 6 ((z_i q12.2 (X + 73) 6) + nI nn)) fun M15 =>
      some ((1 : Int32), M15)
      else none
      else
      if z_k q12.2 (X + 73) = 5 then
      (F_FR_endsWithin O n (X + 73) q12.2).bind fun q19 =>
      if q19.1 = 0 ∨ q19.1 = 1 then
      some (q19.1, q19.2)
      else none
      else none) α → zEv (fun n => F_FR_spare O n (X + 73) M) α := fun {α} hα => by
      unfold F_FR_spare f_FR_spare_0
      refine zEv.ip k73 (zEv.bind hlk (zEv.ip rfl (zEv.ip k73 ?_)))
      dsimp only
      rw [p0, a6]
      refine zEv.ip k1 (zEv.bind hnum (zEv.ip k73 (zEv.zl ?_)))
      dsimp only
      rw [a6, show nI p + (4 : Int32) = nI (p + 4) from nI_add p 4, hP, lN_i]
      exact hα
    have toM : ∀ {α : Int32 × zM}, zEv (fun n => if lN nn ≤ lN (cN - (p + 4)) then some ((1 : Int32), w_i Q m 28 (nI (p + 4 + nn))) else
      (F_Mo_wrong O n m (nI 1) (nI cN) Q).bind fun q30 =>
      if q30.1 = 0 ∨ q30.1 = 1 then
      some (q30.1, q30.2)
      else none) α → zEv (fun n => rS0 O n m M2) α := fun {α} hα => by
      unfold rS0
      refine zEv.bind hh (zEv.in_ (show ¬ (1 : Int32) = 0 by decide) (zEv.ip hm.k ?_))
      dsimp only
      rw [a7]
      refine zEv.bind hn2 (zEv.ip hm.k (zEv.zl ?_))
      dsimp only
      rw [a7, show nI p + (4 : Int32) = nI (p + 4) from nI_add p 4, hQ, iQ.1, e28, pk_sub c1, nI_l (by omega), lN_i, nI_add]
      refine hα.to fun n => ?_
      simp only [lg_cmp_le, zlet]
      rfl
    by_cases c2 : p + 4 + nn ≤ cN
    · right
      rw [if_pos c2] at hlk2
      have h2 := h1.step c2
      refine ⟨p + 4 + nn, w_i P (X + 73) 6 (nI (p + 4 + nn)), w_i Q m 28 (nI (p + 4 + nn)), toC (zEv.bind hlk2 (zEv.ip rfl (zEv.ip b73 (zEv.zl ?_)))), toM (zEv.ip ((pk_lLE (by omega) (by omega)).mpr (by omega)) (zEv.some _)), s1.wi (by exact rfl), kp1.wi (Or.inl (by rw [b73]; omega)), fun f hf => ?_, r1.wf (by exact rfl), h2, by omega⟩
      · dsimp only
        rw [e6, nI_add]
        exact zEv.some _
      · exact ⟨(w_i_ne _ _ (fun w => hf w.2)).trans (o1 f hf).1, (o1 f hf).2.1, (o1 f hf).2.2⟩
    · left
      rw [if_neg c2] at hlk2
      refine (h1.bad (f := 1) (q := cN) (fc := fun n => F_FR_spare O n (X + 73) M) (fm := fun n => rS0 O n m M2) (by omega) (by omega) (toC (zEv.bind hlk2 (zEv.in_ (show ¬ (1 : Int32) = 0 by decide) (zEv.ip b73 (zEv.bind (c_endsWithin x1 h1.1.2.1) (zEv.ip (Or.inl rfl) (zEv.some _))))))) (toM (zEv.in_ (fun w => by have := (pk_lLE (by omega) (by omega)).mp w; omega) (zEv.bind (c_wrong mQ.k) (zEv.ip (Or.inl rfl) (zEv.some _)))))).to (s1.mono (fun q hq => by unfold sRd; omega)) kp1 (r1.mono (fun f hf => by unfold fRe; omega) (fun _ h => False.elim h)) (fun h => h) (fun h => h)
  · left
    rw [if_neg c1] at hlk
    have hh := hhas.2 c1
    refine h0.bad (f := 1) (q := cN) (by omega) (by omega) ?_ ?_
    · unfold F_FR_spare f_FR_spare_0
      exact zEv.ip k73 (zEv.bind hlk (zEv.in_ (show ¬ (1 : Int32) = 0 by decide) (zEv.ip k73 (zEv.bind (c_endsWithin hx hin) (zEv.ip (Or.inl rfl) (zEv.some _))))))
    · unfold rS0
      exact zEv.bind hh (zEv.ip rfl (zEv.some _))
-- a unit
set_option maxRecDepth 100000 in
set_option maxHeartbeats 4000000 in
theorem j_unit {O : zO} {M M2 : zM} {X m cN mo c dc done id p s : Nat} {b cb db : Nat → Nat} {dd : Option dkT} (hO : zTabOk O) (h : zHP M M2 X m cN b mo c cb dc db done id dd p) (hid : id < 4294967296) (hk : dkOk dd) (hc : c ≤ mo) (hmo : mo ≤ 32768) (h7 : z_i M (X + 73) 7 = nI 0) (hf0 : z_i M (X + 69) 0 = nI 0) (hp : p < cN) (hs : s ≤ p) :
    jLB O X m s M M2 (fun n => F_Mo_unit O n m M2) ∨ jLO O X m cN b mo dc db s M M2 (fun n => F_Mo_unit O n m M2) p := by
  have h0 := h
  obtain ⟨a1, a2, a3, a4, a5, a6, a7, a8⟩ := h
  have hx := a1.1
  have hin := a1.2.1
  have hm := a2.1
  have hi2 := a2.2.1
  have hc9 := hin.cN
  have k73 := hx.k73
  have k1 := hx.k1
  have k69 := hx.k69
  have p0 := hx.p73_0
  have p2 := hx.p73_2
  have hlk := c_lacks (O := O) (k := 4) hx hin a6 a8 (by omega)
  have hhas := c_has (O := O) (k := 4) hm hi2 a7 a8 (by omega)
  have lo : ∀ {y : Int32} {x : zM}, zEv (fun n => F_FR_beginning O n (X + 73) M) (y, x) → ∀ α, zEv (fun n => f_SF_read_23 O n X (nI (s + 1)) x) α → zEv (fun n => f_SF_read_23 O n X (nI s) M) α := fun {y x} hb => l_out hx h7 hf0 a6 hin.2.2.2.2.1 hp hc9 (by omega) hb
  by_cases c1 : p + 4 ≤ cN
  · rw [if_pos c1] at hlk
    have hh := hhas.1 c1
    have hnum := c_Row_number (O := O) hin p 4 (by omega) (by omega)
    rw [if_pos c1] at hnum
    have hn4 : nb b p 4 < 4294967296 := nb_lt (k := 4) (fun i hi => hin.b (by omega))
    have ex : nb b p 4 = b p + 256 * (b (p + 1) + 256 * (b (p + 2) + 256 * (b (p + 3) + 256 * 0))) := rfl
    have g0 := hin.b (show p < cN by omega)
    have g1 := hin.b (show p + 1 < cN by omega)
    have g2 := hin.b (show p + 2 < cN by omega)
    have g3 := hin.b (show p + 3 < cN by omega)
    have st1 := c_stands (O := O) (p := p) (w0 := 40) (w1 := 181) (w2 := 47) (w3 := 253) hm hi2 c1 (by omega) (by omega) (by omega) (by omega)
    have st2 := c_stands (O := O) (p := p) (w0 := b p) (w1 := 42) (w2 := 77) (w3 := 24) hm hi2 c1 g0 (by omega) (by omega) (by omega)
    have hbi := (hi2.2.2 p (by omega)).2
    have zi : zin (nI p) 12000 = true := of_eq_true (q_tin (by omega) (by omega))
    have ck : (nI p).toNatClampNeg = p := nI_cl (by omega)
    have toC : ∀ {α : Int32 × zM}, zEv (fun n => cB1 O n X p (nb b p 4) M) α → zEv (fun n => F_FR_beginning O n (X + 73) M) α := fun {α} hα => by
      unfold F_FR_beginning f_FR_beginning_0
      refine zEv.ip k73 (zEv.bind hlk (zEv.ip rfl (zEv.ip k73 ?_)))
      dsimp only
      rw [p0, a6]
      refine zEv.ip k1 (zEv.bind hnum ?_)
      refine hα.to fun n => ?_
      dsimp only
      unfold cB1
      rw [lN_hi hn4]
      simp only [k73, k69, p2, a6, if_true, zlet, show nI p + (4 : Int32) = nI (p + 4) from nI_add p 4]
      rfl
    have h1 := h0.step c1
    have s1 : zSt (fun q => q = X + 73) M (w_i M (X + 73) 6 (nI (p + 4))) := zSt.rf.wi (by exact rfl)
    have kp1 : zKp X M (w_i M (X + 73) 6 (nI (p + 4))) := zKp.rf.wi (Or.inl (by rw [k73]; omega))
    have r1 : zRf (fun f => f = 28) sN m M2 (w_i M2 m 28 (nI (p + 4))) := zRf.rf.wf (by exact rfl)
    have s1d : zSt (sRd X) M (w_i M (X + 73) 6 (nI (p + 4))) := s1.mono (fun q hq => by unfold sRd; omega)
    have r1e : zRf fRe (sRm m) m M2 (w_i M2 m 28 (nI (p + 4))) := r1.mono (fun f hf => by unfold fRe; omega) (fun _ h => False.elim h)
    have f71 : z_i (w_i M (X + 73) 6 (nI (p + 4))) (X + 73) 7 = nI 0 := by rw [w_i_ne _ _ (by omega)]; exact h7
    have f01 : z_i (w_i M (X + 73) 6 (nI (p + 4))) (X + 69) 0 = nI 0 := by rw [w_i_ne _ _ (by omega)]; exact hf0
    have toU : ∀ {α : Int32 × zM}, zEv (fun n => (F_Mo_stands O n m (nI p) (nI 40) (nI 181) (nI 47) (nI 253) M2).bind fun q5 => if q5.1 = 0 then
        if z_k q5.2 m = 13 then
        if z_k q5.2 (z_p q5.2 m 0) = 100 then
        if zin (z_i q5.2 m 28) (z_n q5.2 (z_p q5.2 m 0)) = true then
        if (z_i q5.2 (z_p q5.2 m 0) (z_i q5.2 m 28).toNatClampNeg) < (80 : Int32) then
        f_Mo_unit_90 O n m q5.2
        else
        if zin (z_i q5.2 m 28) (z_n q5.2 (z_p q5.2 m 0)) = true then
        if (95 : Int32) < (z_i q5.2 (z_p q5.2 m 0) (z_i q5.2 m 28).toNatClampNeg) then
        f_Mo_unit_90 O n m q5.2
        else
        if zin (z_i q5.2 m 28) (z_n q5.2 (z_p q5.2 m 0)) = true then
        (F_Mo_stands O n m (z_i q5.2 m 28) (z_i q5.2 (z_p q5.2 m 0) (z_i q5.2 m 28).toNatClampNeg) (42 : Int32) (77 : Int32) (24 : Int32) q5.2).bind fun q12 =>
        if q12.1 = 0 then
        f_Mo_unit_90 O n m q12.2
        else
        if z_k q12.2 m = 13 then
        rS0 O n m (w_i q12.2 m 28 ((z_i q12.2 m 28) + (4 : Int32)))
        else none
        else none
        else none
        else none
        else none
        else none
        else
        if z_k q5.2 m = 13 then
        (F_Mo_frame O n m q5.2).bind fun q39 =>
        if q39.1 = 0 ∨ q39.1 = 1 then
        some (q39.1, q39.2)
        else none
        else none) α → zEv (fun n => F_Mo_unit O n m M2) α := fun {α} hα => by
      unfold F_Mo_unit f_Mo_unit_0
      refine zEv.ip hm.k (zEv.bind hh (zEv.in_ (show ¬ (1 : Int32) = 0 by decide) (zEv.ip hm.k ?_)))
      dsimp only
      rw [a7]
      exact hα
    by_cases cf : nb b p 4 = 4247762216
    · -- a frame
      have cs : b p = 40 ∧ b (p + 1) = 181 ∧ b (p + 2) = 47 ∧ b (p + 3) = 253 := by omega
      rw [if_pos cs] at st1
      have toF : ∀ {y : Int32} {x : zM}, (y = 0 ∨ y = 1) → zEv (fun n => rH O n m (w_i M2 m 28 (nI (p + 4)))) (y, x) → zEv (fun n => F_Mo_unit O n m M2) (y, x) := fun {y x} hy hα => by
        refine toU (zEv.bind st1 (zEv.in_ (show ¬ (1 : Int32) = 0 by decide) (zEv.ip hm.k (zEv.bind (a := (y, x)) ?_ (zEv.ip hy (zEv.some _))))))
        unfold F_Mo_frame f_Mo_frame_0
        refine zEv.ip hm.k (zEv.zl ?_)
        rw [a7, show nI p + (4 : Int32) = nI (p + 4) from nI_add p 4]
        exact hα
      have toH : ∀ {y : Int32} {x : zM}, (y = 0 ∨ y = 1) → zEv (fun n => F_FR_head O n (X + 73) (w_i M (X + 73) 6 (nI (p + 4)))) (y, x) → zEv (fun n => F_FR_beginning O n (X + 73) M) (y, x) := fun {y x} hy hα => by
        refine toC ?_
        unfold cB1
        exact zEv.ip (by rw [lg_cmp_eq, cf]; rfl) (zEv.bind hα (zEv.ip hy (zEv.some _)))
      rcases j_head (O := O) h1 hid hk hc hmo with z | ⟨x1, x2, x3, x4, x5, x6, x7, x8, x9, x10, x11, x12, x13, x14, x15, M', M2', x16, x17, y1, y2, y3, y4, y5, y6, y7, y8, y9, y10, y11, y12, y13, y14, y15, y16, y17, y18, y19, y20⟩
      · left
        exact (z.to s1d kp1 r1e (fun hα => toH (Or.inl rfl) hα) (fun hα => toF (Or.inl rfl) hα)).lb hx (by omega) lo
      · have lp := lo (toH (Or.inr rfl) y1)
        rcases j_blocks (O := O) hO y16 y17 y18 y19 y20 (cN + 1) x15 (s + 1) x7 x10 x8 x1 x2 x3 x4 x9 M' M2' (by omega) (by omega) y6 y7 y8 y9 y10 y11 (y12.trans f01) y13 y15 with w | w
        · exact Or.inl (w.to (s1d.tr y3) (kp1.tr y4) (r1e.tr y5) lp (fun hα => toF (Or.inl rfl) (y2 _ hα)))
        · exact Or.inr (w.to (s1d.tr y3) (kp1.tr y4) (r1e.tr y5) (by omega) lp (fun hα => toF (Or.inr rfl) (y2 _ hα)))
    · have cs : ¬ (b p = 40 ∧ b (p + 1) = 181 ∧ b (p + 2) = 47 ∧ b (p + 3) = 253) := by omega
      rw [if_neg cs] at st1
      have nf : ¬ lg_cmp (lN (nb b p 4)) (4247762216 : Int64) = 0 := fun w => cf (by rw [lg_cmp_eq] at w; exact (pk_lEQ (b := 4247762216) (by omega) (by omega)).mp w)
      have toR : ∀ {α : Int32 × zM}, zEv (fun n => if nI (b p) < (80 : Int32) then f_Mo_unit_90 O n m M2 else if (95 : Int32) < nI (b p) then f_Mo_unit_90 O n m M2 else (F_Mo_stands O n m (nI p) (nI (b p)) (nI 42) (nI 77) (nI 24) M2).bind fun q12 => if q12.1 = 0 then f_Mo_unit_90 O n m q12.2 else if z_k q12.2 m = 13 then rS0 O n m (w_i q12.2 m 28 ((z_i q12.2 m 28) + (4 : Int32))) else none) α → zEv (fun n => F_Mo_unit O n m M2) α := fun {α} hα => by
        refine toU (zEv.bind st1 (zEv.ip rfl (zEv.ip hm.k ?_)))
        dsimp only
        rw [hm.p1, a7, ck, hbi, hm.n1]
        refine zEv.ip hm.k1 (zEv.ip zi ?_)
        refine hα.to fun n => ?_
        simp only [zi, if_true]
        rfl
      have bad : zEv (fun n => f_Mo_unit_90 O n m M2) (0, flm m M2 2 p) := by
        unfold f_Mo_unit_90
        refine zEv.ip hm.k ?_
        rw [a7]
        exact zEv.bind (c_wrong hm.k) (zEv.ip (Or.inl rfl) (zEv.some _))
      by_cases cS : nb b p 4 / 16 * 16 = 407710288
      · have cs2 : b p = b p ∧ b (p + 1) = 42 ∧ b (p + 2) = 77 ∧ b (p + 3) = 24 := by omega
        rw [if_pos cs2] at st2
        have hlo : 80 ≤ b p := by omega
        have hhi : b p ≤ 95 := by omega
        have toS : ∀ {y : Int32} {x : zM}, (y = 0 ∨ y = 1) → zEv (fun n => F_FR_spare O n (X + 73) (w_i M (X + 73) 6 (nI (p + 4)))) (y, x) → zEv (fun n => F_FR_beginning O n (X + 73) M) (y, x) := fun {y x} hy hα => by
          refine toC ?_
          unfold cB1
          exact zEv.in_ nf (zEv.ip (by rw [lg_cmp_eq, cS]; rfl) (zEv.bind hα (zEv.ip hy (zEv.some _))))
        have toV : ∀ {α : Int32 × zM}, zEv (fun n => rS0 O n m (w_i M2 m 28 (nI (p + 4)))) α → zEv (fun n => F_Mo_unit O n m M2) α := fun {α} hα => by
          refine toR (zEv.in_ (nI_nlt (b := 80) (by omega) (by omega)) (zEv.in_ (nI_nlt (a := 95) (by omega) (by omega)) (zEv.bind st2 (zEv.in_ (show ¬ (1 : Int32) = 0 by decide) (zEv.ip hm.k ?_)))))
          dsimp only
          rw [a7, show nI p + (4 : Int32) = nI (p + 4) from nI_add p 4]
          exact hα
        rcases j_spare (O := O) h1 with z | ⟨p', M', M2', y1, y2, y3, y4, y5, y6, y7, y8⟩
        · left
          exact (z.to s1d kp1 r1e (fun hα => toS (Or.inl rfl) hα) (fun hα => toV hα)).lb hx (by omega) lo
        · right
          obtain ⟨u1, u2, u3, u4, u5, u6, u7, u8⟩ := y7
          refine ⟨s + 1, p', c, cb, done, M', M2', lo (toS (Or.inr rfl) y1), toV y2, s1d.tr (y3.mono (fun q hq => by unfold sRd; omega)), kp1.tr y4, r1e.tr (y6.mono (fun f hf => by unfold fRe; omega) (fun _ h => False.elim h)), u1, u2, u5, u6, (y5 7 (by omega)).1.trans f71, (y3.i (by omega) 0).trans f01, u7, by omega, u8, by omega, hc⟩
      · left
        have ns : ¬ lg_cmp (lN (nb b p 4 / 16 * 16)) (407710288 : Int64) = 0 := fun w => cS (by rw [lg_cmp_eq] at w; exact (pk_lEQ (b := 407710288) (by omega) (by omega)).mp w)
        refine (h0.bad (f := 2) (q := p) (fc := fun n => F_FR_beginning O n (X + 73) M) (fm := fun n => F_Mo_unit O n m M2) (by omega) (by omega) (toC ?_) (toR ?_)).lb hx (by omega) lo
        · unfold cB1
          exact zEv.in_ nf (zEv.in_ ns (zEv.bind (c_fail k69) (zEv.ip (Or.inl rfl) (zEv.some _))))
        · by_cases d1 : b p < 80
          · exact zEv.ip (nI_lt (b := 80) d1 (by omega)) bad
          · refine zEv.in_ (nI_nlt (b := 80) (by omega) (by omega)) ?_
            by_cases d2 : 95 < b p
            · exact zEv.ip (nI_lt (a := 95) d2 (by omega)) bad
            · have cs2 : ¬ (b p = b p ∧ b (p + 1) = 42 ∧ b (p + 2) = 77 ∧ b (p + 3) = 24) := by omega
              rw [if_neg cs2] at st2
              exact zEv.in_ (nI_nlt (a := 95) (by omega) (by omega)) (zEv.bind st2 (zEv.ip rfl bad))
  · left
    rw [if_neg c1] at hlk
    have hh := hhas.2 c1
    refine (h0.bad (f := 1) (q := cN) (fc := fun n => F_FR_beginning O n (X + 73) M) (fm := fun n => F_Mo_unit O n m M2) (by omega) (by omega) ?_ ?_).lb hx (by omega) lo
    · unfold F_FR_beginning f_FR_beginning_0
      exact zEv.ip k73 (zEv.bind hlk (zEv.in_ (show ¬ (1 : Int32) = 0 by decide) (zEv.ip k73 (zEv.bind (c_endsWithin hx hin) (zEv.ip (Or.inl rfl) (zEv.some _))))))
    · unfold F_Mo_unit f_Mo_unit_0
      exact zEv.ip hm.k (zEv.bind hh (zEv.ip rfl (zEv.some _)))
