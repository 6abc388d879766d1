/-! write, again: both sides together. -/
theorem wr_bv (y : BitVec 64) (s : Nat) (hs : s ≤ 56) : (BitVec.signExtend 32 (y >>> s)) &&& 255#32 = BitVec.signExtend 32 (y.sshiftRight s &&& 255#64) := by
  apply BitVec.eq_of_getLsbD_eq
  intro i hi
  rw [BitVec.getLsbD_and, BitVec.getLsbD_signExtend, BitVec.getLsbD_signExtend, BitVec.getLsbD_and, BitVec.getLsbD_ushiftRight, BitVec.getLsbD_sshiftRight]
  simp only [hi, show i < 64 by omega, decide_true, Bool.true_and, if_true]
  by_cases c : i < 8
  · have h1 : ¬ 64 ≤ i := by omega
    have h2 : s + i < 64 := by omega
    have e : (255#32).getLsbD i = (255#64).getLsbD i := by
      have : i = 0 ∨ i = 1 ∨ i = 2 ∨ i = 3 ∨ i = 4 ∨ i = 5 ∨ i = 6 ∨ i = 7 := by omega
      rcases this with h|h|h|h|h|h|h|h <;> subst h <;> decide
    simp only [h1, h2, decide_false, Bool.not_false, Bool.true_and, if_true, e]
  · have e1 : (255#32).getLsbD i = false := by
      rw [BitVec.getLsbD_ofNat]
      have : Nat.testBit 255 i = false := Nat.testBit_lt_two_pow (Nat.lt_of_lt_of_le (show 255 < 2 ^ 8 by decide) (Nat.pow_le_pow_right (by omega) (by omega)))
      rw [this, Bool.and_false]
    have e2 : (255#64).getLsbD i = false := by
      rw [BitVec.getLsbD_ofNat]
      have : Nat.testBit 255 i = false := Nat.testBit_lt_two_pow (Nat.lt_of_lt_of_le (show 255 < 2 ^ 8 by decide) (Nat.pow_le_pow_right (by omega) (by omega)))
      rw [this, Bool.and_false]
    rw [e1, e2, Bool.and_false, Bool.and_false]
theorem wr_w (l : Int64) (k : Nat) (hk : k < 8) : (l.toUInt64 >>> (((56 : Int32) - ((8 : Int32) * nI k)).toInt64.toUInt64 &&& Int64.toUInt64 63)).toInt64.toInt32 &&& (255 : Int32) = ((l >>> (((56 : Int32) - ((8 : Int32) * nI k)).toInt64 &&& 63)) &&& (255 : Int64)).toInt32 := by
  apply Int32.toBitVec_inj.mp
  have key : ∀ (a : UInt64) (b : Int64) (s : Nat), s ≤ 56 → (a.toBitVec % 64).toNat = s → (b.toBitVec.smod 64).toNat = s → ((l.toUInt64 >>> a).toInt64.toInt32 &&& (255 : Int32)).toBitVec = ((l >>> b) &&& (255 : Int64)).toInt32.toBitVec := fun a b s hs ha hb => by
    rw [Int32.toBitVec_and, Int64.toBitVec_toInt32, Int64.toBitVec_toInt32, Int64.toBitVec_and, Int64.toBitVec_shiftRight]
    show BitVec.signExtend 32 (l.toUInt64 >>> a).toBitVec &&& 255#32 = _
    rw [UInt64.toBitVec_shiftRight]
    show BitVec.signExtend 32 (l.toBitVec >>> (a.toBitVec % 64)) &&& 255#32 = BitVec.signExtend 32 (l.toBitVec.sshiftRight (b.toBitVec.smod 64).toNat &&& 255#64)
    rw [BitVec.ushiftRight_eq', ha, hb]
    exact wr_bv _ _ hs
  have : k = 0 ∨ k = 1 ∨ k = 2 ∨ k = 3 ∨ k = 4 ∨ k = 5 ∨ k = 6 ∨ k = 7 := by omega
  rcases this with h|h|h|h|h|h|h|h <;> subst h
  · exact key _ _ 56 (by omega) (by decide) (by decide)
  · exact key _ _ 48 (by omega) (by decide) (by decide)
  · exact key _ _ 40 (by omega) (by decide) (by decide)
  · exact key _ _ 32 (by omega) (by decide) (by decide)
  · exact key _ _ 24 (by omega) (by decide) (by decide)
  · exact key _ _ 16 (by omega) (by decide) (by decide)
  · exact key _ _ 8 (by omega) (by decide) (by decide)
  · exact key _ _ 0 (by omega) (by decide) (by decide)
def shw (l : Int64) (k : Nat) : Int32 := (l.toUInt64 >>> (((56 : Int32) - ((8 : Int32) * nI k)).toInt64.toUInt64 &&& Int64.toUInt64 63)).toInt64.toInt32
def xv (x : Int32) : Nat := (x &&& 255).toBitVec.toNat
theorem xv_ok (x : Int32) : xv x < 256 ∧ x.toInt8.toInt32 = sb_b (xv x) ∧ x &&& 255 = nI (xv x) := by
  obtain ⟨v, h1, h2, h3⟩ := x8_at x
  have e : xv x = v := by
    unfold xv
    rw [h3]
    show (BitVec.ofNat 32 v).toNat = v
    rw [BitVec.toNat_ofNat]
    omega
  rw [e]
  exact ⟨h1, h2, h3⟩
theorem l_cw28 {O : zO} {X kk : Nat} {l : Int64} {tb : Nat → Nat} (hkk : kk ≤ 8) : ∀ d k c M, k + d = kk → c + d ≤ 12000 → zSF M X → zRow M (X + 1) (X + 2) 12000 c tb → (∀ i, i < d → tb (c + i) = xv (shw l (k + i))) → ∃ M', zEv (fun n => f_SF_write_28 O n X l (nI kk) (nI k) M) (1, M') ∧ zSt (zS2 (X + 1) (X + 2)) M M' ∧ zRow M' (X + 1) (X + 2) 12000 (c + d) tb := by
  intro d
  induction d with
  | zero =>
    intro k c M hk hc hx hr ht
    refine ⟨M, zEv.succ ?_, zSt.rf, hr⟩
    simp only [f_SF_write_28]
    exact zEv.ip ((nI_leI (by omega) (by omega)).mpr (by omega)) (zEv.some _)
  | succ d ih =>
    intro k c M hk hc hx hr ht
    obtain ⟨v1, v2, v3⟩ := xv_ok (shw l k)
    have t0 := ht 0 (by omega)
    rw [Nat.add_zero, Nat.add_zero] at t0
    obtain ⟨M1, p1, p2, p3⟩ := c_put (O := O) hr v1 v2
    rw [if_pos (by omega)] at p3
    have p4 : zRow M1 (X + 1) (X + 2) 12000 (c + 1) tb := p3.cong (fun j hj => by
      by_cases w : j < c
      · rw [ext_lo w]
      · rw [show j = c + 0 by omega, ext_hi, Nat.add_zero, t0])
    have kp : zKp X M M1 := p2.row hr p4 ⟨by unfold zNs; omega, by unfold zNs; omega⟩
    obtain ⟨M', i1, i2, i3⟩ := ih (k + 1) (c + 1) M1 (by omega) (by omega) (hx.kp kp) p4 (fun i hi => by
      have := ht (i + 1) (by omega)
      rw [show c + 1 + i = c + (i + 1) by omega, show k + 1 + i = k + (i + 1) by omega]
      exact this)
    rw [show c + 1 + d = c + (d + 1) by omega] at i3
    refine ⟨M', zEv.succ ?_, p2.tr i2, i3⟩
    simp only [f_SF_write_28]
    refine zEv.in_ (fun w => by have := (nI_leI (by omega) (by omega)).mp w; omega) (zEv.ip hx.k0 ?_)
    rw [hx.p0_0]
    refine zEv.ip hx.k1 (zEv.bind p1 ?_)
    refine i1.to fun n => ?_
    show f_SF_write_28 O n X l (nI kk) (nI k + nI 1) M1 = _
    rw [nI_add]
theorem l_mw28 {O : zO} {m kk : Nat} {l : Int64} {tb : Nat → Nat} (hkk : kk ≤ 8) : ∀ d k c M, k + d = kk → c + d ≤ 12000 → zMo M m → zMI M m c tb → (∀ i, i < d → tb (c + i) = xv (shw l (k + i))) → ∃ M', zEv (fun n => f_Mo_write_28 O n m l (nI kk) (nI k) M) (1, M') ∧ zRf (fun f => f = 1) (fun q => q = m + 1) m M M' ∧ zMI M' m (c + d) tb := by
  intro d
  induction d with
  | zero =>
    intro k c M hk hc hm hi ht
    refine ⟨M, zEv.succ ?_, zRf.rf, hi⟩
    simp only [f_Mo_write_28]
    exact zEv.ip ((nI_leI (by omega) (by omega)).mpr (by omega)) (zEv.some _)
  | succ d ih =>
    intro k c M hk hc hm hi ht
    obtain ⟨v1, v2, v3⟩ := xv_ok (shw l k)
    have t0 := ht 0 (by omega)
    rw [Nat.add_zero, Nat.add_zero] at t0
    have hw : ((l >>> (((56 : Int32) - ((8 : Int32) * nI k)).toInt64 &&& 63)) &&& (255 : Int64)).toInt32 = nI (tb c) := by
      rw [← wr_w l k (by omega), t0]
      exact v3
    have r1 : zRf (fun f => f = 1) (fun q => q = m + 1) m M (w_i (w_i M (m + 1) c (nI (tb c))) m 1 (nI (c + 1))) := (zRf.rf.wi (by exact rfl) (by omega)).wf (by exact rfl)
    have i1 : zMI (w_i (w_i M (m + 1) c (nI (tb c))) m 1 (nI (c + 1))) m (c + 1) tb := by
      refine ⟨w_i_eq _ _ _ _, by omega, fun j hj => ?_⟩
      by_cases w : j = c
      · subst w
        refine ⟨by rw [t0]; exact v1, ?_⟩
        simp (disch := omega) only [zlet, w_i_k, w_i_n, w_i_i, w_i_j, w_i_p, w_i_s, w_j_k, w_j_n, w_j_i, w_j_j, w_j_p, w_j_s, w_p_k, w_p_n, w_p_i, w_p_j, w_p_p, w_p_s, w_c_k, w_c_n, w_c_i, w_c_j, w_c_p, w_c_s, w_u_k, w_u_n, w_u_i, w_u_j, w_u_p, w_u_s, q_nf, ↓reduceIte, if_true, if_false, eq_self, and_true, true_and, and_false, false_and, Option.bind_some, ne_eq, not_false_eq_true, not_true_eq_false]
      · refine ⟨(hi.2.2 j (by omega)).1, ?_⟩
        simp (disch := omega) only [zlet, w_i_k, w_i_n, w_i_i, w_i_j, w_i_p, w_i_s, w_j_k, w_j_n, w_j_i, w_j_j, w_j_p, w_j_s, w_p_k, w_p_n, w_p_i, w_p_j, w_p_p, w_p_s, w_c_k, w_c_n, w_c_i, w_c_j, w_c_p, w_c_s, w_u_k, w_u_n, w_u_i, w_u_j, w_u_p, w_u_s, q_nf, ↓reduceIte, if_true, if_false, eq_self, and_true, true_and, and_false, false_and, Option.bind_some, ne_eq, not_false_eq_true, not_true_eq_false, w]
        exact (hi.2.2 j (by omega)).2
    obtain ⟨M', j1, j2, j3⟩ := ih (k + 1) (c + 1) _ (by omega) (by omega) (r1.mo hm) i1 (fun i hi => by
      have := ht (i + 1) (by omega)
      rw [show c + 1 + i = c + (i + 1) by omega, show k + 1 + i = k + (i + 1) by omega]
      exact this)
    rw [show c + 1 + d = c + (d + 1) by omega] at j3
    refine ⟨M', zEv.succ ?_, r1.tr j2, j3⟩
    have zi : zin (nI c) 12000 = true := of_eq_true (q_tin (by omega) (by omega))
    have ck : (nI c).toNatClampNeg = c := nI_cl (by omega)
    simp only [f_Mo_write_28]
    refine zEv.in_ (fun w => by have := (nI_leI (by omega) (by omega)).mp w; omega) (zEv.ip hm.k ?_)
    rw [hm.p1, hi.1, ck, hw]
    refine zEv.ip hm.k1 (zEv.ip (by rw [hm.n1]; exact zi) (zEv.zl (zEv.zl (zEv.zl ?_))))
    have e1 : z_i (w_i M (m + 1) c (nI (tb c))) m 1 = nI c := by rw [w_i_ne _ _ (by omega)]; exact hi.1
    rw [e1, show nI c + (1 : Int32) = nI (c + 1) from nI_add c 1, show nI k + (1 : Int32) = nI (k + 1) from nI_add k 1]
    exact j1
-- write
set_option maxRecDepth 100000 in
set_option maxHeartbeats 4000000 in
theorem j_write {O : zO} {X m : Nat} {M M2 : zM} {l : Int64} {x : Int32} (h : zRel X m M M2) : jOp X m M M2 (fun n => F_SF_write O n X l x M) (fun n => F_Mo_write O n m l x M2) := by
  have h0 := h
  obtain ⟨cN, b, oN, ob, dc, db, id, dd, rp, hid, hk, h1, h2⟩ := h
  have hx := h1.1
  have a2 := h1.2.1
  have hm := h2.1
  have hi := h2.2.1
  have hcN := a2.cN
  have none_ : zEv (fun n => F_SF_write O n X l x M) (0, M) → zEv (fun n => F_Mo_write O n m l x M2) (0, M2) → jOp X m M M2 (fun n => F_SF_write O n X l x M) (fun n => F_Mo_write O n m l x M2) := fun u v => ⟨0, M, M2, u, v, h0, zSt.rf, zSt.rf⟩
  by_cases c1 : x < 1
  · refine none_ ?_ ?_
    · unfold F_SF_write f_SF_write_0; exact zEv.ip c1 (zEv.some _)
    · unfold F_Mo_write f_Mo_write_0; exact zEv.ip c1 (zEv.some _)
  by_cases c2 : (8 : Int32) < x
  · refine none_ ?_ ?_
    · unfold F_SF_write f_SF_write_0; exact zEv.in_ c1 (zEv.ip c2 (zEv.some _))
    · unfold F_Mo_write f_Mo_write_0; exact zEv.in_ c1 (zEv.ip c2 (zEv.some _))
  obtain ⟨k, hk1, ex⟩ := i32_of (x := x) (fun w => c1 (by
    have := Int32.lt_iff_toInt_lt.mp w
    apply Int32.lt_iff_toInt_lt.mpr
    rw [show (1 : Int32).toInt = 1 by decide]
    rw [show (0 : Int32).toInt = 0 by decide] at this
    omega))
  subst ex
  have hk8 : k ≤ 8 := by
    refine Nat.le_of_not_lt fun w => c2 (nI_lt (a := 8) w (by omega))
  have hk0 : 1 ≤ k := Nat.le_of_not_lt fun w => c1 (nI_lt (b := 1) w (by omega))
  have hro := c_hasRoom (O := O) (x := lN k) a2
  by_cases c3 : cN + k ≤ 12000
  · have ht : ∀ i, i < k → ext b cN (fun i => xv (shw l i)) (cN + i) = xv (shw l (0 + i)) := fun i hi => by rw [ext_hi, Nat.zero_add]
    obtain ⟨M', p1, p2, p3⟩ := l_cw28 (O := O) (X := X) (kk := k) (l := l) (tb := ext b cN (fun i => xv (shw l i))) hk8 k 0 cN M (by omega) c3 hx (a2.cong (fun j hj => ext_lo hj)) ht
    obtain ⟨M2', q1, q2, q3⟩ := l_mw28 (O := O) (m := m) (kk := k) (l := l) (tb := ext b cN (fun i => xv (shw l i))) hk8 k 0 cN M2 (by omega) c3 hm ⟨hi.1, hi.2.1, fun j hj => by rw [ext_lo hj]; exact hi.2.2 j hj⟩ ht
    refine ⟨1, M', M2', ?_, ?_, zRel.ofC hid hk h1 h2 p2 p3 q2 q3, p2.mono (fun q hq => zS2_Cl hq), q2.st (fun q hq => by omega)⟩
    · unfold F_SF_write f_SF_write_0
      rw [nI_l (by omega)]
      refine zEv.in_ c1 (zEv.in_ c2 (zEv.ip hx.k0 ?_))
      rw [hx.p0_0]
      rw [if_neg (fun w => by have := (pk_lLT (by omega) (by omega)).mp w; omega)] at hro
      exact zEv.ip hx.k1 (zEv.bind hro (zEv.in_ (show ¬ (1 : Int32) = 0 by decide) p1))
    · unfold F_Mo_write f_Mo_write_0
      refine zEv.in_ c1 (zEv.in_ c2 (zEv.ip hm.k ?_))
      rw [hi.1, nI_add]
      exact zEv.ip ((nI_leI (b := 12000) (by omega) (by omega)).mpr c3) q1
  · refine none_ ?_ ?_
    · unfold F_SF_write f_SF_write_0
      rw [nI_l (by omega)]
      refine zEv.in_ c1 (zEv.in_ c2 (zEv.ip hx.k0 ?_))
      rw [hx.p0_0]
      rw [if_pos ((pk_lLT (by omega) (by omega)).mpr (by omega))] at hro
      exact zEv.ip hx.k1 (zEv.bind hro (zEv.ip rfl (zEv.some _)))
    · unfold F_Mo_write f_Mo_write_0
      refine zEv.in_ c1 (zEv.in_ c2 (zEv.ip hm.k ?_))
      rw [hi.1, nI_add]
      exact zEv.in_ (fun w => c3 ((nI_leI (b := 12000) (by omega) (by omega)).mp w)) (zEv.some _)
theorem l_ag39 {O : zO} {m mm nn : Nat} {tb : Nat → Nat} (hm1 : 1 ≤ mm) (hmn : mm * nn ≤ 12000) : ∀ d k c M, k + d = mm * nn → c + d ≤ 12000 → mm ≤ c → zMo M m → zMI M m c tb → (∀ i, i < d → tb (c + i) = tb (c + i - mm)) → ∃ M', zEv (fun n => f_Mo_again_39 O n m (nI mm) (nI nn) (nI k) M) (1, M') ∧ zRf (fun f => f = 1) (fun q => q = m + 1) m M M' ∧ zMI M' m (c + d) tb := by
  intro d
  induction d with
  | zero =>
    intro k c M hk hc hmc hm hi ht
    refine ⟨M, zEv.succ ?_, zRf.rf, hi⟩
    simp only [f_Mo_again_39]
    rw [pk_mul]
    exact zEv.ip ((nI_leI (by omega) (by omega)).mpr (by omega)) (zEv.some _)
  | succ d ih =>
    intro k c M hk hc hmc hm hi ht
    have t0 := ht 0 (by omega)
    rw [Nat.add_zero] at t0
    obtain ⟨b0, e0⟩ := hi.2.2 (c - mm) (by omega)
    have r1 : zRf (fun f => f = 1) (fun q => q = m + 1) m M (w_i (w_i M (m + 1) c (nI (tb c))) m 1 (nI (c + 1))) := (zRf.rf.wi (by exact rfl) (by omega)).wf (by exact rfl)
    have i1 : zMI (w_i (w_i M (m + 1) c (nI (tb c))) m 1 (nI (c + 1))) m (c + 1) tb := by
      refine ⟨w_i_eq _ _ _ _, by omega, fun j hj => ?_⟩
      by_cases w : j = c
      · subst w
        refine ⟨by rw [t0]; exact b0, ?_⟩
        simp (disch := omega) only [zlet, w_i_k, w_i_n, w_i_i, w_i_j, w_i_p, w_i_s, w_j_k, w_j_n, w_j_i, w_j_j, w_j_p, w_j_s, w_p_k, w_p_n, w_p_i, w_p_j, w_p_p, w_p_s, w_c_k, w_c_n, w_c_i, w_c_j, w_c_p, w_c_s, w_u_k, w_u_n, w_u_i, w_u_j, w_u_p, w_u_s, q_nf, ↓reduceIte, if_true, if_false, eq_self, and_true, true_and, and_false, false_and, Option.bind_some, ne_eq, not_false_eq_true, not_true_eq_false]
      · refine ⟨(hi.2.2 j (by omega)).1, ?_⟩
        simp (disch := omega) only [zlet, w_i_k, w_i_n, w_i_i, w_i_j, w_i_p, w_i_s, w_j_k, w_j_n, w_j_i, w_j_j, w_j_p, w_j_s, w_p_k, w_p_n, w_p_i, w_p_j, w_p_p, w_p_s, w_c_k, w_c_n, w_c_i, w_c_j, w_c_p, w_c_s, w_u_k, w_u_n, w_u_i, w_u_j, w_u_p, w_u_s, q_nf, ↓reduceIte, if_true, if_false, eq_self, and_true, true_and, and_false, false_and, Option.bind_some, ne_eq, not_false_eq_true, not_true_eq_false, w]
        exact (hi.2.2 j (by omega)).2
    obtain ⟨M', j1, j2, j3⟩ := ih (k + 1) (c + 1) _ (by omega) (by omega) (by omega) (r1.mo hm) i1 (fun i hi => by
      have := ht (i + 1) (by omega)
      rw [show c + 1 + i = c + (i + 1) by omega]
      exact this)
    rw [show c + 1 + d = c + (d + 1) by omega] at j3
    refine ⟨M', zEv.succ ?_, r1.tr j2, j3⟩
    have zi : zin (nI c) 12000 = true := of_eq_true (q_tin (by omega) (by omega))
    have zi2 : zin (nI (c - mm)) 12000 = true := of_eq_true (q_tin (by omega) (by omega))
    have ck : (nI c).toNatClampNeg = c := nI_cl (by omega)
    have ck2 : (nI (c - mm)).toNatClampNeg = c - mm := nI_cl (by omega)
    simp only [f_Mo_again_39]
    rw [pk_mul]
    refine zEv.in_ (fun w => by have := (nI_leI (by omega) (by omega)).mp w; omega) (zEv.ip hm.k ?_)
    rw [hm.p1, hi.1, pk_sub hmc, ck, ck2, e0, ← t0]
    refine zEv.ip hm.k1 (zEv.ip (by rw [hm.n1]; exact zi2) (zEv.ip (by rw [hm.n1]; exact zi) (zEv.zl (zEv.zl (zEv.zl ?_)))))
    have e1 : z_i (w_i M (m + 1) c (nI (tb c))) m 1 = nI c := by rw [w_i_ne _ _ (by omega)]; exact hi.1
    rw [e1, show nI c + (1 : Int32) = nI (c + 1) from nI_add c 1, show nI k + (1 : Int32) = nI (k + 1) from nI_add k 1]
    exact j1
-- again
set_option maxRecDepth 100000 in
set_option maxHeartbeats 4000000 in
theorem j_again {O : zO} {X m : Nat} {M M2 : zM} {x y : Int32} (h : zRel X m M M2) : jOp X m M M2 (fun n => F_SF_again O n X x y M) (fun n => F_Mo_again O n m x y M2) := by
  have h0 := h
  obtain ⟨cN, b, oN, ob, dc, db, id, dd, rp, hid, hk, h1, h2⟩ := h
  have hx := h1.1
  have a2 := h1.2.1
  have hm := h2.1
  have hi := h2.2.1
  have hcN := a2.cN
  have none_ : zEv (fun n => F_SF_again O n X x y M) (0, M) → zEv (fun n => F_Mo_again O n m x y M2) (0, M2) → jOp X m M M2 (fun n => F_SF_again O n X x y M) (fun n => F_Mo_again O n m x y M2) := fun u v => ⟨0, M, M2, u, v, h0, zSt.rf, zSt.rf⟩
  have toC : ∀ {α : Int32 × zM}, ¬ x < 1 → zEv (fun n => if nI cN < x then some ((0 : Int32), M) else if y < 0 then some ((0 : Int32), M) else (F_Row_hasRoom O n (X + 1) (x.toInt64 * y.toInt64) M).bind fun q3 => if q3.1 = 0 then some ((0 : Int32), q3.2) else if z_k q3.2 X = 1 then if z_k q3.2 (z_p q3.2 X 0) = 9 then (F_Row_putBack O n (z_p q3.2 X 0) x (x * y) q3.2).bind fun q7 => some ((1 : Int32), q7.2) else none else none) α → zEv (fun n => F_SF_again O n X x y M) α := fun {α} c1 hα => by
    unfold F_SF_again f_SF_again_0
    refine zEv.in_ c1 (zEv.ip hx.k0 ?_)
    rw [hx.p0_0, a2.2.2.2.2.1]
    exact zEv.ip hx.k1 hα
  have toM : ∀ {α : Int32 × zM}, ¬ x < 1 → zEv (fun n => if nI cN < x then some ((0 : Int32), M2) else if y < 0 then some ((0 : Int32), M2) else if (lg_cmp (x.toInt64 * y.toInt64) (lN (12000 - cN))) ≤ 0 then f_Mo_again_39 O n m x y (nI 0) M2 else some ((0 : Int32), M2)) α → zEv (fun n => F_Mo_again O n m x y M2) α := fun {α} c1 hα => by
    unfold F_Mo_again f_Mo_again_0
    refine zEv.in_ c1 (zEv.ip hm.k ?_)
    rw [hi.1, show (12000 : Int32) - nI cN = nI (12000 - cN) from pk_sub (a := 12000) hcN, nI_l (show 12000 - cN < 2 ^ 31 by omega)]
    exact hα
  by_cases c1 : x < 1
  · refine none_ ?_ ?_
    · unfold F_SF_again f_SF_again_0; exact zEv.ip c1 (zEv.some _)
    · unfold F_Mo_again f_Mo_again_0; exact zEv.ip c1 (zEv.some _)
  by_cases c2 : nI cN < x
  · exact none_ (toC c1 (zEv.ip c2 (zEv.some _))) (toM c1 (zEv.ip c2 (zEv.some _)))
  by_cases c3 : y < 0
  · exact none_ (toC c1 (zEv.in_ c2 (zEv.ip c3 (zEv.some _)))) (toM c1 (zEv.in_ c2 (zEv.ip c3 (zEv.some _))))
  obtain ⟨k, hk1, ex⟩ := i32_of (x := x) (fun w => c1 (by
    have := Int32.lt_iff_toInt_lt.mp w
    apply Int32.lt_iff_toInt_lt.mpr
    rw [show (1 : Int32).toInt = 1 by decide]
    rw [show (0 : Int32).toInt = 0 by decide] at this
    omega))
  obtain ⟨r, hr1, ey⟩ := i32_of c3
  subst ex
  subst ey
  have hk0 : 1 ≤ k := Nat.le_of_not_lt fun w => c1 (nI_lt (b := 1) w (by omega))
  have hkc : k ≤ cN := Nat.le_of_not_lt fun w => c2 (nI_lt w (by omega))
  have hpr : k * r < 12000 * 2147483648 := by
    have h1 : k * r ≤ 12000 * r := Nat.mul_le_mul_right r (by omega)
    have h2 : 12000 * r < 12000 * 2147483648 := by omega
    omega
  have eL : (nI k).toInt64 * (nI r).toInt64 = lN (k * r) := by rw [nI_l (by omega), nI_l (by omega), lN_mul]
  have hro := c_hasRoom (O := O) (x := lN (k * r)) a2
  by_cases c4 : k * r ≤ 12000 - cN
  · rw [if_neg (fun w => by have := (pk_lLT (by omega) (by omega)).mp w; omega)] at hro
    obtain ⟨M', b', p1, p2, p3, p4, p5⟩ := c_putBack (O := O) (k := k * r) a2 hk0 hkc (by omega)
    rw [Nat.min_eq_left c4] at p2 p5
    obtain ⟨M2', q1, q2, q3⟩ := l_ag39 (O := O) (m := m) (nn := r) (tb := b') hk0 (by omega) (k * r) 0 cN M2 (by omega) (by omega) hkc hm ⟨hi.1, hi.2.1, fun j hj => by rw [p1 j hj]; exact hi.2.2 j hj⟩ p2
    refine ⟨1, M', M2', toC c1 (zEv.in_ c2 (zEv.in_ c3 ?_)), toM c1 (zEv.in_ c2 (zEv.in_ c3 ?_)), zRel.ofC hid hk h1 h2 p4 p5 q2 q3, p4.mono (fun q hq => zS2_Cl hq), q2.st (fun q hq => by omega)⟩
    · rw [eL]
      refine zEv.bind hro (zEv.in_ (show ¬ (1 : Int32) = 0 by decide) (zEv.ip hx.k0 ?_))
      dsimp only
      rw [hx.p0_0, pk_mul]
      exact zEv.ip hx.k1 (zEv.bind p3 (zEv.some _))
    · rw [eL]
      exact zEv.ip (by rw [lg_cmp_le]; exact (pk_lLE (by omega) (by omega)).mpr c4) q1
  · rw [if_pos ((pk_lLT (by omega) (by omega)).mpr (by omega))] at hro
    refine none_ (toC c1 (zEv.in_ c2 (zEv.in_ c3 ?_))) (toM c1 (zEv.in_ c2 (zEv.in_ c3 ?_)))
    · rw [eL]
      exact zEv.bind hro (zEv.ip rfl (zEv.some _))
    · rw [eL]
      exact zEv.in_ (by rw [lg_cmp_le]; exact fun w => c4 ((pk_lLE (by omega) (by omega)).mp w)) (zEv.some _)
