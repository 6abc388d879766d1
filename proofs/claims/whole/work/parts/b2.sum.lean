/-! THE WIDE SUM: both sides. -/
def rl (x : Int64) (k : Int32) : Int64 := (x <<< (k.toInt64 &&& 63)) ||| (x.toUInt64 >>> (((64 : Int32) - k).toInt64.toUInt64 &&& Int64.toUInt64 63)).toInt64
set_option maxRecDepth 100000 in
set_option maxHeartbeats 4000000 in
theorem c_rotated {O : zO} {M : zM} (x : Int64) (k : Int32) : zEv (fun n => F_Mo_rotated O n x k M) (rl x k, M) := zEv.some _
set_option maxRecDepth 100000 in
set_option maxHeartbeats 4000000 in
theorem c_rotateLeft {O : zO} {M : zM} (x : Int64) (k : Int32) (hk : ((-k).toInt64.toUInt64 &&& Int64.toUInt64 63) = (((64 : Int32) - k).toInt64.toUInt64 &&& Int64.toUInt64 63)) : zEv (fun n => F_JLong_rotateLeft O n x k M) (rl x k, M) := by
  refine (zEv.some _).to fun n => ?_
  unfold F_JLong_rotateLeft f_JLong_rotateLeft_0 rl
  rw [hk]
def mx (x y : Int64) : Int64 := rl (x + y * (-4417276706812531889 : Int64)) 31 * (-7046029288634856825 : Int64)
set_option maxRecDepth 100000 in
set_option maxHeartbeats 4000000 in
theorem c_mixed {O : zO} {M : zM} (x y : Int64) : zEv (fun n => F_Content_mixed O n x y M) (mx x y, M) := by
  unfold F_Content_mixed f_Content_mixed_0
  exact zEv.bind (c_rotateLeft _ 31 (by decide)) (zEv.some _)
def laS (cb : Nat → Nat) (a : Nat) : Nat → Int64 × Int64 × Int64 × Int64
  | 0 => ((-7046029288634856825 : Int64) + (-4417276706812531889 : Int64), -4417276706812531889, 0, -(-7046029288634856825 : Int64))
  | j + 1 => (mx (laS cb a j).1 (lN (nb cb (a + 32 * j) 8)), mx (laS cb a j).2.1 (lN (nb cb (a + 32 * j + 8) 8)), mx (laS cb a j).2.2.1 (lN (nb cb (a + 32 * j + 16) 8)), mx (laS cb a j).2.2.2 (lN (nb cb (a + 32 * j + 24) 8)))
def fo (h x : Int64) : Int64 := (h ^^^ mx 0 x) * (-7046029288634856825 : Int64) + (-8796714831421723037 : Int64)
def lnS4 (l : Int64 × Int64 × Int64 × Int64) : Int64 := fo (fo (fo (fo (rl l.1 1 + rl l.2.1 7 + rl l.2.2.1 12 + rl l.2.2.2 18) l.1) l.2.1) l.2.2.1) l.2.2.2
def h8S (cb : Nat → Nat) (p : Nat) (h : Int64) : Nat → Int64
  | 0 => h
  | j + 1 => rl (h8S cb p h j ^^^ mx 0 (lN (nb cb (p + 8 * j) 8))) 27 * (-7046029288634856825 : Int64) + (-8796714831421723037 : Int64)
def h1S (cb : Nat → Nat) (p : Nat) (h : Int64) : Nat → Int64
  | 0 => h
  | j + 1 => rl (h1S cb p h j ^^^ (lN (cb (p + j)) * (2870177450012600261 : Int64))) 11 * (-7046029288634856825 : Int64)
def f1S (h : Int64) : Int64 := (h ^^^ (h.toUInt64 >>> ((33 : Int32).toInt64.toUInt64 &&& Int64.toUInt64 63)).toInt64) * (-4417276706812531889 : Int64)
def f2S (h : Int64) : Int64 := (h ^^^ (h.toUInt64 >>> ((29 : Int32).toInt64.toUInt64 &&& Int64.toUInt64 63)).toInt64) * (1609587929392839161 : Int64)
def f3S (h : Int64) : Int64 := h ^^^ (h.toUInt64 >>> ((32 : Int32).toInt64.toUInt64 &&& Int64.toUInt64 63)).toInt64
def tlS (cb : Nat → Nat) (p : Nat) (h : Int64) (c : Nat) : Int64 := f3S (f2S (f1S (h1S cb p h (c - p))))
def t4S (cb : Nat → Nat) (p : Nat) (h : Int64) (c : Nat) : Int64 := if c - p < 4 then tlS cb p h c else tlS cb (p + 4) (rl (h ^^^ (lN (nb cb p 4) * (-7046029288634856825 : Int64))) 23 * (-4417276706812531889 : Int64) + (1609587929392839161 : Int64)) c
def t8S (cb : Nat → Nat) (p : Nat) (h : Int64) (c : Nat) : Int64 := t4S cb (p + 8 * ((c - p) / 8)) (h8S cb p h ((c - p) / 8)) c
def wuS (cb : Nat → Nat) (a c : Nat) : Int64 := if c - a < 32 then t8S cb a ((2870177450012600261 : Int64) + lN (c - a)) c else t8S cb (a + 32 * ((c - a) / 32)) (lnS4 (laS cb a ((c - a) / 32)) + lN (c - a)) c
-- the class
set_option maxRecDepth 100000 in
set_option maxHeartbeats 4000000 in
theorem c_ws139 {O : zO} {M : zM} {cp rp a c p : Nat} {h : Int64} {cb : Nat → Nat} (hk : z_k M cp = 3) (hp : z_p M cp 0 = rp) (hr : zRow M rp a 32768 c cb) (hpc : p ≤ c) : ∀ d j, j + d = c - p → zEv (fun n => f_Content_wideSum_139 O n cp (nI (p + j)) (h1S cb p h j) M) (tlS cb p h c, M) := by
  have r1 := hr.1
  have r5 := hr.2.2.2.2.1
  have hc := hr.cN
  intro d
  induction d with
  | zero =>
    intro j hj
    refine zEv.succ ?_
    simp only [f_Content_wideSum_139]
    refine zEv.ip hk ?_
    rw [hp, r5]
    refine zEv.ip r1 (zEv.ip ((nI_leI (by omega) (by omega)).mpr (by omega)) ?_)
    rw [show j = c - p by omega]
    exact zEv.some _
  | succ d ih =>
    intro j hj
    have hat := c_Row_at (O := O) (k := p + j) hr (by omega)
    rw [if_pos (by omega)] at hat
    have hb := hr.b (show p + j < c by omega)
    refine zEv.succ ?_
    simp only [f_Content_wideSum_139]
    refine zEv.ip hk ?_
    rw [hp, r5]
    refine zEv.ip r1 (zEv.in_ (fun w => by have := (nI_leI (by omega) (by omega)).mp w; omega) (zEv.bind hat (zEv.bind (c_rotateLeft _ 11 (by decide)) ?_)))
    refine (ih (j + 1) (by omega)).to fun n => ?_
    dsimp only
    rw [nI_l (by omega)]
    simp only [zlet, nI_1]
    rfl
set_option maxRecDepth 100000 in
set_option maxHeartbeats 4000000 in
theorem c_ws44 {O : zO} {M : zM} {cp rp a c p : Nat} {h : Int64} {cb : Nat → Nat} (hk : z_k M cp = 3) (hp : z_p M cp 0 = rp) (hr : zRow M rp a 32768 c cb) (hpc : p ≤ c) : ∀ d j, j + d = (c - p) / 8 → zEv (fun n => f_Content_wideSum_44 O n cp (nI (p + 8 * j)) (h8S cb p h j) M) (t8S cb p h c, M) := by
  have r1 := hr.1
  have r5 := hr.2.2.2.2.1
  have hc := hr.cN
  have lt : ∀ {x y k : Nat}, x < 100000 → y < 100000 → k < 100 → ((nI x - nI k < nI y) ↔ x < y + k) := fun {x y k} h1 h2 h3 => by
    rw [Int32.lt_iff_toInt_lt, pk_sub_toInt (by omega) (by omega), nI_toInt (by omega)]
    omega
  intro d
  induction d with
  | zero =>
    intro j hj
    refine zEv.succ ?_
    simp only [f_Content_wideSum_44]
    refine zEv.ip hk ?_
    rw [hp, r5]
    refine zEv.ip r1 (zEv.ip ((lt (k := 8) (by omega) (by omega) (by omega)).mpr (by omega)) ?_)
    have ej : j = (c - p) / 8 := by omega
    unfold t8S t4S
    rw [← ej]
    by_cases c4 : c - (p + 8 * j) < 4
    · rw [if_pos c4]
      refine zEv.ip ((lt (k := 4) (by omega) (by omega) (by omega)).mpr (by omega)) ?_
      exact c_ws139 (p := p + 8 * j) hk hp hr (by omega) (c - (p + 8 * j)) 0 (by omega)
    · rw [if_neg c4]
      have hn := c_Row_number (O := O) hr (p + 8 * j) 4 (by omega) (by omega)
      rw [if_pos (by omega)] at hn
      refine zEv.in_ (fun w => c4 (by have := (lt (k := 4) (by omega) (by omega) (by omega)).mp w; omega)) (zEv.bind hn (zEv.bind (c_rotateLeft _ 23 (by decide)) ?_))
      refine (c_ws139 (O := O) hk hp hr (p := p + 8 * j + 4) (by omega) (c - (p + 8 * j + 4)) 0 (by omega)).to fun n => ?_
      simp only [zlet, show (4 : Int32) = nI 4 from rfl, nI_add]
      rfl
  | succ d ih =>
    intro j hj
    have hn := c_Row_number (O := O) hr (p + 8 * j) 8 (by omega) (by omega)
    rw [if_pos (by omega)] at hn
    refine zEv.succ ?_
    simp only [f_Content_wideSum_44]
    refine zEv.ip hk ?_
    rw [hp, r5]
    refine zEv.ip r1 (zEv.in_ (fun w => by have := (lt (k := 8) (by omega) (by omega) (by omega)).mp w; omega) (zEv.bind hn (zEv.bind (c_mixed _ _) (zEv.bind (c_rotateLeft _ 27 (by decide)) ?_))))
    refine (ih (j + 1) (by omega)).to fun n => ?_
    simp only [zlet, show (8 : Int32) = nI 8 from rfl, nI_add]
    rfl
set_option maxRecDepth 100000 in
set_option maxHeartbeats 4000000 in
theorem c_lanes {O : zO} {M : zM} {cp rp a c fs : Nat} {cb : Nat → Nat} (hk : z_k M cp = 3) (hp : z_p M cp 0 = rp) (hr : zRow M rp a 32768 c cb) (hpc : fs ≤ c) : ∀ d j, j + d = (c - fs) / 32 → zEv (fun n => f_Content_sumOfLanes_22 O n cp (laS cb fs j).1 (laS cb fs j).2.1 (laS cb fs j).2.2.1 (laS cb fs j).2.2.2 (nI (fs + 32 * j)) M) (lnS4 (laS cb fs ((c - fs) / 32)), M) := by
  have r1 := hr.1
  have r5 := hr.2.2.2.2.1
  have hc := hr.cN
  have lt : ∀ {x y k : Nat}, x < 100000 → y < 100000 → k < 100 → ((nI x - nI k < nI y) ↔ x < y + k) := fun {x y k} h1 h2 h3 => by
    rw [Int32.lt_iff_toInt_lt, pk_sub_toInt (by omega) (by omega), nI_toInt (by omega)]
    omega
  intro d
  induction d with
  | zero =>
    intro j hj
    have ej : j = (c - fs) / 32 := by omega
    rw [← ej]
    refine zEv.succ ?_
    simp only [f_Content_sumOfLanes_22]
    refine zEv.ip hk ?_
    rw [hp, r5]
    refine zEv.ip r1 (zEv.ip ((lt (k := 32) (by omega) (by omega) (by omega)).mpr (by omega)) ?_)
    refine zEv.bind (c_rotateLeft _ 1 (by decide)) (zEv.bind (c_rotateLeft _ 7 (by decide)) (zEv.bind (c_rotateLeft _ 12 (by decide)) (zEv.bind (c_rotateLeft _ 18 (by decide)) (zEv.zl (zEv.bind (c_mixed _ _) (zEv.zl (zEv.bind (c_mixed _ _) (zEv.zl (zEv.bind (c_mixed _ _) (zEv.zl (zEv.bind (c_mixed _ _) ?_)))))))))))
    exact zEv.some _
  | succ d ih =>
    intro j hj
    have n0 := c_Row_number (O := O) hr (fs + 32 * j) 8 (by omega) (by omega)
    have n1 := c_Row_number (O := O) hr (fs + 32 * j + 8) 8 (by omega) (by omega)
    have n2 := c_Row_number (O := O) hr (fs + 32 * j + 16) 8 (by omega) (by omega)
    have n3 := c_Row_number (O := O) hr (fs + 32 * j + 24) 8 (by omega) (by omega)
    rw [if_pos (by omega)] at n0 n1 n2 n3
    refine zEv.succ ?_
    simp only [f_Content_sumOfLanes_22]
    refine zEv.ip hk ?_
    rw [hp, r5]
    refine zEv.ip r1 (zEv.in_ (fun w => by have := (lt (k := 32) (by omega) (by omega) (by omega)).mp w; omega) (zEv.bind n0 (zEv.bind (c_mixed _ _) (zEv.ip hk ?_))))
    dsimp only
    rw [hp, show (8 : Int32) = nI 8 from rfl, show (16 : Int32) = nI 16 from rfl, show (24 : Int32) = nI 24 from rfl, nI_add, nI_add, nI_add]
    refine zEv.ip r1 (zEv.bind n1 (zEv.bind (c_mixed _ _) (zEv.ip hk ?_)))
    dsimp only
    rw [hp]
    refine zEv.ip r1 (zEv.bind n2 (zEv.bind (c_mixed _ _) (zEv.ip hk ?_)))
    dsimp only
    rw [hp]
    refine zEv.ip r1 (zEv.bind n3 (zEv.bind (c_mixed _ _) ?_))
    refine (ih (j + 1) (by omega)).to fun n => ?_
    simp only [zlet, show (32 : Int32) = nI 32 from rfl, nI_add]
    rfl
set_option maxRecDepth 100000 in
set_option maxHeartbeats 4000000 in
theorem c_wideSum {O : zO} {M : zM} {cp rp bp a c mo fs bs v : Nat} {cb : Nat → Nat} (h : zCt M cp rp bp mo fs bs v) (hr : zRow M rp a 32768 c cb) (hfs : fs ≤ c) : zEv (fun n => F_Content_wideSum O n cp M) (wuS cb fs c, M) := by
  obtain ⟨a1, a2, a3, a4, a5, a6, a7⟩ := h
  have r1 := hr.1
  have r5 := hr.2.2.2.2.1
  have hc := hr.cN
  have hof : zEv (fun n => F_Content_ofFrame O n cp M) (nI (c - fs), M) := by
    refine (zEv.some _).to fun n => ?_
    unfold F_Content_ofFrame f_Content_ofFrame_0
    simp (disch := omega) only [zlet, w_i_k, w_i_n, w_i_i, w_i_j, w_i_p, w_i_s, w_j_k, w_j_n, w_j_i, w_j_j, w_j_p, w_j_s, w_p_k, w_p_n, w_p_i, w_p_j, w_p_p, w_p_s, w_c_k, w_c_n, w_c_i, w_c_j, w_c_p, w_c_s, w_u_k, w_u_n, w_u_i, w_u_j, w_u_p, w_u_s, q_nf, ↓reduceIte, if_true, if_false, eq_self, and_true, true_and, and_false, false_and, Option.bind_some, ne_eq, not_false_eq_true, not_true_eq_false, nI_add, pk_mul, pk_sub, nI_ac, q_tlt, q_flt, q_tle, q_fle, q_teq, q_feq, q_tin, nI_cl, q_m1, q_m2, q_m3, q_m4, q_m5, q_m6, q_m7, q_l1, q_l2, q_l3, q_l4, q_l5, q_l6, lN_add, lN_mul, lN_sub, lN_i, nI_l, q_rem, q_rem2, q_div, q_shl, q_shr, q_i0, q_i1, q_i2, q_i3, q_i4, q_i5, q_i6, q_i7, q_i8, q_i9, q_i10, q_i11, q_i12, q_i14, q_i15, q_i16, q_i17, q_i18, q_i19, q_i20, q_i22, q_i24, q_i26, q_i28, q_i30, q_i31, q_i32, q_i35, q_i36, q_i38, q_i40, q_i42, q_i43, q_i48, q_i51, q_i52, q_i56, q_i63, q_i64, q_i67, q_i80, q_i95, q_i99, q_i126, q_i127, q_i128, q_i255, q_i256, q_i512, q_i1024, q_i12000, q_i32512, q_i32768, q_i131072, q_j0, q_j1, q_j2, q_j3, q_j4, q_j8, q_j256, Nat.one_mul, Nat.zero_add, Nat.add_zero, Nat.sub_zero, Nat.mul_one, q_ofN, q_c1, q_c2, q_c3, q_c4, q_c5, q_j12000, q_j32768, q_j131072, q_j2147483647, q_j4294967295, q_j255, q_j12, q_i13, q_i21, q_i23, q_i25, q_i27, q_i29, q_i33, q_i34, q_i37, q_i39, q_i41, q_i44, q_i45, q_i46, q_i47, q_i49, q_i50, q_i53, q_i54, q_i55, q_i77, q_i164, q_i181, q_i236, q_i253, q_i2048, a1, a2, r1, r5, a5]
  have w36 : ∀ {p : Nat} {h : Int64}, p ≤ c → zEv (fun n => f_Content_wideSum_36 O n cp (nI p) h M) (t8S cb p (h + lN (c - fs)) c, M) := fun {p h} hp => by
    unfold f_Content_wideSum_36
    refine zEv.ip a1 (zEv.bind hof ?_)
    refine (c_ws44 (O := O) a1 a2 hr hp ((c - p) / 8) 0 (by omega)).to fun n => ?_
    dsimp only
    rw [nI_l (by omega)]
    rfl
  unfold F_Content_wideSum f_Content_wideSum_0 wuS
  refine zEv.ip a1 (zEv.zl (zEv.bind hof ?_))
  dsimp only
  rw [a5]
  by_cases c32 : c - fs < 32
  · rw [if_pos c32]
    exact zEv.ip (nI_lt (b := 32) c32 (by omega)) (w36 hfs)
  · rw [if_neg c32]
    refine zEv.in_ (nI_nlt (b := 32) (by omega) (by omega)) (zEv.ip a1 (zEv.bind (a := (lnS4 (laS cb fs ((c - fs) / 32)), M)) ?_ (zEv.ip a1 (zEv.bind hof (zEv.zl ?_)))))
    · unfold F_Content_sumOfLanes f_Content_sumOfLanes_0
      refine zEv.ip a1 (zEv.zl ?_)
      rw [a5]
      exact c_lanes a1 a2 hr hfs ((c - fs) / 32) 0 (by omega)
    · have e : nI fs + nI (c - fs) / (32 : Int32) * (32 : Int32) = nI (fs + 32 * ((c - fs) / 32)) := by
        rw [show (32 : Int32) = nI 32 from rfl, q_div (by omega) (by omega) (by omega), pk_mul, nI_add]
        congr 2
        omega
      dsimp only
      rw [e]
      exact w36 (by omega)
-- the reference
set_option maxRecDepth 100000 in
set_option maxHeartbeats 4000000 in
theorem c_byteOf {O : zO} {M : zM} {m k c : Nat} {cb : Nat → Nat} (hm : zMo M m) (hcb : ∀ j, j < c → z_i M (m + 22) j = nI (cb j)) (hb : ∀ j, j < c → cb j < 256) (hc : c ≤ 32768) (hk : k < c) : zEv (fun n => F_Mo_byteOf O n m (nI k) M) (lN (cb k), M) := by
  have e := hcb k hk
  have b := hb k hk
  unfold F_Mo_byteOf f_Mo_byteOf_0
  repeat first | with_reducible refine zEv.zl ?_ | (with_reducible refine zEv.ip ?_ ?_; focus (simp only [hm.k, hm.p22, hm.k22, hm.n22]; done)) | (with_reducible refine zEv.ip ?_ ?_; focus (simp (disch := omega) only [zlet, w_i_k, w_i_n, w_i_i, w_i_j, w_i_p, w_i_s, w_j_k, w_j_n, w_j_i, w_j_j, w_j_p, w_j_s, w_p_k, w_p_n, w_p_i, w_p_j, w_p_p, w_p_s, w_c_k, w_c_n, w_c_i, w_c_j, w_c_p, w_c_s, w_u_k, w_u_n, w_u_i, w_u_j, w_u_p, w_u_s, q_nf, ↓reduceIte, if_true, if_false, eq_self, and_true, true_and, and_false, false_and, Option.bind_some, ne_eq, not_false_eq_true, not_true_eq_false, nI_add, pk_mul, pk_sub, nI_ac, q_tlt, q_flt, q_tle, q_fle, q_teq, q_feq, q_tin, nI_cl, q_m1, q_m2, q_m3, q_m4, q_m5, q_m6, q_m7, q_l1, q_l2, q_l3, q_l4, q_l5, q_l6, lN_add, lN_mul, lN_sub, lN_i, nI_l, q_rem, q_rem2, q_div, q_shl, q_shr, q_i0, q_i1, q_i2, q_i3, q_i4, q_i5, q_i6, q_i7, q_i8, q_i9, q_i10, q_i11, q_i12, q_i14, q_i15, q_i16, q_i17, q_i18, q_i19, q_i20, q_i22, q_i24, q_i26, q_i28, q_i30, q_i31, q_i32, q_i35, q_i36, q_i38, q_i40, q_i42, q_i43, q_i48, q_i51, q_i52, q_i56, q_i63, q_i64, q_i67, q_i80, q_i95, q_i99, q_i126, q_i127, q_i128, q_i255, q_i256, q_i512, q_i1024, q_i12000, q_i32512, q_i32768, q_i131072, q_j0, q_j1, q_j2, q_j3, q_j4, q_j8, q_j256, Nat.one_mul, Nat.zero_add, Nat.add_zero, Nat.sub_zero, Nat.mul_one, q_ofN, q_c1, q_c2, q_c3, q_c4, q_c5, q_j12000, q_j32768, q_j131072, q_j2147483647, q_j4294967295, q_j255, q_j12, q_i13, q_i21, q_i23, q_i25, q_i27, q_i29, q_i33, q_i34, q_i37, q_i39, q_i41, q_i44, q_i45, q_i46, q_i47, q_i49, q_i50, q_i53, q_i54, q_i55, q_i77, q_i164, q_i181, q_i236, q_i253, q_i2048, hm.k, hm.p22, hm.k22, hm.n22]; done)) | (with_reducible refine zEv.in_ ?_ ?_; focus (simp (disch := omega) only [zlet, w_i_k, w_i_n, w_i_i, w_i_j, w_i_p, w_i_s, w_j_k, w_j_n, w_j_i, w_j_j, w_j_p, w_j_s, w_p_k, w_p_n, w_p_i, w_p_j, w_p_p, w_p_s, w_c_k, w_c_n, w_c_i, w_c_j, w_c_p, w_c_s, w_u_k, w_u_n, w_u_i, w_u_j, w_u_p, w_u_s, q_nf, ↓reduceIte, if_true, if_false, eq_self, and_true, true_and, and_false, false_and, Option.bind_some, ne_eq, not_false_eq_true, not_true_eq_false, nI_add, pk_mul, pk_sub, nI_ac, q_tlt, q_flt, q_tle, q_fle, q_teq, q_feq, q_tin, nI_cl, q_m1, q_m2, q_m3, q_m4, q_m5, q_m6, q_m7, q_l1, q_l2, q_l3, q_l4, q_l5, q_l6, lN_add, lN_mul, lN_sub, lN_i, nI_l, q_rem, q_rem2, q_div, q_shl, q_shr, q_i0, q_i1, q_i2, q_i3, q_i4, q_i5, q_i6, q_i7, q_i8, q_i9, q_i10, q_i11, q_i12, q_i14, q_i15, q_i16, q_i17, q_i18, q_i19, q_i20, q_i22, q_i24, q_i26, q_i28, q_i30, q_i31, q_i32, q_i35, q_i36, q_i38, q_i40, q_i42, q_i43, q_i48, q_i51, q_i52, q_i56, q_i63, q_i64, q_i67, q_i80, q_i95, q_i99, q_i126, q_i127, q_i128, q_i255, q_i256, q_i512, q_i1024, q_i12000, q_i32512, q_i32768, q_i131072, q_j0, q_j1, q_j2, q_j3, q_j4, q_j8, q_j256, Nat.one_mul, Nat.zero_add, Nat.add_zero, Nat.sub_zero, Nat.mul_one, q_ofN, q_c1, q_c2, q_c3, q_c4, q_c5, q_j12000, q_j32768, q_j131072, q_j2147483647, q_j4294967295, q_j255, q_j12, q_i13, q_i21, q_i23, q_i25, q_i27, q_i29, q_i33, q_i34, q_i37, q_i39, q_i41, q_i44, q_i45, q_i46, q_i47, q_i49, q_i50, q_i53, q_i54, q_i55, q_i77, q_i164, q_i181, q_i236, q_i253, q_i2048, hm.k, hm.p22, hm.k22, hm.n22]; done))
  refine (zEv.some _).to fun n => ?_
  rw [hm.p22, nI_cl (by omega), e, nI_l (by omega)]
set_option maxRecDepth 100000 in
set_option maxHeartbeats 4000000 in
theorem c_numberOf {O : zO} {M : zM} {m s k c : Nat} {cb : Nat → Nat} (hm : zMo M m) (hcb : ∀ j, j < c → z_i M (m + 22) j = nI (cb j)) (hb : ∀ j, j < c → cb j < 256) (hc : c ≤ 32768) (hk : k ≤ 8) (hs : s + k ≤ c) : zEv (fun n => F_Mo_numberOf O n m (nI s) (nI k) M) (lN (nb cb s k), M) := by
  have mk := hm.k
  have loop : ∀ j, j ≤ k → zEv (fun n => f_Mo_numberOf_7 O n m (nI s) (lN (nb cb (s + j) (k - j))) (nI j - 1) M) (lN (nb cb s k), M) := by
    intro j
    induction j with
    | zero =>
      intro _
      refine zEv.succ ?_
      simp only [f_Mo_numberOf_7]
      refine zEv.ip (by decide) ?_
      rw [Nat.add_zero, Nat.sub_zero]
      exact zEv.some _
    | succ j ih =>
      intro hj
      have e1 : nI (j + 1) - 1 = nI j := nI_s1 (by omega)
      have hby := c_byteOf (O := O) (k := s + j) hm hcb hb hc (by omega)
      have hb1 := hb (s + j) (by omega)
      have hlt : nb cb (s + (j + 1)) (k - (j + 1)) < 256 ^ 7 := by
        have h9 : nb cb (s + (j + 1)) (k - (j + 1)) < 256 ^ (k - (j + 1)) := nb_lt (fun i hi => hb _ (by omega))
        have h10 : 256 ^ (k - (j + 1)) ≤ 256 ^ 7 := Nat.pow_le_pow_right (by omega) (by omega)
        omega
      have hA : nb cb (s + (j + 1)) (k - (j + 1)) * 256 + cb (s + j) = nb cb (s + j) (k - j) := by
        rw [show k - j = (k - (j + 1)) + 1 by omega]
        show nb cb (s + (j + 1)) (k - (j + 1)) * 256 + cb (s + j) = cb (s + j) + 256 * nb cb (s + j + 1) (k - (j + 1))
        rw [show s + (j + 1) = s + j + 1 by omega]
        omega
      have e2 : (lN (nb cb (s + (j + 1)) (k - (j + 1))) <<< ((8 : Int32).toInt64 &&& 63)) ||| lN (cb (s + j)) = lN (nb cb (s + j) (k - j)) := by
        have := z_lg_step hlt hb1
        rw [nI_l (by omega)] at this
        rw [this, hA]
      refine zEv.succ ?_
      simp only [f_Mo_numberOf_7]
      rw [e1]
      refine zEv.in_ (nI_pos (by omega)) (zEv.ip mk ?_)
      rw [nI_add]
      refine zEv.bind hby ?_
      refine (ih (by omega)).to fun n => ?_
      dsimp only
      rw [e2, show nI j - 1 = nI j + (-1) from Int32.sub_eq_add_neg _ _]
      rfl
  have := loop k (Nat.le_refl _)
  rw [Nat.sub_self] at this
  exact this.to fun n => rfl
set_option maxRecDepth 100000 in
set_option maxHeartbeats 4000000 in
theorem c_m324 {O : zO} {M : zM} {m c p : Nat} {h : Int64} {cb : Nat → Nat} (hm : zMo M m) (hcb : ∀ j, j < c → z_i M (m + 22) j = nI (cb j)) (hb : ∀ j, j < c → cb j < 256) (hc : c ≤ 32768) (hpc : p ≤ c) : ∀ d j, j + d = c - p → zEv (fun n => f_Mo_sum_324 O n m (nI c) (-7046029288634856825) (-4417276706812531889) 1609587929392839161 2870177450012600261 (nI (p + j)) (h1S cb p h j) M) (tlS cb p h c, M) := by
  have mk := hm.k
  intro d
  induction d with
  | zero =>
    intro j hj
    refine zEv.succ ?_
    simp only [f_Mo_sum_324]
    refine zEv.ip ((nI_leI (by omega) (by omega)).mpr (by omega)) ?_
    rw [show j = c - p by omega]
    exact zEv.some _
  | succ d ih =>
    intro j hj
    have hby := c_byteOf (O := O) (k := p + j) hm hcb hb hc (by omega)
    refine zEv.succ ?_
    simp only [f_Mo_sum_324]
    refine zEv.in_ (fun w => by have := (nI_leI (by omega) (by omega)).mp w; omega) (zEv.ip mk (zEv.bind hby (zEv.bind (c_rotated _ _) ?_)))
    refine (ih (j + 1) (by omega)).to fun n => ?_
    simp only [zlet, nI_1]
    rfl
theorem mx0 (x : Int64) : mx 0 x = rl (x * (-4417276706812531889 : Int64)) 31 * (-7046029288634856825 : Int64) := by
  unfold mx
  rw [Int64.zero_add]
set_option maxRecDepth 100000 in
set_option maxHeartbeats 4000000 in
theorem c_m240 {O : zO} {M : zM} {m c p : Nat} {h : Int64} {cb : Nat → Nat} (hm : zMo M m) (hcb : ∀ j, j < c → z_i M (m + 22) j = nI (cb j)) (hb : ∀ j, j < c → cb j < 256) (hc : c ≤ 32768) (hpc : p ≤ c) : ∀ d j, j + d = (c - p) / 8 → zEv (fun n => f_Mo_sum_240 O n m (nI c) (-7046029288634856825) (-4417276706812531889) 1609587929392839161 (-8796714831421723037) 2870177450012600261 (nI (p + 8 * j)) (h8S cb p h j) M) (t8S cb p h c, M) := by
  have mk := hm.k
  intro d
  induction d with
  | zero =>
    intro j hj
    refine zEv.succ ?_
    simp only [f_Mo_sum_240]
    rw [pk_sub (show p + 8 * j ≤ c by omega)]
    refine zEv.ip (nI_lt (b := 8) (by omega) (by omega)) ?_
    have ej : j = (c - p) / 8 := by omega
    unfold t8S t4S
    rw [← ej]
    by_cases c4 : c - (p + 8 * j) < 4
    · rw [if_pos c4]
      refine zEv.ip (nI_lt (b := 4) c4 (by omega)) ?_
      exact c_m324 (p := p + 8 * j) hm hcb hb hc (by omega) (c - (p + 8 * j)) 0 (by omega)
    · rw [if_neg c4]
      have hn := c_numberOf (O := O) (s := p + 8 * j) (k := 4) hm hcb hb hc (by omega) (by omega)
      refine zEv.in_ (nI_nlt (b := 4) (by omega) (by omega)) (zEv.ip mk (zEv.bind hn (zEv.bind (c_rotated _ _) ?_)))
      refine (c_m324 (O := O) hm hcb hb hc (p := p + 8 * j + 4) (by omega) (c - (p + 8 * j + 4)) 0 (by omega)).to fun n => ?_
      simp only [zlet, show (4 : Int32) = nI 4 from rfl, nI_add]
      rfl
  | succ d ih =>
    intro j hj
    have hn := c_numberOf (O := O) (s := p + 8 * j) (k := 8) hm hcb hb hc (by omega) (by omega)
    refine zEv.succ ?_
    simp only [f_Mo_sum_240]
    rw [pk_sub (show p + 8 * j ≤ c by omega)]
    refine zEv.in_ (nI_nlt (b := 8) (by omega) (by omega)) (zEv.ip mk (zEv.bind hn (zEv.bind (c_rotated _ _) (zEv.bind (c_rotated _ _) ?_))))
    refine (ih (j + 1) (by omega)).to fun n => ?_
    simp only [zlet, show (8 : Int32) = nI 8 from rfl, nI_add]
    show f_Mo_sum_240 O n m (nI c) _ _ _ _ _ _ (rl (h8S cb p h j ^^^ (rl (lN (nb cb (p + 8 * j) 8) * (-4417276706812531889 : Int64)) 31 * (-7046029288634856825 : Int64))) 27 * (-7046029288634856825 : Int64) + (-8796714831421723037 : Int64)) M = f_Mo_sum_240 O n m (nI c) _ _ _ _ _ _ (rl (h8S cb p h j ^^^ mx 0 (lN (nb cb (p + 8 * j) 8))) 27 * (-7046029288634856825 : Int64) + (-8796714831421723037 : Int64)) M
    rw [mx0]
    rfl
def zLa (M : zM) (m : Nat) (l : Int64 × Int64 × Int64 × Int64) : Prop := z_j M (m + 24) 0 = l.1 ∧ z_j M (m + 24) 1 = l.2.1 ∧ z_j M (m + 24) 2 = l.2.2.1 ∧ z_j M (m + 24) 3 = l.2.2.2
def sL4 (m q : Nat) : Prop := q = m + 24
set_option maxRecDepth 100000 in
set_option maxHeartbeats 4000000 in
theorem c_m84 {O : zO} {M : zM} {m c p : Nat} {x y : Int32} {l : Int64 × Int64 × Int64 × Int64} {cb : Nat → Nat} (hm : zMo M m) (hcb : ∀ j, j < c → z_i M (m + 22) j = nI (cb j)) (hb : ∀ j, j < c → cb j < 256) (hc : c ≤ 32768) (hpc : p + 32 ≤ c) (hl : zLa M m l) : ∃ M', zEk (fun n (k72 : Nat → Int32 → Int32 → Int64 → Int64 → Int64 → Int64 → Int64 → Int32 → zM → Option (Int64 × zM)) => f_Mo_sum_84 O k72 n m x y (-7046029288634856825) (-4417276706812531889) 1609587929392839161 (-8796714831421723037) 2870177450012600261 (nI p) (nI 0) M) (fun k72 => k72 m x y (-7046029288634856825) (-4417276706812531889) 1609587929392839161 (-8796714831421723037) 2870177450012600261 (nI (p + 32)) M') ∧ zRf sN (sL4 m) m M M' ∧ zLa M' m (mx l.1 (lN (nb cb p 8)), mx l.2.1 (lN (nb cb (p + 8) 8)), mx l.2.2.1 (lN (nb cb (p + 16) 8)), mx l.2.2.2 (lN (nb cb (p + 24) 8))) := by
  obtain ⟨l0, l1, l2, l3⟩ := hl
  have step : ∀ {M1 : zM} {k : Nat} {z : Int64}, k < 4 → zRf sN (sL4 m) m M M1 → z_j M1 (m + 24) k = z → ∀ {G : (Nat → Int32 → Int32 → Int64 → Int64 → Int64 → Int64 → Int64 → Int32 → zM → Option (Int64 × zM)) → Option (Int64 × zM)}, zEk (fun n k72 => f_Mo_sum_84 O k72 n m x y (-7046029288634856825) (-4417276706812531889) 1609587929392839161 (-8796714831421723037) 2870177450012600261 (nI p) (nI (k + 1)) (w_j M1 (m + 24) k (mx z (lN (nb cb (p + 8 * k) 8))))) G → zEk (fun n k72 => f_Mo_sum_84 O k72 n m x y (-7046029288634856825) (-4417276706812531889) 1609587929392839161 (-8796714831421723037) 2870177450012600261 (nI p) (nI k) M1) G := fun {M1 k z} hk r hz {G} hG => by
    have hm1 := r.mo hm
    have hn := c_numberOf (O := O) (s := p + 8 * k) (k := 8) hm1 (fun j hj => by rw [r.i (by omega) (by unfold sL4; omega)]; exact hcb j hj) hb hc (by omega) (by omega)
    refine zEk.succ ?_
    simp only [f_Mo_sum_84]
    repeat first | with_reducible refine zEk.zl ?_ | (with_reducible refine zEk.ip ?_ ?_; focus (simp only [hm1.k, hm1.p24, hm1.k24, hm1.n24]; done)) | (with_reducible refine zEk.ip ?_ ?_; focus (simp (disch := omega) only [zlet, w_i_k, w_i_n, w_i_i, w_i_j, w_i_p, w_i_s, w_j_k, w_j_n, w_j_i, w_j_j, w_j_p, w_j_s, w_p_k, w_p_n, w_p_i, w_p_j, w_p_p, w_p_s, w_c_k, w_c_n, w_c_i, w_c_j, w_c_p, w_c_s, w_u_k, w_u_n, w_u_i, w_u_j, w_u_p, w_u_s, q_nf, ↓reduceIte, if_true, if_false, eq_self, and_true, true_and, and_false, false_and, Option.bind_some, ne_eq, not_false_eq_true, not_true_eq_false, nI_add, pk_mul, pk_sub, nI_ac, q_tlt, q_flt, q_tle, q_fle, q_teq, q_feq, q_tin, nI_cl, q_m1, q_m2, q_m3, q_m4, q_m5, q_m6, q_m7, q_l1, q_l2, q_l3, q_l4, q_l5, q_l6, lN_add, lN_mul, lN_sub, lN_i, nI_l, q_rem, q_rem2, q_div, q_shl, q_shr, q_i0, q_i1, q_i2, q_i3, q_i4, q_i5, q_i6, q_i7, q_i8, q_i9, q_i10, q_i11, q_i12, q_i14, q_i15, q_i16, q_i17, q_i18, q_i19, q_i20, q_i22, q_i24, q_i26, q_i28, q_i30, q_i31, q_i32, q_i35, q_i36, q_i38, q_i40, q_i42, q_i43, q_i48, q_i51, q_i52, q_i56, q_i63, q_i64, q_i67, q_i80, q_i95, q_i99, q_i126, q_i127, q_i128, q_i255, q_i256, q_i512, q_i1024, q_i12000, q_i32512, q_i32768, q_i131072, q_j0, q_j1, q_j2, q_j3, q_j4, q_j8, q_j256, Nat.one_mul, Nat.zero_add, Nat.add_zero, Nat.sub_zero, Nat.mul_one, q_ofN, q_c1, q_c2, q_c3, q_c4, q_c5, q_j12000, q_j32768, q_j131072, q_j2147483647, q_j4294967295, q_j255, q_j12, q_i13, q_i21, q_i23, q_i25, q_i27, q_i29, q_i33, q_i34, q_i37, q_i39, q_i41, q_i44, q_i45, q_i46, q_i47, q_i49, q_i50, q_i53, q_i54, q_i55, q_i77, q_i164, q_i181, q_i236, q_i253, q_i2048, hm1.k, hm1.p24, hm1.k24, hm1.n24]; done)) | (with_reducible refine zEk.in_ ?_ ?_; focus (simp (disch := omega) only [zlet, w_i_k, w_i_n, w_i_i, w_i_j, w_i_p, w_i_s, w_j_k, w_j_n, w_j_i, w_j_j, w_j_p, w_j_s, w_p_k, w_p_n, w_p_i, w_p_j, w_p_p, w_p_s, w_c_k, w_c_n, w_c_i, w_c_j, w_c_p, w_c_s, w_u_k, w_u_n, w_u_i, w_u_j, w_u_p, w_u_s, q_nf, ↓reduceIte, if_true, if_false, eq_self, and_true, true_and, and_false, false_and, Option.bind_some, ne_eq, not_false_eq_true, not_true_eq_false, nI_add, pk_mul, pk_sub, nI_ac, q_tlt, q_flt, q_tle, q_fle, q_teq, q_feq, q_tin, nI_cl, q_m1, q_m2, q_m3, q_m4, q_m5, q_m6, q_m7, q_l1, q_l2, q_l3, q_l4, q_l5, q_l6, lN_add, lN_mul, lN_sub, lN_i, nI_l, q_rem, q_rem2, q_div, q_shl, q_shr, q_i0, q_i1, q_i2, q_i3, q_i4, q_i5, q_i6, q_i7, q_i8, q_i9, q_i10, q_i11, q_i12, q_i14, q_i15, q_i16, q_i17, q_i18, q_i19, q_i20, q_i22, q_i24, q_i26, q_i28, q_i30, q_i31, q_i32, q_i35, q_i36, q_i38, q_i40, q_i42, q_i43, q_i48, q_i51, q_i52, q_i56, q_i63, q_i64, q_i67, q_i80, q_i95, q_i99, q_i126, q_i127, q_i128, q_i255, q_i256, q_i512, q_i1024, q_i12000, q_i32512, q_i32768, q_i131072, q_j0, q_j1, q_j2, q_j3, q_j4, q_j8, q_j256, Nat.one_mul, Nat.zero_add, Nat.add_zero, Nat.sub_zero, Nat.mul_one, q_ofN, q_c1, q_c2, q_c3, q_c4, q_c5, q_j12000, q_j32768, q_j131072, q_j2147483647, q_j4294967295, q_j255, q_j12, q_i13, q_i21, q_i23, q_i25, q_i27, q_i29, q_i33, q_i34, q_i37, q_i39, q_i41, q_i44, q_i45, q_i46, q_i47, q_i49, q_i50, q_i53, q_i54, q_i55, q_i77, q_i164, q_i181, q_i236, q_i253, q_i2048, hm1.k, hm1.p24, hm1.k24, hm1.n24]; done))
    rw [show (8 : Int32) = nI 8 from rfl, pk_mul, nI_add, hm1.p24, nI_cl (show k < 2 ^ 31 by omega), hz]
    refine zEk.bind hn (zEk.bind (c_rotated _ _) ?_)
    repeat first | with_reducible refine zEk.zl ?_ | (with_reducible refine zEk.ip ?_ ?_; focus (simp only [hm1.k, hm1.p24, hm1.k24, hm1.n24]; done)) | (with_reducible refine zEk.ip ?_ ?_; focus (simp (disch := omega) only [zlet, w_i_k, w_i_n, w_i_i, w_i_j, w_i_p, w_i_s, w_j_k, w_j_n, w_j_i, w_j_j, w_j_p, w_j_s, w_p_k, w_p_n, w_p_i, w_p_j, w_p_p, w_p_s, w_c_k, w_c_n, w_c_i, w_c_j, w_c_p, w_c_s, w_u_k, w_u_n, w_u_i, w_u_j, w_u_p, w_u_s, q_nf, ↓reduceIte, if_true, if_false, eq_self, and_true, true_and, and_false, false_and, Option.bind_some, ne_eq, not_false_eq_true, not_true_eq_false, nI_add, pk_mul, pk_sub, nI_ac, q_tlt, q_flt, q_tle, q_fle, q_teq, q_feq, q_tin, nI_cl, q_m1, q_m2, q_m3, q_m4, q_m5, q_m6, q_m7, q_l1, q_l2, q_l3, q_l4, q_l5, q_l6, lN_add, lN_mul, lN_sub, lN_i, nI_l, q_rem, q_rem2, q_div, q_shl, q_shr, q_i0, q_i1, q_i2, q_i3, q_i4, q_i5, q_i6, q_i7, q_i8, q_i9, q_i10, q_i11, q_i12, q_i14, q_i15, q_i16, q_i17, q_i18, q_i19, q_i20, q_i22, q_i24, q_i26, q_i28, q_i30, q_i31, q_i32, q_i35, q_i36, q_i38, q_i40, q_i42, q_i43, q_i48, q_i51, q_i52, q_i56, q_i63, q_i64, q_i67, q_i80, q_i95, q_i99, q_i126, q_i127, q_i128, q_i255, q_i256, q_i512, q_i1024, q_i12000, q_i32512, q_i32768, q_i131072, q_j0, q_j1, q_j2, q_j3, q_j4, q_j8, q_j256, Nat.one_mul, Nat.zero_add, Nat.add_zero, Nat.sub_zero, Nat.mul_one, q_ofN, q_c1, q_c2, q_c3, q_c4, q_c5, q_j12000, q_j32768, q_j131072, q_j2147483647, q_j4294967295, q_j255, q_j12, q_i13, q_i21, q_i23, q_i25, q_i27, q_i29, q_i33, q_i34, q_i37, q_i39, q_i41, q_i44, q_i45, q_i46, q_i47, q_i49, q_i50, q_i53, q_i54, q_i55, q_i77, q_i164, q_i181, q_i236, q_i253, q_i2048, hm1.k, hm1.p24, hm1.k24, hm1.n24]; done)) | (with_reducible refine zEk.in_ ?_ ?_; focus (simp (disch := omega) only [zlet, w_i_k, w_i_n, w_i_i, w_i_j, w_i_p, w_i_s, w_j_k, w_j_n, w_j_i, w_j_j, w_j_p, w_j_s, w_p_k, w_p_n, w_p_i, w_p_j, w_p_p, w_p_s, w_c_k, w_c_n, w_c_i, w_c_j, w_c_p, w_c_s, w_u_k, w_u_n, w_u_i, w_u_j, w_u_p, w_u_s, q_nf, ↓reduceIte, if_true, if_false, eq_self, and_true, true_and, and_false, false_and, Option.bind_some, ne_eq, not_false_eq_true, not_true_eq_false, nI_add, pk_mul, pk_sub, nI_ac, q_tlt, q_flt, q_tle, q_fle, q_teq, q_feq, q_tin, nI_cl, q_m1, q_m2, q_m3, q_m4, q_m5, q_m6, q_m7, q_l1, q_l2, q_l3, q_l4, q_l5, q_l6, lN_add, lN_mul, lN_sub, lN_i, nI_l, q_rem, q_rem2, q_div, q_shl, q_shr, q_i0, q_i1, q_i2, q_i3, q_i4, q_i5, q_i6, q_i7, q_i8, q_i9, q_i10, q_i11, q_i12, q_i14, q_i15, q_i16, q_i17, q_i18, q_i19, q_i20, q_i22, q_i24, q_i26, q_i28, q_i30, q_i31, q_i32, q_i35, q_i36, q_i38, q_i40, q_i42, q_i43, q_i48, q_i51, q_i52, q_i56, q_i63, q_i64, q_i67, q_i80, q_i95, q_i99, q_i126, q_i127, q_i128, q_i255, q_i256, q_i512, q_i1024, q_i12000, q_i32512, q_i32768, q_i131072, q_j0, q_j1, q_j2, q_j3, q_j4, q_j8, q_j256, Nat.one_mul, Nat.zero_add, Nat.add_zero, Nat.sub_zero, Nat.mul_one, q_ofN, q_c1, q_c2, q_c3, q_c4, q_c5, q_j12000, q_j32768, q_j131072, q_j2147483647, q_j4294967295, q_j255, q_j12, q_i13, q_i21, q_i23, q_i25, q_i27, q_i29, q_i33, q_i34, q_i37, q_i39, q_i41, q_i44, q_i45, q_i46, q_i47, q_i49, q_i50, q_i53, q_i54, q_i55, q_i77, q_i164, q_i181, q_i236, q_i253, q_i2048, hm1.k, hm1.p24, hm1.k24, hm1.n24]; done))
    refine hG.to fun n K => ?_
    simp only [zlet, nI_1]
    rfl
  refine ⟨w_j (w_j (w_j (w_j M (m + 24) 0 (mx l.1 (lN (nb cb p 8)))) (m + 24) 1 (mx l.2.1 (lN (nb cb (p + 8) 8)))) (m + 24) 2 (mx l.2.2.1 (lN (nb cb (p + 16) 8)))) (m + 24) 3 (mx l.2.2.2 (lN (nb cb (p + 24) 8))), ?_, (((zRf.rf.wj (by exact rfl) (by omega)).wj (by exact rfl) (by omega)).wj (by exact rfl) (by omega)).wj (by exact rfl) (by omega), ?_, ?_, ?_, ?_⟩
  · refine step (k := 0) (by omega) zRf.rf l0 (step (k := 1) (z := l.2.1) (by omega) (zRf.rf.wj (by exact rfl) (by omega)) (by simp (disch := omega) only [zlet, w_i_k, w_i_n, w_i_i, w_i_j, w_i_p, w_i_s, w_j_k, w_j_n, w_j_i, w_j_j, w_j_p, w_j_s, w_p_k, w_p_n, w_p_i, w_p_j, w_p_p, w_p_s, w_c_k, w_c_n, w_c_i, w_c_j, w_c_p, w_c_s, w_u_k, w_u_n, w_u_i, w_u_j, w_u_p, w_u_s, q_nf, ↓reduceIte, if_true, if_false, eq_self, and_true, true_and, and_false, false_and, Option.bind_some, ne_eq, not_false_eq_true, not_true_eq_false]; exact l1) (step (k := 2) (z := l.2.2.1) (by omega) ((zRf.rf.wj (by exact rfl) (by omega)).wj (by exact rfl) (by omega)) (by simp (disch := omega) only [zlet, w_i_k, w_i_n, w_i_i, w_i_j, w_i_p, w_i_s, w_j_k, w_j_n, w_j_i, w_j_j, w_j_p, w_j_s, w_p_k, w_p_n, w_p_i, w_p_j, w_p_p, w_p_s, w_c_k, w_c_n, w_c_i, w_c_j, w_c_p, w_c_s, w_u_k, w_u_n, w_u_i, w_u_j, w_u_p, w_u_s, q_nf, ↓reduceIte, if_true, if_false, eq_self, and_true, true_and, and_false, false_and, Option.bind_some, ne_eq, not_false_eq_true, not_true_eq_false]; exact l2) (step (k := 3) (z := l.2.2.2) (by omega) (((zRf.rf.wj (by exact rfl) (by omega)).wj (by exact rfl) (by omega)).wj (by exact rfl) (by omega)) (by simp (disch := omega) only [zlet, w_i_k, w_i_n, w_i_i, w_i_j, w_i_p, w_i_s, w_j_k, w_j_n, w_j_i, w_j_j, w_j_p, w_j_s, w_p_k, w_p_n, w_p_i, w_p_j, w_p_p, w_p_s, w_c_k, w_c_n, w_c_i, w_c_j, w_c_p, w_c_s, w_u_k, w_u_n, w_u_i, w_u_j, w_u_p, w_u_s, q_nf, ↓reduceIte, if_true, if_false, eq_self, and_true, true_and, and_false, false_and, Option.bind_some, ne_eq, not_false_eq_true, not_true_eq_false]; exact l3) (zEk.succ ?_))))
    simp only [f_Mo_sum_84]
    refine zEk.ip (by decide) (zEk.of fun n K => ?_)
    simp only [zlet, show (32 : Int32) = nI 32 from rfl, nI_add]
    rfl
  · simp (disch := omega) only [zlet, w_i_k, w_i_n, w_i_i, w_i_j, w_i_p, w_i_s, w_j_k, w_j_n, w_j_i, w_j_j, w_j_p, w_j_s, w_p_k, w_p_n, w_p_i, w_p_j, w_p_p, w_p_s, w_c_k, w_c_n, w_c_i, w_c_j, w_c_p, w_c_s, w_u_k, w_u_n, w_u_i, w_u_j, w_u_p, w_u_s, q_nf, ↓reduceIte, if_true, if_false, eq_self, and_true, true_and, and_false, false_and, Option.bind_some, ne_eq, not_false_eq_true, not_true_eq_false]
  · simp (disch := omega) only [zlet, w_i_k, w_i_n, w_i_i, w_i_j, w_i_p, w_i_s, w_j_k, w_j_n, w_j_i, w_j_j, w_j_p, w_j_s, w_p_k, w_p_n, w_p_i, w_p_j, w_p_p, w_p_s, w_c_k, w_c_n, w_c_i, w_c_j, w_c_p, w_c_s, w_u_k, w_u_n, w_u_i, w_u_j, w_u_p, w_u_s, q_nf, ↓reduceIte, if_true, if_false, eq_self, and_true, true_and, and_false, false_and, Option.bind_some, ne_eq, not_false_eq_true, not_true_eq_false]
  · simp (disch := omega) only [zlet, w_i_k, w_i_n, w_i_i, w_i_j, w_i_p, w_i_s, w_j_k, w_j_n, w_j_i, w_j_j, w_j_p, w_j_s, w_p_k, w_p_n, w_p_i, w_p_j, w_p_p, w_p_s, w_c_k, w_c_n, w_c_i, w_c_j, w_c_p, w_c_s, w_u_k, w_u_n, w_u_i, w_u_j, w_u_p, w_u_s, q_nf, ↓reduceIte, if_true, if_false, eq_self, and_true, true_and, and_false, false_and, Option.bind_some, ne_eq, not_false_eq_true, not_true_eq_false]
  · simp (disch := omega) only [zlet, w_i_k, w_i_n, w_i_i, w_i_j, w_i_p, w_i_s, w_j_k, w_j_n, w_j_i, w_j_j, w_j_p, w_j_s, w_p_k, w_p_n, w_p_i, w_p_j, w_p_p, w_p_s, w_c_k, w_c_n, w_c_i, w_c_j, w_c_p, w_c_s, w_u_k, w_u_n, w_u_i, w_u_j, w_u_p, w_u_s, q_nf, ↓reduceIte, if_true, if_false, eq_self, and_true, true_and, and_false, false_and, Option.bind_some, ne_eq, not_false_eq_true, not_true_eq_false]
set_option maxRecDepth 100000 in
set_option maxHeartbeats 4000000 in
theorem c_m192 {O : zO} {M : zM} {m c fs p : Nat} {h : Int64} {l : Int64 × Int64 × Int64 × Int64} {cb : Nat → Nat} (hm : zMo M m) (hcb : ∀ j, j < c → z_i M (m + 22) j = nI (cb j)) (hb : ∀ j, j < c → cb j < 256) (hc : c ≤ 32768) (hpc : p ≤ c) (hfs : fs ≤ c) (hl : zLa M m l) : zEv (fun n => f_Mo_sum_192 O n m (nI fs) (nI c) (-7046029288634856825) (-4417276706812531889) 1609587929392839161 (-8796714831421723037) 2870177450012600261 (nI p) h (nI 0) M) (t8S cb p (fo (fo (fo (fo h l.1) l.2.1) l.2.2.1) l.2.2.2 + lN (c - fs)) c, M) := by
  obtain ⟨l0, l1, l2, l3⟩ := hl
  have step : ∀ {k : Nat} {z h : Int64}, k < 4 → z_j M (m + 24) k = z → ∀ {α : Int64 × zM}, zEv (fun n => f_Mo_sum_192 O n m (nI fs) (nI c) (-7046029288634856825) (-4417276706812531889) 1609587929392839161 (-8796714831421723037) 2870177450012600261 (nI p) (fo h z) (nI (k + 1)) M) α → zEv (fun n => f_Mo_sum_192 O n m (nI fs) (nI c) (-7046029288634856825) (-4417276706812531889) 1609587929392839161 (-8796714831421723037) 2870177450012600261 (nI p) h (nI k) M) α := fun {k z h} hk hz {α} hα => by
    refine zEv.succ ?_
    simp only [f_Mo_sum_192]
    repeat first | with_reducible refine zEv.zl ?_ | (with_reducible refine zEv.ip ?_ ?_; focus (simp only [hm.k, hm.p24, hm.k24, hm.n24]; done)) | (with_reducible refine zEv.ip ?_ ?_; focus (simp (disch := omega) only [zlet, w_i_k, w_i_n, w_i_i, w_i_j, w_i_p, w_i_s, w_j_k, w_j_n, w_j_i, w_j_j, w_j_p, w_j_s, w_p_k, w_p_n, w_p_i, w_p_j, w_p_p, w_p_s, w_c_k, w_c_n, w_c_i, w_c_j, w_c_p, w_c_s, w_u_k, w_u_n, w_u_i, w_u_j, w_u_p, w_u_s, q_nf, ↓reduceIte, if_true, if_false, eq_self, and_true, true_and, and_false, false_and, Option.bind_some, ne_eq, not_false_eq_true, not_true_eq_false, nI_add, pk_mul, pk_sub, nI_ac, q_tlt, q_flt, q_tle, q_fle, q_teq, q_feq, q_tin, nI_cl, q_m1, q_m2, q_m3, q_m4, q_m5, q_m6, q_m7, q_l1, q_l2, q_l3, q_l4, q_l5, q_l6, lN_add, lN_mul, lN_sub, lN_i, nI_l, q_rem, q_rem2, q_div, q_shl, q_shr, q_i0, q_i1, q_i2, q_i3, q_i4, q_i5, q_i6, q_i7, q_i8, q_i9, q_i10, q_i11, q_i12, q_i14, q_i15, q_i16, q_i17, q_i18, q_i19, q_i20, q_i22, q_i24, q_i26, q_i28, q_i30, q_i31, q_i32, q_i35, q_i36, q_i38, q_i40, q_i42, q_i43, q_i48, q_i51, q_i52, q_i56, q_i63, q_i64, q_i67, q_i80, q_i95, q_i99, q_i126, q_i127, q_i128, q_i255, q_i256, q_i512, q_i1024, q_i12000, q_i32512, q_i32768, q_i131072, q_j0, q_j1, q_j2, q_j3, q_j4, q_j8, q_j256, Nat.one_mul, Nat.zero_add, Nat.add_zero, Nat.sub_zero, Nat.mul_one, q_ofN, q_c1, q_c2, q_c3, q_c4, q_c5, q_j12000, q_j32768, q_j131072, q_j2147483647, q_j4294967295, q_j255, q_j12, q_i13, q_i21, q_i23, q_i25, q_i27, q_i29, q_i33, q_i34, q_i37, q_i39, q_i41, q_i44, q_i45, q_i46, q_i47, q_i49, q_i50, q_i53, q_i54, q_i55, q_i77, q_i164, q_i181, q_i236, q_i253, q_i2048, hm.k, hm.p24, hm.k24, hm.n24]; done)) | (with_reducible refine zEv.in_ ?_ ?_; focus (simp (disch := omega) only [zlet, w_i_k, w_i_n, w_i_i, w_i_j, w_i_p, w_i_s, w_j_k, w_j_n, w_j_i, w_j_j, w_j_p, w_j_s, w_p_k, w_p_n, w_p_i, w_p_j, w_p_p, w_p_s, w_c_k, w_c_n, w_c_i, w_c_j, w_c_p, w_c_s, w_u_k, w_u_n, w_u_i, w_u_j, w_u_p, w_u_s, q_nf, ↓reduceIte, if_true, if_false, eq_self, and_true, true_and, and_false, false_and, Option.bind_some, ne_eq, not_false_eq_true, not_true_eq_false, nI_add, pk_mul, pk_sub, nI_ac, q_tlt, q_flt, q_tle, q_fle, q_teq, q_feq, q_tin, nI_cl, q_m1, q_m2, q_m3, q_m4, q_m5, q_m6, q_m7, q_l1, q_l2, q_l3, q_l4, q_l5, q_l6, lN_add, lN_mul, lN_sub, lN_i, nI_l, q_rem, q_rem2, q_div, q_shl, q_shr, q_i0, q_i1, q_i2, q_i3, q_i4, q_i5, q_i6, q_i7, q_i8, q_i9, q_i10, q_i11, q_i12, q_i14, q_i15, q_i16, q_i17, q_i18, q_i19, q_i20, q_i22, q_i24, q_i26, q_i28, q_i30, q_i31, q_i32, q_i35, q_i36, q_i38, q_i40, q_i42, q_i43, q_i48, q_i51, q_i52, q_i56, q_i63, q_i64, q_i67, q_i80, q_i95, q_i99, q_i126, q_i127, q_i128, q_i255, q_i256, q_i512, q_i1024, q_i12000, q_i32512, q_i32768, q_i131072, q_j0, q_j1, q_j2, q_j3, q_j4, q_j8, q_j256, Nat.one_mul, Nat.zero_add, Nat.add_zero, Nat.sub_zero, Nat.mul_one, q_ofN, q_c1, q_c2, q_c3, q_c4, q_c5, q_j12000, q_j32768, q_j131072, q_j2147483647, q_j4294967295, q_j255, q_j12, q_i13, q_i21, q_i23, q_i25, q_i27, q_i29, q_i33, q_i34, q_i37, q_i39, q_i41, q_i44, q_i45, q_i46, q_i47, q_i49, q_i50, q_i53, q_i54, q_i55, q_i77, q_i164, q_i181, q_i236, q_i253, q_i2048, hm.k, hm.p24, hm.k24, hm.n24]; done))
    rw [hm.p24, nI_cl (show k < 2 ^ 31 by omega), hz]
    refine zEv.bind (c_rotated _ _) ?_
    refine hα.to fun n => ?_
    simp only [zlet, nI_1, fo, mx0]
  refine step (k := 0) (by omega) l0 (step (k := 1) (by omega) l1 (step (k := 2) (by omega) l2 (step (k := 3) (by omega) l3 (zEv.succ ?_))))
  simp only [f_Mo_sum_192]
  refine zEv.ip (by decide) ?_
  unfold f_Mo_sum_231
  refine (c_m240 (O := O) hm hcb hb hc hpc ((c - p) / 8) 0 (by omega)).to fun n => ?_
  simp only [zlet]
  rw [pk_sub hfs, nI_l (show c - fs < 2 ^ 31 by omega)]
  rfl
set_option maxRecDepth 100000 in
set_option maxHeartbeats 4000000 in
theorem c_m72 {O : zO} {m c fs : Nat} {cb : Nat → Nat} (hb : ∀ j, j < c → cb j < 256) (hc : c ≤ 32768) (hfs : fs ≤ c) : ∀ d j M, j + d = (c - fs) / 32 → zMo M m → (∀ j, j < c → z_i M (m + 22) j = nI (cb j)) → zLa M m (laS cb fs j) → ∃ M', zEv (fun n => f_Mo_sum_72 O n m (nI fs) (nI c) (-7046029288634856825) (-4417276706812531889) 1609587929392839161 (-8796714831421723037) 2870177450012600261 (nI (fs + 32 * j)) M) (t8S cb (fs + 32 * ((c - fs) / 32)) (lnS4 (laS cb fs ((c - fs) / 32)) + lN (c - fs)) c, M') ∧ zRf sN (sL4 m) m M M' := by
  intro d
  induction d with
  | zero =>
    intro j M hj hm hcb hl
    have ej : j = (c - fs) / 32 := by omega
    rw [← ej]
    have hl' := hl
    obtain ⟨l0, l1, l2, l3⟩ := hl
    have z0 : (0 : Int32).toNatClampNeg = 0 := rfl
    have z1 : (1 : Int32).toNatClampNeg = 1 := rfl
    have z2 : (2 : Int32).toNatClampNeg = 2 := rfl
    have z3 : (3 : Int32).toNatClampNeg = 3 := rfl
    refine ⟨M, zEv.succ ?_, zRf.rf⟩
    simp only [f_Mo_sum_72]
    rw [pk_sub (show fs + 32 * j ≤ c by omega)]
    refine zEv.ip (nI_lt (b := 32) (by omega) (by omega)) ?_
    repeat first | with_reducible refine zEv.zl ?_ | (with_reducible refine zEv.ip ?_ ?_; focus (simp only [hm.k, hm.p24, hm.k24, hm.n24]; done)) | (with_reducible refine zEv.ip ?_ ?_; focus (simp (disch := omega) only [zlet, w_i_k, w_i_n, w_i_i, w_i_j, w_i_p, w_i_s, w_j_k, w_j_n, w_j_i, w_j_j, w_j_p, w_j_s, w_p_k, w_p_n, w_p_i, w_p_j, w_p_p, w_p_s, w_c_k, w_c_n, w_c_i, w_c_j, w_c_p, w_c_s, w_u_k, w_u_n, w_u_i, w_u_j, w_u_p, w_u_s, q_nf, ↓reduceIte, if_true, if_false, eq_self, and_true, true_and, and_false, false_and, Option.bind_some, ne_eq, not_false_eq_true, not_true_eq_false, nI_add, pk_mul, pk_sub, nI_ac, q_tlt, q_flt, q_tle, q_fle, q_teq, q_feq, q_tin, nI_cl, q_m1, q_m2, q_m3, q_m4, q_m5, q_m6, q_m7, q_l1, q_l2, q_l3, q_l4, q_l5, q_l6, lN_add, lN_mul, lN_sub, lN_i, nI_l, q_rem, q_rem2, q_div, q_shl, q_shr, q_i0, q_i1, q_i2, q_i3, q_i4, q_i5, q_i6, q_i7, q_i8, q_i9, q_i10, q_i11, q_i12, q_i14, q_i15, q_i16, q_i17, q_i18, q_i19, q_i20, q_i22, q_i24, q_i26, q_i28, q_i30, q_i31, q_i32, q_i35, q_i36, q_i38, q_i40, q_i42, q_i43, q_i48, q_i51, q_i52, q_i56, q_i63, q_i64, q_i67, q_i80, q_i95, q_i99, q_i126, q_i127, q_i128, q_i255, q_i256, q_i512, q_i1024, q_i12000, q_i32512, q_i32768, q_i131072, q_j0, q_j1, q_j2, q_j3, q_j4, q_j8, q_j256, Nat.one_mul, Nat.zero_add, Nat.add_zero, Nat.sub_zero, Nat.mul_one, q_ofN, q_c1, q_c2, q_c3, q_c4, q_c5, q_j12000, q_j32768, q_j131072, q_j2147483647, q_j4294967295, q_j255, q_j12, q_i13, q_i21, q_i23, q_i25, q_i27, q_i29, q_i33, q_i34, q_i37, q_i39, q_i41, q_i44, q_i45, q_i46, q_i47, q_i49, q_i50, q_i53, q_i54, q_i55, q_i77, q_i164, q_i181, q_i236, q_i253, q_i2048, hm.k, hm.p24, hm.k24, hm.n24]; done)) | (with_reducible refine zEv.in_ ?_ ?_; focus (simp (disch := omega) only [zlet, w_i_k, w_i_n, w_i_i, w_i_j, w_i_p, w_i_s, w_j_k, w_j_n, w_j_i, w_j_j, w_j_p, w_j_s, w_p_k, w_p_n, w_p_i, w_p_j, w_p_p, w_p_s, w_c_k, w_c_n, w_c_i, w_c_j, w_c_p, w_c_s, w_u_k, w_u_n, w_u_i, w_u_j, w_u_p, w_u_s, q_nf, ↓reduceIte, if_true, if_false, eq_self, and_true, true_and, and_false, false_and, Option.bind_some, ne_eq, not_false_eq_true, not_true_eq_false, nI_add, pk_mul, pk_sub, nI_ac, q_tlt, q_flt, q_tle, q_fle, q_teq, q_feq, q_tin, nI_cl, q_m1, q_m2, q_m3, q_m4, q_m5, q_m6, q_m7, q_l1, q_l2, q_l3, q_l4, q_l5, q_l6, lN_add, lN_mul, lN_sub, lN_i, nI_l, q_rem, q_rem2, q_div, q_shl, q_shr, q_i0, q_i1, q_i2, q_i3, q_i4, q_i5, q_i6, q_i7, q_i8, q_i9, q_i10, q_i11, q_i12, q_i14, q_i15, q_i16, q_i17, q_i18, q_i19, q_i20, q_i22, q_i24, q_i26, q_i28, q_i30, q_i31, q_i32, q_i35, q_i36, q_i38, q_i40, q_i42, q_i43, q_i48, q_i51, q_i52, q_i56, q_i63, q_i64, q_i67, q_i80, q_i95, q_i99, q_i126, q_i127, q_i128, q_i255, q_i256, q_i512, q_i1024, q_i12000, q_i32512, q_i32768, q_i131072, q_j0, q_j1, q_j2, q_j3, q_j4, q_j8, q_j256, Nat.one_mul, Nat.zero_add, Nat.add_zero, Nat.sub_zero, Nat.mul_one, q_ofN, q_c1, q_c2, q_c3, q_c4, q_c5, q_j12000, q_j32768, q_j131072, q_j2147483647, q_j4294967295, q_j255, q_j12, q_i13, q_i21, q_i23, q_i25, q_i27, q_i29, q_i33, q_i34, q_i37, q_i39, q_i41, q_i44, q_i45, q_i46, q_i47, q_i49, q_i50, q_i53, q_i54, q_i55, q_i77, q_i164, q_i181, q_i236, q_i253, q_i2048, hm.k, hm.p24, hm.k24, hm.n24]; done))
    rw [hm.p24, z0, l0]
    refine zEv.bind (c_rotated _ _) ?_
    repeat first | with_reducible refine zEv.zl ?_ | (with_reducible refine zEv.ip ?_ ?_; focus (simp only [hm.k, hm.p24, hm.k24, hm.n24]; done)) | (with_reducible refine zEv.ip ?_ ?_; focus (simp (disch := omega) only [zlet, w_i_k, w_i_n, w_i_i, w_i_j, w_i_p, w_i_s, w_j_k, w_j_n, w_j_i, w_j_j, w_j_p, w_j_s, w_p_k, w_p_n, w_p_i, w_p_j, w_p_p, w_p_s, w_c_k, w_c_n, w_c_i, w_c_j, w_c_p, w_c_s, w_u_k, w_u_n, w_u_i, w_u_j, w_u_p, w_u_s, q_nf, ↓reduceIte, if_true, if_false, eq_self, and_true, true_and, and_false, false_and, Option.bind_some, ne_eq, not_false_eq_true, not_true_eq_false, nI_add, pk_mul, pk_sub, nI_ac, q_tlt, q_flt, q_tle, q_fle, q_teq, q_feq, q_tin, nI_cl, q_m1, q_m2, q_m3, q_m4, q_m5, q_m6, q_m7, q_l1, q_l2, q_l3, q_l4, q_l5, q_l6, lN_add, lN_mul, lN_sub, lN_i, nI_l, q_rem, q_rem2, q_div, q_shl, q_shr, q_i0, q_i1, q_i2, q_i3, q_i4, q_i5, q_i6, q_i7, q_i8, q_i9, q_i10, q_i11, q_i12, q_i14, q_i15, q_i16, q_i17, q_i18, q_i19, q_i20, q_i22, q_i24, q_i26, q_i28, q_i30, q_i31, q_i32, q_i35, q_i36, q_i38, q_i40, q_i42, q_i43, q_i48, q_i51, q_i52, q_i56, q_i63, q_i64, q_i67, q_i80, q_i95, q_i99, q_i126, q_i127, q_i128, q_i255, q_i256, q_i512, q_i1024, q_i12000, q_i32512, q_i32768, q_i131072, q_j0, q_j1, q_j2, q_j3, q_j4, q_j8, q_j256, Nat.one_mul, Nat.zero_add, Nat.add_zero, Nat.sub_zero, Nat.mul_one, q_ofN, q_c1, q_c2, q_c3, q_c4, q_c5, q_j12000, q_j32768, q_j131072, q_j2147483647, q_j4294967295, q_j255, q_j12, q_i13, q_i21, q_i23, q_i25, q_i27, q_i29, q_i33, q_i34, q_i37, q_i39, q_i41, q_i44, q_i45, q_i46, q_i47, q_i49, q_i50, q_i53, q_i54, q_i55, q_i77, q_i164, q_i181, q_i236, q_i253, q_i2048, hm.k, hm.p24, hm.k24, hm.n24]; done)) | (with_reducible refine zEv.in_ ?_ ?_; focus (simp (disch := omega) only [zlet, w_i_k, w_i_n, w_i_i, w_i_j, w_i_p, w_i_s, w_j_k, w_j_n, w_j_i, w_j_j, w_j_p, w_j_s, w_p_k, w_p_n, w_p_i, w_p_j, w_p_p, w_p_s, w_c_k, w_c_n, w_c_i, w_c_j, w_c_p, w_c_s, w_u_k, w_u_n, w_u_i, w_u_j, w_u_p, w_u_s, q_nf, ↓reduceIte, if_true, if_false, eq_self, and_true, true_and, and_false, false_and, Option.bind_some, ne_eq, not_false_eq_true, not_true_eq_false, nI_add, pk_mul, pk_sub, nI_ac, q_tlt, q_flt, q_tle, q_fle, q_teq, q_feq, q_tin, nI_cl, q_m1, q_m2, q_m3, q_m4, q_m5, q_m6, q_m7, q_l1, q_l2, q_l3, q_l4, q_l5, q_l6, lN_add, lN_mul, lN_sub, lN_i, nI_l, q_rem, q_rem2, q_div, q_shl, q_shr, q_i0, q_i1, q_i2, q_i3, q_i4, q_i5, q_i6, q_i7, q_i8, q_i9, q_i10, q_i11, q_i12, q_i14, q_i15, q_i16, q_i17, q_i18, q_i19, q_i20, q_i22, q_i24, q_i26, q_i28, q_i30, q_i31, q_i32, q_i35, q_i36, q_i38, q_i40, q_i42, q_i43, q_i48, q_i51, q_i52, q_i56, q_i63, q_i64, q_i67, q_i80, q_i95, q_i99, q_i126, q_i127, q_i128, q_i255, q_i256, q_i512, q_i1024, q_i12000, q_i32512, q_i32768, q_i131072, q_j0, q_j1, q_j2, q_j3, q_j4, q_j8, q_j256, Nat.one_mul, Nat.zero_add, Nat.add_zero, Nat.sub_zero, Nat.mul_one, q_ofN, q_c1, q_c2, q_c3, q_c4, q_c5, q_j12000, q_j32768, q_j131072, q_j2147483647, q_j4294967295, q_j255, q_j12, q_i13, q_i21, q_i23, q_i25, q_i27, q_i29, q_i33, q_i34, q_i37, q_i39, q_i41, q_i44, q_i45, q_i46, q_i47, q_i49, q_i50, q_i53, q_i54, q_i55, q_i77, q_i164, q_i181, q_i236, q_i253, q_i2048, hm.k, hm.p24, hm.k24, hm.n24]; done))
    dsimp only
    rw [hm.p24, z1, l1]
    refine zEv.bind (c_rotated _ _) ?_
    repeat first | with_reducible refine zEv.zl ?_ | (with_reducible refine zEv.ip ?_ ?_; focus (simp only [hm.k, hm.p24, hm.k24, hm.n24]; done)) | (with_reducible refine zEv.ip ?_ ?_; focus (simp (disch := omega) only [zlet, w_i_k, w_i_n, w_i_i, w_i_j, w_i_p, w_i_s, w_j_k, w_j_n, w_j_i, w_j_j, w_j_p, w_j_s, w_p_k, w_p_n, w_p_i, w_p_j, w_p_p, w_p_s, w_c_k, w_c_n, w_c_i, w_c_j, w_c_p, w_c_s, w_u_k, w_u_n, w_u_i, w_u_j, w_u_p, w_u_s, q_nf, ↓reduceIte, if_true, if_false, eq_self, and_true, true_and, and_false, false_and, Option.bind_some, ne_eq, not_false_eq_true, not_true_eq_false, nI_add, pk_mul, pk_sub, nI_ac, q_tlt, q_flt, q_tle, q_fle, q_teq, q_feq, q_tin, nI_cl, q_m1, q_m2, q_m3, q_m4, q_m5, q_m6, q_m7, q_l1, q_l2, q_l3, q_l4, q_l5, q_l6, lN_add, lN_mul, lN_sub, lN_i, nI_l, q_rem, q_rem2, q_div, q_shl, q_shr, q_i0, q_i1, q_i2, q_i3, q_i4, q_i5, q_i6, q_i7, q_i8, q_i9, q_i10, q_i11, q_i12, q_i14, q_i15, q_i16, q_i17, q_i18, q_i19, q_i20, q_i22, q_i24, q_i26, q_i28, q_i30, q_i31, q_i32, q_i35, q_i36, q_i38, q_i40, q_i42, q_i43, q_i48, q_i51, q_i52, q_i56, q_i63, q_i64, q_i67, q_i80, q_i95, q_i99, q_i126, q_i127, q_i128, q_i255, q_i256, q_i512, q_i1024, q_i12000, q_i32512, q_i32768, q_i131072, q_j0, q_j1, q_j2, q_j3, q_j4, q_j8, q_j256, Nat.one_mul, Nat.zero_add, Nat.add_zero, Nat.sub_zero, Nat.mul_one, q_ofN, q_c1, q_c2, q_c3, q_c4, q_c5, q_j12000, q_j32768, q_j131072, q_j2147483647, q_j4294967295, q_j255, q_j12, q_i13, q_i21, q_i23, q_i25, q_i27, q_i29, q_i33, q_i34, q_i37, q_i39, q_i41, q_i44, q_i45, q_i46, q_i47, q_i49, q_i50, q_i53, q_i54, q_i55, q_i77, q_i164, q_i181, q_i236, q_i253, q_i2048, hm.k, hm.p24, hm.k24, hm.n24]; done)) | (with_reducible refine zEv.in_ ?_ ?_; focus (simp (disch := omega) only [zlet, w_i_k, w_i_n, w_i_i, w_i_j, w_i_p, w_i_s, w_j_k, w_j_n, w_j_i, w_j_j, w_j_p, w_j_s, w_p_k, w_p_n, w_p_i, w_p_j, w_p_p, w_p_s, w_c_k, w_c_n, w_c_i, w_c_j, w_c_p, w_c_s, w_u_k, w_u_n, w_u_i, w_u_j, w_u_p, w_u_s, q_nf, ↓reduceIte, if_true, if_false, eq_self, and_true, true_and, and_false, false_and, Option.bind_some, ne_eq, not_false_eq_true, not_true_eq_false, nI_add, pk_mul, pk_sub, nI_ac, q_tlt, q_flt, q_tle, q_fle, q_teq, q_feq, q_tin, nI_cl, q_m1, q_m2, q_m3, q_m4, q_m5, q_m6, q_m7, q_l1, q_l2, q_l3, q_l4, q_l5, q_l6, lN_add, lN_mul, lN_sub, lN_i, nI_l, q_rem, q_rem2, q_div, q_shl, q_shr, q_i0, q_i1, q_i2, q_i3, q_i4, q_i5, q_i6, q_i7, q_i8, q_i9, q_i10, q_i11, q_i12, q_i14, q_i15, q_i16, q_i17, q_i18, q_i19, q_i20, q_i22, q_i24, q_i26, q_i28, q_i30, q_i31, q_i32, q_i35, q_i36, q_i38, q_i40, q_i42, q_i43, q_i48, q_i51, q_i52, q_i56, q_i63, q_i64, q_i67, q_i80, q_i95, q_i99, q_i126, q_i127, q_i128, q_i255, q_i256, q_i512, q_i1024, q_i12000, q_i32512, q_i32768, q_i131072, q_j0, q_j1, q_j2, q_j3, q_j4, q_j8, q_j256, Nat.one_mul, Nat.zero_add, Nat.add_zero, Nat.sub_zero, Nat.mul_one, q_ofN, q_c1, q_c2, q_c3, q_c4, q_c5, q_j12000, q_j32768, q_j131072, q_j2147483647, q_j4294967295, q_j255, q_j12, q_i13, q_i21, q_i23, q_i25, q_i27, q_i29, q_i33, q_i34, q_i37, q_i39, q_i41, q_i44, q_i45, q_i46, q_i47, q_i49, q_i50, q_i53, q_i54, q_i55, q_i77, q_i164, q_i181, q_i236, q_i253, q_i2048, hm.k, hm.p24, hm.k24, hm.n24]; done))
    dsimp only
    rw [hm.p24, z2, l2]
    refine zEv.bind (c_rotated _ _) ?_
    repeat first | with_reducible refine zEv.zl ?_ | (with_reducible refine zEv.ip ?_ ?_; focus (simp only [hm.k, hm.p24, hm.k24, hm.n24]; done)) | (with_reducible refine zEv.ip ?_ ?_; focus (simp (disch := omega) only [zlet, w_i_k, w_i_n, w_i_i, w_i_j, w_i_p, w_i_s, w_j_k, w_j_n, w_j_i, w_j_j, w_j_p, w_j_s, w_p_k, w_p_n, w_p_i, w_p_j, w_p_p, w_p_s, w_c_k, w_c_n, w_c_i, w_c_j, w_c_p, w_c_s, w_u_k, w_u_n, w_u_i, w_u_j, w_u_p, w_u_s, q_nf, ↓reduceIte, if_true, if_false, eq_self, and_true, true_and, and_false, false_and, Option.bind_some, ne_eq, not_false_eq_true, not_true_eq_false, nI_add, pk_mul, pk_sub, nI_ac, q_tlt, q_flt, q_tle, q_fle, q_teq, q_feq, q_tin, nI_cl, q_m1, q_m2, q_m3, q_m4, q_m5, q_m6, q_m7, q_l1, q_l2, q_l3, q_l4, q_l5, q_l6, lN_add, lN_mul, lN_sub, lN_i, nI_l, q_rem, q_rem2, q_div, q_shl, q_shr, q_i0, q_i1, q_i2, q_i3, q_i4, q_i5, q_i6, q_i7, q_i8, q_i9, q_i10, q_i11, q_i12, q_i14, q_i15, q_i16, q_i17, q_i18, q_i19, q_i20, q_i22, q_i24, q_i26, q_i28, q_i30, q_i31, q_i32, q_i35, q_i36, q_i38, q_i40, q_i42, q_i43, q_i48, q_i51, q_i52, q_i56, q_i63, q_i64, q_i67, q_i80, q_i95, q_i99, q_i126, q_i127, q_i128, q_i255, q_i256, q_i512, q_i1024, q_i12000, q_i32512, q_i32768, q_i131072, q_j0, q_j1, q_j2, q_j3, q_j4, q_j8, q_j256, Nat.one_mul, Nat.zero_add, Nat.add_zero, Nat.sub_zero, Nat.mul_one, q_ofN, q_c1, q_c2, q_c3, q_c4, q_c5, q_j12000, q_j32768, q_j131072, q_j2147483647, q_j4294967295, q_j255, q_j12, q_i13, q_i21, q_i23, q_i25, q_i27, q_i29, q_i33, q_i34, q_i37, q_i39, q_i41, q_i44, q_i45, q_i46, q_i47, q_i49, q_i50, q_i53, q_i54, q_i55, q_i77, q_i164, q_i181, q_i236, q_i253, q_i2048, hm.k, hm.p24, hm.k24, hm.n24]; done)) | (with_reducible refine zEv.in_ ?_ ?_; focus (simp (disch := omega) only [zlet, w_i_k, w_i_n, w_i_i, w_i_j, w_i_p, w_i_s, w_j_k, w_j_n, w_j_i, w_j_j, w_j_p, w_j_s, w_p_k, w_p_n, w_p_i, w_p_j, w_p_p, w_p_s, w_c_k, w_c_n, w_c_i, w_c_j, w_c_p, w_c_s, w_u_k, w_u_n, w_u_i, w_u_j, w_u_p, w_u_s, q_nf, ↓reduceIte, if_true, if_false, eq_self, and_true, true_and, and_false, false_and, Option.bind_some, ne_eq, not_false_eq_true, not_true_eq_false, nI_add, pk_mul, pk_sub, nI_ac, q_tlt, q_flt, q_tle, q_fle, q_teq, q_feq, q_tin, nI_cl, q_m1, q_m2, q_m3, q_m4, q_m5, q_m6, q_m7, q_l1, q_l2, q_l3, q_l4, q_l5, q_l6, lN_add, lN_mul, lN_sub, lN_i, nI_l, q_rem, q_rem2, q_div, q_shl, q_shr, q_i0, q_i1, q_i2, q_i3, q_i4, q_i5, q_i6, q_i7, q_i8, q_i9, q_i10, q_i11, q_i12, q_i14, q_i15, q_i16, q_i17, q_i18, q_i19, q_i20, q_i22, q_i24, q_i26, q_i28, q_i30, q_i31, q_i32, q_i35, q_i36, q_i38, q_i40, q_i42, q_i43, q_i48, q_i51, q_i52, q_i56, q_i63, q_i64, q_i67, q_i80, q_i95, q_i99, q_i126, q_i127, q_i128, q_i255, q_i256, q_i512, q_i1024, q_i12000, q_i32512, q_i32768, q_i131072, q_j0, q_j1, q_j2, q_j3, q_j4, q_j8, q_j256, Nat.one_mul, Nat.zero_add, Nat.add_zero, Nat.sub_zero, Nat.mul_one, q_ofN, q_c1, q_c2, q_c3, q_c4, q_c5, q_j12000, q_j32768, q_j131072, q_j2147483647, q_j4294967295, q_j255, q_j12, q_i13, q_i21, q_i23, q_i25, q_i27, q_i29, q_i33, q_i34, q_i37, q_i39, q_i41, q_i44, q_i45, q_i46, q_i47, q_i49, q_i50, q_i53, q_i54, q_i55, q_i77, q_i164, q_i181, q_i236, q_i253, q_i2048, hm.k, hm.p24, hm.k24, hm.n24]; done))
    dsimp only
    rw [hm.p24, z3, l3]
    refine zEv.bind (c_rotated _ _) (zEv.zl ?_)
    exact c_m192 hm hcb hb hc (by omega) hfs hl'
  | succ d ih =>
    intro j M hj hm hcb hl
    obtain ⟨M1, a1, a2, a3⟩ := c_m84 (O := O) (x := nI fs) (y := nI c) (p := fs + 32 * j) hm hcb hb hc (by omega) hl
    obtain ⟨M', b1, b2⟩ := ih (j + 1) M1 (by omega) (a2.mo hm) (fun q hq => by rw [a2.i (by omega) (by unfold sL4; omega)]; exact hcb q hq) a3
    refine ⟨M', zEv.succ ?_, a2.tr b2⟩
    simp only [f_Mo_sum_72]
    rw [pk_sub (show fs + 32 * j ≤ c by omega)]
    refine zEv.in_ (nI_nlt (b := 32) (by omega) (by omega)) ?_
    rw [show fs + 32 * (j + 1) = fs + 32 * j + 32 by omega] at b1
    exact a1.use (k := fun n => f_Mo_sum_72 O n) b1
set_option maxRecDepth 100000 in
set_option maxHeartbeats 4000000 in
theorem c_sum {O : zO} {M : zM} {m c fs : Nat} {cb : Nat → Nat} (hm : zMo M m) (hcb : ∀ j, j < c → z_i M (m + 22) j = nI (cb j)) (hb : ∀ j, j < c → cb j < 256) (hc : c ≤ 32768) (hfs : fs ≤ c) : ∃ M', zEv (fun n => F_Mo_sum O n m (nI fs) (nI c) M) (wuS cb fs c, M') ∧ zRf sN (sL4 m) m M M' := by
  have z0 : (0 : Int32).toNatClampNeg = 0 := rfl
  have z1 : (1 : Int32).toNatClampNeg = 1 := rfl
  have z2 : (2 : Int32).toNatClampNeg = 2 := rfl
  have z3 : (3 : Int32).toNatClampNeg = 3 := rfl
  unfold wuS
  by_cases c32 : c - fs < 32
  · rw [if_pos c32]
    refine ⟨M, ?_, zRf.rf⟩
    unfold F_Mo_sum f_Mo_sum_0
    rw [pk_sub hfs]
    refine zEv.ip (nI_lt (b := 32) c32 (by omega)) ?_
    unfold f_Mo_sum_231
    refine (c_m240 (O := O) hm hcb hb hc hfs ((c - fs) / 8) 0 (by omega)).to fun n => ?_
    simp only [zlet]
    rw [pk_sub hfs, nI_l (show c - fs < 2 ^ 31 by omega)]
    rfl
  · rw [if_neg c32]
    generalize hM1 : w_j (w_j (w_j (w_j M (m + 24) 0 ((-7046029288634856825 : Int64) + (-4417276706812531889 : Int64))) (m + 24) 1 (-4417276706812531889)) (m + 24) 2 0) (m + 24) 3 (-(-7046029288634856825 : Int64)) = M1
    have r1 : zRf sN (sL4 m) m M M1 := by rw [← hM1]; exact (((zRf.rf.wj (by exact rfl) (by omega)).wj (by exact rfl) (by omega)).wj (by exact rfl) (by omega)).wj (by exact rfl) (by omega)
    have hl : zLa M1 m (laS cb fs 0) := by
      rw [← hM1]
      exact ⟨by simp (disch := omega) only [zlet, w_i_k, w_i_n, w_i_i, w_i_j, w_i_p, w_i_s, w_j_k, w_j_n, w_j_i, w_j_j, w_j_p, w_j_s, w_p_k, w_p_n, w_p_i, w_p_j, w_p_p, w_p_s, w_c_k, w_c_n, w_c_i, w_c_j, w_c_p, w_c_s, w_u_k, w_u_n, w_u_i, w_u_j, w_u_p, w_u_s, q_nf, ↓reduceIte, if_true, if_false, eq_self, and_true, true_and, and_false, false_and, Option.bind_some, ne_eq, not_false_eq_true, not_true_eq_false]; rfl, by simp (disch := omega) only [zlet, w_i_k, w_i_n, w_i_i, w_i_j, w_i_p, w_i_s, w_j_k, w_j_n, w_j_i, w_j_j, w_j_p, w_j_s, w_p_k, w_p_n, w_p_i, w_p_j, w_p_p, w_p_s, w_c_k, w_c_n, w_c_i, w_c_j, w_c_p, w_c_s, w_u_k, w_u_n, w_u_i, w_u_j, w_u_p, w_u_s, q_nf, ↓reduceIte, if_true, if_false, eq_self, and_true, true_and, and_false, false_and, Option.bind_some, ne_eq, not_false_eq_true, not_true_eq_false]; rfl, by simp (disch := omega) only [zlet, w_i_k, w_i_n, w_i_i, w_i_j, w_i_p, w_i_s, w_j_k, w_j_n, w_j_i, w_j_j, w_j_p, w_j_s, w_p_k, w_p_n, w_p_i, w_p_j, w_p_p, w_p_s, w_c_k, w_c_n, w_c_i, w_c_j, w_c_p, w_c_s, w_u_k, w_u_n, w_u_i, w_u_j, w_u_p, w_u_s, q_nf, ↓reduceIte, if_true, if_false, eq_self, and_true, true_and, and_false, false_and, Option.bind_some, ne_eq, not_false_eq_true, not_true_eq_false]; rfl, by simp (disch := omega) only [zlet, w_i_k, w_i_n, w_i_i, w_i_j, w_i_p, w_i_s, w_j_k, w_j_n, w_j_i, w_j_j, w_j_p, w_j_s, w_p_k, w_p_n, w_p_i, w_p_j, w_p_p, w_p_s, w_c_k, w_c_n, w_c_i, w_c_j, w_c_p, w_c_s, w_u_k, w_u_n, w_u_i, w_u_j, w_u_p, w_u_s, q_nf, ↓reduceIte, if_true, if_false, eq_self, and_true, true_and, and_false, false_and, Option.bind_some, ne_eq, not_false_eq_true, not_true_eq_false]; rfl⟩
    obtain ⟨M', b1, b2⟩ := c_m72 (O := O) (m := m) hb hc hfs ((c - fs) / 32) 0 M1 (by omega) (r1.mo hm) (fun q hq => by rw [r1.i (by omega) (by unfold sL4; omega)]; exact hcb q hq) hl
    refine ⟨M', ?_, r1.tr b2⟩
    unfold F_Mo_sum f_Mo_sum_0
    rw [pk_sub hfs]
    refine zEv.in_ (nI_nlt (b := 32) (by omega) (by omega)) ?_
    repeat first | with_reducible refine zEv.zl ?_ | (with_reducible refine zEv.ip ?_ ?_; focus (simp only [hm.k, hm.p24, hm.k24, hm.n24]; done)) | (with_reducible refine zEv.ip ?_ ?_; focus (simp (disch := omega) only [zlet, w_i_k, w_i_n, w_i_i, w_i_j, w_i_p, w_i_s, w_j_k, w_j_n, w_j_i, w_j_j, w_j_p, w_j_s, w_p_k, w_p_n, w_p_i, w_p_j, w_p_p, w_p_s, w_c_k, w_c_n, w_c_i, w_c_j, w_c_p, w_c_s, w_u_k, w_u_n, w_u_i, w_u_j, w_u_p, w_u_s, q_nf, ↓reduceIte, if_true, if_false, eq_self, and_true, true_and, and_false, false_and, Option.bind_some, ne_eq, not_false_eq_true, not_true_eq_false, nI_add, pk_mul, pk_sub, nI_ac, q_tlt, q_flt, q_tle, q_fle, q_teq, q_feq, q_tin, nI_cl, q_m1, q_m2, q_m3, q_m4, q_m5, q_m6, q_m7, q_l1, q_l2, q_l3, q_l4, q_l5, q_l6, lN_add, lN_mul, lN_sub, lN_i, nI_l, q_rem, q_rem2, q_div, q_shl, q_shr, q_i0, q_i1, q_i2, q_i3, q_i4, q_i5, q_i6, q_i7, q_i8, q_i9, q_i10, q_i11, q_i12, q_i14, q_i15, q_i16, q_i17, q_i18, q_i19, q_i20, q_i22, q_i24, q_i26, q_i28, q_i30, q_i31, q_i32, q_i35, q_i36, q_i38, q_i40, q_i42, q_i43, q_i48, q_i51, q_i52, q_i56, q_i63, q_i64, q_i67, q_i80, q_i95, q_i99, q_i126, q_i127, q_i128, q_i255, q_i256, q_i512, q_i1024, q_i12000, q_i32512, q_i32768, q_i131072, q_j0, q_j1, q_j2, q_j3, q_j4, q_j8, q_j256, Nat.one_mul, Nat.zero_add, Nat.add_zero, Nat.sub_zero, Nat.mul_one, q_ofN, q_c1, q_c2, q_c3, q_c4, q_c5, q_j12000, q_j32768, q_j131072, q_j2147483647, q_j4294967295, q_j255, q_j12, q_i13, q_i21, q_i23, q_i25, q_i27, q_i29, q_i33, q_i34, q_i37, q_i39, q_i41, q_i44, q_i45, q_i46, q_i47, q_i49, q_i50, q_i53, q_i54, q_i55, q_i77, q_i164, q_i181, q_i236, q_i253, q_i2048, hm.k, hm.p24, hm.k24, hm.n24]; done)) | (with_reducible refine zEv.in_ ?_ ?_; focus (simp (disch := omega) only [zlet, w_i_k, w_i_n, w_i_i, w_i_j, w_i_p, w_i_s, w_j_k, w_j_n, w_j_i, w_j_j, w_j_p, w_j_s, w_p_k, w_p_n, w_p_i, w_p_j, w_p_p, w_p_s, w_c_k, w_c_n, w_c_i, w_c_j, w_c_p, w_c_s, w_u_k, w_u_n, w_u_i, w_u_j, w_u_p, w_u_s, q_nf, ↓reduceIte, if_true, if_false, eq_self, and_true, true_and, and_false, false_and, Option.bind_some, ne_eq, not_false_eq_true, not_true_eq_false, nI_add, pk_mul, pk_sub, nI_ac, q_tlt, q_flt, q_tle, q_fle, q_teq, q_feq, q_tin, nI_cl, q_m1, q_m2, q_m3, q_m4, q_m5, q_m6, q_m7, q_l1, q_l2, q_l3, q_l4, q_l5, q_l6, lN_add, lN_mul, lN_sub, lN_i, nI_l, q_rem, q_rem2, q_div, q_shl, q_shr, q_i0, q_i1, q_i2, q_i3, q_i4, q_i5, q_i6, q_i7, q_i8, q_i9, q_i10, q_i11, q_i12, q_i14, q_i15, q_i16, q_i17, q_i18, q_i19, q_i20, q_i22, q_i24, q_i26, q_i28, q_i30, q_i31, q_i32, q_i35, q_i36, q_i38, q_i40, q_i42, q_i43, q_i48, q_i51, q_i52, q_i56, q_i63, q_i64, q_i67, q_i80, q_i95, q_i99, q_i126, q_i127, q_i128, q_i255, q_i256, q_i512, q_i1024, q_i12000, q_i32512, q_i32768, q_i131072, q_j0, q_j1, q_j2, q_j3, q_j4, q_j8, q_j256, Nat.one_mul, Nat.zero_add, Nat.add_zero, Nat.sub_zero, Nat.mul_one, q_ofN, q_c1, q_c2, q_c3, q_c4, q_c5, q_j12000, q_j32768, q_j131072, q_j2147483647, q_j4294967295, q_j255, q_j12, q_i13, q_i21, q_i23, q_i25, q_i27, q_i29, q_i33, q_i34, q_i37, q_i39, q_i41, q_i44, q_i45, q_i46, q_i47, q_i49, q_i50, q_i53, q_i54, q_i55, q_i77, q_i164, q_i181, q_i236, q_i253, q_i2048, hm.k, hm.p24, hm.k24, hm.n24]; done))
    refine b1.to fun n => ?_
    rw [← hM1]
    simp (disch := omega) only [zlet, w_i_k, w_i_n, w_i_i, w_i_j, w_i_p, w_i_s, w_j_k, w_j_n, w_j_i, w_j_j, w_j_p, w_j_s, w_p_k, w_p_n, w_p_i, w_p_j, w_p_p, w_p_s, w_c_k, w_c_n, w_c_i, w_c_j, w_c_p, w_c_s, w_u_k, w_u_n, w_u_i, w_u_j, w_u_p, w_u_s, q_nf, ↓reduceIte, if_true, if_false, eq_self, and_true, true_and, and_false, false_and, Option.bind_some, ne_eq, not_false_eq_true, not_true_eq_false, hm.p24, z0, z1, z2, z3]
    rfl
