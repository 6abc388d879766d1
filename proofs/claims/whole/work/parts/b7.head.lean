/-! The head of a frame: both sides together. -/
theorem nI_land (a b : Nat) : nI a &&& nI b = nI (a &&& b) := by
  apply Int32.toBitVec_inj.mp
  show BitVec.ofNat 32 a &&& BitVec.ofNat 32 b = BitVec.ofNat 32 (a &&& b)
  rw [BitVec.ofNat_and]
theorem nat_bit (h k : Nat) : h &&& 2 ^ k = h / 2 ^ k % 2 * 2 ^ k := by
  apply Nat.eq_of_testBit_eq
  intro i
  rw [Nat.testBit_and, Nat.testBit_two_pow]
  rcases Nat.mod_two_eq_zero_or_one (h / 2 ^ k) with e | e
  · rw [e, Nat.zero_mul, Nat.zero_testBit]
    by_cases c : k = i
    · subst c
      rw [Nat.testBit_eq_decide_div_mod_eq, e]; rfl
    · rw [decide_eq_false c, Bool.and_false]
  · rw [e, Nat.one_mul, Nat.testBit_two_pow]
    by_cases c : k = i
    · subst c
      rw [Nat.testBit_eq_decide_div_mod_eq, e]; simp
    · rw [decide_eq_false c, Bool.and_false]
theorem bit8 (h : Nat) : nI h &&& (8 : Int32) = nI (h / 8 % 2 * 8) := (nI_land h 8).trans (congrArg nI (nat_bit h 3))
theorem bit32 (h : Nat) : nI h &&& (32 : Int32) = nI (h / 32 % 2 * 32) := (nI_land h 32).trans (congrArg nI (nat_bit h 5))
theorem bit4 (h : Nat) : nI h &&& (4 : Int32) = nI (h / 4 % 2 * 4) := (nI_land h 4).trans (congrArg nI (nat_bit h 2))
/-- the class between frames -/
def zOC (M : zM) (X cN : Nat) (b : Nat → Nat) (mo c : Nat) (cb : Nat → Nat) (dc : Nat) (db : Nat → Nat) (done : Nat) : Prop :=
  zSF M X ∧ zRow M (X + 1) (X + 2) 12000 cN b ∧ (∀ k, k < 3 → zTB M (X + 97 + 12 * k) (kno k) (kn k)) ∧ z_i M (X + 70) 2 = nI mo ∧ zRow M (X + 71) (X + 72) 32768 c cb ∧ zRow M (X + 6) (X + 7) 12000 dc db ∧ z_i M (X + 69) 4 = nI done ∧ ∃ c0 lb0, zLr M X c0 lb0
/-- the reference between frames -/
def zOM (M : zM) (m cN : Nat) (b : Nat → Nat) (mo c : Nat) (cb : Nat → Nat) (dc : Nat) (db : Nat → Nat) (done : Nat) : Prop :=
  zMo M m ∧ zMI M m cN b ∧ z_i M m 29 = nI mo ∧ z_i M m 30 = nI c ∧ (∀ j, j < c → z_i M (m + 22) j = nI (cb j)) ∧ z_i M m 5 = nI dc ∧ (∀ j, j < dc → z_i M (m + 3) j = nI (db j)) ∧ z_i M m 37 = nI done
theorem zOC.st {S : Nat → Prop} {M M1 : zM} {X cN mo c dc done : Nat} {b cb db : Nat → Nat} (h : zOC M X cN b mo c cb dc db done) (g : zSt S M M1) (kp : zKp X M M1) (h70 : z_i M1 (X + 70) 2 = z_i M (X + 70) 2) (h69 : z_i M1 (X + 69) 4 = z_i M (X + 69) 4) (hS : ∀ q, q = X + 1 ∨ q = X + 2 ∨ q = X + 71 ∨ q = X + 72 ∨ q = X + 6 ∨ q = X + 7 ∨ q = X + 87 ∨ q = X + 88 ∨ (X + 97 ≤ q ∧ q ≤ X + 132) → ¬ S q) : zOC M1 X cN b mo c cb dc db done := by
  obtain ⟨a1, a2, a3, a4, a5, a6, a7, c0, lb0, a8⟩ := h
  exact ⟨a1.kp kp, a2.st g (hS _ (by omega)) (hS _ (by omega)), fun k hk => (a3 k hk).st g (hS _ (by omega)) (hS _ (by omega)) (hS _ (by omega)) (hS _ (by omega)), h70.trans a4, a5.st g (hS _ (by omega)) (hS _ (by omega)), a6.st g (hS _ (by omega)) (hS _ (by omega)), h69.trans a7, c0, lb0, a8.st g (hS _ (by omega)) (hS _ (by omega))⟩
theorem zOM.rf {F S : Nat → Prop} {M M1 : zM} {m cN mo c dc done : Nat} {b cb db : Nat → Nat} (h : zOM M m cN b mo c cb dc db done) (g : zRf F S m M M1) (hF : ∀ f, f = 1 ∨ f = 29 ∨ f = 30 ∨ f = 5 ∨ f = 37 → ¬ F f) (hS : ∀ q, q = m + 1 ∨ q = m + 3 ∨ q = m + 22 → ¬ S q) : zOM M1 m cN b mo c cb dc db done := by
  obtain ⟨a1, a2, a3, a4, a5, a6, a7, a8⟩ := h
  exact ⟨g.mo a1, a2.rf g (hF _ (by omega)) (hS _ (by omega)), (g.f (hF _ (by omega))).trans a3, (g.f (hF _ (by omega))).trans a4, fun j hj => (g.i (by omega) (hS _ (by omega)) j).trans (a5 j hj), (g.f (hF _ (by omega))).trans a6, fun j hj => (g.i (by omega) (hS _ (by omega)) j).trans (a7 j hj), (g.f (hF _ (by omega))).trans a8⟩
/-- within a head, at a place -/
def zHP (M M2 : zM) (X m cN : Nat) (b : Nat → Nat) (mo c : Nat) (cb : Nat → Nat) (dc : Nat) (db : Nat → Nat) (done id : Nat) (dd : Option dkT) (p : Nat) : Prop :=
  zOC M X cN b mo c cb dc db done ∧ zOM M2 m cN b mo c cb dc db done ∧ zDC M X id dd ∧ zDM M2 m id dd ∧ zAr M M2 X m ∧ z_i M (X + 73) 6 = nI p ∧ z_i M2 m 28 = nI p ∧ p ≤ cN
def zWn (M M2 : zM) (X m v : Nat) : Prop := z_j M (X + 70) 5 = lN (cwn v) ∧ z_j M2 m 38 = lN v ∧ v < 18446744073709551616
theorem zHP.bad {M M2 : zM} {X m cN mo c dc done id p f q : Nat} {b cb db : Nat → Nat} {dd : Option dkT} {fc fm : Nat → Option (Int32 × zM)} (h : zHP M M2 X m cN b mo c cb dc db done id dd p) (h1 : f ≠ 0) (h2 : f ≤ 20) (hc : zEv fc (0, fl X M f q)) (hm : zEv fm (0, flm m M2 f q)) : jBd X m M M2 fc fm := by
  obtain ⟨a1, a2, a3, a4, a5, a6, a7, a8⟩ := h
  exact ⟨f, q, M, M2, h1, h2, hc, hm, zSt.rf, zKp.rf, zRf.rf, ⟨a5, a1.2.2.2.2.2.2.1.trans a2.2.2.2.2.2.2.2.symm, a1.2.2.2.2.1.2.2.2.2.1.trans a2.2.2.2.1.symm⟩, c, cb, a1.2.2.2.2.1⟩
def sHd (X q : Nat) : Prop := q = X + 69 ∨ q = X + 70 ∨ q = X + 73
def fHd (f : Nat) : Prop := f = 28 ∨ f = 38 ∨ f = 39
theorem sHd_d {X q : Nat} (h : sHd X q) : sRd X q := by unfold sHd at h; unfold sRd; omega
theorem fHd_e {f : Nat} (h : fHd f) : fRe f := by unfold fHd at h; unfold fRe; omega
/-- on to another place -/
theorem zHP.on {M M2 M1 M3 : zM} {X m cN mo c dc done id p p1 : Nat} {b cb db : Nat → Nat} {dd : Option dkT} (h : zHP M M2 X m cN b mo c cb dc db done id dd p) (st : zSt (sHd X) M M1) (kp : zKp X M M1) (e1 : z_i M1 (X + 70) 2 = z_i M (X + 70) 2) (e2 : ∀ f, f = 2 ∨ f = 3 ∨ f = 4 → z_i M1 (X + 69) f = z_i M (X + 69) f) (rf : zRf fHd sN m M2 M3) (e3 : z_i M1 (X + 69) 5 = z_i M3 m 39) (e6 : z_i M1 (X + 73) 6 = nI p1) (e28 : z_i M3 m 28 = nI p1) (hp : p1 ≤ cN) : zHP M1 M3 X m cN b mo c cb dc db done id dd p1 := by
  obtain ⟨a1, a2, a3, a4, a5, a6, a7, a8⟩ := h
  exact ⟨a1.st st kp e1 (e2 4 (by omega)) (fun q hq => by unfold sHd; omega), a2.rf rf (fun f hf => by unfold fHd; omega) (fun _ _ h => h), a3.st st (fun q h1 h2 => by unfold sHd; omega), a4.rf rf (by unfold fHd; omega) (by unfold fHd; omega) (fun _ _ _ h => h), ⟨(e2 2 (by omega)).trans (a5.1.trans (rf.f (by unfold fHd; omega)).symm), (e2 3 (by omega)).trans (a5.2.1.trans (rf.f (by unfold fHd; omega)).symm), e3⟩, e6, e28, hp⟩
def iM (v : Nat) : Nat := if v < 2147483647 then v else 2147483647
set_option maxRecDepth 100000 in
set_option maxHeartbeats 4000000 in
theorem c_setWindow {O : zO} {M : zM} {X v : Nat} (hx : zSF M X) : zEv (fun n => F_FR_setWindow O n (X + 73) (lN (cwn v)) M) ((), w_i (w_j M (X + 70) 5 (lN (cwn v))) (X + 69) 5 (nI (iM v))) := by
  have k73 := hx.k73
  have k70 := hx.k70
  have k69 := hx.k69
  have p3 := hx.p73_3
  have p2 := hx.p73_2
  have hl := cwn_lt v
  unfold F_FR_setWindow f_FR_setWindow_0
  refine zEv.ip k73 ?_
  rw [p3]
  refine zEv.ip k70 (zEv.zl ?_)
  have q2 : z_p (w_j M (X + 70) 5 (lN (cwn v))) (X + 73) 2 = X + 69 := p2
  rw [q2]
  have fin : zEv (fun n => f_FR_setWindow_27 O n (X + 69) (nI (iM v)) (w_j M (X + 70) 5 (lN (cwn v)))) ((), w_i (w_j M (X + 70) 5 (lN (cwn v))) (X + 69) 5 (nI (iM v))) := by
    unfold f_FR_setWindow_27
    exact zEv.ip k69 (zEv.some _)
  by_cases c : v < 2147483647
  · have e : cwn v = v := by unfold cwn; rw [if_pos (by omega)]
    have e2 : iM v = v := by unfold iM; rw [if_pos c]
    refine zEv.in_ (fun w => by rw [lg_cmp_ge, show (2147483647 : Int64) = lN 2147483647 from rfl, pk_lLE (by omega) (by omega)] at w; omega) ?_
    rw [lN_i]
    rw [e2] at fin ⊢
    rw [e] at fin ⊢
    exact fin
  · have e : 2147483647 ≤ cwn v := by unfold cwn; split <;> omega
    have e2 : iM v = 2147483647 := by unfold iM; rw [if_neg c]
    refine zEv.ip (by rw [lg_cmp_ge, show (2147483647 : Int64) = lN 2147483647 from rfl, pk_lLE (by omega) (by omega)]; exact e) ?_
    rw [e2] at fin ⊢
    exact fin
theorem lN_neg {v : Nat} (h1 : 9223372036854775808 ≤ v) (h2 : v < 18446744073709551616) : lN v < 0 := by
  rw [Int64.lt_iff_toInt_lt]
  show (BitVec.ofNat 64 v).toInt < 0
  rw [BitVec.toInt_eq_toNat_cond, BitVec.toNat_ofNat, Nat.mod_eq_of_lt (by omega), if_neg (by omega)]
  omega
set_option maxRecDepth 100000 in
set_option maxHeartbeats 4000000 in
theorem c_tell {O : zO} {M : zM} {m v : Nat} (hm : zMo M m) (h38 : z_j M m 38 = lN v) (hv : v < 18446744073709551616) : zEv (fun n => F_Mo_tell O n m M) ((), w_i M m 39 (nI (iM v))) := by
  have fin : zEv (fun n => f_Mo_tell_32 O n m (nI (iM v)) M) ((), w_i M m 39 (nI (iM v))) := by
    unfold f_Mo_tell_32
    exact zEv.ip hm.k (zEv.some _)
  unfold F_Mo_tell f_Mo_tell_0 f_Mo_tell_21
  refine zEv.ip hm.k ?_
  rw [h38]
  by_cases c : v < 9223372036854775808
  · refine zEv.in_ (fun w => by rw [lg_cmp_lt, show (0 : Int64) = lN 0 from rfl, pk_lLT (by omega) (by omega)] at w; omega) ?_
    by_cases c2 : v ≤ 2147483647
    · have e2 : iM v = v := by unfold iM; split <;> omega
      refine zEv.ip (by rw [lg_cmp_le, show (2147483647 : Int64) = lN 2147483647 from rfl, pk_lLE (by omega) (by omega)]; exact c2) ?_
      rw [lN_i]
      rw [e2] at fin ⊢
      exact fin
    · have e2 : iM v = 2147483647 := by unfold iM; rw [if_neg (by omega)]
      refine zEv.in_ (fun w => c2 (by rw [lg_cmp_le, show (2147483647 : Int64) = lN 2147483647 from rfl, pk_lLE (by omega) (by omega)] at w; exact w)) ?_
      rw [e2] at fin ⊢
      exact fin
  · have e2 : iM v = 2147483647 := by unfold iM; rw [if_neg (by omega)]
    refine zEv.ip (by rw [lg_cmp_lt]; exact lN_neg (by omega) hv) ?_
    rw [e2] at fin ⊢
    exact fin
def wdW (x : Nat) : Nat := 2 ^ (10 + x / 8) + 2 ^ (7 + x / 8) * (x % 8)
theorem wdW_lt {x : Nat} (h : x < 256) : wdW x < 9007199254740992 := by
  unfold wdW
  have h1 : 2 ^ (10 + x / 8) ≤ 2 ^ 41 := Nat.pow_le_pow_right (by omega) (by omega)
  have h2 : 2 ^ (7 + x / 8) ≤ 2 ^ 38 := Nat.pow_le_pow_right (by omega) (by omega)
  have h3 : 2 ^ (7 + x / 8) * (x % 8) ≤ 2 ^ 38 * 7 := Nat.mul_le_mul h2 (by omega)
  omega
theorem wdW_eq {x : Nat} (h : x < 256) : ((1 : Int64) <<< (((10 : Int32) + nI (x / 8)).toInt64 &&& 63)) + (((1 : Int64) <<< (((7 : Int32) + nI (x / 8)).toInt64 &&& 63)) * (nI (x % 8)).toInt64) = lN (wdW x) := by
  rw [show (10 : Int32) = nI 10 from rfl, show (7 : Int32) = nI 7 from rfl, nI_add, nI_add, show (1 : Int64) = lN 1 from rfl, wb_shl 1 (by omega), wb_shl 1 (by omega), nI_l (by omega), lN_mul, lN_add]
  unfold wdW
  rw [Nat.one_mul, Nat.one_mul]
theorem cwn_id {v : Nat} (h : v < 9223372036854775808) : cwn v = v := by unfold cwn; rw [if_pos h]
-- the byte of the window
set_option maxRecDepth 100000 in
set_option maxHeartbeats 4000000 in
theorem j_window {O : zO} {M M2 : zM} {X m cN mo c dc done id p : Nat} {b cb db : Nat → Nat} {dd : Option dkT} {hd : Int32} (h : zHP M M2 X m cN b mo c cb dc db done id dd p) :
    jBd X m M M2 (fun n => F_FR_window O n (X + 73) M) (fun n => f_Mo_frame_85 O n m hd 0 M2) ∨
    (∃ v M' M2', zEv (fun n => F_FR_window O n (X + 73) M) (1, M') ∧ (∀ α, zEv (fun n => f_Mo_frame_158 O n m hd 0 M2') α → zEv (fun n => f_Mo_frame_85 O n m hd 0 M2) α) ∧ zSt (sHd X) M M' ∧ zKp X M M' ∧ zOf (X + 73) (fun f => f = 6) M M' ∧ zOf (X + 69) (fun f => f = 5) M M' ∧ zRf fHd sN m M2 M2' ∧ zHP M' M2' X m cN b mo c cb dc db done id dd (p + 1) ∧ zWn M' M2' X m v) := by
  have h0 := h
  obtain ⟨a1, a2, a3, a4, a5, a6, a7, a8⟩ := h
  have hx := a1.1
  have hin := a1.2.1
  have hm := a2.1
  have hi2 := a2.2.1
  have hc9 := hin.cN
  have k73 := hx.k73
  have k1 := hx.k1
  have p0 := hx.p73_0
  have hlk := c_lacks (O := O) (k := 1) hx hin a6 a8 (by omega)
  have hhas := c_has (O := O) (k := 1) hm hi2 a7 a8 (by omega)
  by_cases c1 : p + 1 ≤ cN
  · right
    rw [if_pos c1] at hlk
    have hh := hhas.1 c1
    have hb := hin.b (show p < cN by omega)
    have hat := c_Row_at (O := O) (k := p) hin (by omega)
    rw [if_pos (by omega)] at hat
    have hbi := (hi2.2.2 p (by omega)).2
    have hw := wdW_lt hb
    have ew := cwn_id (v := wdW (b p)) (by omega)
    generalize hP1 : w_i M (X + 73) 6 (nI (p + 1)) = P1
    have sP1 : zSt (sHd X) M P1 := by rw [← hP1]; exact zSt.rf.wi (Or.inr (Or.inr rfl))
    have kP1 : zKp X M P1 := by rw [← hP1]; exact zKp.rf.wi (Or.inl (by rw [k73]; omega))
    have x1 := hx.kp kP1
    have hsw := c_setWindow (O := O) (v := wdW (b p)) x1
    rw [ew] at hsw
    generalize hP2 : w_i (w_j P1 (X + 70) 5 (lN (wdW (b p)))) (X + 69) 5 (nI (iM (wdW (b p)))) = P2 at hsw
    have k69 := x1.k69
    have sP2 : zSt (sHd X) M P2 := by rw [← hP2]; exact (sP1.wj (Or.inr (Or.inl rfl))).wi (Or.inl rfl)
    have kP2 : zKp X M P2 := by rw [← hP2]; exact (kP1.wj).wi (Or.inl (show z_k P1 (X + 69) ≠ 11 by rw [k69]; omega))
    generalize hQ1 : w_j M2 m 38 (lN (wdW (b p))) = Q1
    have rQ1 : zRf fHd sN m M2 Q1 := by rw [← hQ1]; exact zRf.rf.wg (Or.inr (Or.inl rfl))
    have e38 : z_j Q1 m 38 = lN (wdW (b p)) := by rw [← hQ1]; simp (disch := omega) only [zlet, w_i_k, w_i_n, w_i_i, w_i_j, w_i_p, w_i_s, w_j_k, w_j_n, w_j_i, w_j_j, w_j_p, w_j_s, w_p_k, w_p_n, w_p_i, w_p_j, w_p_p, w_p_s, w_c_k, w_c_n, w_c_i, w_c_j, w_c_p, w_c_s, w_u_k, w_u_n, w_u_i, w_u_j, w_u_p, w_u_s, q_nf, ↓reduceIte, if_true, if_false, eq_self, and_true, true_and, and_false, false_and, Option.bind_some, ne_eq, not_false_eq_true, not_true_eq_false]
    have htl := c_tell (O := O) (rQ1.mo hm) e38 (by omega)
    have e28 : z_i Q1 m 28 = nI p := by rw [← hQ1]; exact a7
    generalize hQ2 : w_i (w_i Q1 m 39 (nI (iM (wdW (b p))))) m 28 (nI (p + 1)) = Q2
    have rQ2 : zRf fHd sN m M2 Q2 := by rw [← hQ2]; exact (rQ1.wf (Or.inr (Or.inr rfl))).wf (Or.inl rfl)
    have e8 : nI (b p) >>> ((3 : Int32) &&& 31) = nI (b p / 8) := nI_shr3 (by omega)
    have e7 : nI (b p) &&& (7 : Int32) = nI (b p % 8) := pk_andN (by omega) 3 (by decide)
    refine ⟨wdW (b p), P2, Q2, ?_, fun α hα => ?_, sP2, kP2, fun f hf => ?_, fun f hf => ?_, rQ2, ?_, ?_, ?_, by omega⟩
    · unfold F_FR_window f_FR_window_0
      refine zEv.ip k73 (zEv.bind hlk (zEv.ip rfl (zEv.ip k73 ?_)))
      dsimp only
      rw [p0, a6]
      refine zEv.ip k1 (zEv.bind hat (zEv.zl (zEv.ip k73 ?_)))
      dsimp only
      rw [p0, a6]
      refine zEv.ip k1 (zEv.bind hat (zEv.zl (zEv.ip k73 (zEv.zl ?_))))
      dsimp only
      rw [a6, e8, e7, wdW_eq hb, show nI p + (1 : Int32) = nI (p + 1) from nI_add p 1, hP1]
      exact zEv.bind hsw (zEv.some _)
    · have zi : zin (nI p) 12000 = true := of_eq_true (q_tin (by omega) (by omega))
      have ck : (nI p).toNatClampNeg = p := nI_cl (by omega)
      unfold f_Mo_frame_85
      refine zEv.ip rfl (zEv.ip hm.k (zEv.bind hh (zEv.in_ (show ¬ (1 : Int32) = 0 by decide) (zEv.ip hm.k ?_))))
      dsimp only
      rw [hm.p1, a7, ck, hbi]
      refine zEv.ip hm.k1 (zEv.ip (by rw [hm.n1]; exact zi) (zEv.zl (zEv.ip (by rw [hm.n1]; exact zi) (zEv.zl ?_))))
      rw [show (8 : Int32) = nI 8 from rfl, q_div (by omega) (by omega) (by omega), pk_mul, q_rem, wdW_eq hb, hQ1]
      refine zEv.bind htl (zEv.ip (rQ1.mo hm).k (zEv.zl ?_))
      dsimp only
      have e28' : z_i (w_i Q1 m 39 (nI (iM (wdW (b p))))) m 28 = nI p := by rw [w_i_ne _ _ (by omega)]; exact e28
      rw [e28', show nI p + (1 : Int32) = nI (p + 1) from nI_add p 1, hQ2]
      exact hα
    · rw [← hP2, ← hP1]
      refine ⟨?_, rfl, ?_⟩
      · rw [w_i_ne _ _ (by omega)]
        show z_i (w_i M (X + 73) 6 (nI (p + 1))) (X + 73) f = _
        rw [w_i_ne _ _ (fun w => hf w.2)]
      · simp (disch := omega) only [zlet, w_i_k, w_i_n, w_i_i, w_i_j, w_i_p, w_i_s, w_j_k, w_j_n, w_j_i, w_j_j, w_j_p, w_j_s, w_p_k, w_p_n, w_p_i, w_p_j, w_p_p, w_p_s, w_c_k, w_c_n, w_c_i, w_c_j, w_c_p, w_c_s, w_u_k, w_u_n, w_u_i, w_u_j, w_u_p, w_u_s, q_nf, ↓reduceIte, if_true, if_false, eq_self, and_true, true_and, and_false, false_and, Option.bind_some, ne_eq, not_false_eq_true, not_true_eq_false]
    · rw [← hP2, ← hP1]
      refine ⟨?_, rfl, ?_⟩
      · rw [w_i_ne _ _ (fun w => hf w.2)]
        show z_i (w_i M (X + 73) 6 (nI (p + 1))) (X + 69) f = _
        rw [w_i_ne _ _ (by omega)]
      · simp (disch := omega) only [zlet, w_i_k, w_i_n, w_i_i, w_i_j, w_i_p, w_i_s, w_j_k, w_j_n, w_j_i, w_j_j, w_j_p, w_j_s, w_p_k, w_p_n, w_p_i, w_p_j, w_p_p, w_p_s, w_c_k, w_c_n, w_c_i, w_c_j, w_c_p, w_c_s, w_u_k, w_u_n, w_u_i, w_u_j, w_u_p, w_u_s, q_nf, ↓reduceIte, if_true, if_false, eq_self, and_true, true_and, and_false, false_and, Option.bind_some, ne_eq, not_false_eq_true, not_true_eq_false]
    · refine h0.on sP2 kP2 ?_ (fun f hf => ?_) rQ2 ?_ ?_ ?_ c1
      · rw [← hP2, ← hP1]; simp (disch := omega) only [zlet, w_i_k, w_i_n, w_i_i, w_i_j, w_i_p, w_i_s, w_j_k, w_j_n, w_j_i, w_j_j, w_j_p, w_j_s, w_p_k, w_p_n, w_p_i, w_p_j, w_p_p, w_p_s, w_c_k, w_c_n, w_c_i, w_c_j, w_c_p, w_c_s, w_u_k, w_u_n, w_u_i, w_u_j, w_u_p, w_u_s, q_nf, ↓reduceIte, if_true, if_false, eq_self, and_true, true_and, and_false, false_and, Option.bind_some, ne_eq, not_false_eq_true, not_true_eq_false]
      · rw [← hP2, ← hP1]; rw [w_i_ne _ _ (by omega)]; show z_i (w_i M (X + 73) 6 (nI (p + 1))) (X + 69) f = _; rw [w_i_ne _ _ (by omega)]
      · rw [← hP2, ← hQ2, w_i_eq, w_i_ne _ _ (by omega), w_i_eq]
      · rw [← hP2, ← hP1]; simp (disch := omega) only [zlet, w_i_k, w_i_n, w_i_i, w_i_j, w_i_p, w_i_s, w_j_k, w_j_n, w_j_i, w_j_j, w_j_p, w_j_s, w_p_k, w_p_n, w_p_i, w_p_j, w_p_p, w_p_s, w_c_k, w_c_n, w_c_i, w_c_j, w_c_p, w_c_s, w_u_k, w_u_n, w_u_i, w_u_j, w_u_p, w_u_s, q_nf, ↓reduceIte, if_true, if_false, eq_self, and_true, true_and, and_false, false_and, Option.bind_some, ne_eq, not_false_eq_true, not_true_eq_false]
      · rw [← hQ2, w_i_eq]
    · rw [← hP2, ew]; simp (disch := omega) only [zlet, w_i_k, w_i_n, w_i_i, w_i_j, w_i_p, w_i_s, w_j_k, w_j_n, w_j_i, w_j_j, w_j_p, w_j_s, w_p_k, w_p_n, w_p_i, w_p_j, w_p_p, w_p_s, w_c_k, w_c_n, w_c_i, w_c_j, w_c_p, w_c_s, w_u_k, w_u_n, w_u_i, w_u_j, w_u_p, w_u_s, q_nf, ↓reduceIte, if_true, if_false, eq_self, and_true, true_and, and_false, false_and, Option.bind_some, ne_eq, not_false_eq_true, not_true_eq_false]
    · rw [← hQ2]; exact e38
  · left
    rw [if_neg c1] at hlk
    have hh := hhas.2 c1
    refine h0.bad (f := 1) (q := cN) (by omega) (by omega) ?_ ?_
    · unfold F_FR_window f_FR_window_0
      exact zEv.ip k73 (zEv.bind hlk (zEv.in_ (show ¬ (1 : Int32) = 0 by decide) (zEv.ip k73 (zEv.bind (c_endsWithin hx hin) (zEv.ip (Or.inl rfl) (zEv.some _))))))
    · unfold f_Mo_frame_85
      exact zEv.ip rfl (zEv.ip hm.k (zEv.bind hh (zEv.ip rfl (zEv.some _))))
