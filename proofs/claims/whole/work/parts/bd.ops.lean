/-! The small calls: both sides together. -/
theorem zRel.ofC {X m cN cN' oN dc id : Nat} {M M2 M' M2' : zM} {b b' ob db : Nat → Nat} {dd : Option dkT} {rp : Nat → Int32} (hid : id < 4294967296) (hk : dkOk dd) (h : zCs M X cN b oN ob dc db id dd rp) (h2 : zRm M2 m cN b oN ob dc db id dd rp) (st : zSt (zS2 (X + 1) (X + 2)) M M') (rr : zRow M' (X + 1) (X + 2) 12000 cN' b') (rf : zRf (fun f => f = 1) (fun q => q = m + 1) m M2 M2') (ri : zMI M2' m cN' b') : zRel X m M' M2' := by
  obtain ⟨hx, a2, a3, a4, a5, a6, ⟨c, cb, a7, e4⟩, q0, q1, q2, q3, q5⟩ := h
  obtain ⟨hm, g2, g3, g4, g5, g6, g7, r0, r1, r2, r3, r4, r5⟩ := h2
  have kp : zKp X M M' := st.row a2 rr ⟨by unfold zNs; omega, by unfold zNs; omega⟩
  exact ⟨cN', b', oN, ob, dc, db, id, dd, rp, hid, hk, ⟨hx.kp kp, rr, a3.st st (by unfold zS2; omega) (by unfold zS2; omega), a4.st st (by unfold zS2; omega) (by unfold zS2; omega), a5.st st (fun q h1 h2 => by unfold zS2; omega), fun k hk => (a6 k hk).st st (by unfold zS2; omega) (by unfold zS2; omega) (by unfold zS2; omega) (by unfold zS2; omega), ⟨c, cb, a7.st st (by unfold zS2; omega) (by unfold zS2; omega), e4⟩, (st.i (by unfold zS2; omega) 1).trans q0, (st.i (by unfold zS2; omega) 2).trans q1, (st.i (by unfold zS2; omega) 3).trans q2, (st.i (by unfold zS2; omega) 4).trans q3, (st.i (by unfold zS2; omega) 5).trans q5⟩, ⟨rf.mo hm, ri, (rf.f (by omega)).trans g3, fun j hj => (rf.i (by omega) (by omega) j).trans (g4 j hj), (rf.f (by omega)).trans g5, fun j hj => (rf.i (by omega) (by omega) j).trans (g6 j hj), g7.rf rf (by omega) (by omega) (fun q h1 h2 => by omega), (rf.f (by omega)).trans r0, (rf.f (by omega)).trans r1, (rf.f (by omega)).trans r2, (rf.f (by omega)).trans r3, (rf.f (by omega)).trans r4, (rf.f (by omega)).trans r5⟩⟩
theorem zS2_Cl {X q : Nat} (h : zS2 (X + 1) (X + 2) q) : sCl X q := by unfold zS2 at h; unfold sCl; omega
/-- both end, and are alike again -/
def jOu (X m : Nat) (M M2 : zM) (fc fm : Nat → Option (Unit × zM)) : Prop := ∃ M' M2', zEv fc ((), M') ∧ zEv fm ((), M2') ∧ zRel X m M' M2' ∧ zSt (sCl X) M M' ∧ zSt (fun q => m ≤ q) M2 M2'
-- clear
set_option maxRecDepth 100000 in
set_option maxHeartbeats 4000000 in
theorem j_clear {O : zO} {X m : Nat} {M M2 : zM} (h : zRel X m M M2) : jOu X m M M2 (fun n => F_SF_clear O n X M) (fun n => F_Mo_clear O n m M2) := by
  obtain ⟨cN, b, oN, ob, dc, db, id, dd, rp, hid, hk, h1, h2⟩ := h
  have hx := h1.1
  have a2 := h1.2.1
  have hm := h2.1
  obtain ⟨e1, e2⟩ := c_empty (O := O) a2
  have st : zSt (zS2 (X + 1) (X + 2)) M (w_i M (X + 1) 1 0) := zSt.rf.wi (Or.inl rfl)
  have rf : zRf (fun f => f = 1) (fun q => q = m + 1) m M2 (w_i M2 m 1 (nI 0)) := zRf.rf.wf (by exact rfl)
  refine ⟨_, _, ?_, ?_, zRel.ofC hid hk h1 h2 st e2 rf ⟨w_i_eq _ _ _ _, by omega, fun j hj => by omega⟩, st.mono (fun q hq => zS2_Cl hq), rf.st (fun q hq => by omega)⟩
  · unfold F_SF_clear f_SF_clear_0
    refine zEv.ip hx.k0 ?_
    rw [hx.p0_0]
    exact zEv.ip hx.k1 (zEv.bind e1 (zEv.some _))
  · unfold F_Mo_clear f_Mo_clear_0
    exact zEv.ip hm.k (zEv.some _)
-- about
set_option maxRecDepth 100000 in
set_option maxHeartbeats 4000000 in
theorem j_about {O : zO} {X m : Nat} {M M2 : zM} {x : Int32} (h : zRel X m M M2) : jOp X m M M2 (fun n => F_SF_about O n X x M) (fun n => F_Mo_about O n m x M2) := by
  have h0 := h
  obtain ⟨cN, b, oN, ob, dc, db, id, dd, rp, hid, hk, ⟨hx, a2, a3, a4, a5, a6, ⟨c, cb, a7, e4⟩, q0, q1, q2, q3, q5⟩, ⟨hm, g2, g3, g4, g5, g6, g7, r0, r1, r2, r3, r4, r5⟩⟩ := h
  have k0 := hx.k0
  have k69 := hx.k69
  have k70 := hx.k70
  have k71 := hx.k71
  have k5 := hx.k5
  have k6 := hx.k6
  have p3 := hx.p0_3
  have p4 := hx.p0_4
  have p2 := hx.p0_2
  have p70 := hx.p70_0
  have p50 := hx.p5_0
  have mk := hm.k
  have n7 := a7.2.2.2.2.1
  have n4 := a4.2.2.2.2.1
  suffices hs : ∃ y, zEv (fun n => F_SF_about O n X x M) (y, M) ∧ zEv (fun n => F_Mo_about O n m x M2) (y, M2) by
    obtain ⟨y, y1, y2⟩ := hs
    exact ⟨y, M, M2, y1, y2, h0, zSt.rf, zSt.rf⟩
  unfold F_SF_about f_SF_about_0 F_Mo_about f_Mo_about_0 f_Mo_about_84
  simp only [k0, p3, p4, p2, p70, p50, k69, k70, k71, k5, k6, mk, if_true, q0, q1, q2, q3, q5, r0, r1, r2, r3, r4, r5, n7, n4, e4, g5, g7.1, a5.1, lN_i]
  by_cases c0 : x = 0
  · exact ⟨_, zEv.ip c0 (zEv.some _), zEv.ip c0 (zEv.some _)⟩
  by_cases c1 : x = 1
  · exact ⟨_, zEv.in_ c0 (zEv.ip c1 (zEv.some _)), zEv.in_ c0 (zEv.ip c1 (zEv.some _))⟩
  by_cases c2 : x = 2
  · exact ⟨_, zEv.in_ c0 (zEv.in_ c1 (zEv.ip c2 (zEv.some _))), zEv.in_ c0 (zEv.in_ c1 (zEv.ip c2 (zEv.some _)))⟩
  by_cases c3 : x = 3
  · exact ⟨_, zEv.in_ c0 (zEv.in_ c1 (zEv.in_ c2 (zEv.ip c3 (zEv.some _)))), zEv.in_ c0 (zEv.in_ c1 (zEv.in_ c2 (zEv.ip c3 (zEv.some _))))⟩
  by_cases c4 : x = 4
  · exact ⟨_, zEv.in_ c0 (zEv.in_ c1 (zEv.in_ c2 (zEv.in_ c3 (zEv.ip c4 (zEv.some _))))), zEv.in_ c0 (zEv.in_ c1 (zEv.in_ c2 (zEv.in_ c3 (zEv.ip c4 (zEv.some _)))))⟩
  by_cases c5 : x = 5
  · exact ⟨_, zEv.in_ c0 (zEv.in_ c1 (zEv.in_ c2 (zEv.in_ c3 (zEv.in_ c4 (zEv.ip c5 (zEv.some _)))))), zEv.in_ c0 (zEv.in_ c1 (zEv.in_ c2 (zEv.in_ c3 (zEv.in_ c4 (zEv.ip c5 (zEv.some _))))))⟩
  by_cases c6 : x = 6
  · exact ⟨_, zEv.in_ c0 (zEv.in_ c1 (zEv.in_ c2 (zEv.in_ c3 (zEv.in_ c4 (zEv.in_ c5 (zEv.ip c6 (zEv.some _))))))), zEv.in_ c0 (zEv.in_ c1 (zEv.in_ c2 (zEv.in_ c3 (zEv.in_ c4 (zEv.in_ c5 (zEv.ip c6 (zEv.some _)))))))⟩
  by_cases c7 : x = 7
  · exact ⟨_, zEv.in_ c0 (zEv.in_ c1 (zEv.in_ c2 (zEv.in_ c3 (zEv.in_ c4 (zEv.in_ c5 (zEv.in_ c6 (zEv.ip c7 (zEv.some _)))))))), zEv.in_ c0 (zEv.in_ c1 (zEv.in_ c2 (zEv.in_ c3 (zEv.in_ c4 (zEv.in_ c5 (zEv.in_ c6 (zEv.ip c7 (zEv.some _))))))))⟩
  · exact ⟨_, zEv.in_ c0 (zEv.in_ c1 (zEv.in_ c2 (zEv.in_ c3 (zEv.in_ c4 (zEv.in_ c5 (zEv.in_ c6 (zEv.in_ c7 (zEv.some _)))))))), zEv.in_ c0 (zEv.in_ c1 (zEv.in_ c2 (zEv.in_ c3 (zEv.in_ c4 (zEv.in_ c5 (zEv.in_ c6 (zEv.in_ c7 (zEv.some _))))))))⟩
-- size
set_option maxRecDepth 100000 in
set_option maxHeartbeats 4000000 in
theorem j_sizeOf {O : zO} {X m : Nat} {M M2 : zM} (h : zRel X m M M2) : jOp X m M M2 (fun n => F_SF_size O n X M) (fun n => F_Mo_size O n m M2) := by
  have h0 := h
  obtain ⟨cN, b, oN, ob, dc, db, id, dd, rp, hid, hk, ⟨hx, a2, a3, a4, a5, a6, ⟨c, cb, a7, e4⟩, q0, q1, q2, q3, q5⟩, ⟨hm, g2, g3, g4, g5, g6, g7, r0, r1, r2, r3, r4, r5⟩⟩ := h
  refine ⟨nI oN, M, M2, ?_, ?_, h0, zSt.rf, zSt.rf⟩
  · unfold F_SF_size f_SF_size_0
    refine zEv.ip hx.k0 ?_
    rw [hx.p0_1, a3.2.2.2.2.1]
    exact zEv.ip hx.k3 (zEv.some _)
  · unfold F_Mo_size f_Mo_size_0
    rw [g3]
    exact zEv.ip hm.k (zEv.some _)
theorem i32_of {x : Int32} (h : ¬ x < 0) : ∃ k, k < 2147483648 ∧ x = nI k := by
  have w0 : ¬ x.toInt < 0 := fun w => h (Int32.lt_iff_toInt_lt.mpr w)
  have w1 := Int32.toInt_lt x
  refine ⟨x.toInt.toNat, by omega, ?_⟩
  apply Int32.toInt_inj.mp
  rw [nI_toInt (by omega)]
  omega
-- byteAt
set_option maxRecDepth 100000 in
set_option maxHeartbeats 4000000 in
theorem j_byteAt {O : zO} {X m : Nat} {M M2 : zM} {x : Int32} (h : zRel X m M M2) : jOp X m M M2 (fun n => F_SF_byteAt O n X x M) (fun n => F_Mo_byteAt O n m x M2) := by
  have h0 := h
  obtain ⟨cN, b, oN, ob, dc, db, id, dd, rp, hid, hk, ⟨hx, a2, a3, a4, a5, a6, ⟨c, cb, a7, e4⟩, q0, q1, q2, q3, q5⟩, ⟨hm, g2, g3, g4, g5, g6, g7, r0, r1, r2, r3, r4, r5⟩⟩ := h
  have hoN := a3.cN
  by_cases c1 : x < 0
  · refine ⟨-1, M, M2, ?_, ?_, h0, zSt.rf, zSt.rf⟩
    · unfold F_SF_byteAt f_SF_byteAt_0; exact zEv.ip c1 (zEv.some _)
    · unfold F_Mo_byteAt f_Mo_byteAt_0; exact zEv.ip c1 (zEv.some _)
  obtain ⟨k, hk1, ex⟩ := i32_of c1
  subst ex
  by_cases c2 : k < oN
  · have hat := c_Row_at (O := O) (k := k) a3 (by omega)
    rw [if_pos c2] at hat
    have zi : zin (nI k) 32768 = true := of_eq_true (q_tin (by omega) (by omega))
    have ck : (nI k).toNatClampNeg = k := nI_cl (by omega)
    refine ⟨nI (ob k), M, M2, ?_, ?_, h0, zSt.rf, zSt.rf⟩
    · unfold F_SF_byteAt f_SF_byteAt_0
      refine zEv.in_ c1 (zEv.ip hx.k0 ?_)
      rw [hx.p0_1, a3.2.2.2.2.1]
      exact zEv.ip hx.k3 (zEv.in_ (fun w => by have := (nI_leI (by omega) (by omega)).mp w; omega) (zEv.bind hat (zEv.some _)))
    · unfold F_Mo_byteAt f_Mo_byteAt_0
      refine zEv.in_ c1 (zEv.ip hm.k ?_)
      rw [g3, hm.p2, ck, g4 k c2]
      exact zEv.ip (nI_lt c2 (by omega)) (zEv.ip hm.k2 (zEv.ip (by rw [hm.n2]; exact zi) (zEv.some _)))
  · refine ⟨-1, M, M2, ?_, ?_, h0, zSt.rf, zSt.rf⟩
    · unfold F_SF_byteAt f_SF_byteAt_0
      refine zEv.in_ c1 (zEv.ip hx.k0 ?_)
      rw [hx.p0_1, a3.2.2.2.2.1]
      exact zEv.ip hx.k3 (zEv.ip ((nI_leI (by omega) (by omega)).mpr (by omega)) (zEv.some _))
    · unfold F_Mo_byteAt f_Mo_byteAt_0
      refine zEv.in_ c1 (zEv.ip hm.k ?_)
      rw [g3]
      exact zEv.in_ (nI_nlt (by omega) (by omega)) (zEv.some _)
-- forget
set_option maxRecDepth 100000 in
set_option maxHeartbeats 4000000 in
theorem j_forget {O : zO} {X m : Nat} {M M2 : zM} (h : zRel X m M M2) : jOu X m M M2 (fun n => F_SF_forget O n X M) (fun n => F_Mo_forget O n m M2) := by
  obtain ⟨cN, b, oN, ob, dc, db, id, dd, rp, hid, hk, ⟨hx, a2, a3, a4, a5, a6, ⟨c, cb, a7, e4⟩, q0, q1, q2, q3, q5⟩, ⟨hm, g2, g3, g4, g5, g6, g7, r0, r1, r2, r3, r4, r5⟩⟩ := h
  obtain ⟨e1, e2⟩ := c_empty (O := O) a4
  have k6 := hx.k6
  have k5 := hx.k5
  generalize hA : w_i M (X + 6) 1 0 = A at e1 e2
  have sA : zSt (fun q => q = X + 6) M A := by rw [← hA]; exact zSt.rf.wi (by exact rfl)
  have kA : zKp X M A := by rw [← hA]; exact zKp.rf.wi (Or.inl (by rw [k6]; omega))
  have b5 := (hx.kp kA).k5
  generalize hB : w_i (w_j A (X + 5) 2 0) (X + 5) 3 0 = B
  have sAB : zSt (fun q => q = X + 5) A B := by rw [← hB]; exact (zSt.rf.wj (by exact rfl)).wi (by exact rfl)
  have kB : zKp X M B := by rw [← hB]; exact (kA.wj).wi (Or.inl (show z_k A (X + 5) ≠ 11 by rw [b5]; omega))
  have sB : zSt (fun q => q = X + 5 ∨ q = X + 6) M B := (sA.mono (fun q hq => by omega)).tr (sAB.mono (fun q hq => by omega))
  have rf : zRf (fun f => f = 5 ∨ f = 6 ∨ f = 7) sN m M2 (w_i (w_i (w_i M2 m 5 (nI 0)) m 6 (nI 0)) m 7 (nI 0)) := ((zRf.rf.wf (by omega)).wf (by omega)).wf (by omega)
  obtain ⟨-, e, d2, d3, d4, d5, d6, -⟩ := a5
  have pB : ∀ f, z_p B (X + 5) f = z_p M (X + 5) f := fun f => by rw [← hB, ← hA]; rfl
  refine ⟨B, _, ?_, ?_, ⟨cN, b, oN, ob, 0, db, 0, none, rp, by omega, trivial, ⟨hx.kp kB, a2.st sB (by omega) (by omega), a3.st sB (by omega) (by omega), e2.st sAB (by omega) (by omega), ⟨?_, e, d2, (pB 4).trans d3, (pB 6).trans d4, (pB 5).trans d5, (pB 7).trans d6, ?_⟩, fun k hk => (a6 k hk).st sB (by omega) (by omega) (by omega) (by omega), ⟨c, cb, a7.st sB (by omega) (by omega), e4⟩, (sB.i (by omega) 1).trans q0, (sB.i (by omega) 2).trans q1, (sB.i (by omega) 3).trans q2, (sB.i (by omega) 4).trans q3, (sB.i (by omega) 5).trans q5⟩, ⟨rf.mo hm, g2.rf rf (by omega) (fun h => h), (rf.f (by omega)).trans g3, fun j hj => (rf.i (by omega) (fun h => h) j).trans (g4 j hj), ?_, fun j hj => by omega, ⟨?_, ?_⟩, (rf.f (by omega)).trans r0, (rf.f (by omega)).trans r1, (rf.f (by omega)).trans r2, (rf.f (by omega)).trans r3, (rf.f (by omega)).trans r4, (rf.f (by omega)).trans r5⟩⟩, sB.mono (fun q hq => by unfold sCl; omega), rf.st (fun q hq => False.elim hq)⟩
  · unfold F_SF_forget f_SF_forget_0
    refine zEv.ip hx.k0 ?_
    rw [hx.p0_2]
    refine zEv.ip k5 (zEv.bind (a := ((), B)) ?_ (zEv.some _))
    unfold F_Dict_drop f_Dict_drop_0
    refine zEv.ip k5 ?_
    rw [hx.p5_0]
    refine zEv.ip k6 (zEv.bind e1 (zEv.ip b5 ?_))
    refine (zEv.some _).to fun n => ?_
    rw [← hB]
    rfl
  · unfold F_Mo_forget f_Mo_forget_0
    exact zEv.ip hm.k (zEv.some _)
  · rw [← hB]; simp (disch := omega) only [zlet, w_i_k, w_i_n, w_i_i, w_i_j, w_i_p, w_i_s, w_j_k, w_j_n, w_j_i, w_j_j, w_j_p, w_j_s, w_p_k, w_p_n, w_p_i, w_p_j, w_p_p, w_p_s, w_c_k, w_c_n, w_c_i, w_c_j, w_c_p, w_c_s, w_u_k, w_u_n, w_u_i, w_u_j, w_u_p, w_u_s, q_nf, ↓reduceIte, if_true, if_false, eq_self, and_true, true_and, and_false, false_and, Option.bind_some, ne_eq, not_false_eq_true, not_true_eq_false]; rfl
  · rw [← hB]; simp (disch := omega) only [zlet, w_i_k, w_i_n, w_i_i, w_i_j, w_i_p, w_i_s, w_j_k, w_j_n, w_j_i, w_j_j, w_j_p, w_j_s, w_p_k, w_p_n, w_p_i, w_p_j, w_p_p, w_p_s, w_c_k, w_c_n, w_c_i, w_c_j, w_c_p, w_c_s, w_u_k, w_u_n, w_u_i, w_u_j, w_u_p, w_u_s, q_nf, ↓reduceIte, if_true, if_false, eq_self, and_true, true_and, and_false, false_and, Option.bind_some, ne_eq, not_false_eq_true, not_true_eq_false]; rfl
  · simp (disch := omega) only [zlet, w_i_k, w_i_n, w_i_i, w_i_j, w_i_p, w_i_s, w_j_k, w_j_n, w_j_i, w_j_j, w_j_p, w_j_s, w_p_k, w_p_n, w_p_i, w_p_j, w_p_p, w_p_s, w_c_k, w_c_n, w_c_i, w_c_j, w_c_p, w_c_s, w_u_k, w_u_n, w_u_i, w_u_j, w_u_p, w_u_s, q_nf, ↓reduceIte, if_true, if_false, eq_self, and_true, true_and, and_false, false_and, Option.bind_some, ne_eq, not_false_eq_true, not_true_eq_false]
  · simp (disch := omega) only [zlet, w_i_k, w_i_n, w_i_i, w_i_j, w_i_p, w_i_s, w_j_k, w_j_n, w_j_i, w_j_j, w_j_p, w_j_s, w_p_k, w_p_n, w_p_i, w_p_j, w_p_p, w_p_s, w_c_k, w_c_n, w_c_i, w_c_j, w_c_p, w_c_s, w_u_k, w_u_n, w_u_i, w_u_j, w_u_p, w_u_s, q_nf, ↓reduceIte, if_true, if_false, eq_self, and_true, true_and, and_false, false_and, Option.bind_some, ne_eq, not_false_eq_true, not_true_eq_false]
  · simp (disch := omega) only [zlet, w_i_k, w_i_n, w_i_i, w_i_j, w_i_p, w_i_s, w_j_k, w_j_n, w_j_i, w_j_j, w_j_p, w_j_s, w_p_k, w_p_n, w_p_i, w_p_j, w_p_p, w_p_s, w_c_k, w_c_n, w_c_i, w_c_j, w_c_p, w_c_s, w_u_k, w_u_n, w_u_i, w_u_j, w_u_p, w_u_s, q_nf, ↓reduceIte, if_true, if_false, eq_self, and_true, true_and, and_false, false_and, Option.bind_some, ne_eq, not_false_eq_true, not_true_eq_false]
