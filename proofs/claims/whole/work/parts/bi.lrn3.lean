/-! learn as a whole: both sides together. -/
/-- the cells where what is learned is told first -/
def sLs (X e q : Nat) : Prop := (X + 20 - 11 * e ≤ q ∧ q ≤ X + 30 - 11 * e) ∨ sSp X e q
theorem zCs.keep {M M' : zM} {X cN oN dc id e : Nat} {b ob db : Nat → Nat} {dd : Option dkT} {rp : Nat → Int32} (h : zCs M X cN b oN ob dc db id dd rp) (he : e < 2) (d4 : z_p M (X + 5) 4 = X + 9 + 11 * e) (g : zSt (sLs X e) M M') (kp : zKp X M M') : zCs M' X cN b oN ob dc db id dd rp := by
  obtain ⟨hx, a2, a3, a4, a5, a6, ⟨c, cb, a7, e4⟩, q0, q1, q2, q3, q5⟩ := h
  have n : ∀ q, q < X + 9 ∨ X + 69 ≤ q ∨ q = X + 31 ∨ q = X + 32 → ¬ sLs X e q := fun q hq => by unfold sLs sSp; omega
  refine ⟨hx.kp kp, a2.st g (n _ (by omega)) (n _ (by omega)), a3.st g (n _ (by omega)) (n _ (by omega)), a4.st g (n _ (by omega)) (n _ (by omega)), ?_, fun k hk => (a6 k hk).st g (n _ (by omega)) (n _ (by omega)) (n _ (by omega)) (n _ (by omega)), ⟨c, cb, a7.st g (n _ (by omega)) (n _ (by omega)), e4⟩, (g.i (n _ (by omega)) 1).trans q0, (g.i (n _ (by omega)) 2).trans q1, (g.i (n _ (by omega)) 3).trans q2, (g.i (n _ (by omega)) 4).trans q3, (g.i (n _ (by omega)) 5).trans q5⟩
  obtain ⟨h1, e', h2, h3, h4, h5, h6, h7⟩ := a5
  have ee : e' = e := by omega
  subst ee
  have s5 := n (X + 5) (by omega)
  refine ⟨(g.j s5 2).trans h1, e', h2, (g.p s5 4).trans h3, (g.p s5 6).trans h4, (g.p s5 5).trans h5, (g.p s5 7).trans h6, ?_⟩
  cases dd with
  | none => exact (g.i s5 3).trans h7
  | some q =>
    obtain ⟨t, w, o, u, d⟩ := q
    obtain ⟨i1, i2, i3, i4⟩ := h7
    exact ⟨(g.i s5 3).trans i1, i2.st g (by unfold sLs sSp; omega) (by unfold sLs sSp; omega) (by unfold sLs sSp; omega), fun k hk => (i3 k hk).st g (by unfold sLs sSp; omega) (by unfold sLs sSp; omega) (by unfold sLs sSp; omega) (by unfold sLs sSp; omega), i4.st g (n _ (by omega))⟩
theorem zRm.rf {F S : Nat → Prop} {M M1 : zM} {m cN oN dc id : Nat} {b ob db : Nat → Nat} {dd : Option dkT} {rp : Nat → Int32} (h : zRm M m cN b oN ob dc db id dd rp) (g : zRf F S m M M1) (hF : ∀ f, f = 1 ∨ f = 3 ∨ f = 5 ∨ f = 6 ∨ f = 7 ∨ f = 30 ∨ (34 ≤ f ∧ f ≤ 37) ∨ f = 39 → ¬ F f) (hS : ∀ q, m + 1 ≤ q → q ≤ m + 7 → ¬ S q) : zRm M1 m cN b oN ob dc db id dd rp := by
  obtain ⟨hm, g2, g3, g4, g5, g6, g7, r0, r1, r2, r3, r4, r5⟩ := h
  exact ⟨g.mo hm, g2.rf g (hF _ (by omega)) (hS _ (by omega) (by omega)), (g.f (hF _ (by omega))).trans g3, fun j hj => (g.i (by omega) (hS _ (by omega) (by omega)) j).trans (g4 j hj), (g.f (hF _ (by omega))).trans g5, fun j hj => (g.i (by omega) (hS _ (by omega) (by omega)) j).trans (g6 j hj), g7.rf g (hF _ (by omega)) (hF _ (by omega)) (fun q h1 h2 => hS q (by omega) h2), (g.f (hF _ (by omega))).trans r0, (g.f (hF _ (by omega))).trans r1, (g.f (hF _ (by omega))).trans r2, (g.f (hF _ (by omega))).trans r3, (g.f (hF _ (by omega))).trans r4, (g.f (hF _ (by omega))).trans r5⟩
def fLg (f : Nat) : Prop := f = 13 ∨ f = 22 ∨ f = 47 ∨ f = 48
-- a dictionary told
set_option maxRecDepth 100000 in
set_option maxHeartbeats 4000000 in
theorem j_told {O : zO} {M M2 : zM} {X m cN oN dc id e : Nat} {b ob db : Nat → Nat} {dd : Option dkT} {rp : Nat → Int32} (h : zCs M X cN b oN ob dc db id dd rp) (h2 : zRm M2 m cN b oN ob dc db id dd rp) (h4c : 4 ≤ cN) (he : e < 2) (d4 : z_p M (X + 5) 4 = X + 9 + 11 * e) (d6 : z_p M (X + 5) 6 = X + 20 - 11 * e) (d5 : z_p M (X + 5) 5 = X + 31 + e) (d7 : z_p M (X + 5) 7 = X + 32 - e) :
    (∃ y M' M2', y < 0 ∧ zEv (fun n => F_Dict_takeTold O n (X + 5) (X + 1) M) (y, M') ∧ zEv (fun n => f_Mo_learn_33 O n m (0 : Int32) (1 : Int32) M2) (y, M2') ∧ zSt (sLs X e) M M' ∧ zKp X M M' ∧ zRf fLg (sRm m) m M2 M2') ∨
    (∃ k d' M' M2', k ≤ 12000 ∧ zEv (fun n => F_Dict_takeTold O n (X + 5) (X + 1) M) (nI k, M') ∧ zEv (fun n => f_Mo_learn_33 O n m (0 : Int32) (1 : Int32) M2) (nI k, M2') ∧ zSt (fun q => X + 5 ≤ q ∧ q ≤ X + 68) M M' ∧ zKp X M M' ∧ zRf (fun f => fLg f ∨ f = 7 ∨ fLn f) (fun q => sRm m q ∨ sLn m q) m M2 M2' ∧ dkOk (some d') ∧ zDC M' X (nb b 4 4) (some d') ∧ zDM M2' m (nb b 4 4) (some d') ∧ ∃ db', zRow M' (X + 6) (X + 7) 12000 k db' ∧ z_i M2' m 5 = nI k ∧ (∀ j, j < k → z_i M2' (m + 3) j = nI (db' j)) ∧ z_i M2' m 1 = nI 0) := by
  obtain ⟨hx, a2, a3, a4, a5, a6, a7, q0⟩ := h
  obtain ⟨hm, g2, g3, g4, g5, g6, g7, r0⟩ := h2
  have hcN := a2.cN
  have x1 := hx.x1
  have k5 := hx.k5
  by_cases c8 : 8 ≤ cN
  · have hcs : zCdS M (X + 20 - 11 * e) := by
      rcases (show e = 0 ∨ e = 1 by omega) with w | w
      · subst w; exact hx.c20
      · subst w; exact hx.c9
    obtain ⟨A, s1, s2, s3⟩ := c_Codes_tell (O := O) (fr := 8) (to := cN) hcs a2 (by omega) (by omega) ⟨by omega, by omega⟩ c8 (Nat.le_refl _)
    have kA : zKp X M A := s1.cd hcs s2 (fun q h1 h2 => by unfold zNs; omega)
    have sA : zSt (sLs X e) M A := s1.mono (fun q hq => by unfold sLs; omega)
    have xA := hx.kp kA
    obtain ⟨B, r1, r2⟩ := c_describe (O := O) (fr := 8) (to := cN) hm g2 c8 (Nat.le_refl _)
    have rB : zRf fLg (sRm m) m M2 B := r1.mono (fun f hf => by unfold fD at hf; unfold fLg; omega) (fun q hq => by unfold sD at hq; unfold sRm; omega)
    have i8 : (8 : Int32) ≤ nI cN := (nI_leI (a := 8) (by omega) (by omega)).mpr c8
    have toC : ∀ {y : Int32}, zEv (fun n => F_Codes_tell O n (X + 20 - 11 * e) (X + 1) (nI 8) (nI cN) M) (y, A) → ∀ α, zEv (fun n => if y = (-1 : Int32) then some ((-2 : Int32), A) else cT3 O n X y A) α → zEv (fun n => F_Dict_takeTold O n (X + 5) (X + 1) M) α := fun {y} hy α hα => by
      unfold F_Dict_takeTold f_Dict_takeTold_0
      refine zEv.ip hx.k1 ?_
      rw [a2.2.2.2.2.1, d6]
      refine zEv.ip i8 (zEv.ip k5 (zEv.ip hcs.1 (zEv.bind hy ?_)))
      refine hα.to fun n => ?_
      have xk := xA.k5
      simp only [xk, if_true]
      rfl
    have toM : ∀ {y : Int32}, zEv (fun n => F_Mo_describe O n m (nI 8) (nI cN) M2) (y, B) → ∀ α, zEv (fun n => if 0 ≤ y then f_Mo_learn_70 O n m (1 : Int32) y (nI 0) B else some ((-2 : Int32), B)) α → zEv (fun n => f_Mo_learn_33 O n m (0 : Int32) (1 : Int32) M2) α := fun {y} hy α hα => by
      unfold f_Mo_learn_33
      refine zEv.in_ (by decide) (zEv.ip hm.k ?_)
      rw [g2.1]
      exact zEv.ip i8 (zEv.bind hy hα)
    cases hds : dsS b 8 cN with
    | none =>
      rw [hds] at s3 r2
      exact Or.inl ⟨-2, A, B, by decide, toC s3 _ (zEv.ip rfl (zEv.some _)), toM r2 _ (zEv.in_ (by decide) (zEv.some _)), sA, kA, rB⟩
    | some q =>
      obtain ⟨t, w, e1⟩ := q
      rw [hds] at s3 r2
      obtain ⟨s31, s32⟩ := s3
      obtain ⟨r21, r22⟩ := r2
      have cb8 : 8 < cN := by
        refine Nat.lt_of_not_le fun hle => ?_
        unfold dsS at hds
        rw [if_pos hle] at hds
        cases hds
      have hb8 := a2.b cb8
      obtain ⟨w1, w2, w3⟩ := dsS_ok hb8 hds
      have inA := a2.st s1 (by omega) (by omega)
      have pA7 : z_p A (X + 5) 7 = X + 32 - e := by rw [s1.p (by omega)]; exact d7
      obtain ⟨A3, t1, t2, t3⟩ := c_tell3 (O := O) xA inA pA7 he w3
      have mB := r1.mo hm
      have iB := g2.rf r1 (by unfold fD; omega) (by unfold sD; omega)
      obtain ⟨B3, v1, v2⟩ := c_m70x (O := O) (l2 := (1 : Int32)) mB iB w3
      have sA3 : zSt (sLs X e) M A3 := sA.tr (t1.mono (fun q hq => Or.inr hq))
      have kA3 := kA.tr t2
      have rB3 : zRf fLg (sRm m) m M2 B3 := rB.tr (v1.mono (fun f hf => by unfold fT7 at hf; unfold fLg; omega) (fun q hq => by unfold sTm zTS at hq; unfold sRm; omega))
      have toC2 : ∀ {α : Int32 × zM}, zEv (fun n => cT3 O n X (nI e1) A) α → zEv (fun n => F_Dict_takeTold O n (X + 5) (X + 1) M) α := fun {α} hα => toC s31 α (zEv.in_ (nI_nm1 (by omega)) hα)
      have toM2 : ∀ {α : Int32 × zM}, zEv (fun n => f_Mo_learn_70 O n m (1 : Int32) (nI e1) (nI 0) B) α → zEv (fun n => f_Mo_learn_33 O n m (0 : Int32) (1 : Int32) M2) α := fun {α} hα => toM r21 α (zEv.ip (nI_pos' (by omega)) hα)
      cases hs3 : sh3 b e1 cN with
      | none =>
        rw [hs3] at t3 v2
        exact Or.inl ⟨-3, A3, B3, by decide, toC2 t3, toM2 v2, sA3, kA3, rB3⟩
      | some q3 =>
        obtain ⟨o, u, nx⟩ := q3
        rw [hs3] at t3 v2
        obtain ⟨t31, t32⟩ := t3
        obtain ⟨v21, v22⟩ := v2
        obtain ⟨y1, y2, y3⟩ := sh3_ok hs3
        have xA3 := xA.kp t2
        have inA3 := inA.st t1 (by unfold sSp; omega) (by unfold sSp; omega)
        have mB3 := v1.mo mB
        have iB3 := iB.rf v1 (by unfold fT7; omega) (by unfold sTm zTS; omega)
        have toC3 : ∀ {α : Int32 × zM}, zEv (fun n => if (12 : Int32) ≤ nI (cN - nx) then f_Dict_takeTold_99 O n (X + 5) (X + 1) (nI nx) (nI 0) A3 else some ((-1 : Int32), A3)) α → zEv (fun n => F_Dict_takeTold O n (X + 5) (X + 1) M) α := fun {α} hα => by
          refine toC2 (t31 α ?_)
          unfold f_Dict_takeTold_75
          refine zEv.in_ (nI_nm1 (by omega)) (zEv.ip xA3.k1 ?_)
          rw [inA3.2.2.2.2.1, pk_sub y3]
          exact hα
        have toM3 : ∀ {α : Int32 × zM}, zEv (fun n => if nI (nx + 12) ≤ nI cN then f_Mo_learn_166 O n m (nI (nx + 12)) (1 : Int32) (nI nx) (nI 0) B3 else some ((-1 : Int32), B3)) α → zEv (fun n => f_Mo_learn_33 O n m (0 : Int32) (1 : Int32) M2) α := fun {α} hα => by
          refine toM2 (v21 α (zEv.succ ?_))
          simp only [f_Mo_learn_70]
          refine zEv.ip (by decide) (zEv.ip mB3.k ?_)
          rw [iB3.1, show nI nx + (12 : Int32) = nI (nx + 12) from nI_add nx 12]
          exact hα
        by_cases c12 : nx + 12 ≤ cN
        · have toC4 : ∀ {α : Int32 × zM}, zEv (fun n => f_Dict_takeTold_99 O n (X + 5) (X + 1) (nI nx) (nI 0) A3) α → zEv (fun n => F_Dict_takeTold O n (X + 5) (X + 1) M) α := fun {α} hα => toC3 (zEv.ip ((nI_leI (a := 12) (by omega) (by omega)).mpr (by omega)) hα)
          have toM4 : ∀ {α : Int32 × zM}, zEv (fun n => f_Mo_learn_166 O n m (nI (nx + 12)) (1 : Int32) (nI nx) (nI 0) B3) α → zEv (fun n => f_Mo_learn_33 O n m (0 : Int32) (1 : Int32) M2) α := fun {α} hα => toM3 (zEv.ip ((nI_leI (by omega) (by omega)).mpr c12) hα)
          have C0 := c_c99 (O := O) (k := 0) xA3 inA3 c12 (by omega)
          have C1 := c_c99 (O := O) (k := 1) xA3 inA3 c12 (by omega)
          have C2 := c_c99 (O := O) (k := 2) xA3 inA3 c12 (by omega)
          have jr : ∀ {N : zM} {k : Nat} {x : Int64}, zRf fLg (sRm m) m M2 N → zRf fLg (sRm m) m M2 (w_j N (m + 15) k x) := fun {N k x} hr => hr.wj (by unfold sRm; omega) (by omega)
          have ji : ∀ {N : zM} {k : Nat} {x : Int64}, zMI N m cN b → zMI (w_j N (m + 15) k x) m cN b := fun {N k x} hi => hi
          have D0 := c_m166 (O := O) (k := 0) (l2 := (1 : Int32)) mB3 iB3 c12 (by omega)
          have m1 : zMo (w_j B3 (m + 15) 0 (lN (nb b (nx + 4 * 0) 4))) m := mB3
          have D1 := c_m166 (O := O) (k := 1) (l2 := (1 : Int32)) m1 (ji iB3) c12 (by omega)
          have m2 : zMo (w_j (w_j B3 (m + 15) 0 (lN (nb b (nx + 4 * 0) 4))) (m + 15) 1 (lN (nb b (nx + 4 * 1) 4))) m := mB3
          have D2 := c_m166 (O := O) (k := 2) (l2 := (1 : Int32)) m2 (ji (ji iB3)) c12 (by omega)
          by_cases o0 : okD b nx cN 0
          · by_cases o1 : okD b nx cN 1
            · by_cases o2 : okD b nx cN 2
              · right
                have e15 : zLt (w_j (w_j (w_j B3 (m + 15) 0 (lN (nb b (nx + 4 * 0) 4))) (m + 15) 1 (lN (nb b (nx + 4 * 1) 4))) (m + 15) 2 (lN (nb b (nx + 4 * 2) 4))) (m + 15) (nb b nx 4, nb b (nx + 4) 4, nb b (nx + 8) 4) := by
                  refine ⟨?_, ?_, ?_⟩ <;> simp (disch := omega) only [zlet, w_i_k, w_i_n, w_i_i, w_i_j, w_i_p, w_i_s, w_j_k, w_j_n, w_j_i, w_j_j, w_j_p, w_j_s, w_p_k, w_p_n, w_p_i, w_p_j, w_p_p, w_p_s, w_c_k, w_c_n, w_c_i, w_c_j, w_c_p, w_c_s, w_u_k, w_u_n, w_u_i, w_u_j, w_u_p, w_u_s, q_nf, ↓reduceIte, if_true, if_false, eq_self, and_true, true_and, and_false, false_and, Option.bind_some, ne_eq, not_false_eq_true, not_true_eq_false] <;> rfl
                have rB4 : zRf fLg (sRm m) m M2 (w_j (w_j (w_j B3 (m + 15) 0 (lN (nb b (nx + 4 * 0) 4))) (m + 15) 1 (lN (nb b (nx + 4 * 1) 4))) (m + 15) 2 (lN (nb b (nx + 4 * 2) 4))) := jr (jr (jr rB3))
                have iB4 := ji (k := 2) (x := lN (nb b (nx + 4 * 2) 4)) (ji (k := 1) (x := lN (nb b (nx + 4 * 1) 4)) (ji (k := 0) (x := lN (nb b (nx + 4 * 0) 4)) iB3))
                have toM5 : ∀ {α : Int32 × zM}, zEv (fun n => f_Mo_learn_166 O n m (nI (nx + 12)) (1 : Int32) (nI nx) (nI 3) (w_j (w_j (w_j B3 (m + 15) 0 (lN (nb b (nx + 4 * 0) 4))) (m + 15) 1 (lN (nb b (nx + 4 * 1) 4))) (m + 15) 2 (lN (nb b (nx + 4 * 2) 4)))) α → zEv (fun n => f_Mo_learn_33 O n m (0 : Int32) (1 : Int32) M2) α := fun {α} hα => toM4 (D0.1 o0 _ (D1.1 o1 _ (D2.1 o2 _ hα)))
                have f11 : ∀ k, k < 3 → zMP (w_j (w_j (w_j B3 (m + 15) 0 (lN (nb b (nx + 4 * 0) 4))) (m + 15) 1 (lN (nb b (nx + 4 * 1) 4))) (m + 15) 2 (lN (nb b (nx + 4 * 2) 4))) m k (u k) ∧ z_i (w_j (w_j (w_j B3 (m + 15) 0 (lN (nb b (nx + 4 * 0) 4))) (m + 15) 1 (lN (nb b (nx + 4 * 1) 4))) (m + 15) 2 (lN (nb b (nx + 4 * 2) 4))) (m + 11) k = nI (o k) := v22
                have f8 : ∀ s, s < 256 → z_i (w_j (w_j (w_j B3 (m + 15) 0 (lN (nb b (nx + 4 * 0) 4))) (m + 15) 1 (lN (nb b (nx + 4 * 1) 4))) (m + 15) 2 (lN (nb b (nx + 4 * 2) 4))) (m + 8) s = nI (lnS t w s) := fun s hs => (v1.i (by omega) (by unfold sTm zTS; omega) s).trans (r22.2.2 s hs)
                have mB4 : zMo (w_j (w_j (w_j B3 (m + 15) 0 (lN (nb b (nx + 4 * 0) 4))) (m + 15) 1 (lN (nb b (nx + 4 * 1) 4))) (m + 15) 2 (lN (nb b (nx + 4 * 2) 4))) m := mB3
                generalize w_j (w_j (w_j B3 (m + 15) 0 (lN (nb b (nx + 4 * 0) 4))) (m + 15) 1 (lN (nb b (nx + 4 * 1) 4))) (m + 15) 2 (lN (nb b (nx + 4 * 2) 4)) = B4 at e15 rB4 iB4 toM5 f11 f8 mB4
                generalize hB5 : w_i B4 m 7 (1 : Int32) = B5
                have r5 : zRf (fun f => f = 7) sN m B4 B5 := by rw [← hB5]; exact zRf.rf.wf (by exact rfl)
                have mB5 := r5.mo mB4
                have iB5 := iB4.rf r5 (by omega) (fun h => h)
                have hid := c_Mo_number (O := O) (iB5.in_ mB5) 4 4 (by omega) (by omega)
                obtain ⟨B6, z1, z2, z3, z4, z5, z6, z7, z8, z9⟩ := c_m250 (O := O) (x := nI (nb b 4 4)) mB5 iB5 c12
                have cdA3 : zCd A3 (X + 20 - 11 * e) t w := s32.st t1 (by unfold sSp; omega) (by unfold sSp; omega) (by unfold sSp; omega)
                have pA3 : ∀ f, z_p A3 (X + 5) f = z_p M (X + 5) f := fun f => by rw [t1.p (by unfold sSp; omega), s1.p (by omega)]
                have dicA3 := (a4.st s1 (by omega) (by omega)).st t1 (by unfold sSp; omega) (by unfold sSp; omega)
                obtain ⟨A4, p1, p2, p3, p4, p5⟩ := c_c99e (O := O) xA3 inA3 dicA3 c12 he ((pA3 4).trans d4) ((pA3 6).trans d6) ((pA3 5).trans d5) ((pA3 7).trans d7) cdA3 t32
                have n4 : ∀ s, s + 4 ≤ cN → nb b s 4 < 4294967296 := fun s hs => nb_lt (k := 4) (fun i hi => a2.b (by omega))
                have rAll : zRf (fun f => fLg f ∨ f = 7 ∨ fLn f) (fun q => sRm m q ∨ sLn m q) m M2 B6 := ((rB4.mono (fun f hf => Or.inl hf) (fun q hq => Or.inl hq)).tr (r5.mono (fun f hf => Or.inr (Or.inl hf)) (fun _ h => False.elim h))).tr (z2.mono (fun f hf => Or.inr (Or.inr hf)) (fun q hq => Or.inr hq))
                refine ⟨cN - (nx + 12), (t, w, o, u, (nb b nx 4, nb b (nx + 4) 4, nb b (nx + 8) 4)), A4, B6, by omega, toC4 (C0.1 o0 _ (C1.1 o1 _ (C2.1 o2 _ p1))), toM5 (zEv.succ ?_), (sA3.mono (fun q hq => by unfold sLs sSp at hq; omega)).tr (p2.mono (fun q hq => by omega)), kA3.tr p3, rAll, ⟨w1, y1, ?_⟩, p4, ⟨z5, ?_, fun s hs => ?_, fun k hk => ⟨?_, fun s hs => ?_⟩, ?_⟩, (fun j => b (nx + 12 + j)), p5, z4, z6, z3⟩
                · simp only [f_Mo_learn_166]
                  refine zEv.ip (by decide) ?_
                  unfold f_Mo_learn_229
                  refine zEv.ip mB4.k (zEv.ip (Or.inr rfl) (zEv.zl (zEv.in_ (by decide) ?_)))
                  rw [hB5]
                  refine zEv.bind hid ?_
                  dsimp only
                  rw [lN_i]
                  exact z1
                · have u0 := o0.1
                  have u1 := o1.1
                  have u2 := o2.1
                  exact ⟨Nat.pos_of_ne_zero u0, n4 _ (by omega), Nat.pos_of_ne_zero u1, n4 _ (by omega), Nat.pos_of_ne_zero u2, n4 _ (by omega)⟩
                · rw [z2.f (by unfold fLn; omega), ← hB5, w_i_eq]; rfl
                · rw [z7 s hs, r5.i (by omega) (fun h => h)]; exact f8 s hs
                · rw [(z9 k hk).1, r5.i (by omega) (fun h => h)]; exact (f11 k hk).2
                · rw [z8 _ (by omega), r5.i (by omega) (fun h => h)]; exact (f11 k hk).1 s hs
                · exact ⟨(z9 0 (by omega)).2.trans ((r5.j (by omega) (fun h => h) 0).trans e15.1), (z9 1 (by omega)).2.trans ((r5.j (by omega) (fun h => h) 1).trans e15.2.1), (z9 2 (by omega)).2.trans ((r5.j (by omega) (fun h => h) 2).trans e15.2.2)⟩
              · exact Or.inl ⟨-4, A3, _, by decide, toC4 (C0.1 o0 _ (C1.1 o1 _ (C2.2 o2))), toM4 (D0.1 o0 _ (D1.1 o1 _ (D2.2 o2))), sA3, kA3, jr (jr (jr rB3))⟩
            · exact Or.inl ⟨-4, A3, _, by decide, toC4 (C0.1 o0 _ (C1.2 o1)), toM4 (D0.1 o0 _ (D1.2 o1)), sA3, kA3, jr (jr rB3)⟩
          · exact Or.inl ⟨-4, A3, _, by decide, toC4 (C0.2 o0), toM4 (D0.2 o0), sA3, kA3, jr rB3⟩
        · exact Or.inl ⟨-1, A3, B3, by decide, toC3 (zEv.in_ (fun w => c12 (by have := (nI_leI (a := 12) (by omega) (by omega)).mp w; omega)) (zEv.some _)), toM3 (zEv.in_ (fun w => c12 ((nI_leI (by omega) (by omega)).mp w)) (zEv.some _)), sA3, kA3, rB3⟩
  · left
    refine ⟨-1, M, M2, by decide, ?_, ?_, zSt.rf, zKp.rf, zRf.rf⟩
    · unfold F_Dict_takeTold f_Dict_takeTold_0
      refine zEv.ip hx.k1 ?_
      rw [a2.2.2.2.2.1]
      exact zEv.in_ (fun w => c8 ((nI_leI (a := 8) (by omega) (by omega)).mp w)) (zEv.some _)
    · unfold f_Mo_learn_33
      refine zEv.in_ (by decide) (zEv.ip hm.k ?_)
      rw [g2.1]
      exact zEv.in_ (fun w => c8 ((nI_leI (a := 8) (by omega) (by omega)).mp w)) (zEv.some _)
-- learn
set_option maxRecDepth 100000 in
set_option maxHeartbeats 4000000 in
theorem j_learn {O : zO} {X m : Nat} {M M2 : zM} (h : zRel X m M M2) : jOp X m M M2 (fun n => F_SF_learn O n X M) (fun n => F_Mo_learn O n m M2) := by
  obtain ⟨cN, b, oN, ob, dc, db, id, dd, rp, hid, hk, h1, h2⟩ := h
  have h1' := h1
  have h2' := h2
  obtain ⟨hx, a2, a3, a4, a5, a6, ⟨c, cb, a7, e4⟩, q0, q1, q2, q3, q5⟩ := h1'
  obtain ⟨hm, g2, g3, g4, g5, g6, g7, r0, r1, r2, r3, r4, r5⟩ := h2'
  obtain ⟨-, e, he, d4, d6, d5, d7, -⟩ := a5
  have hcN := a2.cN
  -- what comes after: the class
  have toC : ∀ {y : Int32} {x : zM}, zEv (fun n => F_Dict_takeFrom O n (X + 5) (X + 1) M) (y, x) → ∀ α, zEv (fun n => if y < 0 then some (y, x) else if z_k x X = 1 then if z_k x (z_p x X 0) = 9 then (F_Row_empty O n (z_p x X 0) x).bind fun q7 => some (y, q7.2) else none else none) α → zEv (fun n => F_SF_learn O n X M) α := fun {y x} hy α hα => by
    unfold F_SF_learn f_SF_learn_0
    refine zEv.ip hx.k0 ?_
    rw [hx.p0_2, hx.p0_0]
    exact zEv.ip hx.k5 (zEv.bind hy hα)
  -- learned: both are alike
  have fin : ∀ {k id' : Nat} {dd' : Option dkT} {db' : Nat → Nat} {M' M2' : zM}, k ≤ 12000 → id' < 4294967296 → dkOk dd' → zEv (fun n => F_Dict_takeFrom O n (X + 5) (X + 1) M) (nI k, M') → zEv (fun n => F_Mo_learn O n m M2) (nI k, M2') → zSt (fun q => X + 5 ≤ q ∧ q ≤ X + 68) M M' → zKp X M M' → zRf (fun f => fLg f ∨ f = 7 ∨ fLn f) (fun q => sRm m q ∨ sLn m q) m M2 M2' → zDC M' X id' dd' → zDM M2' m id' dd' → zRow M' (X + 6) (X + 7) 12000 k db' → z_i M2' m 5 = nI k → (∀ j, j < k → z_i M2' (m + 3) j = nI (db' j)) → z_i M2' m 1 = nI 0 → jOp X m M M2 (fun n => F_SF_learn O n X M) (fun n => F_Mo_learn O n m M2) := fun {k id' dd' db' M' M2'} hk1 hid' hdk ec em st kp rf hdc hdm hrow h5 hdb h1z => by
    have x1 := hx.kp kp
    have in1 := a2.st st (by omega) (by omega)
    obtain ⟨e1, e2⟩ := c_empty (O := O) in1
    have k1 := x1.k1
    have s2 : zSt (fun q => q = X + 1) M' (w_i M' (X + 1) 1 0) := zSt.rf.wi (by exact rfl)
    have kp2 : zKp X M' (w_i M' (X + 1) 1 0) := zKp.rf.wi (Or.inl (by rw [k1]; omega))
    have sAll : zSt (fun q => q = X + 1 ∨ (X + 5 ≤ q ∧ q ≤ X + 68)) M (w_i M' (X + 1) 1 0) := (st.mono (fun q hq => Or.inr hq)).tr (s2.mono (fun q hq => Or.inl hq))
    refine ⟨nI k, w_i M' (X + 1) 1 0, M2', toC ec _ (zEv.in_ (nI_pos (by omega)) (zEv.ip x1.k0 ?_)), em, ⟨0, b, oN, ob, k, db', id', dd', rp, hid', hdk, ⟨x1.kp kp2, e2, a3.st sAll (by omega) (by omega), hrow.st s2 (by omega) (by omega), hdc.st s2 (fun q h1 h2 => by omega), fun k hk => (a6 k hk).st sAll (by omega) (by omega) (by omega) (by omega), ⟨c, cb, a7.st sAll (by omega) (by omega), e4⟩, (sAll.i (by omega) 1).trans q0, (sAll.i (by omega) 2).trans q1, (sAll.i (by omega) 3).trans q2, (sAll.i (by omega) 4).trans q3, (sAll.i (by omega) 5).trans q5⟩, ⟨rf.mo hm, ⟨h1z, by omega, fun j hj => by omega⟩, (rf.f (by unfold fLg fLn; omega)).trans g3, fun j hj => (rf.i (by omega) (by unfold sRm sLn; omega) j).trans (g4 j hj), h5, hdb, hdm, (rf.f (by unfold fLg fLn; omega)).trans r0, (rf.f (by unfold fLg fLn; omega)).trans r1, (rf.f (by unfold fLg fLn; omega)).trans r2, (rf.f (by unfold fLg fLn; omega)).trans r3, (rf.f (by unfold fLg fLn; omega)).trans r4, (rf.f (by unfold fLg fLn; omega)).trans r5⟩⟩, sAll.mono (fun q hq => by unfold sCl; omega), rf.st (fun q hq => by unfold sRm sLn at hq; omega)⟩
    rw [x1.p0_0]
    exact zEv.ip k1 (zEv.bind e1 (zEv.some _))
  -- plain content
  have plain : (∀ {α : Int32 × zM}, zEv (fun n => f_Dict_takeFrom_27 O n (X + 5) (X + 1) M) α → zEv (fun n => F_Dict_takeFrom O n (X + 5) (X + 1) M) α) → (∀ {α : Int32 × zM}, zEv (fun n => f_Mo_learn_32 O n m (0 : Int32) M2) α → zEv (fun n => F_Mo_learn O n m M2) α) → jOp X m M M2 (fun n => F_SF_learn O n X M) (fun n => F_Mo_learn O n m M2) := fun tc tm => by
    have k5 := hx.k5
    generalize hA : w_i (w_j M (X + 5) 2 0) (X + 5) 3 0 = A
    have sA : zSt (fun q => q = X + 5) M A := by rw [← hA]; exact (zSt.rf.wj (by exact rfl)).wi (by exact rfl)
    have kA : zKp X M A := by rw [← hA]; exact (zKp.rf.wj).wi (Or.inl (show z_k M (X + 5) ≠ 11 by rw [k5]; omega))
    have A2 : z_j A (X + 5) 2 = lN 0 := by rw [← hA]; simp (disch := omega) only [zlet, w_i_k, w_i_n, w_i_i, w_i_j, w_i_p, w_i_s, w_j_k, w_j_n, w_j_i, w_j_j, w_j_p, w_j_s, w_p_k, w_p_n, w_p_i, w_p_j, w_p_p, w_p_s, w_c_k, w_c_n, w_c_i, w_c_j, w_c_p, w_c_s, w_u_k, w_u_n, w_u_i, w_u_j, w_u_p, w_u_s, q_nf, ↓reduceIte, if_true, if_false, eq_self, and_true, true_and, and_false, false_and, Option.bind_some, ne_eq, not_false_eq_true, not_true_eq_false]; rfl
    have A3 : z_i A (X + 5) 3 = nI 0 := by rw [← hA, w_i_eq]; rfl
    have pA : ∀ f, z_p A (X + 5) f = z_p M (X + 5) f := fun f => by rw [← hA]; rfl
    have xA := hx.kp kA
    obtain ⟨D, t1, t2, t3, t4⟩ := c_takeContent (O := O) (fr := 0) xA (a2.st sA (by omega) (by omega)) (a4.st sA (by omega) (by omega)) (by omega)
    rw [Nat.sub_zero] at t1 t4
    have dcA : zDC A X 0 none := ⟨A2, e, he, (pA 4).trans d4, (pA 6).trans d6, (pA 5).trans d5, (pA 7).trans d7, A3⟩
    generalize hB : w_i M2 m 7 (0 : Int32) = B
    have rB : zRf (fun f => f = 7) sN m M2 B := by rw [← hB]; exact zRf.rf.wf (by exact rfl)
    obtain ⟨B6, z1, z2, z3, z4, z5, z6, z7, z8, z9⟩ := c_m250 (O := O) (x := nI 0) (l1 := 0) (rB.mo hm) (g2.rf rB (by omega) (fun h => h)) (by omega)
    rw [Nat.sub_zero] at z1 z4 z6
    refine fin (k := cN) (id' := 0) (dd' := none) (M' := D) (M2' := B6) hcN (by omega) trivial (tc ?_) (tm ?_) ((sA.mono (fun q hq => by omega)).tr (t2.mono (fun q hq => by unfold zS2 at hq; omega))) (kA.tr t3) ((rB.mono (fun f hf => Or.inr (Or.inl hf)) (fun _ h => False.elim h)).tr (z2.mono (fun f hf => Or.inr (Or.inr hf)) (fun q hq => Or.inr hq))) (dcA.st2 t2 (fun q h1 h2 => by unfold zS2; omega)) ⟨z5, ?_⟩ t4 z4 z6 z3
    · unfold f_Dict_takeFrom_27
      refine zEv.ip k5 (zEv.zl (zEv.zl ?_))
      rw [hA]
      exact zEv.bind t1 (zEv.some _)
    · unfold f_Mo_learn_32 f_Mo_learn_33 f_Mo_learn_229
      refine zEv.ip rfl (zEv.ip hm.k (zEv.ip (Or.inl rfl) (zEv.zl (zEv.ip rfl ?_))))
      rw [hB]
      exact z1
    · show z_i B6 m 7 = nI 0
      rw [z2.f (by unfold fLn; omega), ← hB, w_i_eq]; rfl
  by_cases c4 : cN < 4
  · refine plain (fun {α} hα => ?_) (fun {α} hα => ?_)
    · unfold F_Dict_takeFrom f_Dict_takeFrom_0
      refine zEv.ip hx.k1 ?_
      rw [a2.2.2.2.2.1]
      exact zEv.ip (nI_lt (b := 4) c4 (by omega)) hα
    · unfold F_Mo_learn f_Mo_learn_0
      refine zEv.ip hm.k ?_
      rw [g2.1]
      exact zEv.ip (nI_lt (b := 4) c4 (by omega)) hα
  have n4 : ¬ nI cN < (4 : Int32) := nI_nlt (b := 4) (by omega) (by omega)
  have hnum := c_Row_number (O := O) a2 0 4 (by omega) (by omega)
  rw [if_pos (by omega)] at hnum
  have hn4 : nb b 0 4 < 4294967296 := nb_lt (k := 4) (fun i hi => a2.b (by omega))
  have hst := c_stands (O := O) (p := 0) (w0 := 55) (w1 := 164) (w2 := 48) (w3 := 236) hm g2 (by omega) (by omega) (by omega) (by omega) (by omega)
  have ex : nb b 0 4 = b 0 + 256 * (b (0 + 1) + 256 * (b (0 + 1 + 1) + 256 * (b (0 + 1 + 1 + 1) + 256 * 0))) := rfl
  have u0 := a2.b (show 0 < cN by omega)
  have u1 := a2.b (show 0 + 1 < cN by omega)
  have u2 := a2.b (show 0 + 2 < cN by omega)
  have u3 := a2.b (show 0 + 3 < cN by omega)
  have toF : ∀ {α : Int32 × zM}, zEv (fun n => if lN (nb b 0 4) = (3962610743 : Int64) then (F_Dict_takeTold O n (X + 5) (X + 1) M).bind fun q5 => some (q5.1, q5.2) else f_Dict_takeFrom_27 O n (X + 5) (X + 1) M) α → zEv (fun n => F_Dict_takeFrom O n (X + 5) (X + 1) M) α := fun {α} hα => by
    unfold F_Dict_takeFrom f_Dict_takeFrom_0
    refine zEv.ip hx.k1 ?_
    rw [a2.2.2.2.2.1]
    refine zEv.in_ n4 (zEv.bind hnum ?_)
    refine hα.to fun n => ?_
    have k5 := hx.k5
    simp only [lg_cmp_eq, k5, if_true]
  by_cases cm : nb b 0 4 = 3962610743
  · have cs : b 0 = 55 ∧ b (0 + 1) = 164 ∧ b (0 + 2) = 48 ∧ b (0 + 3) = 236 := by
      simp only [Nat.zero_add, Nat.reduceAdd] at ex u1 u2 u3 ⊢
      omega
    rw [if_pos cs] at hst
    have tc : ∀ {y : Int32} {x : zM}, zEv (fun n => F_Dict_takeTold O n (X + 5) (X + 1) M) (y, x) → zEv (fun n => F_Dict_takeFrom O n (X + 5) (X + 1) M) (y, x) := fun {y x} hα => toF (zEv.ip (by rw [cm]; rfl) (zEv.bind hα (zEv.some _)))
    have tm : ∀ {α : Int32 × zM}, zEv (fun n => f_Mo_learn_33 O n m (0 : Int32) (1 : Int32) M2) α → zEv (fun n => F_Mo_learn O n m M2) α := fun {α} hα => by
      unfold F_Mo_learn f_Mo_learn_0
      refine zEv.ip hm.k ?_
      rw [g2.1]
      exact zEv.in_ n4 (zEv.bind hst (zEv.in_ (show ¬ (1 : Int32) = 0 by decide) hα))
    rcases j_told (O := O) h1 h2 (by omega) he d4 d6 d5 d7 with ⟨y, M', M2', w1, w2, w3, w4, w5, w6⟩ | ⟨k, d', M', M2', w1, w2, w3, w4, w5, w6, w7, w8, w9, db', w10, w11, w12, w13⟩
    · exact ⟨y, M', M2', toC (tc w2) _ (zEv.ip w1 (zEv.some _)), tm w3, ⟨cN, b, oN, ob, dc, db, id, dd, rp, hid, hk, h1.keep he d4 w4 w5, h2.rf w6 (fun f hf => by unfold fLg; omega) (fun q h1 h2 => by unfold sRm; omega)⟩, w4.mono (fun q hq => by unfold sLs sSp at hq; unfold sCl; omega), w6.st (fun q hq => by unfold sRm at hq; omega)⟩
    · by_cases c8 : 8 ≤ cN
      · exact fin w1 (nb_lt (k := 4) (fun i hi => a2.b (by omega))) w7 (tc w2) (tm w3) w4 w5 w6 w8 w9 w10 w11 w12 w13
      · exfalso
        have e1 : zEv (fun n => F_Dict_takeTold O n (X + 5) (X + 1) M) (-1, M) := by
          unfold F_Dict_takeTold f_Dict_takeTold_0
          refine zEv.ip hx.k1 ?_
          rw [a2.2.2.2.2.1]
          exact zEv.in_ (fun w => c8 ((nI_leI (a := 8) (by omega) (by omega)).mp w)) (zEv.some _)
        obtain ⟨N1, f1⟩ := e1
        obtain ⟨N2, f2⟩ := w2
        have := (f1 (N1 + N2) (by omega)).symm.trans (f2 (N1 + N2) (by omega))
        have := congrArg (fun z => Option.map Prod.fst z) this
        simp only [Option.map_some, Option.some.injEq] at this
        exact nI_nm1 (by omega) this.symm
  · have cs : ¬ (b 0 = 55 ∧ b (0 + 1) = 164 ∧ b (0 + 2) = 48 ∧ b (0 + 3) = 236) := by
      simp only [Nat.zero_add, Nat.reduceAdd] at ex u1 u2 u3 ⊢
      omega
    rw [if_neg cs] at hst
    refine plain (fun {α} hα => toF (zEv.in_ (fun w => cm ((pk_lEQ (b := 3962610743) (by omega) (by omega)).mp w)) hα)) (fun {α} hα => ?_)
    unfold F_Mo_learn f_Mo_learn_0
    refine zEv.ip hm.k ?_
    rw [g2.1]
    exact zEv.in_ n4 (zEv.bind hst (zEv.ip rfl hα))
