/-! learn: the class. -/
/-- three shares told in their order -/
def sh3 (b : Nat → Nat) (at_ cN : Nat) : Option ((Nat → Nat) × (Nat → Nat → Nat) × Nat) :=
  match shT b at_ cN (gr 1) (lst 1) with
  | none => none
  | some (o1, u1, n1) => match shT b n1 cN (gr 2) (lst 2) with
    | none => none
    | some (o2, u2, n2) => match shT b n2 cN (gr 0) (lst 0) with
      | none => none
      | some (o0, u0, n0) => some (fun k => if k = 0 then o0 else if k = 1 then o1 else o2, fun k => if k = 0 then u0 else if k = 1 then u1 else u2, n0)
theorem gr_bd {k : Nat} (hk : k < 3) : gr k ≤ 9 ∧ 5 ≤ gr k ∧ lst k ≤ 52 := by
  rcases (show k = 0 ∨ k = 1 ∨ k = 2 by omega) with h | h | h <;> subst h <;> decide
theorem shT_at {b : Nat → Nat} {fr to k o nx : Nat} {u : Nat → Nat} (hk : k < 3) (h : shT b fr to (gr k) (lst k) = some (o, u, nx)) : zSh o (lst k) u ∧ o ≤ gr k ∧ fr ≤ nx ∧ nx ≤ to := by
  obtain ⟨g1, g2, g3⟩ := gr_bd hk
  obtain ⟨w1, w2, w3, w4, -⟩ := shT_ok g1 (by omega) h
  exact ⟨w1, w2, w3, w4⟩
theorem sh3_ok {b : Nat → Nat} {at_ cN nx : Nat} {o : Nat → Nat} {u : Nat → Nat → Nat} (h : sh3 b at_ cN = some (o, u, nx)) : (∀ k, k < 3 → zSh (o k) (lst k) (u k) ∧ o k ≤ gr k) ∧ at_ ≤ nx ∧ nx ≤ cN := by
  unfold sh3 at h
  cases h1 : shT b at_ cN (gr 1) (lst 1) with
  | none => rw [h1] at h; cases h
  | some q1 =>
    obtain ⟨o1, u1, n1⟩ := q1
    rw [h1] at h
    dsimp only at h
    cases h2 : shT b n1 cN (gr 2) (lst 2) with
    | none => rw [h2] at h; cases h
    | some q2 =>
      obtain ⟨o2, u2, n2⟩ := q2
      rw [h2] at h
      dsimp only at h
      cases h3 : shT b n2 cN (gr 0) (lst 0) with
      | none => rw [h3] at h; cases h
      | some q3 =>
        obtain ⟨o0, u0, n0⟩ := q3
        rw [h3] at h
        cases h
        have a1 := shT_at (by omega) h1
        have a2 := shT_at (by omega) h2
        have a3 := shT_at (by omega) h3
        refine ⟨fun k hk => ?_, by omega, a3.2.2.2⟩
        rcases (show k = 0 ∨ k = 1 ∨ k = 2 by omega) with e | e | e
        · subst e; exact ⟨a3.1, a3.2.1⟩
        · subst e; exact ⟨a1.1, a1.2.1⟩
        · subst e; exact ⟨a2.1, a2.2.1⟩
/-- the cells of the spare shares -/
def sSp (X e q : Nat) : Prop := (X + 33 + 6 * (1 - e) ≤ q ∧ q ≤ X + 33 + 6 * (1 - e) + 5) ∨ (X + 33 + 6 * (1 - e) + 12 ≤ q ∧ q ≤ X + 33 + 6 * (1 - e) + 17) ∨ (X + 33 + 6 * (1 - e) + 24 ≤ q ∧ q ≤ X + 33 + 6 * (1 - e) + 29)
set_option maxRecDepth 100000 in
set_option maxHeartbeats 4000000 in
theorem c_tellShare {O : zO} {M : zM} {X cN at_ k e : Nat} {b : Nat → Nat} (hx : zSF M X) (hin : zRow M (X + 1) (X + 2) 12000 cN b) (h7 : z_p M (X + 5) 7 = X + 32 - e) (he : e < 2) (hk : k < 3) (ha : at_ ≤ cN) : ∃ M', zSt (fun q => X + 33 + 6 * (1 - e) + 12 * k ≤ q ∧ q ≤ X + 33 + 6 * (1 - e) + 12 * k + 5) M M' ∧ zKp X M M' ∧
    match shT b at_ cN (gr k) (lst k) with
    | none => zEv (fun n => F_Dict_tellShare O n (X + 5) (nI k) (X + 1) (nI at_) M) (-1, M')
    | some (o, u, nx) => zEv (fun n => F_Dict_tellShare O n (X + 5) (nI k) (X + 1) (nI at_) M) (nI nx, M') ∧ zTB M' (X + 33 + 6 * (1 - e) + 12 * k) o u := by
  have x1 := hx.x1
  obtain ⟨g1, g2, g3⟩ := gr_bd hk
  have hs := l_skk (e := 1 - e) (k := k) hx (by omega) hk
  obtain ⟨u1, u2, u3⟩ := l_sk (e := 1 - e) hx (by omega)
  rw [show X + 31 + (1 - e) = X + 32 - e by omega] at u1 u2 u3
  have u3k := u3 k hk
  obtain ⟨M', s1, s2, -, s4⟩ := c_Share_tell (O := O) (fr := at_) (to := cN) hs g1 g2 g3 hin (by omega) ⟨by omega, by omega⟩ ha (Nat.le_refl _)
  have kp : zKp X M M' := s1.sh hs s2 (fun q h1 h2 => by unfold zNs; omega)
  have zi : zin (nI k) 3 = true := of_eq_true (q_tin (by omega) (by omega))
  have ck : (nI k).toNatClampNeg = k := nI_cl (by omega)
  have to : ∀ {y : Int32}, zEv (fun n => F_Share_tell O n (X + 33 + 6 * (1 - e) + 12 * k) (X + 1) (nI at_) (nI cN) M) (y, M') → zEv (fun n => F_Dict_tellShare O n (X + 5) (nI k) (X + 1) (nI at_) M) (y, M') := fun {y} h => by
    unfold F_Dict_tellShare f_Dict_tellShare_0
    refine zEv.ip hx.k5 ?_
    rw [h7, u2, ck, u3k, hin.2.2.2.2.1]
    exact zEv.ip u1 (zEv.ip zi (zEv.ip hx.k1 (zEv.ip hs.1 (zEv.bind h (zEv.some _)))))
  refine ⟨M', s1, kp, ?_⟩
  cases hq : shT b at_ cN (gr k) (lst k) with
  | none => rw [hq] at s4; exact to s4
  | some q =>
    obtain ⟨o, u, nx⟩ := q
    rw [hq] at s4
    exact ⟨to s4.1, s4.2⟩
/-- the class's text behind the codes -/
def cT3 (O : zO) (n X : Nat) (x : Int32) (M : zM) : Option (Int32 × zM) :=
  (F_Dict_tellShare O n (X + 5) (1 : Int32) (X + 1) x M).bind fun q7 =>
  if q7.1 = (-1 : Int32) then
  f_Dict_takeTold_58 O n (X + 5) (X + 1) (-1 : Int32) q7.2
  else
  if z_k q7.2 (X + 5) = 4 then
  (F_Dict_tellShare O n (X + 5) (2 : Int32) (X + 1) q7.1 q7.2).bind fun q10 =>
  f_Dict_takeTold_58 O n (X + 5) (X + 1) q10.1 q10.2
  else none
theorem nI_nm1 {k : Nat} (h : k < 2147483648) : ¬ nI k = (-1 : Int32) := fun w => by
  have := congrArg Int32.toInt w
  rw [nI_toInt (by omega), show ((-1 : Int32)).toInt = -1 by decide] at this
  omega
-- the three shares
set_option maxRecDepth 100000 in
set_option maxHeartbeats 4000000 in
theorem c_tell3 {O : zO} {M : zM} {X cN at_ e : Nat} {b : Nat → Nat} (hx : zSF M X) (hin : zRow M (X + 1) (X + 2) 12000 cN b) (h7 : z_p M (X + 5) 7 = X + 32 - e) (he : e < 2) (ha : at_ ≤ cN) : ∃ M', zSt (sSp X e) M M' ∧ zKp X M M' ∧
    match sh3 b at_ cN with
    | none => zEv (fun n => cT3 O n X (nI at_) M) (-3, M')
    | some (o, u, nx) => (∀ α, zEv (fun n => f_Dict_takeTold_75 O n (X + 5) (X + 1) (nI nx) M') α → zEv (fun n => cT3 O n X (nI at_) M) α) ∧ ∀ k, k < 3 → zTB M' (X + 33 + 6 * (1 - e) + 12 * k) (o k) (u k) := by
  have hcN := hin.cN
  unfold sh3
  obtain ⟨M1, s1, k1, t1⟩ := c_tellShare (O := O) (k := 1) hx hin h7 he (by omega) ha
  have st1 : zSt (sSp X e) M M1 := s1.mono (fun q hq => by unfold sSp; omega)
  cases h1 : shT b at_ cN (gr 1) (lst 1) with
  | none =>
    rw [h1] at t1
    refine ⟨M1, st1, k1, ?_⟩
    unfold cT3 f_Dict_takeTold_58 f_Dict_takeTold_75
    exact zEv.bind t1 (zEv.ip rfl (zEv.ip rfl (zEv.ip rfl (zEv.some _))))
  | some q1 =>
    obtain ⟨o1, u1, n1⟩ := q1
    rw [h1] at t1
    dsimp only at t1 ⊢
    obtain ⟨b1, b2, b3, b4⟩ := shT_at (by omega) h1
    have x1 := hx.kp k1
    have i1 := hin.st s1 (by omega) (by omega)
    have p1 : z_p M1 (X + 5) 7 = X + 32 - e := by rw [s1.p (by omega)]; exact h7
    obtain ⟨M2, s2, k2, t2⟩ := c_tellShare (O := O) (k := 2) x1 i1 p1 he (by omega) b4
    have st2 : zSt (sSp X e) M M2 := st1.tr (s2.mono (fun q hq => by unfold sSp; omega))
    have to2 : ∀ {y : Int32}, zEv (fun n => F_Dict_tellShare O n (X + 5) (nI 2) (X + 1) (nI n1) M1) (y, M2) → ∀ α, zEv (fun n => f_Dict_takeTold_58 O n (X + 5) (X + 1) y M2) α → zEv (fun n => cT3 O n X (nI at_) M) α := fun {y} hy α hα => by
      unfold cT3
      exact zEv.bind t1.1 (zEv.in_ (nI_nm1 (by omega)) (zEv.ip x1.k5 (zEv.bind hy hα)))
    cases h2 : shT b n1 cN (gr 2) (lst 2) with
    | none =>
      rw [h2] at t2
      refine ⟨M2, st2, k1.tr k2, to2 t2 _ ?_⟩
      unfold f_Dict_takeTold_58 f_Dict_takeTold_75
      exact zEv.ip rfl (zEv.ip rfl (zEv.some _))
    | some q2 =>
      obtain ⟨o2, u2, n2⟩ := q2
      rw [h2] at t2
      dsimp only at t2 ⊢
      obtain ⟨c1, c2, c3, c4⟩ := shT_at (by omega) h2
      have x2 := x1.kp k2
      have i2 := i1.st s2 (by omega) (by omega)
      have p2 : z_p M2 (X + 5) 7 = X + 32 - e := by rw [s2.p (by omega)]; exact p1
      obtain ⟨M3, s3, k3, t3⟩ := c_tellShare (O := O) (k := 0) x2 i2 p2 he (by omega) c4
      have st3 : zSt (sSp X e) M M3 := st2.tr (s3.mono (fun q hq => by unfold sSp; omega))
      have to3 : ∀ {y : Int32}, zEv (fun n => F_Dict_tellShare O n (X + 5) (nI 0) (X + 1) (nI n2) M2) (y, M3) → ∀ α, zEv (fun n => f_Dict_takeTold_75 O n (X + 5) (X + 1) y M3) α → zEv (fun n => cT3 O n X (nI at_) M) α := fun {y} hy α hα => by
        refine to2 t2.1 α ?_
        unfold f_Dict_takeTold_58
        exact zEv.in_ (nI_nm1 (by omega)) (zEv.ip x2.k5 (zEv.bind hy hα))
      cases h3 : shT b n2 cN (gr 0) (lst 0) with
      | none =>
        rw [h3] at t3
        refine ⟨M3, st3, (k1.tr k2).tr k3, to3 t3 _ ?_⟩
        unfold f_Dict_takeTold_75
        exact zEv.ip rfl (zEv.some _)
      | some q3 =>
        obtain ⟨o0, u0, n0⟩ := q3
        rw [h3] at t3
        dsimp only at t3 ⊢
        refine ⟨M3, st3, (k1.tr k2).tr k3, to3 t3.1, fun k hk => ?_⟩
        rcases (show k = 0 ∨ k = 1 ∨ k = 2 by omega) with w | w | w
        · subst w; exact t3.2
        · subst w; exact (t1.2.st s2 (by omega) (by omega) (by omega) (by omega)).st s3 (by omega) (by omega) (by omega) (by omega)
        · subst w; exact t2.2.st s3 (by omega) (by omega) (by omega) (by omega)
-- the content
set_option maxRecDepth 100000 in
set_option maxHeartbeats 4000000 in
theorem c_takeContent {O : zO} {M : zM} {X cN fr dc : Nat} {b db : Nat → Nat} (hx : zSF M X) (hin : zRow M (X + 1) (X + 2) 12000 cN b) (hd : zRow M (X + 6) (X + 7) 12000 dc db) (hf : fr ≤ cN) : ∃ M', zEv (fun n => F_Dict_takeContent O n (X + 5) (X + 1) (nI fr) M) (nI (cN - fr), M') ∧ zSt (zS2 (X + 6) (X + 7)) M M' ∧ zKp X M M' ∧ zRow M' (X + 6) (X + 7) 12000 (cN - fr) (fun j => b (fr + j)) := by
  have hcN := hin.cN
  have k6 := hx.k6
  obtain ⟨e1, e2⟩ := c_empty (O := O) hd
  generalize hA : w_i M (X + 6) 1 0 = A at e1 e2
  have sA : zSt (fun q => q = X + 6) M A := by rw [← hA]; exact zSt.rf.wi (by exact rfl)
  have kA : zKp X M A := by rw [← hA]; exact zKp.rf.wi (Or.inl (by rw [k6]; omega))
  have xA := hx.kp kA
  have iA := hin.st sA (by omega) (by omega)
  obtain ⟨B, p1, p2, p3⟩ := c_putPart (O := O) (fr := fr) (k := cN - fr) e2 iA (by omega) (by omega) (by omega)
  rw [Nat.zero_add, Nat.sub_zero, Nat.min_eq_left (by omega)] at p3
  have p4 : zRow B (X + 6) (X + 7) 12000 (cN - fr) (fun j => b (fr + j)) := p3.cong (fun j hj => by unfold ext; rw [if_neg (by omega)]; rfl)
  have kB : zKp X A B := p2.row e2 p4 ⟨by unfold zNs; omega, by unfold zNs; omega⟩
  have xB := xA.kp kB
  refine ⟨B, ?_, (sA.mono (fun q hq => Or.inl hq)).tr p2, kA.tr kB, p4⟩
  unfold F_Dict_takeContent f_Dict_takeContent_0
  refine zEv.ip hx.k5 ?_
  rw [hx.p5_0]
  refine zEv.ip k6 (zEv.bind e1 (zEv.ip xA.k5 ?_))
  dsimp only
  rw [xA.p5_0, iA.2.2.2.2.1, pk_sub hf]
  refine zEv.ip xA.k1 (zEv.ip xA.k6 (zEv.bind p1 (zEv.ip xB.k5 ?_)))
  dsimp only
  rw [xB.p5_0, p4.2.2.2.2.1]
  exact zEv.ip xB.k6 (zEv.some _)
