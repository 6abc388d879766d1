/-! The tables of a block: both sides together. -/
theorem taS_le {b : Nat → Nat} {to md k mode at_ nx : Nat} {tb : Option tbT} {t' : tbT} (h : taS b to md k mode at_ tb = .inr (t', nx)) (hle : at_ ≤ to) : at_ ≤ nx ∧ nx ≤ to := by
  unfold taS at h
  by_cases m0 : mode = 0
  · rw [if_pos m0] at h
    cases h
    omega
  rw [if_neg m0] at h
  by_cases m1 : mode = 1
  · rw [if_pos m1] at h
    by_cases c1 : to ≤ at_
    · rw [if_pos c1] at h; cases h
    rw [if_neg c1] at h
    by_cases c2 : lst k < b at_
    · rw [if_pos c2] at h; cases h
    rw [if_neg c2] at h
    cases h
    omega
  rw [if_neg m1] at h
  by_cases m2 : mode = 2
  · rw [if_pos m2] at h
    cases hs : shT b at_ to (gr k) (lst k) with
    | none => rw [hs] at h; cases h
    | some q =>
      obtain ⟨o, u, n⟩ := q
      rw [hs] at h
      cases h
      obtain ⟨gk1, gk2, gk3, gk4⟩ := kno_le k
      obtain ⟨v1, v2, v3, v4, v5, v6⟩ := shT_ok gk2 (by have := lst_le k; omega) hs
      omega
  rw [if_neg m2] at h
  cases tb with
  | none => cases h
  | some q => cases h; omega
def sTa (X q : Nat) : Prop := q = X + 94 ∨ q = X + 95 ∨ (X + 103 ≤ q ∧ q ≤ X + 108) ∨ (X + 115 ≤ q ∧ q ≤ X + 120) ∨ (X + 127 ≤ q ∧ q ≤ X + 132)
theorem sTb_a {X k q : Nat} (hk : k < 3) (h : sTb X k q) : sTa X q := by unfold sTb at h; unfold sTa; omega
theorem taS_f {b : Nat → Nat} {to md k mode at_ f pl : Nat} {tb : Option tbT} (h : taS b to md k mode at_ tb = .inl (f, pl)) : f ≠ 0 ∧ f ≤ 20 := by
  unfold taS at h
  by_cases m0 : mode = 0
  · rw [if_pos m0] at h; cases h
  rw [if_neg m0] at h
  by_cases m1 : mode = 1
  · rw [if_pos m1] at h
    by_cases c1 : to ≤ at_
    · rw [if_pos c1] at h; cases h; omega
    rw [if_neg c1] at h
    by_cases c2 : lst k < b at_
    · rw [if_pos c2] at h; cases h; omega
    rw [if_neg c2] at h; cases h
  rw [if_neg m1] at h
  by_cases m2 : mode = 2
  · rw [if_pos m2] at h
    cases hs : shT b at_ to (gr k) (lst k) with
    | none => rw [hs] at h; cases h; omega
    | some q =>
      obtain ⟨o, u, n⟩ := q
      rw [hs] at h; cases h
  rw [if_neg m2] at h
  cases tb with
  | none => cases h; omega
  | some q => cases h
set_option maxRecDepth 100000 in
set_option maxHeartbeats 4000000 in
theorem c_tabStep {O : zO} {M : zM} {X c k md at_ to nn : Nat} {b : Nat → Nat} {tb : Option tbT} (hO : zTabOk O) (hx : zSF M X) (hin : zRow M (X + 1) (X + 2) 12000 c b) (hk : k < 3) (hT : zTC M X k tb) (hkn : zTB M (X + 97 + 12 * k) (kno k) (kn k)) (hmd : md < c) (hto : to ≤ c) (hle : at_ ≤ to) : ∃ M', zSt (sTb X k) M M' ∧ zKp X M M' ∧ zOth X k M M' ∧
    match taS b to md k (b md / 2 ^ (6 - 2 * k) % 4) at_ tb with
    | .inl (f, pl) => zEv (fun n => f_Seq_take_208 O n (X + 89) (nI to) (nI md) (nI nn) (nI at_) (nI k) M) (0, fl X M' f pl)
    | .inr (t', nx) => (∀ α, zEv (fun n => f_Seq_take_208 O n (X + 89) (nI to) (nI md) (nI nn) (nI nx) (nI (k + 1)) M') α → zEv (fun n => f_Seq_take_208 O n (X + 89) (nI to) (nI md) (nI nn) (nI at_) (nI k) M) α) ∧ zTC M' X k (some t') := by
  have hc9 := hin.cN
  obtain ⟨M', a1, a2, a3, a4⟩ := c_takeTable (O := O) (at_ := at_) (to := to) hO hx hin hk hT hkn hmd (by omega) hto hle
  have k89 := hx.k89
  have hne : ¬ nI at_ = -1 := fun e => by
    have := congrArg Int32.toInt e
    rw [nI_toInt (by omega), show (-1 : Int32).toInt = -1 by decide] at this
    omega
  have go : ∀ {y : Int32} {M1 : zM}, zEv (fun n => F_Seq_takeTable O n (X + 89) (nI k) (nI md) (nI at_) (nI to) M) (y, M1) → ∀ {α : Int32 × zM}, zEv (fun n => f_Seq_take_208 O n (X + 89) (nI to) (nI md) (nI nn) y (nI (k + 1)) M1) α → zEv (fun n => f_Seq_take_208 O n (X + 89) (nI to) (nI md) (nI nn) (nI at_) (nI k) M) α := fun {y M1} hy {α} hα => by
    refine zEv.succ ?_
    simp only [f_Seq_take_208]
    refine zEv.in_ (fun w => by have := (nI_leI (a := 3) (by omega) (by omega)).mp w; omega) (zEv.in_ hne (zEv.ip k89 (zEv.bind hy ?_)))
    refine hα.to fun n => ?_
    simp only [zlet, nI_1]
  refine ⟨M', a1, a2, a3, ?_⟩
  cases ht : taS b to md k (b md / 2 ^ (6 - 2 * k) % 4) at_ tb with
  | inl e =>
    obtain ⟨f, pl⟩ := e
    rw [ht] at a4
    refine go a4 (zEv.succ ?_)
    simp only [f_Seq_take_208]
    by_cases c3 : 3 ≤ k + 1
    · refine zEv.ip ((nI_leI (a := 3) (by omega) (by omega)).mpr c3) ?_
      exact zEv.ip rfl (zEv.some _)
    · refine zEv.in_ (fun w => c3 ((nI_leI (a := 3) (by omega) (by omega)).mp w)) (zEv.ip trivial ?_)
      exact zEv.ip rfl (zEv.some _)
  | inr e =>
    obtain ⟨t', nx⟩ := e
    rw [ht] at a4
    exact ⟨fun α hα => go a4.1 hα, a4.2⟩
theorem zTB.st {S : Nat → Prop} {M M1 : zM} {p o : Nat} {u : Nat → Nat} (h : zTB M p o u) (g : zSt S M M1) (h0 : ¬ S p) (h3 : ¬ S (p + 3)) (h4 : ¬ S (p + 4)) (h5 : ¬ S (p + 5)) : zTB M1 p o u := ⟨(g.i h0 7).trans h.1, fun k hk => by rw [g.i h3, g.i h4, g.i h5]; exact h.2 k hk⟩
theorem zMTb.kt {M M1 : zM} {m k t : Nat} {tb : Option tbT} (h : zMTb M m k tb) (g : zKT m t M M1) (h1 : k ≠ t) (h2 : k < 3) : zMTb M1 m k tb := by
  cases tb with
  | none => exact ((g k h1 h2).1).trans h
  | some q =>
    obtain ⟨o, T, B, E⟩ := q
    exact ⟨h.1.kt g h1 h2 h.2.1, h.2⟩
set_option maxRecDepth 100000 in
set_option maxHeartbeats 4000000 in
theorem j_tabs {O : zO} {M M2 : zM} {X m cN md to nn : Nat} {b : Nat → Nat} {tb0 tb1 tb2 : Option tbT} (hO : zTabOk O) (hx : zSF M X) (hin : zRow M (X + 1) (X + 2) 12000 cN b) (T0 : zTC M X 0 tb0) (T1 : zTC M X 1 tb1) (T2 : zTC M X 2 tb2) (hkn : ∀ k, k < 3 → zTB M (X + 97 + 12 * k) (kno k) (kn k)) (hm : zMo M2 m) (hi2 : zMI M2 m cN b) (U0 : zMTb M2 m 0 tb0) (U1 : zMTb M2 m 1 tb1) (U2 : zMTb M2 m 2 tb2) (h28 : z_i M2 m 28 = nI (md + 1)) (hmd : md < to) (hto : to ≤ cN) :
    (∃ f pl M' M2', f ≠ 0 ∧ f ≤ 20 ∧ zEv (fun n => f_Seq_take_208 O n (X + 89) (nI to) (nI md) (nI nn) (nI (md + 1)) (nI 0) M) (0, fl X M' f pl) ∧ zEv (fun n => f_Mo_tables_58 O n m (nI to) (nI md) (nI (b md)) (nI 0) M2) (0, flm m M2' f pl) ∧ zSt (sTa X) M M' ∧ zKp X M M' ∧ zOf (X + 69) (fun _ => False) M M' ∧ zRf fTb (sTm m) m M2 M2') ∨
    (∃ t0 t1 t2 nx M' M2', (∀ α, zEv (fun n => f_Seq_take_239 O n (X + 89) (nI to) (nI nn) (nI nx) M') α → zEv (fun n => f_Seq_take_208 O n (X + 89) (nI to) (nI md) (nI nn) (nI (md + 1)) (nI 0) M) α) ∧ zEv (fun n => f_Mo_tables_58 O n m (nI to) (nI md) (nI (b md)) (nI 0) M2) (1, M2') ∧ zSt (sTa X) M M' ∧ zKp X M M' ∧ zOf (X + 69) (fun _ => False) M M' ∧ zRf fTb (sTm m) m M2 M2' ∧ zTC M' X 0 (some t0) ∧ zTC M' X 1 (some t1) ∧ zTC M' X 2 (some t2) ∧ (∀ k, k < 3 → zTB M' (X + 97 + 12 * k) (kno k) (kn k)) ∧ zMTb M2' m 0 (some t0) ∧ zMTb M2' m 1 (some t1) ∧ zMTb M2' m 2 (some t2) ∧ z_i M2' m 28 = nI nx ∧ nx ≤ to) := by
  have hc9 := hin.cN
  have kn1 : ∀ {k : Nat} {M1 : zM}, k < 3 → zSt (sTa X) M M1 → zTB M1 (X + 97 + 12 * k) (kno k) (kn k) := fun {k M1} hk st => (hkn k hk).st st (by unfold sTa; omega) (by unfold sTa; omega) (by unfold sTa; omega) (by unfold sTa; omega)
  -- the first
  obtain ⟨M1, a1, a2, a3, a4⟩ := c_tabStep (O := O) (k := 0) (md := md) (at_ := md + 1) (to := to) (nn := nn) hO hx hin (by omega) T0 (hkn 0 (by omega)) (by omega) hto (by omega)
  have b4 := c_Mtab (O := O) (k := 0) (md := md) (at_ := md + 1) (to := to) hm hi2 (by omega) U0 h28 (by omega) (by omega) hto (by omega)
  have sa1 : zSt (sTa X) M M1 := a1.mono (fun q hq => sTb_a (by omega) hq)
  cases h0 : taS b to md 0 (b md / 2 ^ (6 - 2 * 0) % 4) (md + 1) tb0 with
  | inl e =>
    obtain ⟨f, pl⟩ := e
    rw [h0] at a4 b4
    obtain ⟨N1, b5, b6⟩ := b4
    obtain ⟨f1, f2⟩ := taS_f h0
    exact Or.inl ⟨f, pl, M1, N1, f1, f2, a4, b5, sa1, a2, zOf.rf.st a1 (by unfold sTb; omega), b6⟩
  | inr e =>
  obtain ⟨t0, n0⟩ := e
  rw [h0] at a4 b4
  obtain ⟨a4, a5⟩ := a4
  obtain ⟨N1, b5, b6, b7, b8, b9⟩ := b4
  obtain ⟨l1, l2⟩ := taS_le h0 (by omega)
  have x1 := hx.kp a2
  have in1 := hin.st a1 (by unfold sTb; omega) (by unfold sTb; omega)
  have m1 := b6.mo hm
  have i1 := hi2.rf b6 (by unfold fTb; omega) (by unfold sTm zTS; omega)
  -- the second
  obtain ⟨M2', c1, c2, c3, c4⟩ := c_tabStep (O := O) (k := 1) (md := md) (at_ := n0) (to := to) (nn := nn) hO x1 in1 (by omega) (zTC.oth T1 a1 a3 (by omega) (by omega) (by omega)) (kn1 (by omega) sa1) (by omega) hto l2
  have d4 := c_Mtab (O := O) (k := 1) (md := md) (at_ := n0) (to := to) m1 i1 (by omega) (U1.kt b9 (by omega) (by omega)) b7 (by omega) (by omega) hto l2
  have sa2 : zSt (sTa X) M M2' := sa1.tr (c1.mono (fun q hq => sTb_a (by omega) hq))
  have kp2 := a2.tr c2
  cases h1 : taS b to md 1 (b md / 2 ^ (6 - 2 * 1) % 4) n0 tb1 with
  | inl e =>
    obtain ⟨f, pl⟩ := e
    rw [h1] at c4 d4
    obtain ⟨N2, d5, d6⟩ := d4
    obtain ⟨f1, f2⟩ := taS_f h1
    exact Or.inl ⟨f, pl, M2', N2, f1, f2, a4 _ c4, b5 _ d5, sa2, kp2, zOf.rf.st sa2 (by unfold sTa; omega), b6.tr d6⟩
  | inr e =>
  obtain ⟨t1, n1⟩ := e
  rw [h1] at c4 d4
  obtain ⟨c4, c5⟩ := c4
  obtain ⟨N2, d5, d6, d7, d8, d9⟩ := d4
  obtain ⟨l3, l4⟩ := taS_le h1 l2
  have x2 := hx.kp kp2
  have in2 := hin.st sa2 (by unfold sTa; omega) (by unfold sTa; omega)
  have rf2 := b6.tr d6
  have m2 := rf2.mo hm
  have i2 := hi2.rf rf2 (by unfold fTb; omega) (by unfold sTm zTS; omega)
  -- the third
  obtain ⟨M3, e1, e2, e3, e4⟩ := c_tabStep (O := O) (k := 2) (md := md) (at_ := n1) (to := to) (nn := nn) hO x2 in2 (by omega) (zTC.oth (zTC.oth T2 a1 a3 (by omega) (by omega) (by omega)) c1 c3 (by omega) (by omega) (by omega)) (kn1 (by omega) sa2) (by omega) hto l4
  have g4 := c_Mtab (O := O) (k := 2) (md := md) (at_ := n1) (to := to) m2 i2 (by omega) ((U2.kt b9 (by omega) (by omega)).kt d9 (by omega) (by omega)) d7 (by omega) (by omega) hto l4
  have sa3 : zSt (sTa X) M M3 := sa2.tr (e1.mono (fun q hq => sTb_a (by omega) hq))
  have kp3 := kp2.tr e2
  cases h2 : taS b to md 2 (b md / 2 ^ (6 - 2 * 2) % 4) n1 tb2 with
  | inl e =>
    obtain ⟨f, pl⟩ := e
    rw [h2] at e4 g4
    obtain ⟨N3, g5, g6⟩ := g4
    obtain ⟨f1, f2⟩ := taS_f h2
    exact Or.inl ⟨f, pl, M3, N3, f1, f2, a4 _ (c4 _ e4), b5 _ (d5 _ g5), sa3, kp3, zOf.rf.st sa3 (by unfold sTa; omega), rf2.tr g6⟩
  | inr e =>
  obtain ⟨t2, n2⟩ := e
  rw [h2] at e4 g4
  obtain ⟨e4, e5⟩ := e4
  obtain ⟨N3, g5, g6, g7, g8, g9⟩ := g4
  obtain ⟨l5, l6⟩ := taS_le h2 l4
  refine Or.inr ⟨t0, t1, t2, n2, M3, N3, fun α hα => a4 _ (c4 _ (e4 _ (zEv.succ ?_))), b5 _ (d5 _ (g5 _ (zEv.succ ?_))), sa3, kp3, zOf.rf.st sa3 (by unfold sTa; omega), rf2.tr g6, zTC.oth (zTC.oth a5 c1 c3 (by omega) (by omega) (by omega)) e1 e3 (by omega) (by omega) (by omega), zTC.oth c5 e1 e3 (by omega) (by omega) (by omega), e5, fun k hk => kn1 hk sa3, (b8.kt d9 (by omega) (by omega)).kt g9 (by omega) (by omega), d8.kt g9 (by omega) (by omega), g8, g7, l6⟩
  · simp only [f_Seq_take_208]
    exact zEv.ip (by decide) hα
  · simp only [f_Mo_tables_58]
    exact zEv.ip (by decide) (zEv.some _)
