/-! The law's loop. -/
theorem zCs.stt {S : Nat → Prop} {M M' : zM} {X cN oN dc id : Nat} {b ob db : Nat → Nat} {dd : Option dkT} {rp : Nat → Int32} (h : zCs M X cN b oN ob dc db id dd rp) (g : zSt S M M') (hS : ∀ q, X ≤ q → q ≤ X + 132 → ¬ S q) : zCs M' X cN b oN ob dc db id dd rp := by
  obtain ⟨h1, h2, h3, h4, h5, h6, ⟨c, cb, h7, h8⟩, i1, i2, i3, i4, i5⟩ := h
  have s69 := hS (X + 69) (by omega) (by omega)
  exact ⟨h1.stt g hS, h2.st g (hS _ (by omega) (by omega)) (hS _ (by omega) (by omega)), h3.st g (hS _ (by omega) (by omega)) (hS _ (by omega) (by omega)), h4.st g (hS _ (by omega) (by omega)) (hS _ (by omega) (by omega)), h5.st g (fun q a b => hS q (by omega) (by omega)), fun k hk => (h6 k hk).st g (hS _ (by omega) (by omega)) (hS _ (by omega) (by omega)) (hS _ (by omega) (by omega)) (hS _ (by omega) (by omega)), ⟨c, cb, h7.st g (hS _ (by omega) (by omega)) (hS _ (by omega) (by omega)), h8⟩, (g.i s69 1).trans i1, (g.i s69 2).trans i2, (g.i s69 3).trans i3, (g.i s69 4).trans i4, (g.i s69 5).trans i5⟩
theorem zDM.stt {S : Nat → Prop} {M M' : zM} {m id : Nat} {dd : Option dkT} (h : zDM M m id dd) (g : zSt S M M') (hS : ∀ q, m ≤ q → q ≤ m + 24 → ¬ S q) : zDM M' m id dd := by
  have s0 := hS m (by omega) (by omega)
  obtain ⟨h1, h2⟩ := h
  refine ⟨(g.i s0 6).trans h1, ?_⟩
  cases dd with
  | none => exact (g.i s0 7).trans h2
  | some q =>
    obtain ⟨t, w, o, u, d⟩ := q
    obtain ⟨a1, a2, a3, a4⟩ := h2
    exact ⟨(g.i s0 7).trans a1, fun s hs => (g.i (hS _ (by omega) (by omega)) s).trans (a2 s hs), fun k hk => ⟨(g.i (hS _ (by omega) (by omega)) k).trans (a3 k hk).1, fun s hs => (g.i (hS _ (by omega) (by omega)) _).trans ((a3 k hk).2 s hs)⟩, a4.st g (hS _ (by omega) (by omega))⟩
theorem zRm.stt {S : Nat → Prop} {M M' : zM} {m cN oN dc id : Nat} {b ob db : Nat → Nat} {dd : Option dkT} {rp : Nat → Int32} (h : zRm M m cN b oN ob dc db id dd rp) (g : zSt S M M') (hS : ∀ q, m ≤ q → q ≤ m + 24 → ¬ S q) : zRm M' m cN b oN ob dc db id dd rp := by
  have s0 := hS m (by omega) (by omega)
  obtain ⟨h1, ⟨a1, a2, a3⟩, h3, h4, h5, h6, h7, i1, i2, i3, i4, i5, i6⟩ := h
  exact ⟨h1.stt g s0, ⟨(g.i s0 1).trans a1, a2, fun j hj => ⟨(a3 j hj).1, (g.i (hS _ (by omega) (by omega)) j).trans (a3 j hj).2⟩⟩, (g.i s0 3).trans h3, fun j hj => (g.i (hS _ (by omega) (by omega)) j).trans (h4 j hj), (g.i s0 5).trans h5, fun j hj => (g.i (hS _ (by omega) (by omega)) j).trans (h6 j hj), h7.stt g hS, (g.i s0 34).trans i1, (g.i s0 35).trans i2, (g.i s0 36).trans i3, (g.i s0 37).trans i4, (g.i s0 30).trans i5, (g.i s0 39).trans i6⟩
theorem zEv.det {α : Type} {f : Nat → Option α} {a b : α} (h : zEv f a) (g : zEv f b) : a = b := by
  obtain ⟨N1, h⟩ := h
  obtain ⟨N2, g⟩ := g
  have e1 := h (N1 + N2) (by omega)
  have e2 := g (N1 + N2) (by omega)
  rw [e1] at e2
  exact Option.some.inj e2
theorem zRel.l {X m : Nat} {M M2 M3 : zM} (hXm : X + 132 < m) (h : zRel X m M M2) (g : zSt (sCl X) M2 M3) : zRel X m M M3 := by
  obtain ⟨cN, b, oN, ob, dc, db, id, dd, rp, h1, h2, h3, h4⟩ := h
  exact ⟨cN, b, oN, ob, dc, db, id, dd, rp, h1, h2, h3, h4.stt g (fun q a b => by unfold sCl; omega)⟩
theorem zRel.r {X m : Nat} {M M2 M3 : zM} (hXm : X + 132 < m) (h : zRel X m M M2) (g : zSt (fun q => m ≤ q) M M3) : zRel X m M3 M2 := by
  obtain ⟨cN, b, oN, ob, dc, db, id, dd, rp, h1, h2, h3, h4⟩ := h
  exact ⟨cN, b, oN, ob, dc, db, id, dd, rp, h1, h2, h3.stt g (fun q a b => by omega), h4⟩
theorem zRel.kc {X m : Nat} {M M2 : zM} (h : zRel X m M M2) : z_k M X = 1 := by
  obtain ⟨cN, b, oN, ob, dc, db, id, dd, rp, h1, h2, h3, h4⟩ := h
  exact h3.1.k0
theorem zRel.km {X m : Nat} {M M2 : zM} (h : zRel X m M M2) : z_k M2 m = 13 := by
  obtain ⟨cN, b, oN, ob, dc, db, id, dd, rp, h1, h2, h3, h4⟩ := h
  exact h4.1.k
theorem law_op {X m : Nat} {M : zM} {fc : Nat → Option (Int32 × zM)} {fm : zM → Nat → Option (Int32 × zM)} (hXm : X + 132 < m) (h : zRel X m M M) (hj : ∀ M2, zRel X m M M2 → jOp X m M M2 fc (fm M2)) : ∃ y M' M2, zEv fc (y, M') ∧ zEv (fm M') (y, M2) ∧ zRel X m M2 M2 ∧ z_k M' m = 13 := by
  obtain ⟨y, M', M2', e1, e2, e3, e4, e5⟩ := hj M h
  have h2 : zRel X m M M' := h.l hXm e4
  obtain ⟨y', N', N2, f1, f2, f3, f4, f5⟩ := hj M' h2
  have e := e1.det f1
  injection e with w1 w2
  subst w1 w2
  exact ⟨y, M', N2, e1, f2, f3.r hXm f5, h2.km⟩
theorem law_ou {X m : Nat} {M : zM} {fc : Nat → Option (Unit × zM)} {fm : zM → Nat → Option (Unit × zM)} (hXm : X + 132 < m) (h : zRel X m M M) (hj : ∀ M2, zRel X m M M2 → jOu X m M M2 fc (fm M2)) : ∃ M' M2, zEv fc ((), M') ∧ zEv (fm M') ((), M2) ∧ zRel X m M2 M2 ∧ z_k M' m = 13 := by
  obtain ⟨M', M2', e1, e2, e3, e4, e5⟩ := hj M h
  have h2 : zRel X m M M' := h.l hXm e4
  obtain ⟨N', N2, f1, f2, f3, f4, f5⟩ := hj M' h2
  have e := e1.det f1
  injection e with w1 w2
  subst w2
  exact ⟨M', N2, e1, f2, f3.r hXm f5, h2.km⟩
set_option maxRecDepth 100000 in
set_option maxHeartbeats 4000000 in
theorem l_law {O : zO} {sp L X m : Nat} (hO : zTabOk O) (hsp : O.2.1 sp = true) (hL : O.2.2.1 sp = L) (hL2 : L ≤ 2048) (hXm : X + 132 < m) : ∀ d i M, L < 4 * i + d → 4 * i ≤ L → zRel X m M M → ∃ N, zEv (fun n => f_Law_law_18 O n sp X m (nI (4 * i)) M) (1, N) := by
  intro d
  induction d with
  | zero =>
    intro i M h1 h2
    omega
  | succ d ih =>
    intro i M hd hi h
    have hk := h.kc
    by_cases c : L < 4 * i + 4
    · refine ⟨M, zEv.succ ?_⟩
      simp only [f_Law_law_18]
      refine zEv.ip hsp (zEv.ip ?_ (zEv.some _))
      rw [hL]
      by_cases c4 : L < 4
      · obtain rfl : i = 0 := by omega
        rcases (by omega : L = 0 ∨ L = 1 ∨ L = 2 ∨ L = 3) with rfl | rfl | rfl | rfl <;> decide
      · rw [show Int32.ofNat L - (4 : Int32) = nI (L - 4) from pk_sub (a := L) (b := 4) (by omega)]
        exact nI_lt (by omega) (by omega)
    · have hn : ¬ (Int32.ofNat (O.2.2.1 sp) - (4 : Int32)) < nI (4 * i) := by
        rw [hL, show Int32.ofNat L - (4 : Int32) = nI (L - 4) from pk_sub (a := L) (b := 4) (by omega)]
        exact nI_nlt (by omega) (by omega)
      have z0 : zin (nI (4 * i)) (O.2.2.1 sp) = true := by
        rw [hL]
        exact zin_nI (by omega) (by omega)
      have z1 : zin (nI (4 * i) + (1 : Int32)) (O.2.2.1 sp) = true := by
        rw [hL, show nI (4 * i) + (1 : Int32) = nI (4 * i + 1) from nI_add _ 1]
        exact zin_nI (by omega) (by omega)
      have z2 : zin (nI (4 * i) + (2 : Int32)) (O.2.2.1 sp) = true := by
        rw [hL, show nI (4 * i) + (2 : Int32) = nI (4 * i + 2) from nI_add _ 2]
        exact zin_nI (by omega) (by omega)
      have z3 : zin (nI (4 * i) + (3 : Int32)) (O.2.2.1 sp) = true := by
        rw [hL, show nI (4 * i) + (3 : Int32) = nI (4 * i + 3) from nI_add _ 3]
        exact zin_nI (by omega) (by omega)
      have next : ∀ M2, zRel X m M2 M2 → ∃ N, zEv (fun n => f_Law_law_297 O (f_Law_law_18 O n) n sp X m (nI (4 * i)) M2) (1, N) := fun M2 h2 => by
        obtain ⟨N, hN⟩ := ih (i + 1) M2 (by omega) (by omega) h2
        refine ⟨N, ?_⟩
        unfold f_Law_law_297
        refine zEv.zl ?_
        rw [show nI (4 * i) + (4 : Int32) = nI (4 * (i + 1)) from nI_add _ 4]
        exact hN
      have go : ∃ N, zEv (fun n => f_Law_law_18 O (n + 1) sp X m (nI (4 * i)) M) (1, N) := by
        simp only [f_Law_law_18]
        generalize hv : (O.2.2.2 sp (nI (4 * i)).toNatClampNeg) &&& (15 : Int32) = v
        have st : ∀ (g : Nat → Option (Int32 × zM)) , (∃ N, zEv g (1, N)) → ∃ N, zEv (fun n => if O.2.1 sp = true then if (Int32.ofNat (O.2.2.1 sp) - (4 : Int32)) < nI (4 * i) then some (1, M) else if O.2.1 sp = true then if zin (nI (4 * i)) (O.2.2.1 sp) = true then g n else none else none else none) (1, N) := fun g hg => by
          obtain ⟨N, hN⟩ := hg
          exact ⟨N, zEv.ip hsp (zEv.in_ hn (zEv.ip hsp (zEv.ip z0 hN)))⟩
        refine st _ ?_
        unfold zlet
        by_cases v0 : v = 0
        · obtain ⟨y, M', M2, e1, e2, e3, e4⟩ := law_op hXm h (fun M2 h2 => j_write (O := O) (l := ((O.2.2.2 sp (nI (4 * i) + (1 : Int32)).toNatClampNeg).toInt64 <<< ((32 : Int32).toInt64 &&& 63)) ||| ((O.2.2.2 sp (nI (4 * i) + (2 : Int32)).toNatClampNeg).toInt64 &&& (4294967295 : Int64))) (x := O.2.2.2 sp (nI (4 * i) + (3 : Int32)).toNatClampNeg) h2)
          obtain ⟨N, hN⟩ := next M2 e3
          exact ⟨N, zEv.ip v0 (zEv.ip hsp (zEv.ip z1 (zEv.ip hsp (zEv.ip z2 (zEv.ip hsp (zEv.ip z3 (zEv.ip hk (zEv.bind e1 (zEv.ip hsp (zEv.ip z1 (zEv.ip hsp (zEv.ip z2 (zEv.ip hsp (zEv.ip z3 (zEv.ip e4 (zEv.bind e2 (zEv.ip rfl hN)))))))))))))))))⟩
        by_cases v1 : v = 1
        · obtain ⟨y, M', M2, e1, e2, e3, e4⟩ := law_op hXm h (fun M2 h2 => j_again (O := O) (x := O.2.2.2 sp (nI (4 * i) + (1 : Int32)).toNatClampNeg) (y := O.2.2.2 sp (nI (4 * i) + (2 : Int32)).toNatClampNeg) h2)
          obtain ⟨N, hN⟩ := next M2 e3
          exact ⟨N, zEv.in_ v0 (zEv.ip v1 (zEv.ip hsp (zEv.ip z1 (zEv.ip hsp (zEv.ip z2 (zEv.ip hk (zEv.bind e1 (zEv.ip hsp (zEv.ip z1 (zEv.ip hsp (zEv.ip z2 (zEv.ip e4 (zEv.bind e2 (zEv.ip rfl hN))))))))))))))⟩
        by_cases v2 : v = 2
        · obtain ⟨M', M2, e1, e2, e3, e4⟩ := law_ou hXm h (fun M2 h2 => j_clear (O := O) h2)
          obtain ⟨N, hN⟩ := next M2 e3
          exact ⟨N, zEv.in_ v0 (zEv.in_ v1 (zEv.ip v2 (zEv.ip hk (zEv.bind e1 (zEv.ip e4 (zEv.bind e2 hN))))))⟩
        by_cases v3 : v = 3
        · obtain ⟨y, M', M2, e1, e2, e3, e4⟩ := law_op hXm h (fun M2 h2 => j_learn (O := O) h2)
          obtain ⟨N, hN⟩ := next M2 e3
          exact ⟨N, zEv.in_ v0 (zEv.in_ v1 (zEv.in_ v2 (zEv.ip v3 (zEv.ip hk (zEv.bind e1 (zEv.ip e4 (zEv.bind e2 (zEv.ip rfl hN))))))))⟩
        by_cases v4 : v = 4
        · obtain ⟨M', M2, e1, e2, e3, e4⟩ := law_ou hXm h (fun M2 h2 => j_forget (O := O) h2)
          obtain ⟨N, hN⟩ := next M2 e3
          exact ⟨N, zEv.in_ v0 (zEv.in_ v1 (zEv.in_ v2 (zEv.in_ v3 (zEv.ip v4 (zEv.ip hk (zEv.bind e1 (zEv.ip e4 (zEv.bind e2 hN))))))))⟩
        by_cases v5 : v = 5
        · obtain ⟨y, M', M2, e1, e2, e3, e4⟩ := law_op hXm h (fun M2 h2 => j_read (O := O) (x := O.2.2.2 sp (nI (4 * i) + (1 : Int32)).toNatClampNeg) hO h2)
          obtain ⟨N, hN⟩ := next M2 e3
          exact ⟨N, zEv.in_ v0 (zEv.in_ v1 (zEv.in_ v2 (zEv.in_ v3 (zEv.in_ v4 (zEv.ip v5 (zEv.ip hsp (zEv.ip z1 (zEv.ip hk (zEv.bind e1 (zEv.ip hsp (zEv.ip z1 (zEv.ip e4 (zEv.bind e2 (zEv.ip rfl hN))))))))))))))⟩
        by_cases v6 : v = 6
        · obtain ⟨y, M', M2, e1, e2, e3, e4⟩ := law_op hXm h (fun M2 h2 => j_about (O := O) (x := O.2.2.2 sp (nI (4 * i) + (1 : Int32)).toNatClampNeg) h2)
          obtain ⟨N, hN⟩ := next M2 e3
          exact ⟨N, zEv.in_ v0 (zEv.in_ v1 (zEv.in_ v2 (zEv.in_ v3 (zEv.in_ v4 (zEv.in_ v5 (zEv.ip v6 (zEv.ip hsp (zEv.ip z1 (zEv.ip hk (zEv.bind e1 (zEv.ip hsp (zEv.ip z1 (zEv.ip e4 (zEv.bind e2 (zEv.ip rfl hN)))))))))))))))⟩
        by_cases v7 : v = 7
        · obtain ⟨y, M', M2, e1, e2, e3, e4⟩ := law_op hXm h (fun M2 h2 => j_sizeOf (O := O) h2)
          obtain ⟨N, hN⟩ := next M2 e3
          exact ⟨N, zEv.in_ v0 (zEv.in_ v1 (zEv.in_ v2 (zEv.in_ v3 (zEv.in_ v4 (zEv.in_ v5 (zEv.in_ v6 (zEv.ip v7 (zEv.ip hk (zEv.bind e1 (zEv.ip e4 (zEv.bind e2 (zEv.ip rfl hN))))))))))))⟩
        by_cases v8 : v = 8
        · obtain ⟨y, M', M2, e1, e2, e3, e4⟩ := law_op hXm h (fun M2 h2 => j_byteAt (O := O) (x := O.2.2.2 sp (nI (4 * i) + (1 : Int32)).toNatClampNeg) h2)
          obtain ⟨N, hN⟩ := next M2 e3
          exact ⟨N, zEv.in_ v0 (zEv.in_ v1 (zEv.in_ v2 (zEv.in_ v3 (zEv.in_ v4 (zEv.in_ v5 (zEv.in_ v6 (zEv.in_ v7 (zEv.ip v8 (zEv.ip hsp (zEv.ip z1 (zEv.ip hk (zEv.bind e1 (zEv.ip hsp (zEv.ip z1 (zEv.ip e4 (zEv.bind e2 (zEv.ip rfl hN)))))))))))))))))⟩
        · obtain ⟨N, hN⟩ := next M h
          exact ⟨N, zEv.in_ v0 (zEv.in_ v1 (zEv.in_ v2 (zEv.in_ v3 (zEv.in_ v4 (zEv.in_ v5 (zEv.in_ v6 (zEv.in_ v7 (zEv.in_ v8 hN))))))))⟩
      obtain ⟨N, hN⟩ := go
      exact ⟨N, zEv.succ hN⟩
theorem pure_law : zPure := by
  intro O sp L x0 hO hsp hL hL2
  obtain ⟨E0, E, M, e1, e2, e3, e4, e5⟩ := k_both (O := O) (x0 := x0) hO
  obtain ⟨N, hN⟩ := l_law (X := x0 + 1) (m := x0 + 134) hO hsp hL hL2 (by omega) (L + 1) 0 M (by omega) (by omega) (k_rel e4 e5)
  have hA : zEv (fun n => f_Law_law_0 O n sp (zM0 x0)) (1, N) := by
    unfold f_Law_law_0
    refine zEv.zl (zEv.bind (a := ((), E)) e1 (zEv.zl (zEv.zl ?_)))
    dsimp only
    rw [show z_s E + 1 = x0 + 134 by omega]
    exact zEv.bind e3 (zEv.zl hN)
  obtain ⟨n, hn⟩ := hA.ok
  exact ⟨n, N, hn⟩
