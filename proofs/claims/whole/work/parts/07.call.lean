/-! Ends, contracts, calls. -/
def zE (X : zX) (r : Option zV) (M' : zM) (mc ms : Nat) : Prop := match X with
  | (p, l, e, R, s, m, args, below, meth, c, Q, D) => Q = MQ below (fun _ st o t => o = .returned (r.map z_v) ∧ z_H D M' t.heap ∧ va_F (z_A D) st t) args s mc ms (z_A D)
def zRt (X : zX) (ret : Option FieldType) : Prop := X.2.2.2.2.2.2.2.2.1.sig.returnType = ret
def zLl (X : zX) : Launch := X.2.1
theorem z_U.same {D : zD} {u U : State} (hv : u.vm = U.vm) (h : z_U D u) : z_U D U := by
  obtain ⟨h1, h2, h3, h4, h5⟩ := h
  have ha : u.vm.Alike U.vm := hv ▸ Vm.Alike.refl u.vm
  exact ⟨fun c r hr => u_Kn_moved ha (h1 c r hr), fun t ht => ⟨arrOfT_moved ha (h2 t ht).1, (h2 t ht).2.moved ha⟩, fun q hq => va_Nw.same rfl hv (h3 q hq), fun q hq => va_Nw.same rfl hv (h4 q hq), h5.moved ha⟩
theorem z_O.same {D : zD} {u U : State} (hv : u.vm = U.vm) (hh : u.heap = U.heap) (h : z_O D u) : z_O D U := by
  obtain ⟨h1, h2⟩ := h
  have ha : u.vm.Alike U.vm := hv ▸ Vm.Alike.refl u.vm
  refine ⟨fun p hp => ?_, fun i q hq => ?_⟩
  · obtain ⟨q, cell, e1, e2, e3, e4, e5⟩ := h1 p hp
    exact ⟨q, cell, e1, e2, hh ▸ e3, State.isArrayOf_alike ha e4, e5⟩
  · have := (h2 i q hq).moved ha
    rw [hh] at this
    exact this
section Ends
variable {X : zX} {own : String} {cc : ByteArray} {nL : Nat} {rm : Room} {n k pc : Nat} {lv lv' : List (Option zV)} {st : List zV} {M : zM} {mc ms : Nat}
theorem r_iret (C : zC X own cc nL rm) {x : Int32} {ty : FieldType} (E : zE X (some (zI x)) M mc ms) (hr : zRt X (some ty)) (d : decode cc pc = .ok (.ireturn, 1)) (hw : narrow ty (.int x) = .int x) (hn : n ≤ mc) (hk : k ≤ ms) : zW X n k pc lv [zI x] M := by
  obtain ⟨pr, l, e, R, s, m, args, below, meth, cd, Q, D⟩ := X
  obtain ⟨hx, hb, hml, hR, hown, hts, hU, hO, hx0, hlk⟩ := C
  intro H locs ls hH hS hl
  refine W.widen hn hk ?_
  have hQ : Q = _ := E
  subst hQ
  exact W.zret hx hb hr hw (fun t ht hW => ⟨rfl, by rw [ht]; exact hH, hS.F ht⟩) hS.2.2 d hlk
theorem r_lret (C : zC X own cc nL rm) {x : Int64} (E : zE X (some (zL x)) M mc ms) (hr : zRt X (some .long)) (d : decode cc pc = .ok (.lreturn, 1)) (hn : n ≤ mc) (hk : k ≤ ms) : zW X n k pc lv [zL x] M := by
  obtain ⟨pr, l, e, R, s, m, args, below, meth, cd, Q, D⟩ := X
  obtain ⟨hx, hb, hml, hR, hown, hts, hU, hO, hx0, hlk⟩ := C
  intro H locs ls hH hS hl
  refine W.widen hn hk ?_
  have hQ : Q = _ := E
  subst hQ
  exact W.lret hx hb hr (fun t ht hW => ⟨rfl, by rw [ht]; exact hH, hS.F ht⟩) hS.2.2 d hlk
theorem r_vret (C : zC X own cc nL rm) (E : zE X none M mc ms) (hr : zRt X none) (d : decode cc pc = .ok (.return_, 1)) (hn : n ≤ mc) (hk : k ≤ ms) : zW X n k pc lv [] M := by
  obtain ⟨pr, l, e, R, s, m, args, below, meth, cd, Q, D⟩ := X
  obtain ⟨hx, hb, hml, hR, hown, hts, hU, hO, hx0, hlk⟩ := C
  intro H locs ls hH hS hl
  refine W.widen hn hk ?_
  have hQ : Q = _ := E
  subst hQ
  exact W.vret hx hb hr (fun t ht hW => ⟨rfl, by rw [ht]; exact hH, hS.F ht⟩) hS.2.2 d hlk
end Ends
/-- a method: its name, bytes, locals, what it returns, its room -/
abbrev zMi : Type := MethodName × ByteArray × Nat × Option FieldType × Room
def zPre (D : zD) (as : List zV) (M : zM) : Array Value → State → Prop := va_Pc (as.map z_v) (fun U => z_H D M U.heap ∧ z_U D U ∧ z_O D U ∧ D.2.2.2.1 ≤ U.heap.size)
def zPost (D : zD) (r : Option zV) (M' : zM) : Array Value → State → Outcome → State → Prop := fun _ st o t => o = .returned (r.map z_v) ∧ z_H D M' t.heap ∧ va_F (z_A D) st t
def zMet (l : Launch) (D : zD) (i : zMi) (as : List zV) (M : zM) (r : Option zV) (M' : zM) : Prop :=
  Met l i.1 (Cond.code i.1 i.2.1 i.2.2.1 i.2.2.2.1 :: zB) i.2.2.2.2 (zPre D as M) (zPost D r M') i.2.2.2.2.cells i.2.2.2.2.slots (z_A D)
def z_ent (as : List zV) : List (Option zV) := match as with
  | [] => []
  | .inr (.inl x) :: as => some (zL x) :: none :: z_ent as
  | .inl x :: as => some (zI x) :: z_ent as
  | .inr (.inr x) :: as => some (zP x) :: z_ent as
def z_en (as : List zV) (n : Nat) : List (Option zV) := z_ent as ++ List.replicate (n - (z_ent as).length) none
theorem z_sl_L (x : Int64) (as : List zV) : lg_sl ((zL x :: as).map z_v) = [.val (.long x), .second] ++ lg_sl (as.map z_v) := rfl
theorem z_sl_I (x : Int32) (as : List zV) : lg_sl ((zI x :: as).map z_v) = [.val (.int x)] ++ lg_sl (as.map z_v) := rfl
theorem z_sl_P (x : Nat) (as : List zV) : lg_sl ((zP x :: as).map z_v) = [.val (z_rf x)] ++ lg_sl (as.map z_v) := by cases x <;> rfl
theorem z_ent_len : ∀ as : List zV, (lg_sl (as.map z_v)).length = (z_ent as).length
  | [] => rfl
  | .inr (.inl x) :: as => by
    have := z_ent_len as
    rw [z_sl_L, List.length_append, this]
    simp only [z_ent, List.length_cons, List.length_nil]; omega
  | .inl x :: as => by
    have := z_ent_len as
    rw [z_sl_I, List.length_append, this]
    simp only [z_ent, List.length_cons, List.length_nil]; omega
  | .inr (.inr x) :: as => by
    have := z_ent_len as
    rw [z_sl_P, List.length_append, this]
    simp only [z_ent, List.length_cons, List.length_nil]; omega
theorem z_ent_get : ∀ (as : List zV) (i : Nat) (v : zV), (z_ent as)[i]? = some (some v) → (lg_sl (as.map z_v))[i]? = some (.val (z_v v))
  | [], i, v, h => by simp [z_ent] at h
  | .inr (.inl x) :: as, i, v, h => by
    have ih := z_ent_get as
    rw [z_sl_L]
    match i, h with
    | 0, h => simp only [z_ent, List.getElem?_cons_zero, Option.some.injEq] at h; subst h; rfl
    | 1, h => simp [z_ent] at h
    | i + 2, h =>
      simp only [z_ent, List.getElem?_cons_succ] at h
      exact ih i v h
  | .inl x :: as, i, v, h => by
    have ih := z_ent_get as
    rw [z_sl_I]
    match i, h with
    | 0, h => simp only [z_ent, List.getElem?_cons_zero, Option.some.injEq] at h; subst h; rfl
    | i + 1, h =>
      simp only [z_ent, List.getElem?_cons_succ] at h
      exact ih i v h
  | .inr (.inr x) :: as, i, v, h => by
    have ih := z_ent_get as
    rw [z_sl_P]
    match i, h with
    | 0, h => simp only [z_ent, List.getElem?_cons_zero, Option.some.injEq] at h; subst h; rfl
    | i + 1, h =>
      simp only [z_ent, List.getElem?_cons_succ] at h
      exact ih i v h
theorem z_en_lv (as : List zV) {n : Nat} (h : (z_ent as).length ≤ n) : z_lv ((lg_sl (as.map z_v) ++ List.replicate (n - (lg_sl (as.map z_v)).length) Slot.unset).toArray) (z_en as n) := by
  have e := lv_entry (as.map z_v) (n := n) (by rw [z_ent_len]; exact h)
  refine ⟨by rw [e.1, z_en, List.length_append, List.length_replicate]; omega, e.2.1, fun i v hi => ?_⟩
  unfold z_en at hi
  by_cases hlt : i < (z_ent as).length
  · rw [List.getElem?_append_left hlt] at hi
    rw [List.getElem?_toArray, List.getElem?_append_left (by rw [z_ent_len]; exact hlt)]
    exact z_ent_get as i v hi
  · rw [List.getElem?_append_right (by omega)] at hi
    have := List.mem_of_getElem? hi
    have := List.eq_of_mem_replicate this
    cases this
/-- a contract out of a walk -/
theorem z_met {l : Launch} {D : zD} {i : zMi} {as : List zV} {M : zM} {r : Option zV} {M' : zM} (hy : plainName i.1.cls = true) (hlen : (z_ent as).length ≤ i.2.2.1)
    (body : ∀ X : zX, zC X i.1.cls i.2.1 i.2.2.1 i.2.2.2.2 → zE X r M' i.2.2.2.2.cells i.2.2.2.2.slots → zRt X i.2.2.2.1 → (i.1.name = "<init>" → zIn X) → zDD X = D → zLl X = l → zW X 0 0 0 (z_en as i.2.2.1) [] M) : zMet l D i as M r M' := by
  obtain ⟨y, b, nL, ret, rm⟩ := i
  refine Met.ofW (cc := b) (maxL := nL) (ret := ret) hy rfl ?_
  intro p e s m args below meth c s₁ B hml hv
  obtain ⟨rfl, hH, hU, hO, hx0⟩ := hv
  have hts := atoms_spec (ws := Cond.code y b nL ret :: zB) B.pre
  have hown : s.vm.findClass y.cls = some m.cls := findClass_of_methodNamed B.named
  have w := body (p, l, e, rm, s, m, (as.map z_v).toArray, below, meth, c, MQ below (zPost D r M') (as.map z_v).toArray s rm.cells rm.slots (z_A D), D)
    ⟨B.exec, B.bytes, hml, rfl, hown, fun w hw => hts w (List.mem_cons_of_mem _ hw), hU, hO, hx0, B.notSynchronized⟩ rfl B.returns (fun hn => by have := (name_of_methodNamed B.named B.method).1; exact this.trans hn) rfl rfl
  rw [lg_entry_eq]
  exact w s.heap [] _ hH va_S.rf (z_en_lv as hlen)
theorem zPre_blind (D : zD) (as : List zV) (M : zM) : FrameBlind (zPre D as M) := fun a U g mk h => by
  obtain ⟨h0, h1, h2, h3, h4⟩ := h
  exact ⟨h0, h1, z_U.same (u := U) (U := U.calling g mk a) rfl h2, z_O.same (u := U) (U := U.calling g mk a) rfl rfl h3, h4⟩
def zcs (st : List zV) : Nat := match st with
  | [] => 0
  | .inr (.inl _) :: st => 2 + zcs st
  | .inl _ :: st => 1 + zcs st
  | .inr (.inr _) :: st => 1 + zcs st
theorem zcs_eq : ∀ st : List zV, ((st.map z_v).map fun v => v.category).sum = zcs st
  | [] => rfl
  | .inr (.inl x) :: st => by simp only [List.map_cons, List.sum_cons, zcs, zcs_eq st, z_v_cat]
  | .inl x :: st => by simp only [List.map_cons, List.sum_cons, zcs, zcs_eq st, z_v_cat]
  | .inr (.inr x) :: st => by simp only [List.map_cons, List.sum_cons, zcs, zcs_eq st, z_v_cat]
/-- what the tables say of a method of n parameters -/
def zOk (i : zMi) (n : Nat) : Prop := Cond.code i.1 i.2.1 i.2.2.1 i.2.2.2.1 ∈ zB ∧ Cond.initialized i.1.cls ∈ zB ∧ (i.1.cls ≠ "java/lang/invoke/MethodHandle" ∧ i.1.cls ≠ "java/lang/invoke/VarHandle" ∧ (parseMethodDescriptor i.1.desc).map (fun d => d.parameters.length) = some n)
theorem zgood {i : zMi} {n : Nat} (h : zOk i n) : GoodIn zB (Cond.code i.1 i.2.1 i.2.2.1 i.2.2.2.1 :: zB) := fun w hw => by
  rcases List.mem_cons.mp hw with rfl | hw
  · exact ⟨h.1, z_good h.1⟩
  · exact ⟨hw, z_good hw⟩
section Calls
variable {X : zX} {own : String} {cc : ByteArray} {nL : Nat} {rm : Room} {n k pc : Nat} {lv lv' : List (Option zV)} {st stk : List zV} {M M' : zM} {i : zMi} {r : Option zV} {as : List zV} {idx na : Nat}
theorem z_after {p : Program} {l : Launch} {e : Env} {R : Room} {s : State} {m : MethodId} {args : Array Value} {below : List Frame} {meth : Method} {c : Code} {Q : State → Prop} {D : zD} {H : Heap} {locs : List Loc} {ls : Array Slot} {stk0 : List Value} {mc ms : Nat} {a : Array Value}
    (hr : va_Run p l e R s m args below meth c H locs n k mc ms (F0 m pc ls stk0) (st.map z_v) (zPost D r M' a) (z_A D)) (hS : va_S (z_A D) s.heap H locs) (hl : z_lv ls lv) (kk : zW (p, l, e, R, s, m, args, below, meth, c, Q, D) (n + mc) (k + ms) (pc + 3) lv (r.toList ++ st) M') : W p l e R s m args below meth c H locs n k Q (F0 m pc ls stk0) := by
  intro T hT Xs
  obtain ⟨v, st₀, t, T', L, h0, X', hL, e1, e2, ⟨hv, hz, hf1, hf2⟩, go⟩ := hr T hT Xs
  have hv' : v = r.map z_v := Outcome.returned.inj hv
  subst hv'
  rw [h0] at hf1 hf2
  have k1 := kk t.heap (locs ++ L) ls hz ⟨Nat.le_trans hS.1 hf1, fun q h1 h2 => (hf2 q (Nat.lt_of_lt_of_le h1 hS.1) h2).trans (hS.2.1 q h1 h2), fun q hq => by
    rcases List.mem_append.mp hq with h | h
    · exact hS.2.2 q h
    · exact hL q h⟩ hl
  obtain ⟨t2, a1, b1⟩ := k1 T' e1 X'
  refine ⟨t2, go t2 ?_, b1⟩
  have : (r.map z_v).toList ++ st.map z_v = (r.toList ++ st).map z_v := by cases r <;> rfl
  show Steps p.tables e below (T'.setTop (F0 m (pc + 3) ls ((r.map z_v).toList ++ st.map z_v))) t2
  rw [this]
  exact a1
/-- a call of an instance method of its own class's object: public, package or private -/
theorem r_invV (C : zC X own cc nL rm) (c : Nat) {p : Nat} (hm : zMet (zLl X) (zDD X) i (zP p :: as) M r M') (d : decode cc pc = .ok (.invokevirtual idx, 3)) (ok : zOk i na) (hi : Cond.instanceMethod i.1 ∈ zB) (hse : Cond.selects i.1.cls i.1 i.1 ∈ zB) (hlk : Cond.methodLink own idx i.1 ∈ zB) {q : vw_C} (hc : z_cl[c]? = some q) (hq : q.1 = i.1.cls) (hk : z_k M p = c + 1) (ha : as.length = na) (hs : stk = as.reverse ++ zP p :: st) (hlv : lv.length = nL)
    (hw : zcs st ≤ 8) (hR : i.2.2.2.2.frames + 1 ≤ rm.frames ∧ 8 + (i.2.2.1 + 11) + i.2.2.2.2.locals ≤ rm.locals) (hroom : n + i.2.2.2.2.cells ≤ rm.cells ∧ k + i.2.2.2.2.slots ≤ rm.slots) (kk : zW X (n + i.2.2.2.2.cells) (k + i.2.2.2.2.slots) (pc + 3) lv (r.toList ++ st) M') : zW X n k pc lv stk M := by
  obtain ⟨pr, l, e, R, s, m, args, below, meth, cd, Q, D⟩ := X
  obtain ⟨hx, hb, hml, rfl, hown, hts, hU, hO, hx0, hlocks⟩ := C
  intro H locs ls hH hS hl
  subst hs
  obtain ⟨b, rfl, hq0, cell, c1, c2, c3, c4⟩ := hH.2.2.1 _ _ _ hk hc
  have hp : PreV s H i.1.cls b (zPre D (zP (b + 1) :: as) M) (as.map z_v) := ⟨zPre_blind D _ M, ⟨cell, c1, by rw [c3]; rfl, by rw [c2, ← hq]; exact (hU.1 c q hc).2.1⟩, fun U h1 h2 => ⟨rfl, by rw [h1]; exact hH, hU.warm h2, hO.moved h2 hx0 hS h1, by rw [h1]; exact Nat.le_trans hx0 hS.1⟩⟩
  have hcb : CallB R s args own idx i.1 i.2.1 i.2.2.1 i.2.2.2.1 (Cond.code i.1 i.2.1 i.2.2.1 i.2.2.2.1 :: zB) i.2.2.2.2 i.2.2.2.2.cells i.2.2.2.2.slots na := callB_of na hts (zgood ok) rfl rfl rfl (hts _ ok.2.1) (hts _ hlk) ok.2.2 hR
  exact z_after (va_runV (Ts := zB) (own := own) (C := i.1.cls) (As := as.map z_v) (rest := st.map z_v) (g := F0 m pc ls ((as.reverse ++ zP (b + 1) :: st).map z_v)) ⟨hx, hb, hml, hown, hts⟩ hm ⟨hcb, hts _ hi, hts _ hse⟩ hp rfl (by rw [List.length_map]; exact ha) (by show ls.size = nL; rw [hl.1]; exact hlv) (by simp [z_v, z_rf]) (lv_room (by rw [zcs_eq]; exact hw)) d hroom) hS hl kk
theorem r_invS (C : zC X own cc nL rm) (hm : zMet (zLl X) (zDD X) i as M r M') (d : decode cc pc = .ok (.invokestatic idx, 3)) (ok : zOk i na) (hi : Cond.static i.1 ∈ zB) (hlk : Cond.methodLink own idx i.1 ∈ zB) (ha : as.length = na) (hs : stk = as.reverse ++ st) (hlv : lv.length = nL)
    (hw : zcs st ≤ 8) (hR : i.2.2.2.2.frames + 1 ≤ rm.frames ∧ 8 + (i.2.2.1 + 11) + i.2.2.2.2.locals ≤ rm.locals) (hroom : n + i.2.2.2.2.cells ≤ rm.cells ∧ k + i.2.2.2.2.slots ≤ rm.slots) (kk : zW X (n + i.2.2.2.2.cells) (k + i.2.2.2.2.slots) (pc + 3) lv (r.toList ++ st) M') : zW X n k pc lv stk M := by
  obtain ⟨pr, l, e, R, s, m, args, below, meth, cd, Q, D⟩ := X
  obtain ⟨hx, hb, hml, rfl, hown, hts, hU, hO, hx0, hlocks⟩ := C
  intro H locs ls hH hS hl
  subst hs
  have hp : PreS s H (zPre D as M) (as.map z_v) := ⟨zPre_blind D _ M, fun U h1 h2 => ⟨rfl, by rw [h1]; exact hH, hU.warm h2, hO.moved h2 hx0 hS h1, by rw [h1]; exact Nat.le_trans hx0 hS.1⟩⟩
  have hcb : CallB R s args own idx i.1 i.2.1 i.2.2.1 i.2.2.2.1 (Cond.code i.1 i.2.1 i.2.2.1 i.2.2.2.1 :: zB) i.2.2.2.2 i.2.2.2.2.cells i.2.2.2.2.slots na := callB_of na hts (zgood ok) rfl rfl rfl (hts _ ok.2.1) (hts _ hlk) ok.2.2 hR
  exact z_after (va_runS (Ts := zB) (own := own) (As := as.map z_v) (rest := st.map z_v) (g := F0 m pc ls ((as.reverse ++ st).map z_v)) ⟨hx, hb, hml, hown, hts⟩ hm ⟨hcb, hts _ hi⟩ hp rfl (by rw [List.length_map]; exact ha) (by show ls.size = nL; rw [hl.1]; exact hlv) (by simp) (lv_room (by rw [zcs_eq]; exact hw)) d hroom) hS hl kk
theorem r_invI (C : zC X own cc nL rm) {p : Nat} (hm : zMet (zLl X) (zDD X) i (zP (p + 1) :: as) M r M') (d : decode cc pc = .ok (.invokespecial idx, 3)) (ok : zOk i na) (hnm : i.1.name = "<init>") (hrt : i.2.2.2.1 = none) (hi : Cond.instanceMethod i.1 ∈ zB) (hlk : Cond.methodLink own idx i.1 ∈ zB) (ha : as.length = na) (hs : stk = as.reverse ++ zP (p + 1) :: st) (hlv : lv.length = nL)
    (hw : zcs st ≤ 8) (hR : i.2.2.2.2.frames + 1 ≤ rm.frames ∧ 8 + (i.2.2.1 + 11) + i.2.2.2.2.locals ≤ rm.locals) (hroom : n + i.2.2.2.2.cells ≤ rm.cells ∧ k + i.2.2.2.2.slots ≤ rm.slots) (kk : zW X (n + i.2.2.2.2.cells) (k + i.2.2.2.2.slots) (pc + 3) lv (r.toList ++ st) M') : zW X n k pc lv stk M := by
  obtain ⟨pr, l, e, R, s, m, args, below, meth, cd, Q, D⟩ := X
  obtain ⟨hx, hb, hml, rfl, hown, hts, hU, hO, hx0, hlocks⟩ := C
  intro H locs ls hH hS hl
  subst hs
  have hp : PreS s H (zPre D (zP (p + 1) :: as) M) (.ref p :: as.map z_v) := ⟨zPre_blind D _ M, fun U h1 h2 => ⟨rfl, by rw [h1]; exact hH, hU.warm h2, hO.moved h2 hx0 hS h1, by rw [h1]; exact Nat.le_trans hx0 hS.1⟩⟩
  have hcb : CallB R s args own idx i.1 i.2.1 i.2.2.1 i.2.2.2.1 (Cond.code i.1 i.2.1 i.2.2.1 i.2.2.2.1 :: zB) i.2.2.2.2 i.2.2.2.2.cells i.2.2.2.2.slots na := callB_of na hts (zgood ok) rfl rfl rfl (hts _ ok.2.1) (hts _ hlk) ok.2.2 hR
  rw [hrt] at hcb
  unfold zMet at hm
  rw [hrt] at hm
  exact z_after (va_runI (Ts := zB) (own := own) (b := p) (As := as.map z_v) (rest := st.map z_v) (g := F0 m pc ls ((as.reverse ++ zP (p + 1) :: st).map z_v)) ⟨hx, hb, hml, hown, hts⟩ hm ⟨hcb, hnm, hts _ hi⟩ hp rfl (by rw [List.length_map]; exact ha) (by show ls.size = nL; rw [hl.1]; exact hlv) (by simp [z_v, z_rf]) (lv_room (by rw [zcs_eq]; exact hw)) d hroom) hS hl kk
/-- a nest mate's private constructor -/
theorem r_invN (C : zC X own cc nL rm) {p : Nat} {host : String} (hm : zMet (zLl X) (zDD X) i (zP (p + 1) :: as) M r M') (d : decode cc pc = .ok (.invokespecial idx, 3)) (ok : zOk i na) (hnm : i.1.name = "<init>") (hrt : i.2.2.2.1 = none) (hi : Cond.instanceMethod i.1 ∈ zB) (hlk : (own, idx, i.1, host) ∈ zNM) (ha : as.length = na) (hs : stk = as.reverse ++ zP (p + 1) :: st) (hlv : lv.length = nL)
    (hw : zcs st ≤ 8) (hR : i.2.2.2.2.frames + 1 ≤ rm.frames ∧ 8 + (i.2.2.1 + 11) + i.2.2.2.2.locals ≤ rm.locals) (hroom : n + i.2.2.2.2.cells ≤ rm.cells ∧ k + i.2.2.2.2.slots ≤ rm.slots) (kk : zW X (n + i.2.2.2.2.cells) (k + i.2.2.2.2.slots) (pc + 3) lv (r.toList ++ st) M') : zW X n k pc lv stk M := by
  obtain ⟨pr, l, e, R, s, m, args, below, meth, cd, Q, D⟩ := X
  obtain ⟨hx, hb, hml, rfl, hown, hts, hU, hO, hx0, hlocks⟩ := C
  intro H locs ls hH hS hl
  subst hs
  have hp : PreS s H (zPre D (zP (p + 1) :: as) M) (.ref p :: as.map z_v) := ⟨zPre_blind D _ M, fun U h1 h2 => ⟨rfl, by rw [h1]; exact hH, hU.warm h2, hO.moved h2 hx0 hS h1, by rw [h1]; exact Nat.le_trans hx0 hS.1⟩⟩
  have hcb := va_cnB (R := R) (own := own) (host := host) (index := idx) (rm := i.2.2.2.2) (args := args) (s := s) na hts (zgood ok) rfl rfl rfl (hU.2.2.2.1 _ hlk) (hts _ ok.2.1) ok.2.2 hR
  rw [hrt] at hcb
  unfold zMet at hm
  rw [hrt] at hm
  exact z_after (va_runIN (Ts := zB) (own := own) (host := host) (b := p) (As := as.map z_v) (rest := st.map z_v) (g := F0 m pc ls ((as.reverse ++ zP (p + 1) :: st).map z_v)) ⟨hx, hb, hml, hown, hts⟩ hm ⟨hcb, hnm, hts _ hi⟩ hp rfl (by rw [List.length_map]; exact ha) (by show ls.size = nL; rw [hl.1]; exact hlv) (by simp [z_v, z_rf]) (lv_room (by rw [zcs_eq]; exact hw)) d hroom) hS hl kk
/-- Object's constructor -/
theorem r_obj (C : zC X own cc nL rm) {p : Nat} (d : decode cc pc = .ok (.invokespecial idx, 3)) (hlk : Cond.methodLink own idx objectInit ∈ zB) (hi : Cond.instanceMethod objectInit ∈ zB) (hc : Cond.code objectInit ⟨#[0xb1]⟩ 1 none ∈ zB) (hlv : lv.length = nL) (hw : zcs st ≤ 8) (hR : 1 ≤ rm.frames ∧ 20 ≤ rm.locals) (kk : zW X n k (pc + 3) lv st M) : zW X n k pc lv (zP (p + 1) :: st) M := by
  obtain ⟨pr, l, e, R, s, m, args, below, meth, cd, Q, D⟩ := X
  obtain ⟨hx, hb, hml, rfl, hown, hts, hU, hO, hx0, hlocks⟩ := C
  intro H locs ls hH hS hl
  have h8 := lv_room (m := m) (pc := pc) (ls := ls) (rest := (zP (p + 1) :: st).map z_v) (st := st.map z_v) (by rw [zcs_eq]; exact hw)
  refine W.objInit hx hb hown (hts _ hlk) (hts _ hi) (hts _ hc) (g := F0 m pc ls ((zP (p + 1) :: st).map z_v)) (a := p) (rest := st.map z_v) rfl (by show ls.size = cd.maxLocals; rw [hl.1, hml]; exact hlv) rfl d hR.1 (by omega) (kk H locs ls hH hS hl)
end Calls
