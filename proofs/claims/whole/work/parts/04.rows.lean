/-! The walk over the abstract memory: zW X n k pc lv st M: from pc, with these locals, this stack, this memory, n cells and k slots made so far, the machine comes to X's end. -/
abbrev zX : Type := Program × Launch × Env × Room × State × MethodId × Array Value × List Frame × Method × Code × (State → Prop) × zD
def zW (X : zX) (n k pc : Nat) (lv : List (Option zV)) (st : List zV) (M : zM) : Prop := match X with
  | (p, l, e, R, s, m, args, below, meth, c, Q, D) => ∀ (H : Heap) (locs : List Loc) (ls : Array Slot), z_H D M H → va_S (z_A D) s.heap H locs → z_lv ls lv → W p l e R s m args below meth c H locs n k Q (F0 m pc ls (st.map z_v))
def zC (X : zX) (own : String) (cc : ByteArray) (nL : Nat) (rm : Room) : Prop := match X with
  | (p, l, e, R, s, m, args, below, meth, c, Q, D) => p.tables.exec = Jvm.exec ∧ c.code = cc ∧ c.maxLocals = nL ∧ R = rm ∧ s.vm.findClass own = some m.cls ∧ (∀ w ∈ zB, w.before args s = true) ∧ z_U D s ∧ z_O D s ∧ D.2.2.2.1 ≤ s.heap.size ∧ meth.locks = false
def zIn (X : zX) : Prop := X.2.2.2.2.2.2.2.2.1.name = "<init>"
def zOD (X : zX) : zO := X.2.2.2.2.2.2.2.2.2.2.2.2.2.2.2
def zDD (X : zX) : zD := X.2.2.2.2.2.2.2.2.2.2.2
def z_dl (cc : ByteArray) (l : List (Nat × Instr × Nat)) : Bool := l.all (fun q => decide (decode cc q.1 = .ok q.2))
theorem z_d {cc : ByteArray} {l : List (Nat × Instr × Nat)} (h : z_dl cc l = true) (i : Nat) {pc : Nat} {x : Instr × Nat} (hi : l[i]? = some (pc, x)) : decode cc pc = .ok x := by
  have h1 := List.all_eq_true.mp h _ (List.mem_of_getElem? hi)
  simpa using h1
/-- a name for what is computed -/
def zlet {α β : Type} (a : α) (f : α → β) : β := f a
theorem zlet_ex {α β : Type} {a : α} {f : α → Option β} {r : β} (h : zlet a f = some r) : ∃ v, v = a ∧ f v = some r := ⟨a, rfl, h⟩
theorem zif {α : Type} {c : Prop} {_ : Decidable c} {a : Option α} {r : α} (h : (if c then a else none) = some r) : c ∧ a = some r := by
  by_cases hc : c
  · rw [if_pos hc] at h; exact ⟨hc, h⟩
  · rw [if_neg hc] at h; cases h
theorem zift {α : Type} {c : Prop} {_ : Decidable c} {a b : Option α} {r : α} (h : (if c then a else b) = some r) (hc : c) : a = some r := by rw [if_pos hc] at h; exact h
theorem ziff {α : Type} {c : Prop} {_ : Decidable c} {a b : Option α} {r : α} (h : (if c then a else b) = some r) (hc : ¬ c) : b = some r := by rw [if_neg hc] at h; exact h
theorem zbd {α β : Type} {a : Option α} {f : α → Option β} {r : β} (h : a.bind f = some r) : ∃ q, a = some q ∧ f q = some r := Option.bind_eq_some_iff.mp h
def z_pl (lv : List (Option zV)) : List (Nat × Value) := (List.range lv.length).filterMap fun i => match lv[i]? with
  | some (some v) => some (i, z_v v)
  | _ => none
theorem z_pl_in {lv : List (Option zV)} {i : Nat} {v : zV} (h : lv[i]? = some (some v)) : (i, z_v v) ∈ z_pl lv := by
  refine List.mem_filterMap.mpr ⟨i, List.mem_range.mpr (List.getElem?_eq_some_iff.mp h).1, ?_⟩
  simp only [h]
theorem z_pl_of {ls : Array Slot} {lv : List (Option zV)} (h : z_lv ls lv) : lv_has ls lv.length (z_pl lv) := by
  refine ⟨h.1, h.2.1, fun q hq => ?_⟩
  obtain ⟨i, -, hi⟩ := List.mem_filterMap.mp hq
  split at hi
  · rename_i v e
    cases hi
    exact h.2.2 i v e
  · cases hi
theorem z_st1_of {ls : Array Slot} {lv : List (Option zV)} {i : Nat} {v : zV} (h : lv_has ls lv.length ((i, z_v v) :: (z_pl lv).filter (fun q => !(q.1 == i) && !(q.1 + 1 == i && q.2.category == 2)))) : z_lv ls (z_st1 lv i v) := by
  refine ⟨by rw [z_st1_len]; exact h.1, h.2.1, fun j w hj => ?_⟩
  rcases z_st1_get hj with ⟨rfl, rfl⟩ | ⟨h1, h2, h3⟩
  · exact h.2.2 _ List.mem_cons_self
  · refine h.2.2 (j, z_v w) (List.mem_cons_of_mem _ (List.mem_filter.mpr ⟨z_pl_in h2, ?_⟩))
    simp only [Bool.and_eq_true, Bool.not_eq_true', beq_eq_false_iff_ne, ne_eq, Bool.and_eq_false_iff]
    refine ⟨h1, ?_⟩
    by_cases q : j + 1 = i
    · exact Or.inr (fun z => h3 ⟨q, z⟩)
    · exact Or.inl q
theorem z_st2_of {ls : Array Slot} {lv : List (Option zV)} {i : Nat} {v : zV} (h : lv_has ls lv.length ((i, z_v v) :: (z_pl lv).filter (fun q => !(q.1 == i) && (!(q.1 == i + 1) && !(q.1 + 1 == i && q.2.category == 2))))) : z_lv ls (z_st2 lv i v) := by
  refine ⟨by rw [z_st2, List.length_set, z_st1_len]; exact h.1, h.2.1, fun j w hj => ?_⟩
  rcases z_st2_get hj with ⟨rfl, rfl⟩ | ⟨h1, h0, h2, h3⟩
  · exact h.2.2 _ List.mem_cons_self
  · refine h.2.2 (j, z_v w) (List.mem_cons_of_mem _ (List.mem_filter.mpr ⟨z_pl_in h2, ?_⟩))
    simp only [Bool.and_eq_true, Bool.not_eq_true', beq_eq_false_iff_ne, ne_eq, Bool.and_eq_false_iff]
    refine ⟨h1, h0, ?_⟩
    by_cases q : j + 1 = i
    · exact Or.inr (fun z => h3 ⟨q, z⟩)
    · exact Or.inl q
section Rows
variable {X : zX} {own : String} {cc : ByteArray} {nL : Nat} {rm : Room} {n k pc : Nat} {lv lv' : List (Option zV)} {st : List zV} {M : zM}
theorem r_iconst (C : zC X own cc nL rm) {z : Int} {v : Int32} (d : decode cc pc = .ok (.iconst z, 1)) (hv : Int32.ofInt z = v) (kk : zW X n k (pc + 1) lv (zI v :: st) M) : zW X n k pc lv st M := by
  obtain ⟨p, l, e, R, s, m, args, below, meth, c, Q, D⟩ := X
  obtain ⟨hx, hb, hml, hR, hown, hts, hU, hO, hx0, hlk⟩ := C
  intro H locs ls hH hS hl
  exact lv_iconst hx hb d hv (kk H locs ls hH hS hl)
theorem r_bipush (C : zC X own cc nL rm) {z : Int} {v : Int32} (d : decode cc pc = .ok (.bipush z, 2)) (hv : (Int8.ofInt z).toInt32 = v) (kk : zW X n k (pc + 2) lv (zI v :: st) M) : zW X n k pc lv st M := by
  obtain ⟨p, l, e, R, s, m, args, below, meth, c, Q, D⟩ := X
  obtain ⟨hx, hb, hml, hR, hown, hts, hU, hO, hx0, hlk⟩ := C
  intro H locs ls hH hS hl
  exact lv_bipush hx hb d hv (kk H locs ls hH hS hl)
theorem r_sipush (C : zC X own cc nL rm) {z : Int} {v : Int32} (d : decode cc pc = .ok (.sipush z, 3)) (hv : (Int16.ofInt z).toInt32 = v) (kk : zW X n k (pc + 3) lv (zI v :: st) M) : zW X n k pc lv st M := by
  obtain ⟨p, l, e, R, s, m, args, below, meth, c, Q, D⟩ := X
  obtain ⟨hx, hb, hml, hR, hown, hts, hU, hO, hx0, hlk⟩ := C
  intro H locs ls hH hS hl
  exact lv_sipush hx hb d hv (kk H locs ls hH hS hl)
theorem r_lconst (C : zC X own cc nL rm) {z : Fin 2} {v : Int64} (d : decode cc pc = .ok (.lconst z, 1)) (hv : Int64.ofNat (z : Nat) = v) (kk : zW X n k (pc + 1) lv (zL v :: st) M) : zW X n k pc lv st M := by
  obtain ⟨p, l, e, R, s, m, args, below, meth, c, Q, D⟩ := X
  obtain ⟨hx, hb, hml, hR, hown, hts, hU, hO, hx0, hlk⟩ := C
  intro H locs ls hH hS hl
  exact lv_lconst hx hb d hv (kk H locs ls hH hS hl)
theorem r_ldc (C : zC X own cc nL rm) {i : Nat} {v : Int32} (d : decode cc pc = .ok (.ldc i, 2)) (hw : Cond.constant own i v ∈ zB) (kk : zW X n k (pc + 2) lv (zI v :: st) M) : zW X n k pc lv st M := by
  obtain ⟨p, l, e, R, s, m, args, below, meth, c, Q, D⟩ := X
  obtain ⟨hx, hb, hml, hR, hown, hts, hU, hO, hx0, hlk⟩ := C
  intro H locs ls hH hS hl
  exact lv_ldc hx hb hown (hts _ hw) d (kk H locs ls hH hS hl)
theorem r_ldc2 (C : zC X own cc nL rm) {i : Nat} {v : Int64} (d : decode cc pc = .ok (.ldc2_w i, 3)) (hw : Cond.constantLong own i v ∈ zB) (kk : zW X n k (pc + 3) lv (zL v :: st) M) : zW X n k pc lv st M := by
  obtain ⟨p, l, e, R, s, m, args, below, meth, c, Q, D⟩ := X
  obtain ⟨hx, hb, hml, hR, hown, hts, hU, hO, hx0, hlk⟩ := C
  intro H locs ls hH hS hl
  exact lv_ldc2 hx hb hown (hts _ hw) d (kk H locs ls hH hS hl)
theorem r_null (C : zC X own cc nL rm) (d : decode cc pc = .ok (.aconst_null, 1)) (kk : zW X n k (pc + 1) lv (zP 0 :: st) M) : zW X n k pc lv st M := by
  obtain ⟨p, l, e, R, s, m, args, below, meth, c, Q, D⟩ := X
  obtain ⟨hx, hb, hml, hR, hown, hts, hU, hO, hx0, hlk⟩ := C
  intro H locs ls hH hS hl
  exact lv_null hx hb d (kk H locs ls hH hS hl)
theorem r_iload_n (C : zC X own cc nL rm) {i : Fin 4} {x : Int32} (d : decode cc pc = .ok (.iload_n i, 1)) (h : lv[(i : Nat)]? = some (some (zI x))) (kk : zW X n k (pc + 1) lv (zI x :: st) M) : zW X n k pc lv st M := by
  obtain ⟨p, l, e, R, s, m, args, below, meth, c, Q, D⟩ := X
  obtain ⟨hx, hb, hml, hR, hown, hts, hU, hO, hx0, hlk⟩ := C
  intro H locs ls hH hS hl
  exact lv_iload_n hx hb d rfl (hl.2.2 _ _ h) (kk H locs ls hH hS hl)
theorem r_iload (C : zC X own cc nL rm) {i : Nat} {x : Int32} (d : decode cc pc = .ok (.iload i, 2)) (h : lv[i]? = some (some (zI x))) (kk : zW X n k (pc + 2) lv (zI x :: st) M) : zW X n k pc lv st M := by
  obtain ⟨p, l, e, R, s, m, args, below, meth, c, Q, D⟩ := X
  obtain ⟨hx, hb, hml, hR, hown, hts, hU, hO, hx0, hlk⟩ := C
  intro H locs ls hH hS hl
  exact lv_iload hx hb d (hl.2.2 _ _ h) (kk H locs ls hH hS hl)
theorem r_lload_n (C : zC X own cc nL rm) {i : Fin 4} {x : Int64} (d : decode cc pc = .ok (.lload_n i, 1)) (h : lv[(i : Nat)]? = some (some (zL x))) (kk : zW X n k (pc + 1) lv (zL x :: st) M) : zW X n k pc lv st M := by
  obtain ⟨p, l, e, R, s, m, args, below, meth, c, Q, D⟩ := X
  obtain ⟨hx, hb, hml, hR, hown, hts, hU, hO, hx0, hlk⟩ := C
  intro H locs ls hH hS hl
  exact lv_lload_n hx hb d rfl (hl.2.2 _ _ h) (kk H locs ls hH hS hl)
theorem r_lload (C : zC X own cc nL rm) {i : Nat} {x : Int64} (d : decode cc pc = .ok (.lload i, 2)) (h : lv[i]? = some (some (zL x))) (kk : zW X n k (pc + 2) lv (zL x :: st) M) : zW X n k pc lv st M := by
  obtain ⟨p, l, e, R, s, m, args, below, meth, c, Q, D⟩ := X
  obtain ⟨hx, hb, hml, hR, hown, hts, hU, hO, hx0, hlk⟩ := C
  intro H locs ls hH hS hl
  exact lv_lload hx hb d (hl.2.2 _ _ h) (kk H locs ls hH hS hl)
theorem r_aload_n (C : zC X own cc nL rm) {i : Fin 4} {x : Nat} (d : decode cc pc = .ok (.aload_n i, 1)) (h : lv[(i : Nat)]? = some (some (zP x))) (kk : zW X n k (pc + 1) lv (zP x :: st) M) : zW X n k pc lv st M := by
  obtain ⟨p, l, e, R, s, m, args, below, meth, c, Q, D⟩ := X
  obtain ⟨hx, hb, hml, hR, hown, hts, hU, hO, hx0, hlk⟩ := C
  intro H locs ls hH hS hl
  have h1 := hl.2.2 _ _ h
  have k1 := kk H locs ls hH hS hl
  cases x with
  | zero => exact lv_aload_nN hx hb d rfl h1 k1
  | succ x => exact lv_aload_n hx hb d rfl h1 k1
theorem r_aload (C : zC X own cc nL rm) {i : Nat} {x : Nat} (d : decode cc pc = .ok (.aload i, 2)) (h : lv[i]? = some (some (zP x))) (kk : zW X n k (pc + 2) lv (zP x :: st) M) : zW X n k pc lv st M := by
  obtain ⟨p, l, e, R, s, m, args, below, meth, c, Q, D⟩ := X
  obtain ⟨hx, hb, hml, hR, hown, hts, hU, hO, hx0, hlk⟩ := C
  intro H locs ls hH hS hl
  have h1 := hl.2.2 _ _ h
  have k1 := kk H locs ls hH hS hl
  cases x with
  | zero => exact lv_aloadN hx hb d h1 k1
  | succ x => exact lv_aload hx hb d h1 k1
theorem r_istore_n (C : zC X own cc nL rm) {i : Fin 4} {x : Int32} (d : decode cc pc = .ok (.istore_n i, 1)) (hn : (i : Nat) < lv.length) (hv : z_st1 lv (i : Nat) (zI x) = lv') (kk : zW X n k (pc + 1) lv' st M) : zW X n k pc lv (zI x :: st) M := by
  obtain ⟨p, l, e, R, s, m, args, below, meth, c, Q, D⟩ := X
  obtain ⟨hx, hb, hml, hR, hown, hts, hU, hO, hx0, hlk⟩ := C
  intro H locs ls hH hS hl
  subst hv
  exact lv_istore_n hx hb d rfl (z_pl_of hl) hn rfl (fun ls1 h1 => kk H locs ls1 hH hS (z_st1_of h1))
theorem r_istore (C : zC X own cc nL rm) {i : Nat} {x : Int32} (d : decode cc pc = .ok (.istore i, 2)) (hn : i < lv.length) (hv : z_st1 lv i (zI x) = lv') (kk : zW X n k (pc + 2) lv' st M) : zW X n k pc lv (zI x :: st) M := by
  obtain ⟨p, l, e, R, s, m, args, below, meth, c, Q, D⟩ := X
  obtain ⟨hx, hb, hml, hR, hown, hts, hU, hO, hx0, hlk⟩ := C
  intro H locs ls hH hS hl
  subst hv
  exact lv_istore hx hb d (z_pl_of hl) hn rfl (fun ls1 h1 => kk H locs ls1 hH hS (z_st1_of h1))
theorem r_lstore_n (C : zC X own cc nL rm) {i : Fin 4} {x : Int64} (d : decode cc pc = .ok (.lstore_n i, 1)) (hn : (i : Nat) + 1 < lv.length) (hv : z_st2 lv (i : Nat) (zL x) = lv') (kk : zW X n k (pc + 1) lv' st M) : zW X n k pc lv (zL x :: st) M := by
  obtain ⟨p, l, e, R, s, m, args, below, meth, c, Q, D⟩ := X
  obtain ⟨hx, hb, hml, hR, hown, hts, hU, hO, hx0, hlk⟩ := C
  intro H locs ls hH hS hl
  subst hv
  exact lv_lstore_n hx hb d rfl (z_pl_of hl) hn rfl (fun ls1 h1 => kk H locs ls1 hH hS (z_st2_of h1))
theorem r_lstore (C : zC X own cc nL rm) {i : Nat} {x : Int64} (d : decode cc pc = .ok (.lstore i, 2)) (hn : i + 1 < lv.length) (hv : z_st2 lv i (zL x) = lv') (kk : zW X n k (pc + 2) lv' st M) : zW X n k pc lv (zL x :: st) M := by
  obtain ⟨p, l, e, R, s, m, args, below, meth, c, Q, D⟩ := X
  obtain ⟨hx, hb, hml, hR, hown, hts, hU, hO, hx0, hlk⟩ := C
  intro H locs ls hH hS hl
  subst hv
  exact lv_lstore hx hb d (z_pl_of hl) hn rfl (fun ls1 h1 => kk H locs ls1 hH hS (z_st2_of h1))
theorem r_astore_n (C : zC X own cc nL rm) {i : Fin 4} {x : Nat} (d : decode cc pc = .ok (.astore_n i, 1)) (hn : (i : Nat) < lv.length) (hv : z_st1 lv (i : Nat) (zP x) = lv') (kk : zW X n k (pc + 1) lv' st M) : zW X n k pc lv (zP x :: st) M := by
  obtain ⟨p, l, e, R, s, m, args, below, meth, c, Q, D⟩ := X
  obtain ⟨hx, hb, hml, hR, hown, hts, hU, hO, hx0, hlk⟩ := C
  intro H locs ls hH hS hl
  subst hv
  cases x with
  | zero => exact lv_astore_nN hx hb d rfl (z_pl_of hl) hn rfl (fun ls1 h1 => kk H locs ls1 hH hS (z_st1_of h1))
  | succ x => exact lv_astore_n hx hb d rfl (z_pl_of hl) hn rfl (fun ls1 h1 => kk H locs ls1 hH hS (z_st1_of h1))
theorem r_astore (C : zC X own cc nL rm) {i : Nat} {x : Nat} (d : decode cc pc = .ok (.astore i, 2)) (hn : i < lv.length) (hv : z_st1 lv i (zP x) = lv') (kk : zW X n k (pc + 2) lv' st M) : zW X n k pc lv (zP x :: st) M := by
  obtain ⟨p, l, e, R, s, m, args, below, meth, c, Q, D⟩ := X
  obtain ⟨hx, hb, hml, hR, hown, hts, hU, hO, hx0, hlk⟩ := C
  intro H locs ls hH hS hl
  subst hv
  cases x with
  | zero => exact lv_astoreN hx hb d (z_pl_of hl) hn rfl (fun ls1 h1 => kk H locs ls1 hH hS (z_st1_of h1))
  | succ x => exact lv_astore hx hb d (z_pl_of hl) hn rfl (fun ls1 h1 => kk H locs ls1 hH hS (z_st1_of h1))
theorem r_iinc (C : zC X own cc nL rm) {i : Nat} {z : Int} {x v : Int32} (d : decode cc pc = .ok (.iinc i z, 3)) (h : lv[i]? = some (some (zI x))) (hn : i < lv.length) (hz : x + Int32.ofInt z = v) (hv : z_st1 lv i (zI v) = lv') (kk : zW X n k (pc + 3) lv' st M) : zW X n k pc lv st M := by
  obtain ⟨p, l, e, R, s, m, args, below, meth, c, Q, D⟩ := X
  obtain ⟨hx, hb, hml, hR, hown, hts, hU, hO, hx0, hlk⟩ := C
  intro H locs ls hH hS hl
  subst hv
  obtain ⟨j, hj⟩ := List.getElem?_of_mem (z_pl_in h)
  exact lv_iinc hx hb d (z_pl_of hl) hj hz hn rfl (fun ls1 h1 => kk H locs ls1 hH hS (z_st1_of h1))
theorem r_iadd (C : zC X own cc nL rm) {x y : Int32} (d : decode cc pc = .ok (.iadd, 1)) (kk : zW X n k (pc + 1) lv (zI (x + y) :: st) M) : zW X n k pc lv (zI y :: zI x :: st) M := by
  obtain ⟨p, l, e, R, s, m, args, below, meth, c, Q, D⟩ := X
  obtain ⟨hx, hb, hml, hR, hown, hts, hU, hO, hx0, hlk⟩ := C
  intro H locs ls hH hS hl
  exact lv_iadd hx hb d (kk H locs ls hH hS hl)
theorem r_isub (C : zC X own cc nL rm) {x y : Int32} (d : decode cc pc = .ok (.isub, 1)) (kk : zW X n k (pc + 1) lv (zI (x - y) :: st) M) : zW X n k pc lv (zI y :: zI x :: st) M := by
  obtain ⟨p, l, e, R, s, m, args, below, meth, c, Q, D⟩ := X
  obtain ⟨hx, hb, hml, hR, hown, hts, hU, hO, hx0, hlk⟩ := C
  intro H locs ls hH hS hl
  exact lv_isub hx hb d (kk H locs ls hH hS hl)
theorem r_imul (C : zC X own cc nL rm) {x y : Int32} (d : decode cc pc = .ok (.imul, 1)) (kk : zW X n k (pc + 1) lv (zI (x * y) :: st) M) : zW X n k pc lv (zI y :: zI x :: st) M := by
  obtain ⟨p, l, e, R, s, m, args, below, meth, c, Q, D⟩ := X
  obtain ⟨hx, hb, hml, hR, hown, hts, hU, hO, hx0, hlk⟩ := C
  intro H locs ls hH hS hl
  exact lv_imul hx hb d (kk H locs ls hH hS hl)
theorem r_iand (C : zC X own cc nL rm) {x y : Int32} (d : decode cc pc = .ok (.iand, 1)) (kk : zW X n k (pc + 1) lv (zI (x &&& y) :: st) M) : zW X n k pc lv (zI y :: zI x :: st) M := by
  obtain ⟨p, l, e, R, s, m, args, below, meth, c, Q, D⟩ := X
  obtain ⟨hx, hb, hml, hR, hown, hts, hU, hO, hx0, hlk⟩ := C
  intro H locs ls hH hS hl
  exact lv_iand hx hb d (kk H locs ls hH hS hl)
theorem r_ior (C : zC X own cc nL rm) {x y : Int32} (d : decode cc pc = .ok (.ior, 1)) (kk : zW X n k (pc + 1) lv (zI (x ||| y) :: st) M) : zW X n k pc lv (zI y :: zI x :: st) M := by
  obtain ⟨p, l, e, R, s, m, args, below, meth, c, Q, D⟩ := X
  obtain ⟨hx, hb, hml, hR, hown, hts, hU, hO, hx0, hlk⟩ := C
  intro H locs ls hH hS hl
  exact lv_ior hx hb d (kk H locs ls hH hS hl)
theorem r_ixor (C : zC X own cc nL rm) {x y : Int32} (d : decode cc pc = .ok (.ixor, 1)) (kk : zW X n k (pc + 1) lv (zI (x ^^^ y) :: st) M) : zW X n k pc lv (zI y :: zI x :: st) M := by
  obtain ⟨p, l, e, R, s, m, args, below, meth, c, Q, D⟩ := X
  obtain ⟨hx, hb, hml, hR, hown, hts, hU, hO, hx0, hlk⟩ := C
  intro H locs ls hH hS hl
  exact lv_ixor hx hb d (kk H locs ls hH hS hl)
theorem r_ishl (C : zC X own cc nL rm) {x y : Int32} (d : decode cc pc = .ok (.ishl, 1)) (kk : zW X n k (pc + 1) lv (zI (x <<< (y &&& 31)) :: st) M) : zW X n k pc lv (zI y :: zI x :: st) M := by
  obtain ⟨p, l, e, R, s, m, args, below, meth, c, Q, D⟩ := X
  obtain ⟨hx, hb, hml, hR, hown, hts, hU, hO, hx0, hlk⟩ := C
  intro H locs ls hH hS hl
  exact lv_ishl hx hb d (kk H locs ls hH hS hl)
theorem r_ishr (C : zC X own cc nL rm) {x y : Int32} (d : decode cc pc = .ok (.ishr, 1)) (kk : zW X n k (pc + 1) lv (zI (x >>> (y &&& 31)) :: st) M) : zW X n k pc lv (zI y :: zI x :: st) M := by
  obtain ⟨p, l, e, R, s, m, args, below, meth, c, Q, D⟩ := X
  obtain ⟨hx, hb, hml, hR, hown, hts, hU, hO, hx0, hlk⟩ := C
  intro H locs ls hH hS hl
  exact lv_ishr hx hb d (kk H locs ls hH hS hl)
theorem r_iushr (C : zC X own cc nL rm) {x y : Int32} (d : decode cc pc = .ok (.iushr, 1)) (kk : zW X n k (pc + 1) lv (zI (x.toUInt32 >>> (y.toUInt32 &&& Int32.toUInt32 31)).toInt32 :: st) M) : zW X n k pc lv (zI y :: zI x :: st) M := by
  obtain ⟨p, l, e, R, s, m, args, below, meth, c, Q, D⟩ := X
  obtain ⟨hx, hb, hml, hR, hown, hts, hU, hO, hx0, hlk⟩ := C
  intro H locs ls hH hS hl
  exact lv_iushr hx hb d rfl (kk H locs ls hH hS hl)
theorem r_idiv (C : zC X own cc nL rm) {x y : Int32} (d : decode cc pc = .ok (.idiv, 1)) (hne : ¬ y = 0) (kk : zW X n k (pc + 1) lv (zI (x / y) :: st) M) : zW X n k pc lv (zI y :: zI x :: st) M := by
  obtain ⟨p, l, e, R, s, m, args, below, meth, c, Q, D⟩ := X
  obtain ⟨hx, hb, hml, hR, hown, hts, hU, hO, hx0, hlk⟩ := C
  intro H locs ls hH hS hl
  exact lv_idiv hx hb d hne (kk H locs ls hH hS hl)
theorem r_irem (C : zC X own cc nL rm) {x y : Int32} (d : decode cc pc = .ok (.irem, 1)) (hne : ¬ y = 0) (kk : zW X n k (pc + 1) lv (zI (x - x / y * y) :: st) M) : zW X n k pc lv (zI y :: zI x :: st) M := by
  obtain ⟨p, l, e, R, s, m, args, below, meth, c, Q, D⟩ := X
  obtain ⟨hx, hb, hml, hR, hown, hts, hU, hO, hx0, hlk⟩ := C
  intro H locs ls hH hS hl
  exact lv_irem hx hb d hne (kk H locs ls hH hS hl)
theorem r_ineg (C : zC X own cc nL rm) {x : Int32} (d : decode cc pc = .ok (.ineg, 1)) (kk : zW X n k (pc + 1) lv (zI (-x) :: st) M) : zW X n k pc lv (zI x :: st) M := by
  obtain ⟨p, l, e, R, s, m, args, below, meth, c, Q, D⟩ := X
  obtain ⟨hx, hb, hml, hR, hown, hts, hU, hO, hx0, hlk⟩ := C
  intro H locs ls hH hS hl
  exact lv_ineg hx hb d (kk H locs ls hH hS hl)
theorem r_ladd (C : zC X own cc nL rm) {x y : Int64} (d : decode cc pc = .ok (.ladd, 1)) (kk : zW X n k (pc + 1) lv (zL (x + y) :: st) M) : zW X n k pc lv (zL y :: zL x :: st) M := by
  obtain ⟨p, l, e, R, s, m, args, below, meth, c, Q, D⟩ := X
  obtain ⟨hx, hb, hml, hR, hown, hts, hU, hO, hx0, hlk⟩ := C
  intro H locs ls hH hS hl
  exact lv_ladd hx hb d (kk H locs ls hH hS hl)
theorem r_lsub (C : zC X own cc nL rm) {x y : Int64} (d : decode cc pc = .ok (.lsub, 1)) (kk : zW X n k (pc + 1) lv (zL (x - y) :: st) M) : zW X n k pc lv (zL y :: zL x :: st) M := by
  obtain ⟨p, l, e, R, s, m, args, below, meth, c, Q, D⟩ := X
  obtain ⟨hx, hb, hml, hR, hown, hts, hU, hO, hx0, hlk⟩ := C
  intro H locs ls hH hS hl
  exact lv_lsub hx hb d (kk H locs ls hH hS hl)
theorem r_lmul (C : zC X own cc nL rm) {x y : Int64} (d : decode cc pc = .ok (.lmul, 1)) (kk : zW X n k (pc + 1) lv (zL (x * y) :: st) M) : zW X n k pc lv (zL y :: zL x :: st) M := by
  obtain ⟨p, l, e, R, s, m, args, below, meth, c, Q, D⟩ := X
  obtain ⟨hx, hb, hml, hR, hown, hts, hU, hO, hx0, hlk⟩ := C
  intro H locs ls hH hS hl
  exact lv_lmul hx hb d (kk H locs ls hH hS hl)
theorem r_land (C : zC X own cc nL rm) {x y : Int64} (d : decode cc pc = .ok (.land, 1)) (kk : zW X n k (pc + 1) lv (zL (x &&& y) :: st) M) : zW X n k pc lv (zL y :: zL x :: st) M := by
  obtain ⟨p, l, e, R, s, m, args, below, meth, c, Q, D⟩ := X
  obtain ⟨hx, hb, hml, hR, hown, hts, hU, hO, hx0, hlk⟩ := C
  intro H locs ls hH hS hl
  exact lv_land hx hb d (kk H locs ls hH hS hl)
theorem r_lor (C : zC X own cc nL rm) {x y : Int64} (d : decode cc pc = .ok (.lor, 1)) (kk : zW X n k (pc + 1) lv (zL (x ||| y) :: st) M) : zW X n k pc lv (zL y :: zL x :: st) M := by
  obtain ⟨p, l, e, R, s, m, args, below, meth, c, Q, D⟩ := X
  obtain ⟨hx, hb, hml, hR, hown, hts, hU, hO, hx0, hlk⟩ := C
  intro H locs ls hH hS hl
  exact lv_lor hx hb d (kk H locs ls hH hS hl)
theorem r_lxor (C : zC X own cc nL rm) {x y : Int64} (d : decode cc pc = .ok (.lxor, 1)) (kk : zW X n k (pc + 1) lv (zL (x ^^^ y) :: st) M) : zW X n k pc lv (zL y :: zL x :: st) M := by
  obtain ⟨p, l, e, R, s, m, args, below, meth, c, Q, D⟩ := X
  obtain ⟨hx, hb, hml, hR, hown, hts, hU, hO, hx0, hlk⟩ := C
  intro H locs ls hH hS hl
  exact lv_lxor hx hb d (kk H locs ls hH hS hl)
theorem r_lneg (C : zC X own cc nL rm) {x : Int64} (d : decode cc pc = .ok (.lneg, 1)) (kk : zW X n k (pc + 1) lv (zL (-x) :: st) M) : zW X n k pc lv (zL x :: st) M := by
  obtain ⟨p, l, e, R, s, m, args, below, meth, c, Q, D⟩ := X
  obtain ⟨hx, hb, hml, hR, hown, hts, hU, hO, hx0, hlk⟩ := C
  intro H locs ls hH hS hl
  exact lv_lneg hx hb d (kk H locs ls hH hS hl)
theorem r_lshl (C : zC X own cc nL rm) {x : Int64} {y : Int32} (d : decode cc pc = .ok (.lshl, 1)) (kk : zW X n k (pc + 1) lv (zL (x <<< (y.toInt64 &&& 63)) :: st) M) : zW X n k pc lv (zI y :: zL x :: st) M := by
  obtain ⟨p, l, e, R, s, m, args, below, meth, c, Q, D⟩ := X
  obtain ⟨hx, hb, hml, hR, hown, hts, hU, hO, hx0, hlk⟩ := C
  intro H locs ls hH hS hl
  exact lv_lshl hx hb d rfl (kk H locs ls hH hS hl)
theorem r_lshr (C : zC X own cc nL rm) {x : Int64} {y : Int32} (d : decode cc pc = .ok (.lshr, 1)) (kk : zW X n k (pc + 1) lv (zL (x >>> (y.toInt64 &&& 63)) :: st) M) : zW X n k pc lv (zI y :: zL x :: st) M := by
  obtain ⟨p, l, e, R, s, m, args, below, meth, c, Q, D⟩ := X
  obtain ⟨hx, hb, hml, hR, hown, hts, hU, hO, hx0, hlk⟩ := C
  intro H locs ls hH hS hl
  exact lv_lshr hx hb d rfl (kk H locs ls hH hS hl)
theorem r_lushr (C : zC X own cc nL rm) {x : Int64} {y : Int32} (d : decode cc pc = .ok (.lushr, 1)) (kk : zW X n k (pc + 1) lv (zL (x.toUInt64 >>> (y.toInt64.toUInt64 &&& Int64.toUInt64 63)).toInt64 :: st) M) : zW X n k pc lv (zI y :: zL x :: st) M := by
  obtain ⟨p, l, e, R, s, m, args, below, meth, c, Q, D⟩ := X
  obtain ⟨hx, hb, hml, hR, hown, hts, hU, hO, hx0, hlk⟩ := C
  intro H locs ls hH hS hl
  exact lv_lushr hx hb d rfl (kk H locs ls hH hS hl)
theorem r_i2l (C : zC X own cc nL rm) {x : Int32} (d : decode cc pc = .ok (.i2l, 1)) (kk : zW X n k (pc + 1) lv (zL x.toInt64 :: st) M) : zW X n k pc lv (zI x :: st) M := by
  obtain ⟨p, l, e, R, s, m, args, below, meth, c, Q, D⟩ := X
  obtain ⟨hx, hb, hml, hR, hown, hts, hU, hO, hx0, hlk⟩ := C
  intro H locs ls hH hS hl
  exact lv_i2l hx hb d rfl (kk H locs ls hH hS hl)
theorem r_l2i (C : zC X own cc nL rm) {x : Int64} (d : decode cc pc = .ok (.l2i, 1)) (kk : zW X n k (pc + 1) lv (zI x.toInt32 :: st) M) : zW X n k pc lv (zL x :: st) M := by
  obtain ⟨p, l, e, R, s, m, args, below, meth, c, Q, D⟩ := X
  obtain ⟨hx, hb, hml, hR, hown, hts, hU, hO, hx0, hlk⟩ := C
  intro H locs ls hH hS hl
  exact lv_l2i hx hb d rfl (kk H locs ls hH hS hl)
theorem r_i2b (C : zC X own cc nL rm) {x : Int32} (d : decode cc pc = .ok (.i2b, 1)) (kk : zW X n k (pc + 1) lv (zI x.toInt8.toInt32 :: st) M) : zW X n k pc lv (zI x :: st) M := by
  obtain ⟨p, l, e, R, s, m, args, below, meth, c, Q, D⟩ := X
  obtain ⟨hx, hb, hml, hR, hown, hts, hU, hO, hx0, hlk⟩ := C
  intro H locs ls hH hS hl
  exact lv_i2b hx hb d rfl (kk H locs ls hH hS hl)
theorem r_lcmp (C : zC X own cc nL rm) {x y : Int64} (d : decode cc pc = .ok (.lcmp, 1)) (kk : zW X n k (pc + 1) lv (zI (lg_cmp x y) :: st) M) : zW X n k pc lv (zL y :: zL x :: st) M := by
  obtain ⟨p, l, e, R, s, m, args, below, meth, c, Q, D⟩ := X
  obtain ⟨hx, hb, hml, hR, hown, hts, hU, hO, hx0, hlk⟩ := C
  intro H locs ls hH hS hl
  exact W.lcmp hx hb d (kk H locs ls hH hS hl)
theorem z_cat1 {v : zV} (h : ∀ x, v ≠ zL x) : (z_v v).category = 1 := by
  rw [z_v_cat]
  rcases v with x | x | q
  · rfl
  · exact absurd rfl (h x)
  · rfl
theorem r_dupI (C : zC X own cc nL rm) {x : Int32} (d : decode cc pc = .ok (.dup, 1)) (kk : zW X n k (pc + 1) lv (zI x :: zI x :: st) M) : zW X n k pc lv (zI x :: st) M := by
  obtain ⟨p, l, e, R, s, m, args, below, meth, c, Q, D⟩ := X
  obtain ⟨hx, hb, hml, hR, hown, hts, hU, hO, hx0, hlk⟩ := C
  intro H locs ls hH hS hl
  exact lv_dup hx hb d (z_v_cat _) (kk H locs ls hH hS hl)
theorem r_popI (C : zC X own cc nL rm) {x : Int32} (d : decode cc pc = .ok (.pop, 1)) (kk : zW X n k (pc + 1) lv st M) : zW X n k pc lv (zI x :: st) M := by
  obtain ⟨p, l, e, R, s, m, args, below, meth, c, Q, D⟩ := X
  obtain ⟨hx, hb, hml, hR, hown, hts, hU, hO, hx0, hlk⟩ := C
  intro H locs ls hH hS hl
  exact lv_pop hx hb d (z_v_cat _) (kk H locs ls hH hS hl)
theorem r_dupP (C : zC X own cc nL rm) {x : Nat} (d : decode cc pc = .ok (.dup, 1)) (kk : zW X n k (pc + 1) lv (zP x :: zP x :: st) M) : zW X n k pc lv (zP x :: st) M := by
  obtain ⟨p, l, e, R, s, m, args, below, meth, c, Q, D⟩ := X
  obtain ⟨hx, hb, hml, hR, hown, hts, hU, hO, hx0, hlk⟩ := C
  intro H locs ls hH hS hl
  exact lv_dup hx hb d (z_v_cat _) (kk H locs ls hH hS hl)
theorem r_popP (C : zC X own cc nL rm) {x : Nat} (d : decode cc pc = .ok (.pop, 1)) (kk : zW X n k (pc + 1) lv st M) : zW X n k pc lv (zP x :: st) M := by
  obtain ⟨p, l, e, R, s, m, args, below, meth, c, Q, D⟩ := X
  obtain ⟨hx, hb, hml, hR, hown, hts, hU, hO, hx0, hlk⟩ := C
  intro H locs ls hH hS hl
  exact lv_pop hx hb d (z_v_cat _) (kk H locs ls hH hS hl)
theorem r_dup2IP (C : zC X own cc nL rm) {x : Int32} {y : Nat} (d : decode cc pc = .ok (.dup2, 1)) (kk : zW X n k (pc + 1) lv (zI x :: zP y :: zI x :: zP y :: st) M) : zW X n k pc lv (zI x :: zP y :: st) M := by
  obtain ⟨p, l, e, R, s, m, args, below, meth, c, Q, D⟩ := X
  obtain ⟨hx, hb, hml, hR, hown, hts, hU, hO, hx0, hlk⟩ := C
  intro H locs ls hH hS hl
  exact lv_dup2_11 hx hb d (z_v_cat _) (z_v_cat _) (kk H locs ls hH hS hl)
theorem r_dup2L (C : zC X own cc nL rm) {x : Int64} (d : decode cc pc = .ok (.dup2, 1)) (kk : zW X n k (pc + 1) lv (zL x :: zL x :: st) M) : zW X n k pc lv (zL x :: st) M := by
  obtain ⟨p, l, e, R, s, m, args, below, meth, c, Q, D⟩ := X
  obtain ⟨hx, hb, hml, hR, hown, hts, hU, hO, hx0, hlk⟩ := C
  intro H locs ls hH hS hl
  exact lv_dup2_2 hx hb d rfl (kk H locs ls hH hS hl)
theorem r_if_eq (C : zC X own cc nL rm) {x : Int32} {off : Int} (tgt : Nat) (d : decode cc pc = .ok (.ifCond .eq off, 3)) (ht : (pc : Int) + off = (tgt : Int)) (kt : x = 0 → zW X n k tgt lv st M) (kf : ¬ x = 0 → zW X n k (pc + 3) lv st M) : zW X n k pc lv (zI x :: st) M := by
  obtain ⟨p, l, e, R, s, m, args, below, meth, c, Q, D⟩ := X
  obtain ⟨hx, hb, hml, hR, hown, hts, hU, hO, hx0, hlk⟩ := C
  intro H locs ls hH hS hl
  exact lv_if_eq hx hb d ht (fun h => kt h H locs ls hH hS hl) (fun h => kf h H locs ls hH hS hl)
theorem r_if_ne (C : zC X own cc nL rm) {x : Int32} {off : Int} (tgt : Nat) (d : decode cc pc = .ok (.ifCond .ne off, 3)) (ht : (pc : Int) + off = (tgt : Int)) (kt : ¬ x = 0 → zW X n k tgt lv st M) (kf : x = 0 → zW X n k (pc + 3) lv st M) : zW X n k pc lv (zI x :: st) M := by
  obtain ⟨p, l, e, R, s, m, args, below, meth, c, Q, D⟩ := X
  obtain ⟨hx, hb, hml, hR, hown, hts, hU, hO, hx0, hlk⟩ := C
  intro H locs ls hH hS hl
  exact lv_if_ne hx hb d ht (fun h => kt h H locs ls hH hS hl) (fun h => kf h H locs ls hH hS hl)
theorem r_if_lt (C : zC X own cc nL rm) {x : Int32} {off : Int} (tgt : Nat) (d : decode cc pc = .ok (.ifCond .lt off, 3)) (ht : (pc : Int) + off = (tgt : Int)) (kt : x < 0 → zW X n k tgt lv st M) (kf : ¬ x < 0 → zW X n k (pc + 3) lv st M) : zW X n k pc lv (zI x :: st) M := by
  obtain ⟨p, l, e, R, s, m, args, below, meth, c, Q, D⟩ := X
  obtain ⟨hx, hb, hml, hR, hown, hts, hU, hO, hx0, hlk⟩ := C
  intro H locs ls hH hS hl
  exact lv_if_lt hx hb d ht (fun h => kt h H locs ls hH hS hl) (fun h => kf h H locs ls hH hS hl)
theorem r_if_ge (C : zC X own cc nL rm) {x : Int32} {off : Int} (tgt : Nat) (d : decode cc pc = .ok (.ifCond .ge off, 3)) (ht : (pc : Int) + off = (tgt : Int)) (kt : 0 ≤ x → zW X n k tgt lv st M) (kf : ¬ 0 ≤ x → zW X n k (pc + 3) lv st M) : zW X n k pc lv (zI x :: st) M := by
  obtain ⟨p, l, e, R, s, m, args, below, meth, c, Q, D⟩ := X
  obtain ⟨hx, hb, hml, hR, hown, hts, hU, hO, hx0, hlk⟩ := C
  intro H locs ls hH hS hl
  exact lv_if_ge hx hb d ht (fun h => kt h H locs ls hH hS hl) (fun h => kf h H locs ls hH hS hl)
theorem r_if_gt (C : zC X own cc nL rm) {x : Int32} {off : Int} (tgt : Nat) (d : decode cc pc = .ok (.ifCond .gt off, 3)) (ht : (pc : Int) + off = (tgt : Int)) (kt : 0 < x → zW X n k tgt lv st M) (kf : ¬ 0 < x → zW X n k (pc + 3) lv st M) : zW X n k pc lv (zI x :: st) M := by
  obtain ⟨p, l, e, R, s, m, args, below, meth, c, Q, D⟩ := X
  obtain ⟨hx, hb, hml, hR, hown, hts, hU, hO, hx0, hlk⟩ := C
  intro H locs ls hH hS hl
  exact lv_if_gt hx hb d ht (fun h => kt h H locs ls hH hS hl) (fun h => kf h H locs ls hH hS hl)
theorem r_if_le (C : zC X own cc nL rm) {x : Int32} {off : Int} (tgt : Nat) (d : decode cc pc = .ok (.ifCond .le off, 3)) (ht : (pc : Int) + off = (tgt : Int)) (kt : x ≤ 0 → zW X n k tgt lv st M) (kf : ¬ x ≤ 0 → zW X n k (pc + 3) lv st M) : zW X n k pc lv (zI x :: st) M := by
  obtain ⟨p, l, e, R, s, m, args, below, meth, c, Q, D⟩ := X
  obtain ⟨hx, hb, hml, hR, hown, hts, hU, hO, hx0, hlk⟩ := C
  intro H locs ls hH hS hl
  exact lv_if_le hx hb d ht (fun h => kt h H locs ls hH hS hl) (fun h => kf h H locs ls hH hS hl)
theorem r_icmp_eq (C : zC X own cc nL rm) {x y : Int32} {off : Int} (tgt : Nat) (d : decode cc pc = .ok (.if_icmp .eq off, 3)) (ht : (pc : Int) + off = (tgt : Int)) (kt : x = y → zW X n k tgt lv st M) (kf : ¬ x = y → zW X n k (pc + 3) lv st M) : zW X n k pc lv (zI y :: zI x :: st) M := by
  obtain ⟨p, l, e, R, s, m, args, below, meth, c, Q, D⟩ := X
  obtain ⟨hx, hb, hml, hR, hown, hts, hU, hO, hx0, hlk⟩ := C
  intro H locs ls hH hS hl
  exact lv_icmp_eq hx hb d ht (fun h => kt h H locs ls hH hS hl) (fun h => kf h H locs ls hH hS hl)
theorem r_icmp_ne (C : zC X own cc nL rm) {x y : Int32} {off : Int} (tgt : Nat) (d : decode cc pc = .ok (.if_icmp .ne off, 3)) (ht : (pc : Int) + off = (tgt : Int)) (kt : ¬ x = y → zW X n k tgt lv st M) (kf : x = y → zW X n k (pc + 3) lv st M) : zW X n k pc lv (zI y :: zI x :: st) M := by
  obtain ⟨p, l, e, R, s, m, args, below, meth, c, Q, D⟩ := X
  obtain ⟨hx, hb, hml, hR, hown, hts, hU, hO, hx0, hlk⟩ := C
  intro H locs ls hH hS hl
  exact lv_icmp_ne hx hb d ht (fun h => kt h H locs ls hH hS hl) (fun h => kf h H locs ls hH hS hl)
theorem r_icmp_lt (C : zC X own cc nL rm) {x y : Int32} {off : Int} (tgt : Nat) (d : decode cc pc = .ok (.if_icmp .lt off, 3)) (ht : (pc : Int) + off = (tgt : Int)) (kt : x < y → zW X n k tgt lv st M) (kf : ¬ x < y → zW X n k (pc + 3) lv st M) : zW X n k pc lv (zI y :: zI x :: st) M := by
  obtain ⟨p, l, e, R, s, m, args, below, meth, c, Q, D⟩ := X
  obtain ⟨hx, hb, hml, hR, hown, hts, hU, hO, hx0, hlk⟩ := C
  intro H locs ls hH hS hl
  exact lv_icmp_lt hx hb d ht (fun h => kt h H locs ls hH hS hl) (fun h => kf h H locs ls hH hS hl)
theorem r_icmp_ge (C : zC X own cc nL rm) {x y : Int32} {off : Int} (tgt : Nat) (d : decode cc pc = .ok (.if_icmp .ge off, 3)) (ht : (pc : Int) + off = (tgt : Int)) (kt : y ≤ x → zW X n k tgt lv st M) (kf : ¬ y ≤ x → zW X n k (pc + 3) lv st M) : zW X n k pc lv (zI y :: zI x :: st) M := by
  obtain ⟨p, l, e, R, s, m, args, below, meth, c, Q, D⟩ := X
  obtain ⟨hx, hb, hml, hR, hown, hts, hU, hO, hx0, hlk⟩ := C
  intro H locs ls hH hS hl
  exact lv_icmp_ge hx hb d ht (fun h => kt h H locs ls hH hS hl) (fun h => kf h H locs ls hH hS hl)
theorem r_icmp_gt (C : zC X own cc nL rm) {x y : Int32} {off : Int} (tgt : Nat) (d : decode cc pc = .ok (.if_icmp .gt off, 3)) (ht : (pc : Int) + off = (tgt : Int)) (kt : y < x → zW X n k tgt lv st M) (kf : ¬ y < x → zW X n k (pc + 3) lv st M) : zW X n k pc lv (zI y :: zI x :: st) M := by
  obtain ⟨p, l, e, R, s, m, args, below, meth, c, Q, D⟩ := X
  obtain ⟨hx, hb, hml, hR, hown, hts, hU, hO, hx0, hlk⟩ := C
  intro H locs ls hH hS hl
  exact lv_icmp_gt hx hb d ht (fun h => kt h H locs ls hH hS hl) (fun h => kf h H locs ls hH hS hl)
theorem r_icmp_le (C : zC X own cc nL rm) {x y : Int32} {off : Int} (tgt : Nat) (d : decode cc pc = .ok (.if_icmp .le off, 3)) (ht : (pc : Int) + off = (tgt : Int)) (kt : x ≤ y → zW X n k tgt lv st M) (kf : ¬ x ≤ y → zW X n k (pc + 3) lv st M) : zW X n k pc lv (zI y :: zI x :: st) M := by
  obtain ⟨p, l, e, R, s, m, args, below, meth, c, Q, D⟩ := X
  obtain ⟨hx, hb, hml, hR, hown, hts, hU, hO, hx0, hlk⟩ := C
  intro H locs ls hH hS hl
  exact lv_icmp_le hx hb d ht (fun h => kt h H locs ls hH hS hl) (fun h => kf h H locs ls hH hS hl)
theorem r_goto (C : zC X own cc nL rm) {off : Int} (tgt : Nat) (d : decode cc pc = .ok (.goto off, 3)) (ht : (pc : Int) + off = (tgt : Int)) (kk : zW X n k tgt lv st M) : zW X n k pc lv st M := by
  obtain ⟨p, l, e, R, s, m, args, below, meth, c, Q, D⟩ := X
  obtain ⟨hx, hb, hml, hR, hown, hts, hU, hO, hx0, hlk⟩ := C
  intro H locs ls hH hS hl
  exact lv_goto hx hb d ht (kk H locs ls hH hS hl)
theorem r_ifnonnull (C : zC X own cc nL rm) {x : Nat} {off : Int} (tgt : Nat) (d : decode cc pc = .ok (.ifnonnull off, 3)) (ht : (pc : Int) + off = (tgt : Int)) (kt : ¬ x = 0 → zW X n k tgt lv st M) (kf : x = 0 → zW X n k (pc + 3) lv st M) : zW X n k pc lv (zP x :: st) M := by
  obtain ⟨p, l, e, R, s, m, args, below, meth, c, Q, D⟩ := X
  obtain ⟨hx, hb, hml, hR, hown, hts, hU, hO, hx0, hlk⟩ := C
  intro H locs ls hH hS hl
  cases x with
  | zero => exact lv_ifnonnullN hx hb d (kf rfl H locs ls hH hS hl)
  | succ x => exact lv_ifnonnull hx hb d ht (kt (Nat.succ_ne_zero x) H locs ls hH hS hl)
theorem r_ifnull (C : zC X own cc nL rm) {x : Nat} {off : Int} (tgt : Nat) (d : decode cc pc = .ok (.ifnull off, 3)) (ht : (pc : Int) + off = (tgt : Int)) (kt : x = 0 → zW X n k tgt lv st M) (kf : ¬ x = 0 → zW X n k (pc + 3) lv st M) : zW X n k pc lv (zP x :: st) M := by
  obtain ⟨p, l, e, R, s, m, args, below, meth, c, Q, D⟩ := X
  obtain ⟨hx, hb, hml, hR, hown, hts, hU, hO, hx0, hlk⟩ := C
  intro H locs ls hH hS hl
  cases x with
  | zero => exact lv_ifnullN hx hb d ht (kt rfl H locs ls hH hS hl)
  | succ x => exact lv_ifnull hx hb d (kf (Nat.succ_ne_zero x) H locs ls hH hS hl)
theorem r_tabOut (C : zC X own cc nL rm) {dflt lo hi : Int} {offs : Array Int} {len : Nat} {x : Int32} (tgt : Nat) (d : decode cc pc = .ok (.tableswitch dflt lo hi offs, len)) (h : x.toInt < lo ∨ hi < x.toInt) (ht : (pc : Int) + dflt = (tgt : Int)) (kk : zW X n k tgt lv st M) : zW X n k pc lv (zI x :: st) M := by
  obtain ⟨p, l, e, R, s, m, args, below, meth, c, Q, D⟩ := X
  obtain ⟨hx, hb, hml, hR, hown, hts, hU, hO, hx0, hlk⟩ := C
  intro H locs ls hH hS hl
  exact lv_tableOut hx hb d h ht (kk H locs ls hH hS hl)
theorem r_tabIn (C : zC X own cc nL rm) {dflt lo hi : Int} {offs : Array Int} {len : Nat} {x : Int32} {off : Int} (tgt : Nat) (d : decode cc pc = .ok (.tableswitch dflt lo hi offs, len)) (h1 : ¬ x.toInt < lo) (h2 : ¬ hi < x.toInt) (ho : offs[(x.toInt - lo).toNat]? = some off) (ht : (pc : Int) + off = (tgt : Int)) (kk : zW X n k tgt lv st M) : zW X n k pc lv (zI x :: st) M := by
  obtain ⟨p, l, e, R, s, m, args, below, meth, c, Q, D⟩ := X
  obtain ⟨hx, hb, hml, hR, hown, hts, hU, hO, hx0, hlk⟩ := C
  intro H locs ls hH hS hl
  exact lv_tableIn hx hb d h1 h2 ho ht (kk H locs ls hH hS hl)
/-- fewer locals -/
theorem r_mk (b : List Bool) (kk : zW X n k pc (z_mk b lv) st M) : zW X n k pc lv st M := by
  obtain ⟨p, l, e, R, s, m, args, below, meth, c, Q, D⟩ := X
  exact fun H locs ls hH hS hl => kk H locs ls hH hS (hl.mk b)
/-- other names for what stands on top -/
theorem r_nmI {x y : Int32} (h : x = y) (kk : zW X n k pc lv (zI x :: st) M) : zW X n k pc lv (zI y :: st) M := h ▸ kk
theorem r_nmL {x y : Int64} (h : x = y) (kk : zW X n k pc lv (zL x :: st) M) : zW X n k pc lv (zL y :: st) M := h ▸ kk
theorem r_nmP {x y : Nat} (h : x = y) (kk : zW X n k pc lv (zP x :: st) M) : zW X n k pc lv (zP y :: st) M := h ▸ kk
theorem r_wide {n2 k2 : Nat} (h1 : n ≤ n2) (h2 : k ≤ k2) (kk : zW X n2 k2 pc lv st M) : zW X n k pc lv st M := by
  obtain ⟨p, l, e, R, s, m, args, below, meth, c, Q, D⟩ := X
  exact fun H locs ls hH hS hl => W.widen h1 h2 (kk H locs ls hH hS hl)
end Rows
