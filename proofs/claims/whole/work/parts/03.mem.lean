/-! The abstract memory. A value is an int, a long or a pointer (0: null, q + 1: the cell q). -/
abbrev zV : Type := Int32 ⊕ Int64 ⊕ Nat
abbrev zI (x : Int32) : zV := Sum.inl x
abbrev zL (x : Int64) : zV := Sum.inr (Sum.inl x)
abbrev zP (p : Nat) : zV := Sum.inr (Sum.inr p)
def z_rf (p : Nat) : Value := match p with
  | 0 => .null
  | q + 1 => .ref q
def z_v (v : zV) : Value := match v with
  | .inl x => .int x
  | .inr (.inl x) => .long x
  | .inr (.inr p) => z_rf p
/-- kinds (0 none, c + 1 an object of class c, t + 100 an array of tag t), lengths, ints, longs, pointers (by cell and by field or element), how many cells there are -/
abbrev zM : Type := (Nat → Nat) × (Nat → Nat) × (Nat → Nat → Int32) × (Nat → Nat → Int64) × (Nat → Nat → Nat) × Nat
def z_k (M : zM) (p : Nat) : Nat := M.1 p
def z_n (M : zM) (p : Nat) : Nat := M.2.1 p
def z_i (M : zM) (p k : Nat) : Int32 := M.2.2.1 p k
def z_j (M : zM) (p k : Nat) : Int64 := M.2.2.2.1 p k
def z_p (M : zM) (p k : Nat) : Nat := M.2.2.2.2.1 p k
def z_s (M : zM) : Nat := M.2.2.2.2.2
def w_i (M : zM) (p k : Nat) (x : Int32) : zM := (M.1, M.2.1, fun q j => if q = p ∧ j = k then x else M.2.2.1 q j, M.2.2.2.1, M.2.2.2.2.1, M.2.2.2.2.2)
def w_j (M : zM) (p k : Nat) (x : Int64) : zM := (M.1, M.2.1, M.2.2.1, fun q j => if q = p ∧ j = k then x else M.2.2.2.1 q j, M.2.2.2.2.1, M.2.2.2.2.2)
def w_p (M : zM) (p k : Nat) (x : Nat) : zM := (M.1, M.2.1, M.2.2.1, M.2.2.2.1, fun q j => if q = p ∧ j = k then x else M.2.2.2.2.1 q j, M.2.2.2.2.2)
/-- a new cell, of this kind and length, all zero -/
def w_a (M : zM) (kd n : Nat) : zM := (fun q => if q = z_s M + 1 then kd else M.1 q, fun q => if q = z_s M + 1 then n else M.2.1 q, fun q j => if q = z_s M + 1 then 0 else M.2.2.1 q j, fun q j => if q = z_s M + 1 then 0 else M.2.2.2.1 q j, fun q j => if q = z_s M + 1 then 0 else M.2.2.2.2.1 q j, z_s M + 1)
/-- a stretch of an int array written: from a on n places, out of f -/
def w_c (M : zM) (p a n : Nat) (f : Nat → Int32) : zM := (M.1, M.2.1, fun q j => if q = p ∧ a ≤ j ∧ j < a + n then f (j - a) else M.2.2.1 q j, M.2.2.2.1, M.2.2.2.2.1, M.2.2.2.2.2)
theorem w_i_k (M : zM) (p k : Nat) (x : Int32) : z_k (w_i M p k x) = z_k M := rfl
theorem w_i_n (M : zM) (p k : Nat) (x : Int32) : z_n (w_i M p k x) = z_n M := rfl
theorem w_i_i (M : zM) (p k : Nat) (x : Int32) (q j : Nat) : z_i (w_i M p k x) q j = if q = p ∧ j = k then x else z_i M q j := rfl
theorem w_i_j (M : zM) (p k : Nat) (x : Int32) : z_j (w_i M p k x) = z_j M := rfl
theorem w_i_p (M : zM) (p k : Nat) (x : Int32) : z_p (w_i M p k x) = z_p M := rfl
theorem w_i_s (M : zM) (p k : Nat) (x : Int32) : z_s (w_i M p k x) = z_s M := rfl
theorem w_j_k (M : zM) (p k : Nat) (x : Int64) : z_k (w_j M p k x) = z_k M := rfl
theorem w_j_n (M : zM) (p k : Nat) (x : Int64) : z_n (w_j M p k x) = z_n M := rfl
theorem w_j_i (M : zM) (p k : Nat) (x : Int64) : z_i (w_j M p k x) = z_i M := rfl
theorem w_j_j (M : zM) (p k : Nat) (x : Int64) (q j : Nat) : z_j (w_j M p k x) q j = if q = p ∧ j = k then x else z_j M q j := rfl
theorem w_j_p (M : zM) (p k : Nat) (x : Int64) : z_p (w_j M p k x) = z_p M := rfl
theorem w_j_s (M : zM) (p k : Nat) (x : Int64) : z_s (w_j M p k x) = z_s M := rfl
theorem w_p_k (M : zM) (p k : Nat) (x : Nat) : z_k (w_p M p k x) = z_k M := rfl
theorem w_p_n (M : zM) (p k : Nat) (x : Nat) : z_n (w_p M p k x) = z_n M := rfl
theorem w_p_i (M : zM) (p k : Nat) (x : Nat) : z_i (w_p M p k x) = z_i M := rfl
theorem w_p_j (M : zM) (p k : Nat) (x : Nat) : z_j (w_p M p k x) = z_j M := rfl
theorem w_p_p (M : zM) (p k : Nat) (x : Nat) (q j : Nat) : z_p (w_p M p k x) q j = if q = p ∧ j = k then x else z_p M q j := rfl
theorem w_p_s (M : zM) (p k : Nat) (x : Nat) : z_s (w_p M p k x) = z_s M := rfl
theorem w_a_k (M : zM) (kd n q : Nat) : z_k (w_a M kd n) q = if q = z_s M + 1 then kd else z_k M q := rfl
theorem w_a_n (M : zM) (kd n q : Nat) : z_n (w_a M kd n) q = if q = z_s M + 1 then n else z_n M q := rfl
theorem w_a_i (M : zM) (kd n q j : Nat) : z_i (w_a M kd n) q j = if q = z_s M + 1 then 0 else z_i M q j := rfl
theorem w_a_j (M : zM) (kd n q j : Nat) : z_j (w_a M kd n) q j = if q = z_s M + 1 then 0 else z_j M q j := rfl
theorem w_a_p (M : zM) (kd n q j : Nat) : z_p (w_a M kd n) q j = if q = z_s M + 1 then 0 else z_p M q j := rfl
theorem w_a_s (M : zM) (kd n : Nat) : z_s (w_a M kd n) = z_s M + 1 := rfl
theorem w_c_k (M : zM) (p a n : Nat) (f : Nat → Int32) : z_k (w_c M p a n f) = z_k M := rfl
theorem w_c_n (M : zM) (p a n : Nat) (f : Nat → Int32) : z_n (w_c M p a n f) = z_n M := rfl
theorem w_c_i (M : zM) (p a n : Nat) (f : Nat → Int32) (q j : Nat) : z_i (w_c M p a n f) q j = if q = p ∧ a ≤ j ∧ j < a + n then f (j - a) else z_i M q j := rfl
theorem w_c_j (M : zM) (p a n : Nat) (f : Nat → Int32) : z_j (w_c M p a n f) = z_j M := rfl
theorem w_c_p (M : zM) (p a n : Nat) (f : Nat → Int32) : z_p (w_c M p a n f) = z_p M := rfl
theorem w_c_s (M : zM) (p a n : Nat) (f : Nat → Int32) : z_s (w_c M p a n f) = z_s M := rfl
/-- 0 an int (boolean, byte ..), 1 a long, 2 a reference -/
def zkind (t : FieldType) : Nat := match t with
  | .long => 1
  | .object _ => 2
  | .array _ => 2
  | _ => 0
/-- the component types of the arrays, by their tags -/
def zat (t : Nat) : FieldType := match t with
  | 0 => .int
  | 1 => .byte
  | 2 => .boolean
  | 3 => .long
  | _ => .object "StateFrames$Share"
def z_g (M : zM) (ty : FieldType) (p k : Nat) : zV := match zkind ty with
  | 0 => zI (z_i M p k)
  | 1 => zL (z_j M p k)
  | _ => zP (z_p M p k)
def z_f (M : zM) (c p k : Nat) : zV := z_g M (zty c k) p k
def z_a (M : zM) (t p j : Nat) : zV := z_g M (zat t) p j
/-- the old arrays, which nobody writes: where a static field's array lies, which cells are such, their lengths, their ints -/
abbrev zO : Type := (Nat → Nat) × (Nat → Bool) × (Nat → Nat) × (Nat → Nat → Int32)
/-- the classes' numbers, the fields' slots, the array classes' numbers, the first new cell, the old arrays -/
abbrev zD : Type := (Nat → ClassId) × (Nat → Nat → Nat) × (Nat → ClassId) × Nat × zO
def z_A (D : zD) : Nat → Prop := fun q => D.2.2.2.1 ≤ q
def z_H (D : zD) (M : zM) (H : Heap) : Prop := H.size = z_s M ∧ D.2.2.2.1 ≤ z_s M ∧
  (∀ (p c : Nat) (r : vw_C), z_k M p = c + 1 → z_cl[c]? = some r → ∃ q, p = q + 1 ∧ D.2.2.2.1 ≤ q ∧ t_OB q (D.1 c) r.2.2 (D.2.1 c) H (fun k => z_v (z_f M c p k))) ∧
  (∀ (p t : Nat), z_k M p = t + 100 → t < 5 → ∃ q, p = q + 1 ∧ D.2.2.2.1 ≤ q ∧ H[q]? = some (arrV (D.2.2.1 t) (z_n M p) (fun j => z_v (z_a M t p j))) ∧ ∀ j, fits (zat t) (z_v (z_a M t p j)) = true)
/-- the old arrays and the statics that hold them, at a method's entry -/
def z_O (D : zD) (U : State) : Prop :=
  (∀ p : Nat, D.2.2.2.2.2.1 p = true → ∃ (q : Nat) (cell : Cell), p = q + 1 ∧ q < D.2.2.2.1 ∧ U.heap[q]? = some cell ∧ U.isArrayOf cell .int ∧ cell.vm ≠ .unknown ∧ D.2.2.2.2.2.2.1 p ≤ cell.slots.size ∧ cell.slots.size.toInt32 = Int32.ofNat (D.2.2.2.2.2.2.1 p) ∧ ∀ j : Nat, j < D.2.2.2.2.2.2.1 p → cell.slots[j]? = some (.int (D.2.2.2.2.2.2.2 p j))) ∧
  (∀ (i : Nat) (q : String × String × String), zST[i]? = some q → va_Z q.1 q.2.1 q.2.2 (z_rf (D.2.2.2.2.1 i)) (z_A D) U U.heap)
/-- what the tables say of the classes -/
def z_U (D : zD) (U : State) : Prop :=
  (∀ (c : Nat) (r : vw_C), z_cl[c]? = some r → u_Kn U r.1 r.2.1 r.2.2 (D.1 c) (D.2.1 c)) ∧
  (∀ t : Nat, t < 5 → ArrOfT U (D.2.2.1 t) (zat t) ∧ va_RA U (D.2.2.1 t) (zat t)) ∧
  (∀ q ∈ zNF, va_Nw (Cond.fieldLinkNest q.1 q.2.1 q.2.2.1 q.2.2.2.1 q.2.2.2.2.1 q.2.2.2.2.2) U) ∧
  (∀ q ∈ zNM, va_Nw (Cond.methodLinkNest q.1 q.2.1 q.2.2.1 q.2.2.2) U) ∧ va_AO "StateFrames$Share" U
theorem z_U.warm {D : zD} {s U : State} (hW : s.WarmedH U.vm) (h : z_U D s) : z_U D U := by
  obtain ⟨h1, h2, h3, h4, h5⟩ := h
  exact ⟨fun c r hr => u_Kn_moved hW.alike (h1 c r hr), fun t ht => ⟨arrOfT_moved hW.alike (h2 t ht).1, (h2 t ht).2.moved hW.alike⟩, fun q hq => va_Nw.warmF hW (h3 q hq), fun q hq => va_Nw.warmM hW (h4 q hq), h5.moved hW.alike⟩
theorem z_O.moved {D : zD} {s U : State} {H : Heap} {locs : List Loc} (hW : s.WarmedH U.vm) (hx0 : D.2.2.2.1 ≤ s.heap.size) (hS : va_S (z_A D) s.heap H locs) (hU : U.heap = H) (h : z_O D s) : z_O D U := by
  obtain ⟨h1, h2⟩ := h
  have hk : ∀ a : Nat, a < s.heap.size → ¬ z_A D a → U.heap[a]? = s.heap[a]? := fun a g1 g2 => by rw [hU]; exact hS.2.1 a g1 g2
  refine ⟨fun p hp => ?_, fun i q hq => (va_Z.kept (h2 i q hq) hk).moved hW.alike⟩
  obtain ⟨q, cell, e1, e2, e3, e4, e5⟩ := h1 p hp
  exact ⟨q, cell, e1, e2, by rw [hk q (Nat.lt_of_lt_of_le e2 hx0) (fun z => by have : D.2.2.2.1 ≤ q := z; omega)]; exact e3, State.isArrayOf_alike hW.alike e4, e5⟩
/-! The locals -/
def z_lv (ls : Array Slot) (lv : List (Option zV)) : Prop := ls.size = lv.length ∧ lv_wf ls ∧ ∀ (i : Nat) (v : zV), lv[i]? = some (some v) → ls[i]? = some (.val (z_v v))
/-- the long at place i, if there is one, is gone -/
def z_kl (lv : List (Option zV)) (i : Nat) : List (Option zV) := match lv[i]? with
  | some (some (.inr (.inl _))) => lv.set i none
  | _ => lv
def z_st1 (lv : List (Option zV)) (i : Nat) (v : zV) : List (Option zV) := match i with
  | 0 => lv.set 0 (some v)
  | j + 1 => (z_kl lv j).set (j + 1) (some v)
def z_st2 (lv : List (Option zV)) (i : Nat) (v : zV) : List (Option zV) := (z_st1 lv i v).set (i + 1) none
def z_mk (m : List Bool) (lv : List (Option zV)) : List (Option zV) := match m, lv with
  | [], lv => lv
  | _, [] => []
  | true :: m, v :: lv => v :: z_mk m lv
  | false :: m, _ :: lv => none :: z_mk m lv
theorem z_v_cat (v : zV) : (z_v v).category = match v with
    | .inl _ => 1
    | .inr (.inl _) => 2
    | .inr (.inr _) => 1 := by
  rcases v with x | x | p
  · rfl
  · rfl
  · cases p <;> rfl
theorem z_kl_len (lv : List (Option zV)) (i : Nat) : (z_kl lv i).length = lv.length := by
  unfold z_kl
  split <;> simp
theorem z_st1_len (lv : List (Option zV)) (i : Nat) (v : zV) : (z_st1 lv i v).length = lv.length := by
  unfold z_st1
  split <;> simp [z_kl_len]
theorem z_kl_get {lv : List (Option zV)} {i j : Nat} {w : zV} (h : (z_kl lv i)[j]? = some (some w)) : lv[j]? = some (some w) ∧ ¬ (j = i ∧ (z_v w).category = 2) := by
  unfold z_kl at h
  split at h
  · rename_i x e
    by_cases hj : j = i
    · subst hj
      rw [List.getElem?_set] at h
      simp at h
    · rw [List.getElem?_set_ne (fun q => hj q.symm)] at h
      exact ⟨h, fun q => hj q.1⟩
  · rename_i e
    refine ⟨h, fun q => ?_⟩
    obtain ⟨rfl, q2⟩ := q
    rw [z_v_cat] at q2
    rcases w with x | x | p
    · simp at q2
    · exact e x h
    · simp at q2
theorem z_st1_get {lv : List (Option zV)} {i j : Nat} {v w : zV} (h : (z_st1 lv i v)[j]? = some (some w)) : (j = i ∧ w = v) ∨ (j ≠ i ∧ lv[j]? = some (some w) ∧ ¬ (j + 1 = i ∧ (z_v w).category = 2)) := by
  unfold z_st1 at h
  split at h
  · by_cases hj : j = 0
    · subst hj
      rw [List.getElem?_set] at h
      simp at h
      exact Or.inl ⟨rfl, h.2.symm⟩
    · rw [List.getElem?_set_ne (fun q => hj q.symm)] at h
      exact Or.inr ⟨hj, h, fun q => by omega⟩
  · rename_i k
    by_cases hj : j = k + 1
    · subst hj
      rw [List.getElem?_set] at h
      simp at h
      exact Or.inl ⟨rfl, h.2.symm⟩
    · rw [List.getElem?_set_ne (fun q => hj q.symm)] at h
      obtain ⟨h1, h2⟩ := z_kl_get h
      exact Or.inr ⟨hj, h1, fun q => h2 ⟨by omega, q.2⟩⟩
theorem z_st2_get {lv : List (Option zV)} {i j : Nat} {v w : zV} (h : (z_st2 lv i v)[j]? = some (some w)) : (j = i ∧ w = v) ∨ (j ≠ i ∧ j ≠ i + 1 ∧ lv[j]? = some (some w) ∧ ¬ (j + 1 = i ∧ (z_v w).category = 2)) := by
  unfold z_st2 at h
  by_cases hj : j = i + 1
  · subst hj
    rw [List.getElem?_set] at h
    simp at h
  · rw [List.getElem?_set_ne (fun q => hj q.symm)] at h
    rcases z_st1_get h with h | h
    · exact Or.inl h
    · exact Or.inr ⟨h.1, hj, h.2⟩
theorem z_lv.has {ls : Array Slot} {lv : List (Option zV)} (h : z_lv ls lv) {i : Nat} {v : zV} (hi : lv[i]? = some (some v)) : lv_has ls lv.length [(i, z_v v)] :=
  ⟨h.1, h.2.1, fun q hq => by rw [List.mem_singleton.mp hq]; exact h.2.2 i v hi⟩
theorem z_lv.st1 {ls : Array Slot} {lv : List (Option zV)} (h : z_lv ls lv) {i : Nat} (v : zV) (hi : i < lv.length) (hc : (z_v v).category = 1) : ∃ ls', storeLocals ls i (z_v v) = some ls' ∧ z_lv ls' (z_st1 lv i v) := by
  obtain ⟨ls', e1, e2⟩ := lv_store1 (l := []) ⟨h.1, h.2.1, fun q hq => by cases hq⟩ hi hc
  refine ⟨ls', e1, by rw [z_st1_len]; exact e2.1, e2.2.1, fun j w hj => ?_⟩
  rcases z_st1_get hj with ⟨rfl, rfl⟩ | ⟨h1, h2, h3⟩
  · exact e2.2.2 _ List.mem_cons_self
  · obtain ⟨l2, f1, f2⟩ := lv_store1 (l := [(j, z_v w)]) (h.has h2) hi hc
    rw [e1] at f1
    cases f1
    refine f2.2.2 (j, z_v w) (List.mem_cons_of_mem _ (List.mem_filter.mpr ⟨List.mem_singleton.mpr rfl, ?_⟩))
    simp only [Bool.and_eq_true, Bool.not_eq_true', beq_eq_false_iff_ne, ne_eq, Bool.and_eq_false_iff]
    refine ⟨h1, ?_⟩
    by_cases q : j + 1 = i
    · exact Or.inr (fun z => h3 ⟨q, z⟩)
    · exact Or.inl q
theorem z_lv.st2 {ls : Array Slot} {lv : List (Option zV)} (h : z_lv ls lv) {i : Nat} (v : zV) (hi : i + 1 < lv.length) (hc : (z_v v).category = 2) : ∃ ls', storeLocals ls i (z_v v) = some ls' ∧ z_lv ls' (z_st2 lv i v) := by
  obtain ⟨ls', e1, e2⟩ := lv_store2 (l := []) ⟨h.1, h.2.1, fun q hq => by cases hq⟩ hi hc
  refine ⟨ls', e1, by rw [z_st2, List.length_set, z_st1_len]; exact e2.1, e2.2.1, fun j w hj => ?_⟩
  rcases z_st2_get hj with ⟨rfl, rfl⟩ | ⟨h1, h0, h2, h3⟩
  · exact e2.2.2 _ List.mem_cons_self
  · obtain ⟨l2, f1, f2⟩ := lv_store2 (l := [(j, z_v w)]) (h.has h2) hi hc
    rw [e1] at f1
    cases f1
    refine f2.2.2 (j, z_v w) (List.mem_cons_of_mem _ (List.mem_filter.mpr ⟨List.mem_singleton.mpr rfl, ?_⟩))
    simp only [Bool.and_eq_true, Bool.not_eq_true', beq_eq_false_iff_ne, ne_eq, Bool.and_eq_false_iff]
    refine ⟨h1, h0, ?_⟩
    by_cases q : j + 1 = i
    · exact Or.inr (fun z => h3 ⟨q, z⟩)
    · exact Or.inl q
theorem z_mk_len : ∀ (m : List Bool) (lv : List (Option zV)), (z_mk m lv).length = lv.length
  | [], lv => by simp [z_mk]
  | b :: m, [] => by cases b <;> simp [z_mk]
  | true :: m, v :: lv => by simp [z_mk, z_mk_len m lv]
  | false :: m, v :: lv => by simp [z_mk, z_mk_len m lv]
theorem z_mk_get : ∀ (m : List Bool) (lv : List (Option zV)) (i : Nat) (v : zV), (z_mk m lv)[i]? = some (some v) → lv[i]? = some (some v)
  | [], lv, i, v, h => by simpa [z_mk] using h
  | b :: m, [], i, v, h => by cases b <;> simp [z_mk] at h
  | true :: m, x :: lv, 0, v, h => by simpa [z_mk] using h
  | true :: m, x :: lv, i + 1, v, h => by
    simp only [z_mk, List.getElem?_cons_succ] at h ⊢
    exact z_mk_get m lv i v h
  | false :: m, x :: lv, 0, v, h => by simp [z_mk] at h
  | false :: m, x :: lv, i + 1, v, h => by
    simp only [z_mk, List.getElem?_cons_succ] at h ⊢
    exact z_mk_get m lv i v h
theorem z_lv.mk {ls : Array Slot} {lv : List (Option zV)} (m : List Bool) (h : z_lv ls lv) : z_lv ls (z_mk m lv) :=
  ⟨by rw [z_mk_len]; exact h.1, h.2.1, fun i v hi => h.2.2 i v (z_mk_get m lv i v hi)⟩
