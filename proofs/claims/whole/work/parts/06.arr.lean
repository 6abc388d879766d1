/-! Rows of arrays, of making, of statics. -/
/-- an index within -/
def zin (i : Int32) (n : Nat) : Bool := decide (¬ (i < 0 ∨ n ≤ i.toNatClampNeg))
theorem zin_p {i : Int32} {n : Nat} (h : zin i n = true) : ¬ (i < 0 ∨ n ≤ i.toNatClampNeg) := of_decide_eq_true h
theorem zin_lt {i : Int32} {n : Nat} (h : zin i n = true) : i.toNatClampNeg < n := Nat.not_le.mp fun q => zin_p h (Or.inr q)
section Arr
variable {X : zX} {own : String} {cc : ByteArray} {nL : Nat} {rm : Room} {n k pc : Nat} {lv lv' : List (Option zV)} {st : List zV} {M : zM}
theorem z_arr_of {D : zD} {s : State} (hU : z_U D s) {t : Nat} (ht : t < 5) (N : Nat) (f : Nat → Value) : s.isArrayOf (arrV (D.2.2.1 t) N f) (zat t) := (hU.2.1 t ht).1 N f
theorem r_iald (C : zC X own cc nL rm) {p : Nat} {i x : Int32} (d : decode cc pc = .ok (.iaload, 1)) (hk : z_k M p = 100) (hi : zin i (z_n M p) = true) (hv : z_i M p i.toNatClampNeg = x) (kk : zW X n k (pc + 1) lv (zI x :: st) M) : zW X n k pc lv (zI i :: zP p :: st) M := by
  obtain ⟨pr, l, e, R, s, m, args, below, meth, cd, Q, D⟩ := X
  obtain ⟨hx, hb, hml, hR, hown, hts, hU, hO, hx0, hlk⟩ := C
  intro H locs ls hH hS hl
  obtain ⟨q, rfl, hq, e1, -⟩ := hH.2.2.2 _ 0 hk (by omega)
  exact W.iald (v := .int x) hx hb e1 (z_arr_of hU (by omega) _ _) (fun w => by cases w) (by rw [arrV_size]; exact zin_p hi) (by rw [arrV_read _ _ (zin_lt hi), ← hv]; rfl) rfl rfl d (kk H locs ls hH hS hl)
theorem r_bald (C : zC X own cc nL rm) {p : Nat} {i x : Int32} (d : decode cc pc = .ok (.baload, 1)) (hk : z_k M p = 101) (hi : zin i (z_n M p) = true) (hv : z_i M p i.toNatClampNeg = x) (kk : zW X n k (pc + 1) lv (zI x :: st) M) : zW X n k pc lv (zI i :: zP p :: st) M := by
  obtain ⟨pr, l, e, R, s, m, args, below, meth, cd, Q, D⟩ := X
  obtain ⟨hx, hb, hml, hR, hown, hts, hU, hO, hx0, hlk⟩ := C
  intro H locs ls hH hS hl
  obtain ⟨q, rfl, hq, e1, -⟩ := hH.2.2.2 _ 1 hk (by omega)
  exact W.bald (v := .int x) hx hb e1 (z_arr_of hU (by omega) _ _) (fun w => by cases w) (by rw [arrV_size]; exact zin_p hi) (by rw [arrV_read _ _ (zin_lt hi), ← hv]; rfl) rfl rfl d (kk H locs ls hH hS hl)
theorem r_zald (C : zC X own cc nL rm) {p : Nat} {i x : Int32} (d : decode cc pc = .ok (.baload, 1)) (hk : z_k M p = 102) (hi : zin i (z_n M p) = true) (hv : z_i M p i.toNatClampNeg = x) (kk : zW X n k (pc + 1) lv (zI x :: st) M) : zW X n k pc lv (zI i :: zP p :: st) M := by
  obtain ⟨pr, l, e, R, s, m, args, below, meth, cd, Q, D⟩ := X
  obtain ⟨hx, hb, hml, hR, hown, hts, hU, hO, hx0, hlk⟩ := C
  intro H locs ls hH hS hl
  obtain ⟨q, rfl, hq, e1, -⟩ := hH.2.2.2 _ 2 hk (by omega)
  exact W.zald (v := .int x) hx hb e1 (z_arr_of hU (by omega) _ _) (fun w => by cases w) (by rw [arrV_size]; exact zin_p hi) (by rw [arrV_read _ _ (zin_lt hi), ← hv]; rfl) rfl rfl d (kk H locs ls hH hS hl)
theorem r_lald (C : zC X own cc nL rm) {p : Nat} {i : Int32} {x : Int64} (d : decode cc pc = .ok (.laload, 1)) (hk : z_k M p = 103) (hi : zin i (z_n M p) = true) (hv : z_j M p i.toNatClampNeg = x) (kk : zW X n k (pc + 1) lv (zL x :: st) M) : zW X n k pc lv (zI i :: zP p :: st) M := by
  obtain ⟨pr, l, e, R, s, m, args, below, meth, cd, Q, D⟩ := X
  obtain ⟨hx, hb, hml, hR, hown, hts, hU, hO, hx0, hlk⟩ := C
  intro H locs ls hH hS hl
  obtain ⟨q, rfl, hq, e1, -⟩ := hH.2.2.2 _ 3 hk (by omega)
  exact W.lald (v := .long x) hx hb e1 (z_arr_of hU (by omega) _ _) (fun w => by cases w) (by rw [arrV_size]; exact zin_p hi) (by rw [arrV_read _ _ (zin_lt hi), ← hv]; rfl) rfl rfl d (kk H locs ls hH hS hl)
theorem r_aald (C : zC X own cc nL rm) {p : Nat} {i : Int32} {x : Nat} (d : decode cc pc = .ok (.aaload, 1)) (hk : z_k M p = 104) (hi : zin i (z_n M p) = true) (hv : z_p M p i.toNatClampNeg = x) (kk : zW X n k (pc + 1) lv (zP x :: st) M) : zW X n k pc lv (zI i :: zP p :: st) M := by
  obtain ⟨pr, l, e, R, s, m, args, below, meth, cd, Q, D⟩ := X
  obtain ⟨hx, hb, hml, hR, hown, hts, hU, hO, hx0, hlk⟩ := C
  intro H locs ls hH hS hl
  obtain ⟨q, rfl, hq, e1, -⟩ := hH.2.2.2 _ 4 hk (by omega)
  exact W.aald (v := z_rf x) hx hb e1 (z_arr_of hU (by omega) _ _) rfl (fun w => by cases w) (by rw [arrV_size]; exact zin_p hi) (by rw [arrV_read _ _ (zin_lt hi), ← hv]; rfl) rfl rfl d (kk H locs ls hH hS hl)
/-- an old array -/
theorem r_oald (C : zC X own cc nL rm) {p : Nat} {i x : Int32} (d : decode cc pc = .ok (.iaload, 1)) (hk : (zOD X).2.1 p = true) (hi : zin i ((zOD X).2.2.1 p) = true) (hv : (zOD X).2.2.2 p i.toNatClampNeg = x) (kk : zW X n k (pc + 1) lv (zI x :: st) M) : zW X n k pc lv (zI i :: zP p :: st) M := by
  obtain ⟨pr, l, e, R, s, m, args, below, meth, cd, Q, D⟩ := X
  obtain ⟨hx, hb, hml, hR, hown, hts, hU, hO, hx0, hlk⟩ := C
  intro H locs ls hH hS hl
  obtain ⟨q, cell, rfl, hq, e1, e2, e3, e4, e5, e6⟩ := hO.1 p hk
  have e1' : H[q]? = some cell := by rw [hS.2.1 q (by omega) (fun w => by have : D.2.2.2.1 ≤ q := w; omega)]; exact e1
  have hlt := zin_lt hi
  exact W.iald (v := .int x) hx hb e1' e2 e3 (fun w => by rcases w with w | w; exact zin_p hi (Or.inl w); have h9 : i.toNatClampNeg < D.2.2.2.2.2.2.1 (q + 1) := hlt; omega) (by rw [e6 _ hlt, ← hv]; rfl) rfl rfl d (kk H locs ls hH hS hl)
theorem r_olen (C : zC X own cc nL rm) {p : Nat} {x : Int32} (d : decode cc pc = .ok (.arraylength, 1)) (hk : (zOD X).2.1 p = true) (hv : Int32.ofNat ((zOD X).2.2.1 p) = x) (kk : zW X n k (pc + 1) lv (zI x :: st) M) : zW X n k pc lv (zP p :: st) M := by
  obtain ⟨pr, l, e, R, s, m, args, below, meth, cd, Q, D⟩ := X
  obtain ⟨hx, hb, hml, hR, hown, hts, hU, hO, hx0, hlk⟩ := C
  intro H locs ls hH hS hl
  obtain ⟨q, cell, rfl, hq, e1, e2, e3, e4, e5, e6⟩ := hO.1 p hk
  have e1' : H[q]? = some cell := by rw [hS.2.1 q (by omega) (fun w => by have : D.2.2.2.1 ≤ q := w; omega)]; exact e1
  exact W.alen (n := x) hx hb e1' e2 (by rw [e5, ← hv]; rfl) rfl rfl d (kk H locs ls hH hS hl)
/-- a new array's length -/
theorem r_alen (C : zC X own cc nL rm) (t : Nat) {p : Nat} {x : Int32} (d : decode cc pc = .ok (.arraylength, 1)) (hk : z_k M p = t + 100) (ht : t < 5) (hv : Int32.ofNat (z_n M p) = x) (kk : zW X n k (pc + 1) lv (zI x :: st) M) : zW X n k pc lv (zP p :: st) M := by
  obtain ⟨pr, l, e, R, s, m, args, below, meth, cd, Q, D⟩ := X
  obtain ⟨hx, hb, hml, hR, hown, hts, hU, hO, hx0, hlk⟩ := C
  intro H locs ls hH hS hl
  obtain ⟨q, rfl, hq, e1, -⟩ := hH.2.2.2 _ t hk ht
  exact W.alen (n := x) hx hb e1 (z_arr_of hU ht _ _) (by rw [arrV_size, ← hv]) rfl rfl d (kk H locs ls hH hS hl)
theorem r_iast (C : zC X own cc nL rm) {p : Nat} {i x : Int32} {M1 : zM} (d : decode cc pc = .ok (.iastore, 1)) (hk : z_k M p = 100) (hi : zin i (z_n M p) = true) (hM : M1 = w_i M p i.toNatClampNeg x) (kk : zW X n k (pc + 1) lv st M1) : zW X n k pc lv (zI x :: zI i :: zP p :: st) M := by
  obtain ⟨pr, l, e, R, s, m, args, below, meth, cd, Q, D⟩ := X
  obtain ⟨hx, hb, hml, hR, hown, hts, hU, hO, hx0, hlk⟩ := C
  intro H locs ls hH hS hl
  subst hM
  obtain ⟨q, rfl, hq, e1, -⟩ := hH.2.2.2 _ 0 hk (by omega)
  refine W.iast hx hb e1 (z_arr_of hU (by omega) _ _) (fun w => by cases w) (by rw [arrV_size]; exact zin_p hi) rfl rfl d fun H1 g z oq => ?_
  rw [arrV_store] at g
  exact kk H1 _ ls (hH.ast (t := 0) (v := zI x) hk (by omega) rfl rfl g z oq) (hS.put z oq hq) hl
theorem r_bast (C : zC X own cc nL rm) {p : Nat} {i x : Int32} {M1 : zM} (d : decode cc pc = .ok (.bastore, 1)) (hk : z_k M p = 101) (hi : zin i (z_n M p) = true) (hM : M1 = w_i M p i.toNatClampNeg x.toInt8.toInt32) (kk : zW X n k (pc + 1) lv st M1) : zW X n k pc lv (zI x :: zI i :: zP p :: st) M := by
  obtain ⟨pr, l, e, R, s, m, args, below, meth, cd, Q, D⟩ := X
  obtain ⟨hx, hb, hml, hR, hown, hts, hU, hO, hx0, hlk⟩ := C
  intro H locs ls hH hS hl
  subst hM
  obtain ⟨q, rfl, hq, e1, -⟩ := hH.2.2.2 _ 1 hk (by omega)
  refine W.bast hx hb e1 (z_arr_of hU (by omega) _ _) (fun w => by cases w) (by rw [arrV_size]; exact zin_p hi) rfl rfl d fun H1 g z oq => ?_
  rw [arrV_store] at g
  exact kk H1 _ ls (hH.ast (t := 1) (v := zI x.toInt8.toInt32) hk (by omega) rfl (pk_fb x) g z oq) (hS.put z oq hq) hl
theorem r_zast (C : zC X own cc nL rm) {p : Nat} {i x : Int32} {M1 : zM} (d : decode cc pc = .ok (.bastore, 1)) (hk : z_k M p = 102) (hi : zin i (z_n M p) = true) (hx1 : x = 0 ∨ x = 1) (hM : M1 = w_i M p i.toNatClampNeg x) (kk : zW X n k (pc + 1) lv st M1) : zW X n k pc lv (zI x :: zI i :: zP p :: st) M := by
  obtain ⟨pr, l, e, R, s, m, args, below, meth, cd, Q, D⟩ := X
  obtain ⟨hx, hb, hml, hR, hown, hts, hU, hO, hx0, hlk⟩ := C
  intro H locs ls hH hS hl
  subst hM
  obtain ⟨q, rfl, hq, e1, -⟩ := hH.2.2.2 _ 2 hk (by omega)
  refine W.zast hx hb e1 (z_arr_of hU (by omega) _ _) (fun w => by cases w) (by rw [arrV_size]; exact zin_p hi) rfl rfl d fun H1 g z oq => ?_
  rw [arrV_store] at g
  rcases hx1 with rfl | rfl
  · exact kk H1 _ ls (hH.ast (t := 2) (v := zI 0) hk (by omega) rfl rfl g z oq) (hS.put z oq hq) hl
  · exact kk H1 _ ls (hH.ast (t := 2) (v := zI 1) hk (by omega) rfl rfl g z oq) (hS.put z oq hq) hl
theorem r_last (C : zC X own cc nL rm) {p : Nat} {i : Int32} {x : Int64} {M1 : zM} (d : decode cc pc = .ok (.lastore, 1)) (hk : z_k M p = 103) (hi : zin i (z_n M p) = true) (hM : M1 = w_j M p i.toNatClampNeg x) (kk : zW X n k (pc + 1) lv st M1) : zW X n k pc lv (zL x :: zI i :: zP p :: st) M := by
  obtain ⟨pr, l, e, R, s, m, args, below, meth, cd, Q, D⟩ := X
  obtain ⟨hx, hb, hml, hR, hown, hts, hU, hO, hx0, hlk⟩ := C
  intro H locs ls hH hS hl
  subst hM
  obtain ⟨q, rfl, hq, e1, -⟩ := hH.2.2.2 _ 3 hk (by omega)
  refine W.last hx hb e1 (z_arr_of hU (by omega) _ _) (fun w => by cases w) (by rw [arrV_size]; exact zin_p hi) rfl rfl d fun H1 g z oq => ?_
  rw [arrV_store] at g
  exact kk H1 _ ls (hH.ast (t := 3) (v := zL x) hk (by omega) rfl rfl g z oq) (hS.put z oq hq) hl
/-- a Share into a row of Shares -/
theorem r_aast (C : zC X own cc nL rm) {p y : Nat} {i : Int32} {M1 : zM} (d : decode cc pc = .ok (.aastore, 1)) (hk : z_k M p = 104) (hi : zin i (z_n M p) = true) (hy : z_k M y = 11) (hM : M1 = w_p M p i.toNatClampNeg y) (kk : zW X n k (pc + 1) lv st M1) : zW X n k pc lv (zP y :: zI i :: zP p :: st) M := by
  obtain ⟨pr, l, e, R, s, m, args, below, meth, cd, Q, D⟩ := X
  obtain ⟨hx, hb, hml, hR, hown, hts, hU, hO, hx0, hlk⟩ := C
  intro H locs ls hH hS hl
  subst hM
  obtain ⟨q, rfl, hq, e1, -⟩ := hH.2.2.2 _ 4 hk (by omega)
  obtain ⟨v, rfl, hv, cell, c1, c2, c3, c4⟩ := hH.2.2.1 _ 10 _ hy rfl
  obtain ⟨hSl, hfc, kC, hkC, hkind⟩ := hU.1 10 _ rfl
  obtain ⟨kA, comp, a1, a2, a3, a4⟩ := (hU.2.1 4 (by omega)).2
  have hcomp : comp = D.1 10 := Option.some.inj (a3.symm.trans hfc)
  refine W.aast hx hb (v := v) e1 (fun w h => by cases h) (fun w => by cases w) a1 a2 rfl (by rw [hcomp]; exact hkC) ⟨fun w => zin_p hi (Or.inl w), by rw [arrV_size]; exact zin_lt hi⟩ c1 (fun w h => by rw [c3] at h; cases h) (by rw [c2]; exact hkC) (by rw [c2, hcomp]; exact va_asg _ _) rfl rfl d fun H1 g z oq => ?_
  rw [arrV_store] at g
  exact kk H1 _ ls (hH.ast (t := 4) (v := zP (v + 1)) hk (by omega) rfl rfl g z oq) (hS.put z oq hq) hl
/-- what a static field holds -/
theorem r_gets (C : zC X own cc nL rm) {idx i : Nat} {q : String × String × String} (d : decode cc pc = .ok (.getstatic idx, 3)) (hi : zST[i]? = some q) (lk : Cond.fieldLink own idx q.1 q.2.1 q.2.2 ∈ zB ∨ ∃ host, (own, idx, q.1, q.2.1, q.2.2, host) ∈ zNF) (kk : zW X n k (pc + 3) lv (zP ((zOD X).1 i) :: st) M) : zW X n k pc lv st M := by
  obtain ⟨pr, l, e, R, s, m, args, below, meth, cd, Q, D⟩ := X
  obtain ⟨hx, hb, hml, hR, hown, hts, hU, hO, hx0, hlk⟩ := C
  intro H locs ls hH hS hl
  have hZ := hO.2 i q hi
  rcases lk with h1 | ⟨host, h1⟩
  · exact va_gets hx hb hZ hS hown (hts _ h1) (fun _ h => h) d (kk H locs ls hH hS hl)
  · exact va_getsN hx hb hZ hS hown (va_Nw.use rfl (hU.2.2.1 _ h1)) (fun _ h => h) d (kk H locs ls hH hS hl)
theorem z_dflt {ty : FieldType} (h : ty ≠ .float ∧ ty ≠ .double) (M : zM) {p j : Nat} (hi : z_i M p j = 0) (hj : z_j M p j = 0) (hp : z_p M p j = 0) : z_v (z_g M ty p j) = defaultValue ty := by
  cases ty <;> first | exact absurd rfl h.1 | exact absurd rfl h.2 | (simp only [z_g, zkind, hi, hj, hp]; rfl)
theorem z_dfit {ty : FieldType} (h : ty ≠ .float ∧ ty ≠ .double) (M : zM) {p j : Nat} (hi : z_i M p j = 0) (hj : z_j M p j = 0) (hp : z_p M p j = 0) : fits ty (z_v (z_g M ty p j)) = true := by
  rw [z_dflt h M hi hj hp]
  cases ty <;> rfl
theorem z_zero {M : zM} {kd len p j : Nat} (hp : p = z_s M + 1) : z_i (w_a M kd len) p j = 0 ∧ z_j (w_a M kd len) p j = 0 ∧ z_p (w_a M kd len) p j = 0 := by
  subst hp
  exact ⟨by rw [w_a_i, if_pos rfl], by rw [w_a_j, if_pos rfl], by rw [w_a_p, if_pos rfl]⟩
theorem zty_ok {c : Nat} {r : vw_C} (h : z_cl[c]? = some r) : ∀ k, k < r.2.2 → zty c k ≠ .float ∧ zty c k ≠ .double := by
  match c, h with
  | 0, h => cases h; decide +kernel
  | 1, h => cases h; decide +kernel
  | 2, h => cases h; decide +kernel
  | 3, h => cases h; decide +kernel
  | 4, h => cases h; decide +kernel
  | 5, h => cases h; decide +kernel
  | 6, h => cases h; decide +kernel
  | 7, h => cases h; decide +kernel
  | 8, h => cases h; decide +kernel
  | 9, h => cases h; decide +kernel
  | 10, h => cases h; decide +kernel
  | 11, h => cases h; decide +kernel
  | 12, h => cases h; decide +kernel
  | c + 13, h => simp [z_cl] at h
theorem r_new (C : zC X own cc nL rm) {idx c : Nat} {r : vw_C} {M1 : zM} (d : decode cc pc = .ok (.new idx, 3)) (hr : z_cl[c]? = some r) (hcl : Cond.classLink own idx r.1 ∈ zB) (hins : Cond.instantiable r.1 r.2.2 ∈ zB) (hini : Cond.initialized r.1 ∈ zB) (hn : n + 1 ≤ rm.cells) (hk : k + r.2.2 ≤ rm.slots) (hM : M1 = w_a M (c + 1) 0) (kk : zW X (n + 1) (k + r.2.2) (pc + 3) lv (zP (z_s M + 1) :: st) M1) : zW X n k pc lv st M := by
  obtain ⟨pr, l, e, R, s, m, args, below, meth, cd, Q, D⟩ := X
  obtain ⟨hx, hb, hml, rfl, hown, hts, hU, hO, hx0, hlk⟩ := C
  intro H locs ls hH hS hl
  subst hM
  have hKn := hU.1 c r hr
  have hsz : H.size = z_s M := hH.1
  refine W.newcK hx hb hown (hts _ hcl) (hts _ hins) (hts _ hini) rfl d hn hk hKn.2.1 rfl fun H1 kC hkC e1 z1 o1 => ?_
  have hz : z_H D (w_a M (c + 1) 0) H1 := by
    refine hH.new z1 o1 (fun c' r' hc' hr' => ?_) (fun t ht ht5 => ?_)
    · have : c' = c := by omega
      subst this
      cases hr.symm.trans hr'
      refine (u_born (zty c') hts (zA hr) hKn hkC e1 (zy hr)).to fun j hj => ?_
      obtain ⟨g1, g2, g3⟩ := z_zero (M := M) (kd := c' + 1) (len := 0) (p := H.size + 1) (j := j) (by rw [hsz])
      exact (z_dflt (zty_ok hr j hj) _ g1 g2 g3).symm
    · have := z_cl_lt hr; omega
  have k1 := kk H1 locs ls hz ⟨Nat.le_trans hS.1 (by omega), fun x h1 h2 => (o1 x (Nat.lt_of_lt_of_le h1 hS.1)).trans (hS.2.1 x h1 h2), hS.2.2⟩ hl
  rw [hsz]
  exact k1
theorem r_newa (C : zC X own cc nL rm) (t cap : Nat) {at_ : ArrayType} {z : Int32} {M1 : zM} (d : decode cc pc = .ok (.newarray at_, 2)) (hat : newarray.typeOf at_ = zat t) (ht : t < 4) (hac : Cond.arrayClass (zat t) ∈ zB) (hz : ¬ z < 0) (hcap : z.toNatClampNeg ≤ cap) (hcb : cap * componentBytes (zat t) ≤ 536870912) (hn : n + 1 ≤ rm.cells) (hk : k + cap ≤ rm.slots) (hM : M1 = w_a M (t + 100) z.toNatClampNeg) (kk : zW X (n + 1) (k + cap) (pc + 2) lv (zP (z_s M + 1) :: st) M1) : zW X n k pc lv (zI z :: st) M := by
  obtain ⟨pr, l, e, R, s, m, args, below, meth, cd, Q, D⟩ := X
  obtain ⟨hx, hb, hml, rfl, hown, hts, hU, hO, hx0, hlk⟩ := C
  intro H locs ls hH hS hl
  subst hM
  have hsz : H.size = z_s M := hH.1
  have hty : zat t ≠ .float ∧ zat t ≠ .double := by
    rcases (show t = 0 ∨ t = 1 ∨ t = 2 ∨ t = 3 by omega) with rfl | rfl | rfl | rfl <;> exact ⟨(fun w => by cases w), (fun w => by cases w)⟩
  refine va_newaK (N := z.toNatClampNeg) hx hb (by rw [hat]; exact hts _ hac) rfl d rfl hz rfl (by rw [hat]; exact Nat.le_trans (Nat.mul_le_mul_right _ hcap) hcb) hn (by omega) rfl fun H1 cA e1 z1 o1 hAr hNm => ?_
  rw [hat] at e1 hNm
  have hcA : cA = D.2.2.1 t := by
    have h2 := (hU.2.1 t (by omega)).2
    have h3 : s.vm.findClass ("[" ++ (zat t).toString) = some (D.2.2.1 t) := by
      rcases (show t = 0 ∨ t = 1 ∨ t = 2 ∨ t = 3 by omega) with rfl | rfl | rfl | rfl <;> exact h2
    exact Option.some.inj (hNm.symm.trans h3)
  subst hcA
  have hz2 : z_H D (w_a M (t + 100) z.toNatClampNeg) H1 := by
    refine hH.new z1 o1 (fun c' r' hc' hr' => ?_) (fun t' ht' ht5 => ?_)
    · have := z_cl_lt hr'; omega
    · have : t' = t := by omega
      subst this
      refine ⟨?_, fun j => ?_⟩
      · rw [e1]
        congr 2
        funext j
        obtain ⟨g1, g2, g3⟩ := z_zero (M := M) (kd := t' + 100) (len := z.toNatClampNeg) (p := H.size + 1) (j := j) (by rw [hsz])
        exact (z_dflt hty _ g1 g2 g3).symm
      · obtain ⟨g1, g2, g3⟩ := z_zero (M := M) (kd := t' + 100) (len := z.toNatClampNeg) (p := H.size + 1) (j := j) (by rw [hsz])
        exact z_dfit hty _ g1 g2 g3
  have k1 := kk H1 locs ls hz2 ⟨Nat.le_trans hS.1 (by omega), fun x h1 h2 => (o1 x (Nat.lt_of_lt_of_le h1 hS.1)).trans (hS.2.1 x h1 h2), hS.2.2⟩ hl
  rw [hsz]
  exact W.widen (Nat.le_refl _) (by omega) k1
theorem r_newq (C : zC X own cc nL rm) (cap : Nat) {idx : Nat} {z : Int32} {M1 : zM} (d : decode cc pc = .ok (.anewarray idx, 3)) (hcl : Cond.classLink own idx "StateFrames$Share" ∈ zB) (hz : ¬ z < 0) (hcap : z.toNatClampNeg ≤ cap) (hcb : cap ≤ 1000) (hn : n + 1 ≤ rm.cells) (hk : k + cap ≤ rm.slots) (hM : M1 = w_a M 104 z.toNatClampNeg) (kk : zW X (n + 1) (k + cap) (pc + 3) lv (zP (z_s M + 1) :: st) M1) : zW X n k pc lv (zI z :: st) M := by
  obtain ⟨pr, l, e, R, s, m, args, below, meth, cd, Q, D⟩ := X
  obtain ⟨hx, hb, hml, rfl, hown, hts, hU, hO, hx0, hlk⟩ := C
  intro H locs ls hH hS hl
  subst hM
  have hsz : H.size = z_s M := hH.1
  have hty : zat 4 ≠ .float ∧ zat 4 ≠ .double := ⟨(fun w => by cases w), (fun w => by cases w)⟩
  refine W.anew hx hb hown (hts _ hcl) hU.2.2.2.2.use rfl d rfl hz (by omega) hn (by omega) fun cA kA comp h1 h2 h3 h4 => ?_
  have hcA : cA = D.2.2.1 4 := by
    obtain ⟨kA', comp', a1, a2, a3, a4⟩ := (hU.2.1 4 (by omega)).2
    exact Option.some.inj (h1.symm.trans a4)
  subst hcA
  have hz2 : z_H D (w_a M 104 z.toNatClampNeg) (H.push { cls := D.2.2.1 4, slots := Array.replicate z.toNatClampNeg .null, vm := .none }) := by
    refine hH.new (by simp) (fun x hx => by rw [Array.getElem?_push, if_neg (Nat.ne_of_lt hx)]) (fun c' r' hc' hr' => ?_) (fun t' ht' ht5 => ?_)
    · have := z_cl_lt hr'; omega
    · have : t' = 4 := by omega
      subst this
      refine ⟨?_, fun j => ?_⟩
      · rw [arrV_new]
        simp only [Array.getElem?_push_size]
        congr 2
        funext j
        obtain ⟨g1, g2, g3⟩ := z_zero (M := M) (kd := 104) (len := z.toNatClampNeg) (p := H.size + 1) (j := j) (by rw [hsz])
        exact (z_dflt hty _ g1 g2 g3).symm
      · obtain ⟨g1, g2, g3⟩ := z_zero (M := M) (kd := 104) (len := z.toNatClampNeg) (p := H.size + 1) (j := j) (by rw [hsz])
        exact z_dfit hty _ g1 g2 g3
  have k1 := kk _ locs ls hz2 ⟨Nat.le_trans hS.1 (by simp), fun x h1 h2 => by
    rw [Array.getElem?_push, if_neg (Nat.ne_of_lt (Nat.lt_of_lt_of_le h1 hS.1))]; exact hS.2.1 x h1 h2, hS.2.2⟩ hl
  rw [hsz]
  exact W.widen (Nat.le_refl _) (by omega) k1
end Arr
