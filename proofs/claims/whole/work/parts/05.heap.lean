/-! Rows of fields and arrays. -/
def zvk (v : zV) : Nat := match v with
  | .inl _ => 0
  | .inr (.inl _) => 1
  | .inr (.inr _) => 2
def w_v (M : zM) (p k : Nat) (v : zV) : zM := match v with
  | .inl x => w_i M p k x
  | .inr (.inl x) => w_j M p k x
  | .inr (.inr x) => w_p M p k x
theorem w_v_k (M : zM) (p k : Nat) (v : zV) : z_k (w_v M p k v) = z_k M := by rcases v with x | x | x <;> rfl
theorem w_v_n (M : zM) (p k : Nat) (v : zV) : z_n (w_v M p k v) = z_n M := by rcases v with x | x | x <;> rfl
theorem w_v_s (M : zM) (p k : Nat) (v : zV) : z_s (w_v M p k v) = z_s M := by rcases v with x | x | x <;> rfl
theorem z_kind3 (ty : FieldType) : zkind ty = 0 ∨ zkind ty = 1 ∨ zkind ty = 2 := by cases ty <;> simp [zkind]
theorem z_g0 {M : zM} {ty : FieldType} {p k : Nat} (h : zkind ty = 0) : z_g M ty p k = zI (z_i M p k) := by simp only [z_g, h]
theorem z_g1 {M : zM} {ty : FieldType} {p k : Nat} (h : zkind ty = 1) : z_g M ty p k = zL (z_j M p k) := by simp only [z_g, h]
theorem z_g2 {M : zM} {ty : FieldType} {p k : Nat} (h : zkind ty = 2) : z_g M ty p k = zP (z_p M p k) := by simp only [z_g, h]
theorem z_g_ne {M : zM} {ty : FieldType} {p k q j : Nat} {v : zV} (h : ¬ (q = p ∧ j = k)) : z_g (w_v M p k v) ty q j = z_g M ty q j := by
  rcases z_kind3 ty with e | e | e <;> rcases v with x | x | x <;> simp only [z_g, e, w_v, w_i_i, w_i_j, w_i_p, w_j_i, w_j_j, w_j_p, w_p_i, w_p_j, w_p_p, if_neg h]
theorem z_g_eq {M : zM} {ty : FieldType} {p k : Nat} {v : zV} (h : zvk v = zkind ty) : z_g (w_v M p k v) ty p k = v := by
  rcases v with x | x | x
  · rw [z_g0 h.symm]; show zI (z_i (w_i M p k x) p k) = _; rw [w_i_i, if_pos ⟨rfl, rfl⟩]
  · rw [z_g1 h.symm]; show zL (z_j (w_j M p k x) p k) = _; rw [w_j_j, if_pos ⟨rfl, rfl⟩]
  · rw [z_g2 h.symm]; show zP (z_p (w_p M p k x) p k) = _; rw [w_p_p, if_pos ⟨rfl, rfl⟩]
theorem z_cl_lt {c : Nat} {r : vw_C} (h : z_cl[c]? = some r) : c < 13 := (List.getElem?_eq_some_iff.mp h).1
/-- a field written -/
theorem z_H.put {D : zD} {M : zM} {H H1 : Heap} {q c f : Nat} {r : vw_C} {v : zV} (h : z_H D M H) (hk : z_k M (q + 1) = c + 1) (hr : z_cl[c]? = some r) (hv : zvk v = zkind (zty c f)) (ho : t_OB q (D.1 c) r.2.2 (D.2.1 c) H1 (updV (fun k => z_v (z_f M c (q + 1) k)) f (z_v v))) (z : H1.size = H.size) (oq : ∀ x : Nat, x ≠ q → H1[x]? = H[x]?) : z_H D (w_v M (q + 1) f v) H1 := by
  obtain ⟨h1, h2, h3, h4⟩ := h
  refine ⟨by rw [z, w_v_s]; exact h1, by rw [w_v_s]; exact h2, fun p' c' r' hk' hr' => ?_, fun p' t hk' ht => ?_⟩
  · rw [w_v_k] at hk'
    by_cases hp : p' = q + 1
    · subst hp
      have hc : c' = c := by omega
      subst hc
      cases hr.symm.trans hr'
      obtain ⟨q', e1, e2, -⟩ := h3 _ _ _ hk hr
      have : q' = q := by omega
      subst this
      refine ⟨q', rfl, e2, ho.to fun j _ => ?_⟩
      by_cases hj : j = f
      · subst hj
        simp only [updV, if_pos, z_f, z_g_eq hv]
      · simp only [updV, if_neg hj, z_f, z_g_ne (show ¬ (q' + 1 = q' + 1 ∧ j = f) from fun w => hj w.2)]
    · obtain ⟨q', e1, e2, e3⟩ := h3 _ _ _ hk' hr'
      refine ⟨q', e1, e2, (e3.kept (oq q' (fun w => hp (by omega)))).to fun j _ => ?_⟩
      simp only [z_f, z_g_ne (show ¬ (p' = q + 1 ∧ j = f) from fun w => hp w.1)]
  · rw [w_v_k] at hk'
    have hp : p' ≠ q + 1 := fun w => by rw [w, hk] at hk'; have := z_cl_lt hr; omega
    obtain ⟨q', e1, e2, e3, e4⟩ := h4 _ _ hk' ht
    have e : (fun j => z_v (z_a (w_v M (q + 1) f v) t p' j)) = fun j => z_v (z_a M t p' j) := by
      funext j
      simp only [z_a, z_g_ne (show ¬ (p' = q + 1 ∧ j = f) from fun w => hp w.1)]
    refine ⟨q', e1, e2, ?_, fun j => ?_⟩
    · rw [oq q' (fun w => hp (by omega)), w_v_n, e]; exact e3
    · have := congrFun e j
      rw [this]; exact e4 j
/-- an element written -/
theorem z_H.ast {D : zD} {M : zM} {H H1 : Heap} {q t i : Nat} {v : zV} (h : z_H D M H) (hk : z_k M (q + 1) = t + 100) (ht : t < 5) (hv : zvk v = zkind (zat t)) (hf : fits (zat t) (z_v v) = true) (ho : H1[q]? = some (arrV (D.2.2.1 t) (z_n M (q + 1)) (updV (fun j => z_v (z_a M t (q + 1) j)) i (z_v v)))) (z : H1.size = H.size) (oq : ∀ x : Nat, x ≠ q → H1[x]? = H[x]?) : z_H D (w_v M (q + 1) i v) H1 := by
  obtain ⟨h1, h2, h3, h4⟩ := h
  have hself : ∀ j, z_v (z_a (w_v M (q + 1) i v) t (q + 1) j) = updV (fun j => z_v (z_a M t (q + 1) j)) i (z_v v) j := fun j => by
    by_cases hj : j = i
    · subst hj
      simp only [updV, if_pos, z_a, z_g_eq hv]
    · simp only [updV, if_neg hj, z_a, z_g_ne (show ¬ (q + 1 = q + 1 ∧ j = i) from fun w => hj w.2)]
  refine ⟨by rw [z, w_v_s]; exact h1, by rw [w_v_s]; exact h2, fun p' c' r' hk' hr' => ?_, fun p' t' hk' ht' => ?_⟩
  · rw [w_v_k] at hk'
    have hp : p' ≠ q + 1 := fun w => by rw [w, hk] at hk'; have := z_cl_lt hr'; omega
    obtain ⟨q', e1, e2, e3⟩ := h3 _ _ _ hk' hr'
    refine ⟨q', e1, e2, (e3.kept (oq q' (fun w => hp (by omega)))).to fun j _ => ?_⟩
    simp only [z_f, z_g_ne (show ¬ (p' = q + 1 ∧ j = i) from fun w => hp w.1)]
  · rw [w_v_k] at hk'
    by_cases hp : p' = q + 1
    · subst hp
      have hc : t' = t := by omega
      subst hc
      obtain ⟨q', e1, e2, e3, e4⟩ := h4 _ _ hk ht
      have : q' = q := by omega
      subst this
      refine ⟨q', rfl, e2, ?_, fun j => ?_⟩
      · rw [ho, w_v_n]; congr 2; funext j; exact (hself j).symm
      · rw [hself j]
        by_cases hj : j = i
        · simp only [updV, if_pos hj]; exact hf
        · simp only [updV, if_neg hj]; exact e4 j
    · obtain ⟨q', e1, e2, e3, e4⟩ := h4 _ _ hk' ht'
      have e : (fun j => z_v (z_a (w_v M (q + 1) i v) t' p' j)) = fun j => z_v (z_a M t' p' j) := by
        funext j
        simp only [z_a, z_g_ne (show ¬ (p' = q + 1 ∧ j = i) from fun w => hp w.1)]
      refine ⟨q', e1, e2, ?_, fun j => ?_⟩
      · rw [oq q' (fun w => hp (by omega)), w_v_n, e]; exact e3
      · have := congrFun e j
        rw [this]; exact e4 j
theorem z_H.at {D : zD} {M : zM} {H : Heap} (h : z_H D M H) {p c : Nat} {r : vw_C} (hk : z_k M p = c + 1) (hr : z_cl[c]? = some r) : ∃ q, p = q + 1 ∧ q < H.size := by
  obtain ⟨q, e1, -, cell, e2, -⟩ := h.2.2.1 _ _ _ hk hr
  exact ⟨q, e1, (Array.getElem?_eq_some_iff.mp e2).1⟩
/-- a cell made -/
theorem z_H.new {D : zD} {M : zM} {H H1 : Heap} {kd len : Nat} (h : z_H D M H) (z : H1.size = H.size + 1) (oq : ∀ x : Nat, x < H.size → H1[x]? = H[x]?)
    (hc : ∀ (c : Nat) (r : vw_C), kd = c + 1 → z_cl[c]? = some r → t_OB H.size (D.1 c) r.2.2 (D.2.1 c) H1 (fun k => z_v (z_f (w_a M kd len) c (H.size + 1) k)))
    (ha : ∀ t : Nat, kd = t + 100 → t < 5 → H1[H.size]? = some (arrV (D.2.2.1 t) len (fun j => z_v (z_a (w_a M kd len) t (H.size + 1) j))) ∧ ∀ j, fits (zat t) (z_v (z_a (w_a M kd len) t (H.size + 1) j)) = true) : z_H D (w_a M kd len) H1 := by
  obtain ⟨h1, h2, h3, h4⟩ := h
  have hg : ∀ (ty : FieldType) (p' j : Nat), p' ≠ H.size + 1 → z_g (w_a M kd len) ty p' j = z_g M ty p' j := fun ty p' j hp => by
    have hp' : ¬ p' = z_s M + 1 := by rw [← h1]; exact hp
    rcases z_kind3 ty with e | e | e <;> simp only [z_g, e, w_a_i, w_a_j, w_a_p, if_neg hp']
  refine ⟨by rw [z, w_a_s, h1], by rw [w_a_s]; omega, fun p' c' r' hk' hr' => ?_, fun p' t' hk' ht' => ?_⟩
  · rw [w_a_k] at hk'
    by_cases hp : p' = z_s M + 1
    · rw [if_pos hp] at hk'
      have e := hc c' r' hk' hr'
      rw [← h1] at hp
      subst hp
      exact ⟨H.size, rfl, by omega, e⟩
    · rw [if_neg hp] at hk'
      obtain ⟨q', e1, e2, e3⟩ := h3 _ _ _ hk' hr'
      have hlt : q' < H.size := by obtain ⟨cell, g, -⟩ := e3; exact (Array.getElem?_eq_some_iff.mp g).1
      refine ⟨q', e1, e2, (e3.kept (oq q' hlt)).to fun j _ => ?_⟩
      simp only [z_f, hg _ p' j (by rw [h1]; exact hp)]
  · rw [w_a_k] at hk'
    by_cases hp : p' = z_s M + 1
    · rw [if_pos hp] at hk'
      have e := ha t' hk' ht'
      have hn : z_n (w_a M kd len) p' = len := by rw [w_a_n, if_pos hp]
      rw [← h1] at hp
      subst hp
      rw [hn]
      exact ⟨H.size, rfl, by omega, e⟩
    · rw [if_neg hp] at hk'
      obtain ⟨q', e1, e2, e3, e4⟩ := h4 _ _ hk' ht'
      have hlt : q' < H.size := (Array.getElem?_eq_some_iff.mp e3).1
      have e : (fun j => z_v (z_a (w_a M kd len) t' p' j)) = fun j => z_v (z_a M t' p' j) := by
        funext j
        simp only [z_a, hg _ p' j (by rw [h1]; exact hp)]
      refine ⟨q', e1, e2, ?_, fun j => ?_⟩
      · rw [oq q' hlt, w_a_n, if_neg hp, e]; exact e3
      · have := congrFun e j
        rw [this]; exact e4 j
/-- field f of class c stands at the pool's place idx of class own -/
def zLk (own : String) (idx c f : Nat) : Prop := ∃ r : vw_C, z_cl[c]? = some r ∧ f < r.2.2 ∧ (Cond.fieldLink own idx (r.2.1 f).1 (r.2.1 f).2.1 (r.2.1 f).2.2.1 ∈ zB ∨ ∃ host, (own, idx, (r.2.1 f).1, (r.2.1 f).2.1, (r.2.1 f).2.2.1, host) ∈ zNF)
/-- the same, of a field that isn't final -/
def zLp (own : String) (idx c f : Nat) : Prop := zLk own idx c f ∧ ∀ r : vw_C, z_cl[c]? = some r → (r.2.1 f).2.2.2 = false
/-- the same, of a final field of the class itself -/
def zLf (own : String) (idx c f : Nat) : Prop := ∃ r : vw_C, z_cl[c]? = some r ∧ f < r.2.2 ∧ Cond.fieldLink own idx (r.2.1 f).1 (r.2.1 f).2.1 (r.2.1 f).2.2.1 ∈ zB ∧ (r.2.1 f).2.2.2 = true ∧ (r.2.1 f).1 = own
section Heap
variable {X : zX} {own : String} {cc : ByteArray} {nL : Nat} {rm : Room} {n k pc : Nat} {lv lv' : List (Option zV)} {st : List zV} {M : zM}
theorem r_get (C : zC X own cc nL rm) {p idx c f : Nat} {v : zV} (d : decode cc pc = .ok (.getfield idx, 3)) (lk : zLk own idx c f) (hk : z_k M p = c + 1) (hv : z_f M c p f = v) (kk : zW X n k (pc + 3) lv (v :: st) M) : zW X n k pc lv (zP p :: st) M := by
  obtain ⟨pr, l, e, R, s, m, args, below, meth, cd, Q, D⟩ := X
  obtain ⟨hx, hb, hml, hR, hown, hts, hU, hO, hx0, hlk⟩ := C
  intro H locs ls hH hS hl
  obtain ⟨r, hr, hf, hlink⟩ := lk
  obtain ⟨q, rfl, hq, cell, c1, c2, c3, c4⟩ := hH.2.2.1 _ _ _ hk hr
  obtain ⟨hSl, hfc, kC, hkC, hkind⟩ := hU.1 c r hr
  obtain ⟨cf, kf, fi, fd, hi, hsl⟩ := hSl f hf
  have hst := (u_facts hfc hkC (u_lays hts (zA hr) hf) hi).1
  have hv' : cell.slots[fd.slot]? = some (z_v v) := by rw [hsl, c4 f hf]; show some (z_v (z_f M c (q + 1) f)) = _; rw [hv]
  rcases hlink with h1 | ⟨host, h1⟩
  · exact W.getf hx hb hown (hts _ h1) hi hst c1 (by rw [c3]; exact fun h => by cases h) hv' rfl rfl d (kk H locs ls hH hS hl)
  · exact va_Wgetf hx hb hown (va_Nw.use rfl (hU.2.2.1 _ h1)) hi hst c1 (by rw [c3]; exact fun h => by cases h) hv' rfl rfl d (kk H locs ls hH hS hl)
theorem r_getI (C : zC X own cc nL rm) {p idx c f : Nat} {x : Int32} (d : decode cc pc = .ok (.getfield idx, 3)) (lk : zLk own idx c f) (ht : zkind (zty c f) = 0) (hk : z_k M p = c + 1) (hv : z_i M p f = x) (kk : zW X n k (pc + 3) lv (zI x :: st) M) : zW X n k pc lv (zP p :: st) M :=
  r_get C d lk hk (by rw [z_f, z_g0 ht, hv]) kk
theorem r_getL (C : zC X own cc nL rm) {p idx c f : Nat} {x : Int64} (d : decode cc pc = .ok (.getfield idx, 3)) (lk : zLk own idx c f) (ht : zkind (zty c f) = 1) (hk : z_k M p = c + 1) (hv : z_j M p f = x) (kk : zW X n k (pc + 3) lv (zL x :: st) M) : zW X n k pc lv (zP p :: st) M :=
  r_get C d lk hk (by rw [z_f, z_g1 ht, hv]) kk
theorem r_getP (C : zC X own cc nL rm) {p idx c f : Nat} {x : Nat} (d : decode cc pc = .ok (.getfield idx, 3)) (lk : zLk own idx c f) (ht : zkind (zty c f) = 2) (hk : z_k M p = c + 1) (hv : z_p M p f = x) (kk : zW X n k (pc + 3) lv (zP x :: st) M) : zW X n k pc lv (zP p :: st) M :=
  r_get C d lk hk (by rw [z_f, z_g2 ht, hv]) kk
theorem r_put (C : zC X own cc nL rm) {p idx c f : Nat} {v : zV} {M1 : zM} (d : decode cc pc = .ok (.putfield idx, 3)) (lk : zLp own idx c f) (hvk : zvk v = zkind (zty c f)) (hn : narrow (zty c f) (z_v v) = z_v v) (hfit : fits (zty c f) (z_v v) = true) (hk : z_k M p = c + 1) (hM : M1 = w_v M p f v) (kk : zW X n k (pc + 3) lv st M1) : zW X n k pc lv (v :: zP p :: st) M := by
  obtain ⟨pr, l, e, R, s, m, args, below, meth, cd, Q, D⟩ := X
  obtain ⟨hx, hb, hml, hR, hown, hts, hU, hO, hx0, hlk⟩ := C
  intro H locs ls hH hS hl
  obtain ⟨⟨r, hr, hf, hlink⟩, hfin⟩ := lk
  have hfin := hfin r hr
  subst hM
  obtain ⟨q, rfl, hq, cell, c1, c2, c3, c4⟩ := hH.2.2.1 _ _ _ hk hr
  obtain ⟨hSl, hfc, kC, hkC, hkind⟩ := hU.1 c r hr
  obtain ⟨cf, kf, fi, fd, hi, hsl⟩ := hSl f hf
  have hst := (u_facts hfc hkC (u_lays hts (zA hr) hf) hi).1
  have hlay := hts _ (zA hr _ (u_in_lay hf))
  unfold u_lay at hlay
  rw [if_neg (by rw [hfin]; decide)] at hlay
  have h6 := u_store hfc hkC hkind hlay hi (zy hr f hf) hn hfit
  have hap : ∀ x y, x < r.2.2 → y < r.2.2 → x ≠ y → (D.2.1 c) x ≠ (D.2.1 c) y := fun x y gx gy hne => by
    obtain ⟨_, _, _, fa, hia, ea⟩ := hSl x gx
    obtain ⟨_, _, _, fb, hib, eb⟩ := hSl y gy
    rw [← ea, ← eb]
    refine u_apart (u_lays hts (zA hr) gx) (u_lays hts (zA hr) gy) hia hib ?_
    rw [(State.fieldFound?_type hia (zy hr x gx)).1, (State.fieldFound?_type hib (zy hr y gy)).1]
    exact zn hr x gx y gy hne
  have fin : ∀ H' : Heap, H'[q]? = some (cell.setSlot fd.slot (z_v v)) → H'.size = H.size → (∀ x, x ≠ q → H'[x]? = H[x]?) → W pr l e R s m args below meth cd H' (locs ++ [⟨q, fd.slot⟩]) n k Q (F0 m (pc + 3) ls (st.map z_v)) := fun H' e1 e2 e3 => by
    rw [hsl] at e1
    exact kk H' _ ls (hH.put hk hr hvk ⟨_, e1, c2, c3, t_set c4 hap hf (z_v v)⟩ e2 e3) (hS.put e2 e3 hq) hl
  rcases hlink with h1 | ⟨host, h1⟩
  · exact W.putK hx hb (f := fd) ⟨hown, hts _ h1, ⟨_, _, _, hi⟩, hst⟩ (by rw [c2]; exact h6) c1 c3 (by rw [hsl]; exact k2_hasslot (c4 f hf)) rfl rfl d fin
  · exact va_WputK hx hb (f := fd) hown (va_Nw.use rfl (hU.2.2.1 _ h1)) hi hst (by rw [c2]; exact h6) c1 c3 (by rw [hsl]; exact k2_hasslot (c4 f hf)) rfl rfl d fin
theorem r_putF (C : zC X own cc nL rm) (hin : zIn X) {p idx c f : Nat} {v : zV} {M1 : zM} (d : decode cc pc = .ok (.putfield idx, 3)) (lk : zLf own idx c f) (hvk : zvk v = zkind (zty c f)) (hn : narrow (zty c f) (z_v v) = z_v v) (hfit : fits (zty c f) (z_v v) = true) (hk : z_k M p = c + 1) (hM : M1 = w_v M p f v) (kk : zW X n k (pc + 3) lv st M1) : zW X n k pc lv (v :: zP p :: st) M := by
  obtain ⟨pr, l, e, R, s, m, args, below, meth, cd, Q, D⟩ := X
  obtain ⟨hx, hb, hml, hR, hown, hts, hU, hO, hx0, hlk⟩ := C
  intro H locs ls hH hS hl
  obtain ⟨r, hr, hf, h1, hfin, hdecl⟩ := lk
  subst hM
  obtain ⟨q, rfl, hq, cell, c1, c2, c3, c4⟩ := hH.2.2.1 _ _ _ hk hr
  obtain ⟨hSl, hfc, kC, hkC, hkind⟩ := hU.1 c r hr
  obtain ⟨cf, kf, fi, fd, hi, hsl⟩ := hSl f hf
  have hst := (u_facts hfc hkC (u_lays hts (zA hr) hf) hi).1
  have hlay := hts _ (zA hr _ (u_in_lay hf))
  unfold u_lay at hlay
  rw [if_pos hfin] at hlay
  have hcf : m.cls = cf := by
    obtain ⟨_, _, c', _, _, _, -, -, hf', -, -, -, hown2, -⟩ := Cond.laysFinal_spec hlay
    have e1 : c' = cf := by have := hi.symm.trans hf'; simp at this; exact this.1.symm
    rw [hdecl] at hown2
    rw [← e1]; exact Option.some.inj (hown.symm.trans hown2)
  have h6 := u_fits hfc hkC hkind (Or.inr hlay) hi (zy hr f hf) hn hfit
  have hap : ∀ x y, x < r.2.2 → y < r.2.2 → x ≠ y → (D.2.1 c) x ≠ (D.2.1 c) y := fun x y gx gy hne => by
    obtain ⟨_, _, _, fa, hia, ea⟩ := hSl x gx
    obtain ⟨_, _, _, fb, hib, eb⟩ := hSl y gy
    rw [← ea, ← eb]
    refine u_apart (u_lays hts (zA hr) gx) (u_lays hts (zA hr) gy) hia hib ?_
    rw [(State.fieldFound?_type hia (zy hr x gx)).1, (State.fieldFound?_type hib (zy hr y gy)).1]
    exact zn hr x gx y gy hne
  refine W.putFinK hx hb hown (hts _ h1) hi hst hcf hin (by rw [c2]; exact h6) c1 c3 (by rw [hsl]; exact k2_hasslot (c4 f hf)) rfl rfl d fun H' e1 e2 e3 => ?_
  rw [hsl] at e1
  exact kk H' _ ls (hH.put hk hr hvk ⟨_, e1, c2, c3, t_set c4 hap hf (z_v v)⟩ e2 e3) (hS.put e2 e3 hq) hl
end Heap
