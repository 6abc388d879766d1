/-! A long pool entry, and System.arraycopy over bytes. -/
/-- an int array's (bytes', booleans') ints all new -/
theorem z_H.whole {D : zD} {M M1 : zM} {H H1 : Heap} {q t : Nat} (h : z_H D M H) (hk : z_k M (q + 1) = t + 100) (ht : t < 5) (e1 : z_k M1 = z_k M) (e2 : z_n M1 = z_n M) (e3 : z_s M1 = z_s M) (e4 : z_j M1 = z_j M) (e5 : z_p M1 = z_p M) (e6 : ∀ p' j, p' ≠ q + 1 → z_i M1 p' j = z_i M p' j)
    (ho : H1[q]? = some (arrV (D.2.2.1 t) (z_n M (q + 1)) (fun j => z_v (z_a M1 t (q + 1) j)))) (hf : ∀ j, fits (zat t) (z_v (z_a M1 t (q + 1) j)) = true) (z : H1.size = H.size) (oq : ∀ x : Nat, x ≠ q → H1[x]? = H[x]?) : z_H D M1 H1 := by
  obtain ⟨h1, h2, h3, h4⟩ := h
  have hg : ∀ (ty : FieldType) (p' j : Nat), p' ≠ q + 1 → z_g M1 ty p' j = z_g M ty p' j := fun ty p' j hp => by
    rcases z_kind3 ty with e | e | e
    · rw [z_g0 e, z_g0 e, e6 p' j hp]
    · rw [z_g1 e, z_g1 e, e4]
    · rw [z_g2 e, z_g2 e, e5]
  refine ⟨by rw [z, e3]; exact h1, by rw [e3]; exact h2, fun p' c' r' hk' hr' => ?_, fun p' t' hk' ht' => ?_⟩
  · rw [e1] at hk'
    have hp : p' ≠ q + 1 := fun w => by rw [w, hk] at hk'; have := z_cl_lt hr'; omega
    obtain ⟨q', f1, f2, f3⟩ := h3 _ _ _ hk' hr'
    refine ⟨q', f1, f2, (f3.kept (oq q' (fun w => hp (by omega)))).to fun j _ => ?_⟩
    simp only [z_f, hg _ p' j hp]
  · rw [e1] at hk'
    by_cases hp : p' = q + 1
    · subst hp
      have hc : t' = t := by omega
      subst hc
      obtain ⟨q', f1, f2, f3, f4⟩ := h4 _ _ hk ht
      have : q' = q := by omega
      subst this
      exact ⟨q', rfl, f2, by rw [ho, e2], hf⟩
    · obtain ⟨q', f1, f2, f3, f4⟩ := h4 _ _ hk' ht'
      have e : (fun j => z_v (z_a M1 t' p' j)) = fun j => z_v (z_a M t' p' j) := by
        funext j
        simp only [z_a, hg _ p' j hp]
      refine ⟨q', f1, f2, ?_, fun j => ?_⟩
      · rw [oq q' (fun w => hp (by omega)), e2, e]; exact f3
      · rw [congrFun e j]; exact f4 j
section Copy
variable {X : zX} {own : String} {cc : ByteArray} {nL : Nat} {rm : Room} {n k pc : Nat} {lv lv' : List (Option zV)} {st : List zV} {M : zM}
theorem r_ldcw (C : zC X own cc nL rm) {i : Nat} {v : Int32} (d : decode cc pc = .ok (.ldc_w i, 3)) (hw : Cond.constant own i v ∈ zB) (kk : zW X n k (pc + 3) lv (zI v :: st) M) : zW X n k pc lv st M := by
  obtain ⟨p, l, e, R, s, m, args, below, meth, c, Q, D⟩ := X
  obtain ⟨hx, hb, hml, hR, hown, hts, hU, hO, hx0, hlk⟩ := C
  intro H locs ls hH hS hl
  exact lv_ldcw hx hb hown (hts _ hw) d (kk H locs ls hH hS hl)
/-- both ends of a copy lie within -/
def zcok (sp n : Int32) (len : Nat) : Bool := decide (¬ sp < 0 ∧ ¬ n < 0 ∧ sp.toNatClampNeg + n.toNatClampNeg ≤ len)
theorem r_copyB (C : zC X own cc nL rm) {idx p0 p1 : Nat} {sp dp z : Int32} {M1 : zM} (d : decode cc pc = .ok (.invokestatic idx, 3)) (hlink : Cond.methodLink own idx arraycopyName ∈ zB) (hnat : Cond.native arraycopyName ∈ zB) (hstat : Cond.static arraycopyName ∈ zB) (hini : Cond.initialized "java/lang/System" ∈ zB)
    (hk0 : z_k M p0 = 101) (hk1 : z_k M p1 = 101) (h0 : zcok sp z (z_n M p0) = true) (h1 : zcok dp z (z_n M p1) = true) (hlv : lv.length = nL) (hw : zcs st ≤ 8) (hR : 1 ≤ rm.frames ∧ 8 + (nativeFrameWords "java/lang/System" "arraycopy" 5 + 11) ≤ rm.locals)
    (hM : M1 = w_c M p1 dp.toNatClampNeg z.toNatClampNeg (fun j => z_i M p0 (sp.toNatClampNeg + j))) (kk : zW X n k (pc + 3) lv st M1) : zW X n k pc lv (zI z :: zI dp :: zP p1 :: zI sp :: zP p0 :: st) M := by
  obtain ⟨pr, l, e, R, s, m, args, below, meth, cd, Q, D⟩ := X
  obtain ⟨hx, hb, hml, rfl, hown, hts, hU, hO, hx0, hlk⟩ := C
  intro H locs ls hH hS hl
  subst hM
  obtain ⟨a1, a3, a4⟩ : ¬ sp < 0 ∧ ¬ z < 0 ∧ sp.toNatClampNeg + z.toNatClampNeg ≤ z_n M p0 := of_decide_eq_true h0
  obtain ⟨a2, -, a5⟩ : ¬ dp < 0 ∧ ¬ z < 0 ∧ dp.toNatClampNeg + z.toNatClampNeg ≤ z_n M p1 := of_decide_eq_true h1
  obtain ⟨q0, rfl, hq0, c0, f0⟩ := hH.2.2.2 _ 1 hk0 (by omega)
  obtain ⟨q1, rfl, hq1, c1, f1⟩ := hH.2.2.2 _ 1 hk1 (by omega)
  have nn : ∀ w : Int32, ¬ w < 0 → w.toInt = (w.toNatClampNeg : Int) := by
    intro w hz
    have hz0 : (0 : Int) ≤ w.toInt := by
      have := Int32.not_lt.mp hz
      simpa using Int32.le_iff_toInt_le.mp this
    show w.toInt = ((w.toInt.toNat : Nat) : Int)
    omega
  intro T hT Xs
  have hc0 : H[q0]? = some (vp_cell (D.2.2.1 1) (z_n M (q0 + 1), .inl (z_i M (q0 + 1)))) := c0
  have hc1 : H[q1]? = some (vp_cell (D.2.2.1 1) (z_n M (q1 + 1), .inl (z_i M (q1 + 1)))) := c1
  obtain ⟨-, k0, hk0', cm0, hkk0⟩ := z_arr_of hU (t := 1) (by omega) 0 (fun _ => .null)
  have h8 := zcs_eq st
  obtain ⟨vm', X', step⟩ := Xs.arraycopy hx hown (hts _ hlink) (hts _ hnat) (hts _ hstat) (hts _ hini) (src := q0) (dst := q1) (cs := vp_cell (D.2.2.1 1) (z_n M (q0 + 1), .inl (z_i M (q0 + 1)))) (cd := vp_cell (D.2.2.1 1) (z_n M (q1 + 1), .inl (z_i M (q1 + 1)))) (srcPos := sp) (destPos := dp) (n := z) (by rw [hT]; exact hc0) (by rw [hT]; exact hc1)
    (fun _ h => by cases h) (fun _ h => by cases h) (fun h => by cases h) (fun h => by cases h) hk0' hk0' hkk0 hkk0 (by simp [refKind, zat]) a1 a2 a3
    (by rw [nn sp a1, nn z a3]; show ¬ _ > ((arrV (D.2.2.1 1) (z_n M (q0 + 1)) (fun j => .int (z_i M (q0 + 1) j))).slots.size : Int); rw [arrV_size]; omega)
    (by rw [nn dp a2, nn z a3]; show ¬ _ > ((arrV (D.2.2.1 1) (z_n M (q1 + 1)) (fun j => .int (z_i M (q1 + 1) j))).slots.size : Int); rw [arrV_size]; omega)
    (fun vm₁ _ i hi => by
      have e : (vp_cell (D.2.2.1 1) (z_n M (q0 + 1), .inl (z_i M (q0 + 1)))).slots.getD (sp.toNatClampNeg + i) .null = .int (z_i M (q0 + 1) (sp.toNatClampNeg + i)) := by
        show (arrV (D.2.2.1 1) (z_n M (q0 + 1)) (fun j => .int (z_i M (q0 + 1) j))).slots.getD _ _ = _
        rw [Array.getD_eq_getD_getElem?, arrV_read _ _ (by omega)]
        rfl
      refine ⟨?_, ?_⟩
      · rw [e]
        exact f0 (sp.toNatClampNeg + i)
      · rw [e]
        exact trivial)
    (g := F0 m pc ls ((zI z :: zI dp :: zP (q1 + 1) :: zI sp :: zP (q0 + 1) :: st).map z_v)) rfl (by show ls.size = cd.maxLocals; rw [hl.1, hml]; exact hlv) (rest := st.map z_v) rfl (by rw [hb]; exact d) hR.1 (by show 2 * 0 + _ + _ ≤ _; omega)
  have e1 : copied (vp_cell (D.2.2.1 1) (z_n M (q0 + 1), .inl (z_i M (q0 + 1)))) (vp_cell (D.2.2.1 1) (z_n M (q1 + 1), .inl (z_i M (q1 + 1)))) sp dp z = vp_cell (D.2.2.1 1) (z_n M (q1 + 1), .inl (va_cpy (z_i M (q0 + 1)) (z_i M (q1 + 1)) sp.toNatClampNeg dp.toNatClampNeg z.toNatClampNeg)) := va_copied (fun w => .int w) (D.2.2.1 1) (D.2.2.1 1) (z_i M (q0 + 1)) (z_i M (q1 + 1)) a4
  rw [e1] at X' step
  have hlt : q1 < H.size := (Array.getElem?_eq_some_iff.mp hc1).1
  generalize hCe : vp_cell (D.2.2.1 1) (z_n M (q1 + 1), .inl (va_cpy (z_i M (q0 + 1)) (z_i M (q1 + 1)) sp.toNatClampNeg dp.toNatClampNeg z.toNatClampNeg)) = Ce at X' step
  have hheap : ((T.setVm vm').setCell q1 Ce).heap = H.setIfInBounds q1 Ce := by rw [← hT]; rfl
  have oq : ∀ q : Nat, q ≠ q1 → (H.setIfInBounds q1 Ce)[q]? = H[q]? := fun q hq => by simp [Array.getElem?_setIfInBounds, Ne.symm hq]
  have hself : ∀ j, z_v (z_a (w_c M (q1 + 1) dp.toNatClampNeg z.toNatClampNeg (fun j => z_i M (q0 + 1) (sp.toNatClampNeg + j))) 1 (q1 + 1) j) = .int (va_cpy (z_i M (q0 + 1)) (z_i M (q1 + 1)) sp.toNatClampNeg dp.toNatClampNeg z.toNatClampNeg j) := fun j => by
    show Value.int (z_i (w_c M (q1 + 1) dp.toNatClampNeg z.toNatClampNeg _) (q1 + 1) j) = _
    rw [w_c_i]
    by_cases hj : dp.toNatClampNeg ≤ j ∧ j < dp.toNatClampNeg + z.toNatClampNeg
    · rw [if_pos ⟨rfl, hj⟩]; simp only [va_cpy, if_pos hj]
    · rw [if_neg (fun w => hj w.2)]; simp only [va_cpy, if_neg hj]
  have hz : z_H D (w_c M (q1 + 1) dp.toNatClampNeg z.toNatClampNeg (fun j => z_i M (q0 + 1) (sp.toNatClampNeg + j))) (H.setIfInBounds q1 Ce) := by
    refine hH.whole (q := q1) (t := 1) hk1 (by omega) rfl rfl rfl rfl rfl (fun p' j hp => ?_) ?_ (fun j => ?_) (by simp) oq
    · rw [w_c_i, if_neg (fun w => hp w.1)]
    · rw [← hCe]
      simp only [Array.getElem?_setIfInBounds, if_pos, hlt]
      rw [vp_cell_i]
      congr 2
      funext j
      exact (hself j).symm
    · rw [hself j]
      by_cases hj : dp.toNatClampNeg ≤ j ∧ j < dp.toNatClampNeg + z.toNatClampNeg
      · simp only [va_cpy, if_pos hj]; exact f0 _
      · simp only [va_cpy, if_neg hj]; exact f1 j
  obtain ⟨t, g1, g2⟩ := kk _ _ ls hz ⟨by simp; exact hS.1, fun q h3 h4 => by
      rw [oq q (fun e => h4 (by rw [e]; exact hq1))]
      exact hS.2.1 q h3 h4, fun q hq => by
      rcases List.mem_append.mp hq with h | h
      · exact hS.2.2 q h
      · obtain ⟨w, -, hw'⟩ := List.mem_map.mp h
        rw [← hw']
        exact hq1⟩ hl _ hheap X'
  exact ⟨t, step t g1, g2⟩
end Copy
