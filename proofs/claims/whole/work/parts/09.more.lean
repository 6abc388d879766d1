/-! Rows that take the receiver's kind; small facts for what is stored. -/
theorem z_nr {ty : FieldType} (h : zkind ty = 2) (p : Nat) : narrow ty (z_v (zP p)) = z_v (zP p) ∧ fits ty (z_v (zP p)) = true := by
  cases ty <;> first | (simp [zkind] at h; done) | (cases p <;> exact ⟨rfl, rfl⟩)
theorem z_nb {x : Int32} (h : x = 0 ∨ x = 1) : narrow .boolean (.int x) = .int x ∧ fits .boolean (.int x) = true := by
  rcases h with rfl | rfl <;> exact ⟨rfl, rfl⟩
section More
variable {X : zX} {own : String} {cc : ByteArray} {nL : Nat} {rm : Room} {n k pc : Nat} {lv lv' : List (Option zV)} {st stk : List zV} {M M' : zM} {i : zMi} {r : Option zV} {as : List zV} {idx na : Nat}
theorem z_suc (c : Nat) {p : Nat} {q : vw_C} (hc : z_cl[c]? = some q) (hk : z_k M p = c + 1) (kk : ∀ p', p = p' + 1 → zW X n k pc lv stk M) : zW X n k pc lv stk M := by
  obtain ⟨pr, l, e, R, s, m, args, below, meth, cd, Q, D⟩ := X
  intro H locs ls hH hS hl
  obtain ⟨b, hb, -⟩ := hH.2.2.1 _ _ _ hk hc
  exact kk b hb H locs ls hH hS hl
theorem r_objK (C : zC X own cc nL rm) (c : Nat) {p : Nat} {q : vw_C} (hc : z_cl[c]? = some q) (hk : z_k M p = c + 1) (d : decode cc pc = .ok (.invokespecial idx, 3)) (hlk : Cond.methodLink own idx objectInit ∈ zB) (hi : Cond.instanceMethod objectInit ∈ zB) (hcd : Cond.code objectInit ⟨#[0xb1]⟩ 1 none ∈ zB) (hlv : lv.length = nL) (hw : zcs st ≤ 8) (hR : 1 ≤ rm.frames ∧ 20 ≤ rm.locals) (kk : zW X n k (pc + 3) lv st M) : zW X n k pc lv (zP p :: st) M :=
  z_suc c hc hk fun p' hp => by subst hp; exact r_obj C d hlk hi hcd hlv hw hR kk
theorem r_invIK (C : zC X own cc nL rm) (c : Nat) {p : Nat} {q : vw_C} (hc : z_cl[c]? = some q) (hk : z_k M p = c + 1) (hm : zMet (zLl X) (zDD X) i (zP p :: as) M r M') (d : decode cc pc = .ok (.invokespecial idx, 3)) (ok : zOk i na) (hnm : i.1.name = "<init>") (hrt : i.2.2.2.1 = none) (hi : Cond.instanceMethod i.1 ∈ zB) (hlk : Cond.methodLink own idx i.1 ∈ zB) (ha : as.length = na) (hs : stk = as.reverse ++ zP p :: st) (hlv : lv.length = nL)
    (hw : zcs st ≤ 8) (hR : i.2.2.2.2.frames + 1 ≤ rm.frames ∧ 8 + (i.2.2.1 + 11) + i.2.2.2.2.locals ≤ rm.locals) (hroom : n + i.2.2.2.2.cells ≤ rm.cells ∧ k + i.2.2.2.2.slots ≤ rm.slots) (kk : zW X (n + i.2.2.2.2.cells) (k + i.2.2.2.2.slots) (pc + 3) lv (r.toList ++ st) M') : zW X n k pc lv stk M :=
  z_suc c hc hk fun p' hp => by subst hp; exact r_invI C hm d ok hnm hrt hi hlk ha hs hlv hw hR hroom kk
theorem r_invNK (C : zC X own cc nL rm) (c : Nat) {p : Nat} {q : vw_C} {host : String} (hc : z_cl[c]? = some q) (hk : z_k M p = c + 1) (hm : zMet (zLl X) (zDD X) i (zP p :: as) M r M') (d : decode cc pc = .ok (.invokespecial idx, 3)) (ok : zOk i na) (hnm : i.1.name = "<init>") (hrt : i.2.2.2.1 = none) (hi : Cond.instanceMethod i.1 ∈ zB) (hlk : (own, idx, i.1, host) ∈ zNM) (ha : as.length = na) (hs : stk = as.reverse ++ zP p :: st) (hlv : lv.length = nL)
    (hw : zcs st ≤ 8) (hR : i.2.2.2.2.frames + 1 ≤ rm.frames ∧ 8 + (i.2.2.1 + 11) + i.2.2.2.2.locals ≤ rm.locals) (hroom : n + i.2.2.2.2.cells ≤ rm.cells ∧ k + i.2.2.2.2.slots ≤ rm.slots) (kk : zW X (n + i.2.2.2.2.cells) (k + i.2.2.2.2.slots) (pc + 3) lv (r.toList ++ st) M') : zW X n k pc lv stk M :=
  z_suc c hc hk fun p' hp => by subst hp; exact r_invN C hm d ok hnm hrt hi hlk ha hs hlv hw hR hroom kk
theorem r_putI (C : zC X own cc nL rm) {p idx c f : Nat} {x : Int32} {M1 : zM} (d : decode cc pc = .ok (.putfield idx, 3)) (lk : zLp own idx c f) (ht : zty c f = .int) (hk : z_k M p = c + 1) (hM : M1 = w_i M p f x) (kk : zW X n k (pc + 3) lv st M1) : zW X n k pc lv (zI x :: zP p :: st) M :=
  r_put (v := zI x) C d lk (by rw [ht]; rfl) (by rw [ht]; rfl) (by rw [ht]; rfl) hk hM kk
theorem r_putZ (C : zC X own cc nL rm) {p idx c f : Nat} {x : Int32} {M1 : zM} (d : decode cc pc = .ok (.putfield idx, 3)) (lk : zLp own idx c f) (ht : zty c f = .boolean) (hb : x = 0 ∨ x = 1) (hk : z_k M p = c + 1) (hM : M1 = w_i M p f x) (kk : zW X n k (pc + 3) lv st M1) : zW X n k pc lv (zI x :: zP p :: st) M :=
  r_put (v := zI x) C d lk (by rw [ht]; rfl) (by rw [ht]; exact (z_nb hb).1) (by rw [ht]; exact (z_nb hb).2) hk hM kk
theorem r_putL (C : zC X own cc nL rm) {p idx c f : Nat} {x : Int64} {M1 : zM} (d : decode cc pc = .ok (.putfield idx, 3)) (lk : zLp own idx c f) (ht : zty c f = .long) (hk : z_k M p = c + 1) (hM : M1 = w_j M p f x) (kk : zW X n k (pc + 3) lv st M1) : zW X n k pc lv (zL x :: zP p :: st) M :=
  r_put (v := zL x) C d lk (by rw [ht]; rfl) (by rw [ht]; rfl) (by rw [ht]; rfl) hk hM kk
theorem r_putP (C : zC X own cc nL rm) {p idx c f : Nat} {x : Nat} {M1 : zM} (d : decode cc pc = .ok (.putfield idx, 3)) (lk : zLp own idx c f) (ht : zkind (zty c f) = 2) (hk : z_k M p = c + 1) (hM : M1 = w_p M p f x) (kk : zW X n k (pc + 3) lv st M1) : zW X n k pc lv (zP x :: zP p :: st) M :=
  r_put (v := zP x) C d lk (by rw [ht]; rfl) (z_nr ht x).1 (z_nr ht x).2 hk hM kk
theorem r_putFI (C : zC X own cc nL rm) (hin : zIn X) {p idx c f : Nat} {x : Int32} {M1 : zM} (d : decode cc pc = .ok (.putfield idx, 3)) (lk : zLf own idx c f) (ht : zty c f = .int) (hk : z_k M p = c + 1) (hM : M1 = w_i M p f x) (kk : zW X n k (pc + 3) lv st M1) : zW X n k pc lv (zI x :: zP p :: st) M :=
  r_putF (v := zI x) C hin d lk (by rw [ht]; rfl) (by rw [ht]; rfl) (by rw [ht]; rfl) hk hM kk
theorem r_putFP (C : zC X own cc nL rm) (hin : zIn X) {p idx c f : Nat} {x : Nat} {M1 : zM} (d : decode cc pc = .ok (.putfield idx, 3)) (lk : zLf own idx c f) (ht : zkind (zty c f) = 2) (hk : z_k M p = c + 1) (hM : M1 = w_p M p f x) (kk : zW X n k (pc + 3) lv st M1) : zW X n k pc lv (zP x :: zP p :: st) M :=
  r_putF (v := zP x) C hin d lk (by rw [ht]; rfl) (z_nr ht x).1 (z_nr ht x).2 hk hM kk
theorem r_iretI (C : zC X own cc nL rm) {x : Int32} {mc ms : Nat} (E : zE X (some (zI x)) M mc ms) (hr : zRt X (some .int)) (d : decode cc pc = .ok (.ireturn, 1)) (hn : n ≤ mc) (hk : k ≤ ms) : zW X n k pc lv [zI x] M := r_iret C E hr d rfl hn hk
theorem r_iretZ (C : zC X own cc nL rm) {x : Int32} {mc ms : Nat} (E : zE X (some (zI x)) M mc ms) (hr : zRt X (some .boolean)) (d : decode cc pc = .ok (.ireturn, 1)) (hb : x = 0 ∨ x = 1) (hn : n ≤ mc) (hk : k ≤ ms) : zW X n k pc lv [zI x] M := r_iret C E hr d (z_nb hb).1 hn hk
end More
/-- what is known of kinds goes on over a write -/
theorem k_i {M M1 : zM} {p f q c : Nat} {x : Int32} (e : M1 = w_i M p f x) (h : z_k M q = c) : z_k M1 q = c := by rw [e, w_i_k]; exact h
theorem k_j {M M1 : zM} {p f q c : Nat} {x : Int64} (e : M1 = w_j M p f x) (h : z_k M q = c) : z_k M1 q = c := by rw [e, w_j_k]; exact h
theorem k_p {M M1 : zM} {p f q c : Nat} {x : Nat} (e : M1 = w_p M p f x) (h : z_k M q = c) : z_k M1 q = c := by rw [e, w_p_k]; exact h
theorem k_a {M M1 : zM} {kd len : Nat} (e : M1 = w_a M kd len) : z_k M1 (z_s M + 1) = kd := by rw [e, w_a_k, if_pos rfl]
theorem z_res {α : Type} {a b : α × zM} (h : some a = some b) : a = b := Option.some.inj h
