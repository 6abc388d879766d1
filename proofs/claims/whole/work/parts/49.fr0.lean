/-! What no method changes: kinds, lengths, how many cells; what lies outside a region that is closed under pointers; pointers that aren't the few that may change. -/
/-- the pointers that may change after an object is made, by kind and field -/
def zWr (kd f : Nat) : Bool := match kd with
  | 12 => decide (f = 0)
  | 11 => decide (f = 8)
  | 4 => decide (4 ≤ f)
  | 7 => decide (f = 5)
  | 104 => true
  | _ => false
def zCl (Rg : Nat → Prop) (M : zM) : Prop := ∀ p f, Rg p → Rg (z_p M p f)
def zFr (Rg : Nat → Prop) (M M' : zM) : Prop := z_k M' = z_k M ∧ z_n M' = z_n M ∧ z_s M' = z_s M ∧ (∀ p f, ¬ Rg p → z_i M' p f = z_i M p f ∧ z_j M' p f = z_j M p f ∧ z_p M' p f = z_p M p f) ∧ zCl Rg M' ∧ ∀ p f, zWr (z_k M p) f = false → z_p M' p f = z_p M p f
theorem zFr.rf {Rg : Nat → Prop} {M : zM} (h : zCl Rg M) : zFr Rg M M := ⟨rfl, rfl, rfl, fun _ _ _ => ⟨rfl, rfl, rfl⟩, h, fun _ _ _ => rfl⟩
theorem zFr.cl {Rg : Nat → Prop} {M M' : zM} (h : zFr Rg M M') : zCl Rg M' := h.2.2.2.2.1
theorem zFr.tr {Rg : Nat → Prop} {M M1 M2 : zM} (h : zFr Rg M M1) (h2 : zFr Rg M1 M2) : zFr Rg M M2 := by
  obtain ⟨a1, a2, a3, a4, a5, a6⟩ := h
  obtain ⟨b1, b2, b3, b4, b5, b6⟩ := h2
  refine ⟨b1.trans a1, b2.trans a2, b3.trans a3, fun p f hp => ?_, b5, fun p f hw => ?_⟩
  · obtain ⟨c1, c2, c3⟩ := a4 p f hp
    obtain ⟨d1, d2, d3⟩ := b4 p f hp
    exact ⟨d1.trans c1, d2.trans c2, d3.trans c3⟩
  · rw [b6 p f (by rw [a1]; exact hw)]; exact a6 p f hw
theorem zFr.i {Rg : Nat → Prop} {M M1 M2 : zM} {p k : Nat} {x : Int32} (h : zFr Rg M M1) (hp : Rg p) (e : M2 = w_i M1 p k x) : zFr Rg M M2 := by
  subst e
  refine h.tr ⟨rfl, rfl, rfl, fun q f hq => ⟨?_, rfl, rfl⟩, h.cl, fun _ _ _ => rfl⟩
  rw [w_i_i, if_neg (fun w => hq (by rw [w.1]; exact hp))]
theorem zFr.j {Rg : Nat → Prop} {M M1 M2 : zM} {p k : Nat} {x : Int64} (h : zFr Rg M M1) (hp : Rg p) (e : M2 = w_j M1 p k x) : zFr Rg M M2 := by
  subst e
  refine h.tr ⟨rfl, rfl, rfl, fun q f hq => ⟨rfl, ?_, rfl⟩, h.cl, fun _ _ _ => rfl⟩
  rw [w_j_j, if_neg (fun w => hq (by rw [w.1]; exact hp))]
theorem zFr.p {Rg : Nat → Prop} {M M1 M2 : zM} {p k x : Nat} (h : zFr Rg M M1) (hp : Rg p) (hx : Rg x) (hw : zWr (z_k M1 p) k = true) (e : M2 = w_p M1 p k x) : zFr Rg M M2 := by
  subst e
  refine h.tr ⟨rfl, rfl, rfl, fun q f hq => ⟨rfl, rfl, ?_⟩, fun q f hq => ?_, fun q f hq => ?_⟩
  · rw [w_p_p, if_neg (fun w => hq (by rw [w.1]; exact hp))]
  · rw [w_p_p]
    by_cases c : q = p ∧ f = k
    · rw [if_pos c]; exact hx
    · rw [if_neg c]; exact h.cl q f hq
  · rw [w_p_p, if_neg]
    rintro ⟨rfl, rfl⟩
    rw [hw] at hq
    cases hq
theorem zFr.c {Rg : Nat → Prop} {M M1 M2 : zM} {p a n : Nat} {f : Nat → Int32} (h : zFr Rg M M1) (hp : Rg p) (e : M2 = w_c M1 p a n f) : zFr Rg M M2 := by
  subst e
  refine h.tr ⟨rfl, rfl, rfl, fun q j hq => ⟨?_, rfl, rfl⟩, h.cl, fun _ _ _ => rfl⟩
  rw [w_c_i, if_neg (fun w => hq (by rw [w.1]; exact hp))]
