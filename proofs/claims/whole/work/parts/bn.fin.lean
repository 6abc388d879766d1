/-! Both constructors: the memory after them is like a closed one, but for the known shares' ints. -/
def sK (b q : Nat) : Prop := (b + 98 ≤ q ∧ q ≤ b + 103) ∨ (b + 110 ≤ q ∧ q ≤ b + 115) ∨ (b + 122 ≤ q ∧ q ≤ b + 127)
def zQ (B D E M : zM) : Prop := zSt (sK (z_s B)) (sh B D) M ∧ z_p M = z_p (sh B D) ∧ z_j M = z_j (sh B D) ∧ ∀ q j, sK (z_s B) q → z_i M q j = z_i E q j
theorem zQ.p {B D E M : zM} {a p f v v' : Nat} (h : zQ B D E M) (ha : a = z_s B + p) (hp : 1 ≤ p) (hv : v = z_s B + v') (h1 : 1 ≤ v') : zQ B (w_p D p f v') E (w_p M a f v) := by
  obtain ⟨h2, h3, h4, h5⟩ := h
  have e : sh B (w_p D p f v') = w_p (sh B D) a f v := by rw [hv, ← sP_p (b := z_s B) h1, sh_wp B D ha hp]
  unfold zQ
  rw [e]
  have e2 : z_p (w_p M a f v) = z_p (w_p (sh B D) a f v) := funext fun q => funext fun j => by rw [w_p_p, w_p_p, h3]
  exact ⟨⟨h2.1, h2.2.1, h2.2.2.1, h2.2.2.2.1, h2.2.2.2.2.1, fun q j _ => by rw [e2]⟩, e2, h4, h5⟩
theorem zQ.i {B D E M : zM} {a p f : Nat} {x : Int32} (h : zQ B D E M) (ha : a = z_s B + p) (hp : 1 ≤ p) (hn : ¬ sK (z_s B) a) : zQ B (w_i D p f x) E (w_i M a f x) := by
  obtain ⟨h2, h3, h4, h5⟩ := h
  unfold zQ
  rw [← sh_wi B D ha hp]
  refine ⟨⟨h2.1, h2.2.1, h2.2.2.1, fun q j hq => ?_, h2.2.2.2.2.1, h2.2.2.2.2.2⟩, h3, h4, fun q j hq => ?_⟩
  · rw [w_i_i, w_i_i, h2.i hq]
  · have ne : ¬ (q = a ∧ j = f) := fun w => hn (by rw [← w.1]; exact hq)
    rw [w_i_ne M x ne]
    exact h5 q j hq
theorem zQ.j {B D E M : zM} {a p f : Nat} {x : Int64} (h : zQ B D E M) (ha : a = z_s B + p) (hp : 1 ≤ p) : zQ B (w_j D p f x) E (w_j M a f x) := by
  obtain ⟨h2, h3, h4, h5⟩ := h
  unfold zQ
  rw [← sh_wj B D ha hp]
  have e2 : z_j (w_j M a f x) = z_j (w_j (sh B D) a f x) := funext fun q => funext fun j => by rw [w_j_j, w_j_j, h4]
  exact ⟨⟨h2.1, h2.2.1, h2.2.2.1, h2.2.2.2.1, fun q j _ => by rw [e2], h2.2.2.2.2.2⟩, h3, e2, h5⟩
theorem zQ.a {B D E M : zM} {kd n : Nat} (h : zQ B D E M) (hs : 127 ≤ z_s D) : zQ B (w_a D kd n) E (w_a M kd n) := by
  obtain ⟨h2, h3, h4, h5⟩ := h
  have s1 : z_s M = z_s B + z_s D := h2.s
  unfold zQ
  rw [← sh_wa B D]
  refine ⟨⟨funext fun q => ?_, funext fun q => ?_, ?_, fun q j hq => ?_, fun q j hq => ?_, fun q j hq => ?_⟩, funext fun q => funext fun j => ?_, funext fun q => funext fun j => ?_, fun q j hq => ?_⟩
  · rw [w_a_k, w_a_k, h2.s, h2.k]
  · rw [w_a_n, w_a_n, h2.s, h2.n]
  · rw [w_a_s, w_a_s, h2.s]
  · rw [w_a_i, w_a_i, h2.s, h2.i hq]
  · rw [w_a_j, w_a_j, h2.s, h4]
  · rw [w_a_p, w_a_p, h2.s, h3]
  · rw [w_a_p, w_a_p, h2.s, h3]
  · rw [w_a_j, w_a_j, h2.s, h4]
  · unfold sK at hq
    rw [w_a_i, if_neg (by omega)]
    exact h5 q j hq
theorem zQ.A {B D E M : zM} {a p kd n f : Nat} (ha : a = z_s B + p) (hp : 1 ≤ p) (h : zQ B D E M ∧ 127 ≤ z_s D) : zQ B (kA D p kd n f) E (kA M a kd n f) ∧ 127 ≤ z_s (kA D p kd n f) :=
  ⟨(h.1.a h.2).p ha hp (show z_s M + 1 = z_s B + (z_s D + 1) by have s1 : z_s M = z_s B + z_s D := h.1.1.s; omega) (by omega), show 127 ≤ z_s D + 1 by omega⟩
theorem zQ.mo {B D E M : zM} {a p : Nat} (ha : a = z_s B + p) (hp : 1 ≤ p) (h : zQ B D E M ∧ 127 ≤ z_s D) : zQ B (kMo D p) E (kMo M a) := by
  unfold kMo
  exact (zQ.A ha hp (zQ.A ha hp (zQ.A ha hp (zQ.A ha hp (zQ.A ha hp (zQ.A ha hp (zQ.A ha hp (zQ.A ha hp (zQ.A ha hp (zQ.A ha hp (zQ.A ha hp (zQ.A ha hp (zQ.A ha hp (zQ.A ha hp (zQ.A ha hp (zQ.A ha hp (zQ.A ha hp (zQ.A ha hp (zQ.A ha hp (zQ.A ha hp (zQ.A ha hp (zQ.A ha hp (zQ.A ha hp (zQ.A ha hp h)))))))))))))))))))))))).1
/-! The three known shares -/
theorem y_ShS : ∀ k, k < 3 → zShS d_166 (98 + 12 * k) (kno k) (lst k) := by
  unfold zShS
  decide +kernel
theorem y_93 : ∀ k, k < 3 → z_p d_166 93 k = 98 + 12 * k := by decide +kernel
theorem k_pts {O : zO} {B : zM} (hO : zTabOk O) : ∃ E, zEv (fun n => f_Seq_tail O n (z_s B + 90) (sh B d_166)) ((), E) ∧ zQ B d_166 E E ∧ ∀ k, k < 3 → zTB E (z_s B + 98 + 12 * k) (kno k) (kn k) ∧ zShS E (z_s B + 98 + 12 * k) (kno k) (lst k) := by
  have P6 : z_p (sh B d_166) (z_s B + 90) 6 = z_s B + 93 := sh_q B d_166 (p := 90) (f' := 6) (v := 93) rfl (by decide) rfl (by decide +kernel) (by decide)
  have K90 : z_k (sh B d_166) (z_s B + 90) = 10 := (sh_k B d_166 rfl (by decide)).trans (by decide +kernel)
  have K93 : z_k (sh B d_166) (z_s B + 93) = 104 := (sh_k B d_166 rfl (by decide)).trans (by decide +kernel)
  have N93 : z_n (sh B d_166) (z_s B + 93) = 3 := (sh_n B d_166 rfl (by decide)).trans (by decide +kernel)
  have Pk : ∀ k, k < 3 → z_p (sh B d_166) (z_s B + 93) k = z_s B + 98 + 12 * k := fun k hk => (sh_q B d_166 (p := 93) (f' := k) (v := 98 + 12 * k) rfl (by decide) rfl (y_93 k hk) (by omega)).trans (by omega)
  have Sk : ∀ k, k < 3 → zShS (sh B d_166) (z_s B + 98 + 12 * k) (kno k) (lst k) := fun k hk => zShS_shf (p := 98 + 12 * k) (by omega) (by omega) (y_ShS k hk)
  have Kk : ∀ k, k < 3 → z_k (sh B d_166) (z_s B + 98 + 12 * k) = 11 := fun k hk => (Sk k hk).1
  generalize hS : sh B d_166 = S at *
  obtain ⟨M1, a1, a2, a3, a4, a5, a6⟩ := c_setPts (O := O) (x := O.2.2.2 (O.1 2) (0 : Int32).toNatClampNeg) hO (k := 0) (by decide) (G := kno 0) (by decide) (by decide) (t_v hO (j' := 0) (by decide) (by decide) (by decide) (by decide)) (Sk 0 (by decide))
  obtain ⟨M2, b1, b2, b3, b4, b5, b6⟩ := c_setPts (O := O) (x := O.2.2.2 (O.1 2) (1 : Int32).toNatClampNeg) (M := M1) hO (k := 1) (by decide) (G := kno 1) (by decide) (by decide) (t_v hO (j' := 1) (by decide) (by decide) (by decide) (by decide)) ((Sk 1 (by decide)).fr a3.k a3.n (fun f _ => by rw [a4]) (fun f _ => a3.i (by omega) f))
  obtain ⟨M3, c1, c2, c3, c4, c5, c6⟩ := c_setPts (O := O) (x := O.2.2.2 (O.1 2) (2 : Int32).toNatClampNeg) (M := M2) hO (k := 2) (by decide) (G := kno 2) (by decide) (by decide) (t_v hO (j' := 2) (by decide) (by decide) (by decide) (by decide)) ((Sk 2 (by decide)).fr (b3.k.trans a3.k) (b3.n.trans a3.n) (fun f _ => by rw [b4, a4]) (fun f _ => (b3.i (by omega) f).trans (a3.i (by omega) f)))
  have g3 : zSt (sK (z_s B)) S M3 := ((a3.mono (fun q hq => by unfold sK; omega)).tr (b3.mono (fun q hq => by unfold sK; omega))).tr (c3.mono (fun q hq => by unfold sK; omega))
  refine ⟨M3, ?_, ⟨by rw [hS]; exact g3, by rw [hS, c4, b4, a4], by rw [hS, c5, b5, a5], fun _ _ _ => rfl⟩, ?_⟩
  · have p1 : z_p M1 = z_p S := a4
    have p2 : z_p M2 = z_p S := b4.trans a4
    have k1 : z_k M1 = z_k S := a3.k
    have k2 : z_k M2 = z_k S := b3.k.trans a3.k
    have n1 : z_n M1 = z_n S := a3.n
    have n2 : z_n M2 = z_n S := b3.n.trans a3.n
    have i0 : (0 : Int32).toNatClampNeg = 0 := by decide
    have i1 : (1 : Int32).toNatClampNeg = 1 := by decide
    have i2 : (2 : Int32).toNatClampNeg = 2 := by decide
    unfold f_Seq_tail
    rw [P6]
    refine zEv.ip K93 (zEv.ip (by rw [N93]; decide) (zEv.ip (t_b hO (by decide)) (zEv.ip (t_z hO (by decide) (by decide)) ?_)))
    refine zEv.ip (by rw [i0, Pk 0 (by decide)]; exact Kk 0 (by decide)) (zEv.bind (a := ((), M1)) ?_ ?_)
    · rw [show z_p S (z_s B + 93) (0 : Int32).toNatClampNeg = z_s B + 98 + 12 * 0 by rw [i0]; exact Pk 0 (by decide)]
      exact a1
    dsimp only
    rw [p1, k1, n1, P6]
    refine zEv.ip K90 (zEv.ip K93 (zEv.ip (by rw [N93]; decide) (zEv.ip (t_b hO (by decide)) (zEv.ip (t_z hO (by decide) (by decide)) ?_))))
    refine zEv.ip (by rw [i1, Pk 1 (by decide)]; exact Kk 1 (by decide)) (zEv.bind (a := ((), M2)) ?_ ?_)
    · rw [show z_p S (z_s B + 93) (1 : Int32).toNatClampNeg = z_s B + 98 + 12 * 1 by rw [i1]; exact Pk 1 (by decide)]
      exact b1
    dsimp only
    rw [p2, k2, n2, P6]
    refine zEv.ip K90 (zEv.ip K93 (zEv.ip (by rw [N93]; decide) (zEv.ip (t_b hO (by decide)) (zEv.ip (t_z hO (by decide) (by decide)) ?_))))
    refine zEv.ip (by rw [i2, Pk 2 (by decide)]; exact Kk 2 (by decide)) (zEv.bind (a := ((), M3)) ?_ (zEv.some _))
    rw [show z_p S (z_s B + 93) (2 : Int32).toNatClampNeg = z_s B + 98 + 12 * 2 by rw [i2]; exact Pk 2 (by decide)]
    exact c1
  · have t0 : zTB M3 (z_s B + 98 + 12 * 0) (kno 0) (kn 0) ∧ zShS M3 (z_s B + 98 + 12 * 0) (kno 0) (lst 0) := ⟨(a2.st b3 (by omega) (by omega) (by omega) (by omega)).st c3 (by omega) (by omega) (by omega) (by omega), (a6.fr b3.k b3.n (fun f _ => by rw [b4]) (fun f _ => b3.i (by omega) f)).fr c3.k c3.n (fun f _ => by rw [c4]) (fun f _ => c3.i (by omega) f)⟩
    have t1 : zTB M3 (z_s B + 98 + 12 * 1) (kno 1) (kn 1) ∧ zShS M3 (z_s B + 98 + 12 * 1) (kno 1) (lst 1) := ⟨b2.st c3 (by omega) (by omega) (by omega) (by omega), b6.fr c3.k c3.n (fun f _ => by rw [c4]) (fun f _ => c3.i (by omega) f)⟩
    intro k hk
    rcases (by omega : k = 0 ∨ k = 1 ∨ k = 2) with rfl | rfl | rfl
    · exact t0
    · exact t1
    · exact ⟨c2, c6⟩
/-! The end -/
theorem l_FRt {O : zO} {E : zM} {a b : Nat} (hk : z_k E a = 5) : zEv (fun n => f_FR_tail O n a b ((), E)) ((), w_i (w_j (w_i (w_i (w_i (w_i (w_p E a 5 b) a 6 0) a 7 0) a 8 0) a 9 0) a 10 0) a 11 0) := by
  unfold f_FR_tail
  exact zEv.ip hk (zEv.zl (zEv.zl (zEv.zl (zEv.zl (zEv.zl (zEv.zl (zEv.zl (zEv.some _))))))))
theorem l_SFt {O : zO} {E : zM} {a b : Nat} (hk : z_k E a = 1) : zEv (fun n => f_SF_tail O n a b ((), E)) ((), w_p E a 5 b) := by
  unfold f_SF_tail
  exact zEv.ip hk (zEv.zl (zEv.some _))
def d_F : zM := w_p (w_i (w_j (w_i (w_i (w_i (w_i (w_p d_166 74 5 90) 74 6 0) 74 7 0) 74 8 0) 74 9 0) 74 10 0) 74 11 0) 1 5 74
def d_M : zM := kMo (w_a d_F 13 0) 134
theorem sh_0 (x0 : Nat) : w_a (zM0 x0) 1 0 = sh (zM0 x0) d_0 := by
  have e : sh (zM0 x0) zE0 = zM0 x0 := by
    refine z_ext (funext fun q => ?_) (funext fun q => ?_) (funext fun q => funext fun j => ?_) (funext fun q => funext fun j => ?_) (funext fun q => funext fun j => ?_) rfl
    · show (if q ≤ x0 then 0 else 0) = 0
      split <;> rfl
    · show (if q ≤ x0 then 0 else 0) = 0
      split <;> rfl
    · show (if q ≤ x0 then (0 : Int32) else 0) = 0
      split <;> rfl
    · show (if q ≤ x0 then (0 : Int64) else 0) = 0
      split <;> rfl
    · show (if q ≤ x0 then 0 else 0) = 0
      split <;> rfl
  rw [show d_0 = w_a zE0 1 0 from rfl, ← sh_wa, e]
theorem k_both {O : zO} {x0 : Nat} (hO : zTabOk O) : ∃ E0 E M, zEv (fun n => F_SF_init O n (x0 + 1) (w_a (zM0 x0) 1 0)) ((), E) ∧ z_s E = x0 + 133 ∧ zEv (fun n => F_Mo_init O n (x0 + 134) (w_a E 13 0)) ((), M) ∧ zQ (zM0 x0) d_M E0 M ∧ ∀ k, k < 3 → zTB E0 (x0 + 98 + 12 * k) (kno k) (kn k) ∧ zShS E0 (x0 + 98 + 12 * k) (kno k) (lst k) := by
  obtain ⟨E0, e1, e2, e3⟩ := k_pts (O := O) (B := zM0 x0) hO
  have n74 : ¬ sK (z_s (zM0 x0)) (z_s (zM0 x0) + 74) := by unfold sK; omega
  have kE : z_k E0 (z_s (zM0 x0) + 74) = 5 := by
    rw [e2.1.k, sh_k (zM0 x0) d_166 (p := 74) rfl (by decide)]
    decide +kernel
  have q1 : zQ (zM0 x0) (w_i (w_j (w_i (w_i (w_i (w_i (w_p d_166 74 5 90) 74 6 0) 74 7 0) 74 8 0) 74 9 0) 74 10 0) 74 11 0) E0 (w_i (w_j (w_i (w_i (w_i (w_i (w_p E0 (z_s (zM0 x0) + 74) 5 (z_s (zM0 x0) + 90)) (z_s (zM0 x0) + 74) 6 0) (z_s (zM0 x0) + 74) 7 0) (z_s (zM0 x0) + 74) 8 0) (z_s (zM0 x0) + 74) 9 0) (z_s (zM0 x0) + 74) 10 0) (z_s (zM0 x0) + 74) 11 0) :=
    ((((((e2.p (p := 74) (v' := 90) rfl (by decide) rfl (by decide)).i (p := 74) rfl (by decide) n74).i (p := 74) rfl (by decide) n74).i (p := 74) rfl (by decide) n74).i (p := 74) rfl (by decide) n74).j (p := 74) rfl (by decide)).i (p := 74) rfl (by decide) n74
  have kE2 : z_k (w_i (w_j (w_i (w_i (w_i (w_i (w_p E0 (z_s (zM0 x0) + 74) 5 (z_s (zM0 x0) + 90)) (z_s (zM0 x0) + 74) 6 0) (z_s (zM0 x0) + 74) 7 0) (z_s (zM0 x0) + 74) 8 0) (z_s (zM0 x0) + 74) 9 0) (z_s (zM0 x0) + 74) 10 0) (z_s (zM0 x0) + 74) 11 0) (z_s (zM0 x0) + 1) = 1 := by
    show z_k E0 (z_s (zM0 x0) + 1) = 1
    rw [e2.1.k, sh_k (zM0 x0) d_166 (p := 1) rfl (by decide)]
    decide +kernel
  have q2 := q1.p (p := 1) (f := 5) (v' := 74) rfl (by decide) rfl (by decide)
  have sF : z_s d_F = 133 := by decide +kernel
  have hF := k_SF (O := O) (B := zM0 x0) hO rfl e1 (l_FRt kE) (l_SFt kE2)
  generalize hE : w_p (w_i (w_j (w_i (w_i (w_i (w_i (w_p E0 (z_s (zM0 x0) + 74) 5 (z_s (zM0 x0) + 90)) (z_s (zM0 x0) + 74) 6 0) (z_s (zM0 x0) + 74) 7 0) (z_s (zM0 x0) + 74) 8 0) (z_s (zM0 x0) + 74) 9 0) (z_s (zM0 x0) + 74) 10 0) (z_s (zM0 x0) + 74) 11 0) (z_s (zM0 x0) + 1) 5 (z_s (zM0 x0) + 74) = E at hF q2
  have q3 : zQ (zM0 x0) d_F E0 E := q2
  have sE : z_s E = x0 + 133 := by
    rw [q3.1.s]
    show x0 + z_s d_F = x0 + 133
    rw [sF]
  have q4 : zQ (zM0 x0) (w_a d_F 13 0) E0 (w_a E 13 0) := q3.a (by rw [sF]; decide)
  have q5 : zQ (zM0 x0) d_M E0 (kMo (w_a E 13 0) (x0 + 134)) := zQ.mo (p := 134) rfl (by decide) ⟨q4, by rw [w_a_s, sF]; decide⟩
  refine ⟨E0, E, kMo (w_a E 13 0) (x0 + 134), ?_, sE, k_Mo ?_ ?_, q5, e3⟩
  · rw [sh_0]
    exact hF
  · rw [w_a_k, if_pos (by omega)]
  · rw [w_a_s]
    omega
