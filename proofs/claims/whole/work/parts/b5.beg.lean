/-! The beginning of a frame: what the dictionary gives, both sides. -/
abbrev dkT := Nat × (Nat → Nat) × (Nat → Nat) × (Nat → Nat → Nat) × (Nat × Nat × Nat)
def zD3 (d : Nat × Nat × Nat) : Prop := 1 ≤ d.1 ∧ d.1 < 4294967296 ∧ 1 ≤ d.2.1 ∧ d.2.1 < 4294967296 ∧ 1 ≤ d.2.2 ∧ d.2.2 < 4294967296
def dkOk (dd : Option dkT) : Prop := match dd with
  | none => True
  | some (t, w, o, u, d) => zCW t w ∧ (∀ k, k < 3 → zSh (o k) (lst k) (u k) ∧ o k ≤ gr k) ∧ zD3 d
/-- the class's dictionary -/
def zDC (M : zM) (X id : Nat) (dd : Option dkT) : Prop := z_j M (X + 5) 2 = lN id ∧ ∃ e, e < 2 ∧ z_p M (X + 5) 4 = X + 9 + 11 * e ∧ z_p M (X + 5) 6 = X + 20 - 11 * e ∧ z_p M (X + 5) 5 = X + 31 + e ∧ z_p M (X + 5) 7 = X + 32 - e ∧ match dd with
  | none => z_i M (X + 5) 3 = nI 0
  | some (t, w, o, u, d) => z_i M (X + 5) 3 = nI 1 ∧ zCd M (X + 9 + 11 * e) t w ∧ (∀ k, k < 3 → zTB M (X + 33 + 6 * e + 12 * k) (o k) (u k)) ∧ zLt M (X + 8) d
/-- the reference's dictionary -/
def zDM (M : zM) (m id : Nat) (dd : Option dkT) : Prop := z_i M m 6 = nI id ∧ match dd with
  | none => z_i M m 7 = nI 0
  | some (t, w, o, u, d) => z_i M m 7 = nI 1 ∧ (∀ s, s < 256 → z_i M (m + 4) s = nI (lnS t w s)) ∧ (∀ k, k < 3 → z_i M (m + 6) k = nI (o k) ∧ ∀ s, s < 64 → z_i M (m + 5) (64 * k + s) = nI (u k s) - 1) ∧ zLt M (m + 7) d
def hcO (dd : Option dkT) : Option (Nat × (Nat → Nat)) := match dd with
  | none => none
  | some (t, w, _, _, _) => some (t, w)
def tbO (dd : Option dkT) (k : Nat) : Option tbT := match dd with
  | none => none
  | some (_, _, o, u, _) => some (o k, tS (o k) (u k), bS (o k) (u k), eS (o k) (u k))
def ltO (dd : Option dkT) : Nat × Nat × Nat := match dd with
  | none => (1, 4, 8)
  | some (_, _, _, _, d) => d
theorem ltO_ok {dd : Option dkT} (h : dkOk dd) : zD3 (ltO dd) := by
  cases dd with
  | none => exact ⟨by decide, by decide, by decide, by decide, by decide, by decide⟩
  | some q => exact h.2.2
theorem zDC.st {S : Nat → Prop} {M M1 : zM} {X id : Nat} {dd : Option dkT} (h : zDC M X id dd) (g : zSt S M M1) (hS : ∀ q, X + 5 ≤ q → q ≤ X + 68 → ¬ S q) : zDC M1 X id dd := by
  obtain ⟨h1, e, h2, h3, h4, h5, h6, h7⟩ := h
  have s5 := hS (X + 5) (by omega) (by omega)
  refine ⟨(g.j s5 2).trans h1, e, h2, (g.p s5 4).trans h3, (g.p s5 6).trans h4, (g.p s5 5).trans h5, (g.p s5 7).trans h6, ?_⟩
  cases dd with
  | none => exact (g.i s5 3).trans h7
  | some q =>
    obtain ⟨t, w, o, u, d⟩ := q
    obtain ⟨i1, i2, i3, i4⟩ := h7
    exact ⟨(g.i s5 3).trans i1, i2.st g (hS _ (by omega) (by omega)) (hS _ (by omega) (by omega)) (hS _ (by omega) (by omega)), fun k hk => (i3 k hk).st g (hS _ (by omega) (by omega)) (hS _ (by omega) (by omega)) (hS _ (by omega) (by omega)) (hS _ (by omega) (by omega)), i4.st g (hS _ (by omega) (by omega))⟩
theorem zDM.rf {F S : Nat → Prop} {M M1 : zM} {m id : Nat} {dd : Option dkT} (h : zDM M m id dd) (g : zRf F S m M M1) (h6 : ¬ F 6) (h7 : ¬ F 7) (hS : ∀ q, m + 4 ≤ q → q ≤ m + 7 → ¬ S q) : zDM M1 m id dd := by
  obtain ⟨h1, h2⟩ := h
  refine ⟨(g.f h6).trans h1, ?_⟩
  cases dd with
  | none => exact (g.f h7).trans h2
  | some q =>
    obtain ⟨t, w, o, u, d⟩ := q
    obtain ⟨i1, i2, i3, i4⟩ := h2
    exact ⟨(g.f h7).trans i1, fun s hs => (g.i (by omega) (hS _ (by omega) (by omega)) s).trans (i2 s hs), fun k hk => ⟨(g.i (by omega) (hS _ (by omega) (by omega)) k).trans (i3 k hk).1, fun s hs => (g.i (by omega) (hS _ (by omega) (by omega)) _).trans ((i3 k hk).2 s hs)⟩, i4.rf g (by omega) (hS _ (by omega) (by omega))⟩
set_option maxRecDepth 100000 in
set_option maxHeartbeats 4000000 in
theorem c_LitStart {O : zO} {M : zM} {X id : Nat} {dd : Option dkT} (hx : zSF M X) (hk : dkOk dd) (hd : zDC M X id dd) : ∃ M', zEv (fun n => F_Lit_startFrame O n (X + 74) (X + 5) M) ((), M') ∧ zSt (fun q => q = X + 74) M M' ∧ zKp X M M' ∧ zHc M' X (hcO dd) := by
  obtain ⟨-, e, h2, h3, -, -, -, h7⟩ := hd
  have k74 := hx.k74
  have k5 := hx.k5
  have tl : z_i M (X + 5) 3 = nI 0 ∨ z_i M (X + 5) 3 = nI 1 := by
    cases dd with
    | none => exact Or.inl h7
    | some q => exact Or.inr h7.1
  have st : zSt (fun q => q = X + 74) M (w_i (w_p M (X + 74) 5 (X + 9 + 11 * e)) (X + 74) 6 (z_i M (X + 5) 3)) := (zSt.rf.wp (by exact rfl)).wi (by exact rfl)
  have kp : zKp X M (w_i (w_p M (X + 74) 5 (X + 9 + 11 * e)) (X + 74) 6 (z_i M (X + 5) 3)) := (zKp.rf.wp (by unfold zPf; rw [k74]; simp [pf])).wi (Or.inr (by omega))
  refine ⟨_, ?_, st, kp, ?_⟩
  · refine (zEv.some _).to fun n => ?_
    unfold F_Lit_startFrame f_Lit_startFrame_0
    rw [if_pos k5, if_pos k74, h3]
    simp only [zlet]
    rw [if_pos (show z_i (w_p M (X + 74) 5 (X + 9 + 11 * e)) (X + 5) 3 = 0 ∨ z_i (w_p M (X + 74) 5 (X + 9 + 11 * e)) (X + 5) 3 = 1 from tl)]
    rfl
  · have h6 : z_i (w_i (w_p M (X + 74) 5 (X + 9 + 11 * e)) (X + 74) 6 (z_i M (X + 5) 3)) (X + 74) 6 = z_i M (X + 5) 3 := w_i_eq _ _ _ _
    cases dd with
    | none => exact h6.trans h7
    | some q =>
      obtain ⟨t, w, o, u, d⟩ := q
      refine ⟨h6.trans h7.1, hk.1, X + 9 + 11 * e, by omega, ?_, h7.2.1.st st (by omega) (by omega) (by omega)⟩
      show z_p (w_p M (X + 74) 5 (X + 9 + 11 * e)) (X + 74) 5 = _
      simp (disch := omega) only [zlet, w_i_k, w_i_n, w_i_i, w_i_j, w_i_p, w_i_s, w_j_k, w_j_n, w_j_i, w_j_j, w_j_p, w_j_s, w_p_k, w_p_n, w_p_i, w_p_j, w_p_p, w_p_s, w_c_k, w_c_n, w_c_i, w_c_j, w_c_p, w_c_s, w_u_k, w_u_n, w_u_i, w_u_j, w_u_p, w_u_s, q_nf, ↓reduceIte, if_true, if_false, eq_self, and_true, true_and, and_false, false_and, Option.bind_some, ne_eq, not_false_eq_true, not_true_eq_false]
theorem l_sk {M : zM} {X e : Nat} (hx : zSF M X) (he : e < 2) : z_k M (X + 31 + e) = 104 ∧ z_n M (X + 31 + e) = 3 ∧ ∀ k, k < 3 → z_p M (X + 31 + e) k = X + 33 + 6 * e + 12 * k := by
  rcases (show e = 0 ∨ e = 1 by omega) with h | h
  · subst h
    refine ⟨hx.k31, hx.n31, fun k hk => ?_⟩
    rcases (show k = 0 ∨ k = 1 ∨ k = 2 by omega) with h | h | h
    · subst h; exact hx.p31_0
    · subst h; exact hx.p31_1
    · subst h; exact hx.p31_2
  · subst h
    refine ⟨hx.k32, hx.n32, fun k hk => ?_⟩
    rcases (show k = 0 ∨ k = 1 ∨ k = 2 by omega) with h | h | h
    · subst h; exact hx.p32_0
    · subst h; exact hx.p32_1
    · subst h; exact hx.p32_2
theorem l_skk {M : zM} {X e k : Nat} (hx : zSF M X) (he : e < 2) (hk : k < 3) : zShS M (X + 33 + 6 * e + 12 * k) (gr k) (lst k) := by
  rcases (show e = 0 ∨ e = 1 by omega) with h | h
  · subst h; exact (hx.sh k hk).1
  · subst h; exact (hx.sh k hk).2.1
set_option maxRecDepth 100000 in
set_option maxHeartbeats 4000000 in
theorem c_SeqStart {O : zO} {M : zM} {X id : Nat} {dd : Option dkT} (hx : zSF M X) (hk : dkOk dd) (hd : zDC M X id dd) : ∃ M', zEv (fun n => F_Seq_startFrame O n (X + 89) (X + 5) M) ((), M') ∧ zSt (fun q => q = X + 94 ∨ q = X + 95 ∨ q = X + 91) M M' ∧ zKp X M M' ∧ (∀ k, k < 3 → zTC M' X k (tbO dd k)) ∧ zLt M' (X + 91) (ltO dd) := by
  have hd0 := hd
  obtain ⟨-, e, h2, -, -, h5, -, h7⟩ := hd
  obtain ⟨s1, s2, s3⟩ := l_sk hx h2
  have tl : z_i M (X + 5) 3 = nI 0 ∨ z_i M (X + 5) 3 = nI 1 := by
    cases dd with
    | none => exact Or.inl h7
    | some q => exact Or.inr h7.1
  generalize ht : z_i M (X + 5) 3 = tv at tl
  have step : ∀ {N : zM} {k : Nat}, k < 3 → zSt (fun q => q = X + 94 ∨ q = X + 95) M N → zKp X M N → ∀ α, zEv (fun n => f_Seq_startFrame_2 O n (X + 89) (X + 5) (nI (k + 1)) (w_i (w_p N (X + 94) k (X + 33 + 6 * e + 12 * k)) (X + 95) k tv)) α → zEv (fun n => f_Seq_startFrame_2 O n (X + 89) (X + 5) (nI k) N) α := fun {N k} hk st kp α hα => by
    have y := hx.kp kp
    have k89 := y.k89
    have k5 := y.k5
    have k94 := y.k94
    have n94 := y.n94
    have k95 := y.k95
    have n95 := y.n95
    have p8 := y.p89_8
    have p9 := y.p89_9
    have q5 : z_p N (X + 5) 5 = X + 31 + e := (st.p (by omega) 5).trans h5
    obtain ⟨u1, u2, u3⟩ := l_sk y h2
    have u3k := u3 k hk
    have u4 := (l_skk y h2 hk).1
    have q3 : z_i N (X + 5) 3 = tv := (st.i (by omega) 3).trans ht
    have zi : zin (nI k) 3 = true := by rcases (show k = 0 ∨ k = 1 ∨ k = 2 by omega) with h | h | h <;> subst h <;> rfl
    have ck : (nI k).toNatClampNeg = k := nI_cl (by omega)
    refine zEv.succ ?_
    simp only [f_Seq_startFrame_2]
    refine zEv.in_ (fun w => by have := (nI_leI (a := 3) (by omega) (by omega)).mp w; omega) (zEv.ip k89 (zEv.ip k5 ?_))
    rw [q5, p8, ck, u3k]
    refine zEv.ip u1 (zEv.ip (by rw [u2]; exact zi) (zEv.ip k94 (zEv.ip (by rw [n94]; exact zi) (zEv.ip u4 (zEv.zl ?_)))))
    have e9 : z_p (w_p N (X + 94) k (X + 33 + 6 * e + 12 * k)) (X + 89) 9 = X + 95 := by simp (disch := omega) only [zlet, w_i_k, w_i_n, w_i_i, w_i_j, w_i_p, w_i_s, w_j_k, w_j_n, w_j_i, w_j_j, w_j_p, w_j_s, w_p_k, w_p_n, w_p_i, w_p_j, w_p_p, w_p_s, w_c_k, w_c_n, w_c_i, w_c_j, w_c_p, w_c_s, w_u_k, w_u_n, w_u_i, w_u_j, w_u_p, w_u_s, q_nf, ↓reduceIte, if_true, if_false, eq_self, and_true, true_and, and_false, false_and, Option.bind_some, ne_eq, not_false_eq_true, not_true_eq_false]; exact p9
    rw [e9]
    refine zEv.ip k95 (zEv.ip (show zin (nI k) (z_n N (X + 95)) = true by rw [n95]; exact zi) (zEv.ip (show z_i N (X + 5) 3 = 0 ∨ z_i N (X + 5) 3 = 1 by rw [q3]; exact tl) (zEv.zl (zEv.zl ?_))))
    refine hα.to fun n => ?_
    show f_Seq_startFrame_2 O n (X + 89) (X + 5) (nI k + nI 1) (w_i (w_p N (X + 94) k (X + 33 + 6 * e + 12 * k)) (X + 95) k (z_i N (X + 5) 3)) = _
    rw [nI_add, q3]
  have k94 := hx.k94
  have nx : ∀ {N : zM} {k : Nat}, zSt (fun q => q = X + 94 ∨ q = X + 95) M N → zKp X M N → zSt (fun q => q = X + 94 ∨ q = X + 95) M (w_i (w_p N (X + 94) k (X + 33 + 6 * e + 12 * k)) (X + 95) k tv) ∧ zKp X M (w_i (w_p N (X + 94) k (X + 33 + 6 * e + 12 * k)) (X + 95) k tv) := fun {N k} st kp => by
    have k94 := (hx.kp kp).k94
    have k95 := (hx.kp kp).k95
    exact ⟨(st.wp (Or.inl rfl)).wi (Or.inr rfl), (kp.wp (by unfold zPf; rw [k94]; simp [pf])).wi (Or.inl (show z_k N (X + 95) ≠ 11 by rw [k95]; omega))⟩
  obtain ⟨a1, b1⟩ := nx (k := 0) (zSt.rf (M := M)) zKp.rf
  obtain ⟨a2, b2⟩ := nx (k := 1) a1 b1
  obtain ⟨a3, b3⟩ := nx (k := 2) a2 b2
  have go : ∀ α, zEv (fun n => f_Seq_startFrame_2 O n (X + 89) (X + 5) (nI 3) (w_i (w_p (w_i (w_p (w_i (w_p M (X + 94) 0 (X + 33 + 6 * e + 12 * 0)) (X + 95) 0 tv) (X + 94) 1 (X + 33 + 6 * e + 12 * 1)) (X + 95) 1 tv) (X + 94) 2 (X + 33 + 6 * e + 12 * 2)) (X + 95) 2 tv)) α → zEv (fun n => F_Seq_startFrame O n (X + 89) (X + 5) M) α := fun α hα => step (k := 0) (by omega) zSt.rf zKp.rf α (step (k := 1) (by omega) a1 b1 α (step (k := 2) (by omega) a2 b2 α hα))
  have fl : ∀ k, k < 3 → z_p (w_i (w_p (w_i (w_p (w_i (w_p M (X + 94) 0 (X + 33 + 6 * e + 12 * 0)) (X + 95) 0 tv) (X + 94) 1 (X + 33 + 6 * e + 12 * 1)) (X + 95) 1 tv) (X + 94) 2 (X + 33 + 6 * e + 12 * 2)) (X + 95) 2 tv) (X + 94) k = X + 33 + 6 * e + 12 * k ∧ z_i (w_i (w_p (w_i (w_p (w_i (w_p M (X + 94) 0 (X + 33 + 6 * e + 12 * 0)) (X + 95) 0 tv) (X + 94) 1 (X + 33 + 6 * e + 12 * 1)) (X + 95) 1 tv) (X + 94) 2 (X + 33 + 6 * e + 12 * 2)) (X + 95) 2 tv) (X + 95) k = tv := fun k hk => by
    rcases (show k = 0 ∨ k = 1 ∨ k = 2 by omega) with h | h | h
    · subst h; constructor <;> simp (disch := omega) only [zlet, w_i_k, w_i_n, w_i_i, w_i_j, w_i_p, w_i_s, w_j_k, w_j_n, w_j_i, w_j_j, w_j_p, w_j_s, w_p_k, w_p_n, w_p_i, w_p_j, w_p_p, w_p_s, w_c_k, w_c_n, w_c_i, w_c_j, w_c_p, w_c_s, w_u_k, w_u_n, w_u_i, w_u_j, w_u_p, w_u_s, q_nf, ↓reduceIte, if_true, if_false, eq_self, and_true, true_and, and_false, false_and, Option.bind_some, ne_eq, not_false_eq_true, not_true_eq_false]
    · subst h; constructor <;> simp (disch := omega) only [zlet, w_i_k, w_i_n, w_i_i, w_i_j, w_i_p, w_i_s, w_j_k, w_j_n, w_j_i, w_j_j, w_j_p, w_j_s, w_p_k, w_p_n, w_p_i, w_p_j, w_p_p, w_p_s, w_c_k, w_c_n, w_c_i, w_c_j, w_c_p, w_c_s, w_u_k, w_u_n, w_u_i, w_u_j, w_u_p, w_u_s, q_nf, ↓reduceIte, if_true, if_false, eq_self, and_true, true_and, and_false, false_and, Option.bind_some, ne_eq, not_false_eq_true, not_true_eq_false]
    · subst h; constructor <;> simp (disch := omega) only [zlet, w_i_k, w_i_n, w_i_i, w_i_j, w_i_p, w_i_s, w_j_k, w_j_n, w_j_i, w_j_j, w_j_p, w_j_s, w_p_k, w_p_n, w_p_i, w_p_j, w_p_p, w_p_s, w_c_k, w_c_n, w_c_i, w_c_j, w_c_p, w_c_s, w_u_k, w_u_n, w_u_i, w_u_j, w_u_p, w_u_s, q_nf, ↓reduceIte, if_true, if_false, eq_self, and_true, true_and, and_false, false_and, Option.bind_some, ne_eq, not_false_eq_true, not_true_eq_false]
  generalize w_i (w_p (w_i (w_p (w_i (w_p M (X + 94) 0 (X + 33 + 6 * e + 12 * 0)) (X + 95) 0 tv) (X + 94) 1 (X + 33 + 6 * e + 12 * 1)) (X + 95) 1 tv) (X + 94) 2 (X + 33 + 6 * e + 12 * 2)) (X + 95) 2 tv = N at a3 b3 go fl
  have y := hx.kp b3
  have k89 := y.k89
  have k5 := y.k5
  have p5 := y.p89_5
  have k91 := y.k91
  have p51 := y.p5_1
  have k8 := y.k8
  have q3 : z_i N (X + 5) 3 = tv := (a3.i (by omega) 3).trans ht
  have hset : ∀ x0 x1 x2 : Int64, zEv (fun n => F_Latest_set O n (X + 91) x0 x1 x2 N) ((), w_j (w_j (w_j N (X + 91) 0 x0) (X + 91) 1 x1) (X + 91) 2 x2) := fun x0 x1 x2 => by
    refine (zEv.some _).to fun n => ?_
    unfold F_Latest_set f_Latest_set_0
    rw [if_pos k91]
    rfl
  have fin : ∀ x0 x1 x2 : Int64, zSt (fun q => q = X + 94 ∨ q = X + 95 ∨ q = X + 91) M (w_j (w_j (w_j N (X + 91) 0 x0) (X + 91) 1 x1) (X + 91) 2 x2) ∧ zKp X M (w_j (w_j (w_j N (X + 91) 0 x0) (X + 91) 1 x1) (X + 91) 2 x2) ∧ z_j (w_j (w_j (w_j N (X + 91) 0 x0) (X + 91) 1 x1) (X + 91) 2 x2) (X + 91) 0 = x0 ∧ z_j (w_j (w_j (w_j N (X + 91) 0 x0) (X + 91) 1 x1) (X + 91) 2 x2) (X + 91) 1 = x1 ∧ z_j (w_j (w_j (w_j N (X + 91) 0 x0) (X + 91) 1 x1) (X + 91) 2 x2) (X + 91) 2 = x2 := fun x0 x1 x2 => by
    refine ⟨(((a3.mono (fun q hq => by omega)).wj (Or.inr (Or.inr rfl))).wj (Or.inr (Or.inr rfl))).wj (Or.inr (Or.inr rfl)), ((b3.wj).wj).wj, ?_, ?_, ?_⟩ <;> simp (disch := omega) only [zlet, w_i_k, w_i_n, w_i_i, w_i_j, w_i_p, w_i_s, w_j_k, w_j_n, w_j_i, w_j_j, w_j_p, w_j_s, w_p_k, w_p_n, w_p_i, w_p_j, w_p_p, w_p_s, w_c_k, w_c_n, w_c_i, w_c_j, w_c_p, w_c_s, w_u_k, w_u_n, w_u_i, w_u_j, w_u_p, w_u_s, q_nf, ↓reduceIte, if_true, if_false, eq_self, and_true, true_and, and_false, false_and, Option.bind_some, ne_eq, not_false_eq_true, not_true_eq_false]
  cases dd with
  | none =>
    obtain ⟨f1, f2, f3, f4, f5⟩ := fin 1 4 8
    refine ⟨_, go _ (zEv.succ ?_), f1, f2, fun k hk => ?_, f3, f4, f5⟩
    · simp only [f_Seq_startFrame_2]
      refine zEv.ip (by decide) (zEv.ip k5 (zEv.ip (by rw [q3, ← ht]; exact h7) (zEv.ip k89 ?_)))
      rw [p5]
      exact zEv.ip k91 (zEv.bind (hset 1 4 8) (zEv.some _))
    · show z_i N (X + 95) k = nI 0
      rw [(fl k hk).2, ← ht]
      exact h7
  | some q =>
    obtain ⟨t, w, o, u, d⟩ := q
    obtain ⟨i1, i2, i3, i4⟩ := h7
    have l8 := i4.st a3 (by omega)
    obtain ⟨f1, f2, f3, f4, f5⟩ := fin (lN d.1) (lN d.2.1) (lN d.2.2)
    refine ⟨_, go _ (zEv.succ ?_), f1, f2, fun k hk => ?_, f3, f4, f5⟩
    · simp only [f_Seq_startFrame_2]
      refine zEv.ip (by decide) (zEv.ip k5 (zEv.in_ (by rw [q3, ← ht, i1]; decide) (zEv.zl (zEv.ip k89 ?_))))
      rw [p5, p51, l8.1, l8.2.1, l8.2.2]
      exact zEv.ip k8 (zEv.ip k91 (zEv.bind (hset _ _ _) (zEv.some _)))
    · rename_i hk0
      obtain ⟨g1, g2⟩ := hk0.2.1 k hk
      have tb := ((i3 k hk).st a3 (by omega) (by omega) (by omega) (by omega))
      refine ⟨(fl k hk).2.trans (ht.symm.trans i1), wf_S g1, X + 33 + 6 * e + 12 * k, by omega, (fl k hk).1, tb.1, fun h => by omega, g2, tb.2⟩
