/-! A share told: the symbols without points, and the loop, in the class. -/
def zrS (b : Nat → Nat) (e last : Nat) : Nat → Nat → Nat → Option (Nat × Nat)
  | 0, _, _ => none
  | f + 1, s, pos => if e < pos + 2 then none else if last + 1 < s + bf b pos 2 then none else if bf b pos 2 = 3 then zrS b e last f (s + 3) (pos + 2) else some (s + bf b pos 2, pos + 2)
def shS (b : Nat → Nat) (e last : Nat) : Nat → Nat → Nat → Nat → (Nat → Int32) → Option (Nat × (Nat → Int32))
  | 0, _, _, _, _ => none
  | f + 1, R, s, pos, pt => if R = 0 then some (pos, pt) else if last < s then none else
    match ptS b e R pos with
    | none => none
    | some (u, p1) => if u = 1 then
        match zrS b e last (last + 2) (s + 1) p1 with
        | none => none
        | some (s', p2) => shS b e last f R s' p2 (upd pt s 0)
      else shS b e last f (R - (if u = 0 then 1 else u - 1)) (s + 1) p1 (upd pt s (nI u - 1))
theorem zSi.p1 {M : zM} {p k : Nat} {x : Int32} : zSi (fun q => q = p) M (w_i M p k x) := zSi.rf.wi (S := fun q => q = p) rfl
theorem zShB.si {M M1 : zM} {p r pos e : Nat} {S : Nat → Prop} (h : zShB M p r pos e) (g : zSi S M M1) (hp : ¬ S p) : zShB M1 p r pos e :=
  ⟨by rw [g.1]; exact h.1, by rw [g.2.2.2.2.1]; exact h.2.1, by rw [g.2.2.2.2.2 _ _ hp]; exact h.2.2.1, by rw [g.2.2.2.2.2 _ _ hp]; exact h.2.2.2⟩
theorem zShB.at {M : zM} {p r pos e pos' : Nat} (h : zShB M p r pos e) : zShB (w_i M p 9 (nI pos')) p r pos' e :=
  ⟨h.1, h.2.1, w_i_eq _ _ _ _, by rw [w_i_ne _ _ (by omega)]; exact h.2.2.2⟩
/-- what a share needs to read its bits: its object, its row, its bytes, its last symbol -/
def zShT (M : zM) (p r a N c last : Nat) (b : Nat → Nat) (pos e : Nat) : Prop := zShB M p r pos e ∧ r ≠ 0 ∧ zRow M r a N c b ∧ pos ≤ e ∧ e ≤ 8 * c ∧ z_i M p 1 = nI last ∧ last ≤ 52 ∧ r ≠ p ∧ a ≠ p
theorem zShT.at {M : zM} {p r a N c last pos e pos' : Nat} {b : Nat → Nat} (h : zShT M p r a N c last b pos e) (hp : pos' ≤ e) : zShT (w_i M p 9 (nI pos')) p r a N c last b pos' e := by
  obtain ⟨h1, h2, h3, h4, h5, h6, h7, h8, h9⟩ := h
  exact ⟨h1.at, h2, h3.si (S := fun q => q = p) (zSi.rf.wi rfl) h8 h9, hp, h5, by rw [w_i_ne _ _ (by omega)]; exact h6, h7, h8, h9⟩
theorem zShT.bits {O : zO} {M : zM} {p r a N c last pos e m : Nat} {b : Nat → Nat} (h : zShT M p r a N c last b pos e) (hm : m ≤ 16) : zEv (fun n => F_Share_nextBits O n p (nI m) M) (if pos + m ≤ e then (nI (bf b pos m), w_i M p 9 (nI (pos + m))) else (-1, M)) :=
  c_nextBits h.1 h.2.1 h.2.2.1 h.2.2.2.1 h.2.2.2.2.1 hm
def zS9 (p : Nat) (M M' : zM) : Prop := zSi (fun q => q = p) M M' ∧ ∀ k, k ≠ 9 → z_i M' p k = z_i M p k
theorem zS9.rf {p : Nat} {M : zM} : zS9 p M M := ⟨zSi.rf, fun _ _ => rfl⟩
theorem zS9.w {p : Nat} {M : zM} {x : Int32} : zS9 p M (w_i M p 9 x) := ⟨zSi.p1, fun _ hk => w_i_ne _ _ (fun w => hk w.2)⟩
theorem zS9.tr {p : Nat} {M M1 M2 : zM} (h : zS9 p M M1) (g : zS9 p M1 M2) : zS9 p M M2 := ⟨h.1.tr g.1, fun k hk => (g.2 k hk).trans (h.2 k hk)⟩
theorem l_nones_any {O : zO} {p r a N c last e : Nat} {b : Nat → Nat} : ∀ (d k : Nat), k + d = last + 1 → ∀ (M : zM) (pos t : Nat), zShT M p r a N c last b pos e → t ≤ 3 * k → ∃ M' v, zEv (fun n => f_Share_nextNones_4 O n p (nI t) (nI k) M) (nI v, M') ∧ zS9 p M M' ∧ (t ≤ v ∨ v = last + 1) ∧ v ≤ 3 * (last + 2) := by
  intro d
  induction d with
  | zero =>
    intro k hk M pos t h ht
    have hla := h.2.2.2.2.2.2.1
    refine ⟨M, t, zEv.succ ((zEv.some _).to fun n => ?_), zS9.rf, Or.inl (Nat.le_refl _), by omega⟩
    rw [f_Share_nextNones_4, if_pos h.1.1, h.2.2.2.2.2.1, if_pos (nI_lt (by omega) (by omega))]
  | succ d ih =>
    intro k hk M pos t h ht
    have hla := h.2.2.2.2.2.2.1
    have hnb := h.bits (O := O) (m := 2) (by omega)
    have hlt := bf_lt b pos 2
    have start : ∀ {α : Int32 × zM}, zEv (fun n => (F_Share_nextBits O n p (nI 2) M).bind fun q2 =>
        if 0 ≤ q2.1 then
        if (3 : Int32) ≤ q2.1 then f_Share_nextNones_4 O n p (nI t + q2.1) (nI k + (1 : Int32)) q2.2
        else some (nI t + q2.1, q2.2)
        else if z_k q2.2 p = 11 then some (((z_i q2.2 p 1) + (1 : Int32)), q2.2) else none) α → zEv (fun n => f_Share_nextNones_4 O n p (nI t) (nI k) M) α := fun hα => by
      refine zEv.succ (hα.to fun n => ?_)
      rw [f_Share_nextNones_4, if_pos h.1.1, h.2.2.2.2.2.1, if_neg (nI_nlt (by omega) (by omega))]
      rfl
    by_cases c1 : pos + 2 ≤ e
    · rw [if_pos c1] at hnb
      by_cases c2 : bf b pos 2 = 3
      · obtain ⟨M', v, g1, g2, g3, g4⟩ := ih (k + 1) (by omega) (w_i M p 9 (nI (pos + 2))) (pos + 2) (t + 3) (h.at c1) (by omega)
        refine ⟨M', v, start (zEv.bind hnb (g1.to fun n => ?_)), zS9.w.tr g2, ?_, g4⟩
        · dsimp only
          rw [if_pos (nI_pos' (by omega)), c2, if_pos (show (3 : Int32) ≤ nI 3 from by decide), nI_add, nI_1]
        · rcases g3 with g3 | g3
          · left; omega
          · right; exact g3
      · refine ⟨w_i M p 9 (nI (pos + 2)), t + bf b pos 2, start (zEv.bind hnb ((zEv.some _).to fun n => ?_)), zS9.w, Or.inl (by omega), by omega⟩
        dsimp only
        rw [if_pos (nI_pos' (by omega)), if_neg (show ¬ (3 : Int32) ≤ nI (bf b pos 2) from fun w => by have := (nI_leI (a := 3) (by omega) (by omega)).mp w; omega), nI_add]
    · rw [if_neg c1] at hnb
      refine ⟨M, last + 1, start (zEv.bind hnb ((zEv.some _).to fun n => ?_)), zS9.rf, Or.inr rfl, by omega⟩
      dsimp only
      rw [if_neg (by decide), if_pos h.1.1, h.2.2.2.2.2.1, nI_1]
theorem l_nones {O : zO} {p r a N c last e s : Nat} {b : Nat → Nat} : ∀ (f s0 k : Nat) (M : zM) (pos : Nat), last + 2 ≤ s0 + f → s0 ≤ last + 1 → s0 = s + 1 + 3 * k → zShT M p r a N c last b pos e →
    match zrS b e last f s0 pos with
    | some (s', p2) => zEv (fun n => f_Share_nextNones_4 O n p (nI (3 * k)) (nI k) M) (nI (s' - (s + 1)), w_i M p 9 (nI p2)) ∧ s' ≤ last + 1 ∧ s0 ≤ s' ∧ p2 ≤ e
    | none => ∃ M' v, zEv (fun n => f_Share_nextNones_4 O n p (nI (3 * k)) (nI k) M) (nI v, M') ∧ zS9 p M M' ∧ last < s + v + 1 ∧ last ≤ s + v ∧ v ≤ 3 * (last + 2) := by
  intro f
  induction f with
  | zero => intro s0 k M pos h1 h2; omega
  | succ f ih =>
    intro s0 k M pos h1 h2 h3 h
    have hla := h.2.2.2.2.2.2.1
    have hnb := h.bits (O := O) (m := 2) (by omega)
    have hlt := bf_lt b pos 2
    have start : ∀ {α : Int32 × zM}, zEv (fun n => (F_Share_nextBits O n p (nI 2) M).bind fun q2 =>
        if 0 ≤ q2.1 then
        if (3 : Int32) ≤ q2.1 then f_Share_nextNones_4 O n p (nI (3 * k) + q2.1) (nI k + (1 : Int32)) q2.2
        else some (nI (3 * k) + q2.1, q2.2)
        else if z_k q2.2 p = 11 then some (((z_i q2.2 p 1) + (1 : Int32)), q2.2) else none) α → zEv (fun n => f_Share_nextNones_4 O n p (nI (3 * k)) (nI k) M) α := fun hα => by
      refine zEv.succ (hα.to fun n => ?_)
      rw [f_Share_nextNones_4, if_pos h.1.1, h.2.2.2.2.2.1, if_neg (nI_nlt (by omega) (by omega))]
      rfl
    rw [zrS]
    by_cases c1 : e < pos + 2
    · rw [if_pos c1]
      rw [if_neg (by omega)] at hnb
      refine ⟨M, last + 1, start (zEv.bind hnb ((zEv.some _).to fun n => ?_)), zS9.rf, by omega, by omega, by omega⟩
      dsimp only
      rw [if_neg (by decide), if_pos h.1.1, h.2.2.2.2.2.1, nI_1]
    · rw [if_neg c1]
      rw [if_pos (by omega)] at hnb
      by_cases c3 : bf b pos 2 = 3
      · by_cases c2 : last + 1 < s0 + bf b pos 2
        · rw [if_pos c2]
          obtain ⟨M', v, g1, g2, g3, g4⟩ := l_nones_any (O := O) (last - k) (k + 1) (by omega) (w_i M p 9 (nI (pos + 2))) (pos + 2) (3 * k + 3) (h.at (by omega)) (by omega)
          refine ⟨M', v, start (zEv.bind hnb (g1.to fun n => ?_)), zS9.w.tr g2, by omega, by omega, g4⟩
          dsimp only
          rw [if_pos (nI_pos' (by omega)), c3, if_pos (show (3 : Int32) ≤ nI 3 from by decide), nI_add, nI_1]
        · rw [if_neg c2, if_pos c3]
          have ih' := ih (s0 + 3) (k + 1) (w_i M p 9 (nI (pos + 2))) (pos + 2) (by omega) (by omega) (by omega) (h.at (by omega))
          have go : ∀ {α : Int32 × zM}, zEv (fun n => f_Share_nextNones_4 O n p (nI (3 * (k + 1))) (nI (k + 1)) (w_i M p 9 (nI (pos + 2)))) α → zEv (fun n => f_Share_nextNones_4 O n p (nI (3 * k)) (nI k) M) α := fun hα => start (zEv.bind hnb (hα.to fun n => by
            dsimp only
            rw [if_pos (nI_pos' (by omega)), c3, if_pos (show (3 : Int32) ≤ nI 3 from by decide), nI_add, nI_1]
            rfl))
          cases hz : zrS b e last f (s0 + 3) (pos + 2) with
          | none =>
            rw [hz] at ih'
            obtain ⟨M', v, g1, g2, g3, g4, g5⟩ := ih'
            exact ⟨M', v, go g1, zS9.w.tr g2, g3, g4, g5⟩
          | some q =>
            obtain ⟨s', p2⟩ := q
            rw [hz] at ih'
            obtain ⟨g1, g2, g3, g4⟩ := ih'
            rw [w_ii] at g1
            exact ⟨go g1, g2, by omega, g4⟩
      · by_cases c2 : last + 1 < s0 + bf b pos 2
        · rw [if_pos c2]
          refine ⟨w_i M p 9 (nI (pos + 2)), 3 * k + bf b pos 2, start (zEv.bind hnb ((zEv.some _).to fun n => ?_)), zS9.w, by omega, by omega, by omega⟩
          dsimp only
          rw [if_pos (nI_pos' (by omega)), if_neg (show ¬ (3 : Int32) ≤ nI (bf b pos 2) from fun w => by have := (nI_leI (a := 3) (by omega) (by omega)).mp w; omega), nI_add]
        · rw [if_neg c2, if_neg c3]
          refine ⟨start (zEv.bind hnb ((zEv.some _).to fun n => ?_)), by omega, by omega, by omega⟩
          dsimp only
          rw [if_pos (nI_pos' (by omega)), if_neg (show ¬ (3 : Int32) ≤ nI (bf b pos 2) from fun w => by have := (nI_leI (a := 3) (by omega) (by omega)).mp w; omega), nI_add, show s0 + bf b pos 2 - (s + 1) = 3 * k + bf b pos 2 by omega]
