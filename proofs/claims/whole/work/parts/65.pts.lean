/-! A share told, as a function; its points in the class. -/
/-- ints alone change, and those of S alone -/
def zSi (S : Nat → Prop) (M M' : zM) : Prop := z_k M' = z_k M ∧ z_n M' = z_n M ∧ z_s M' = z_s M ∧ z_j M' = z_j M ∧ z_p M' = z_p M ∧ ∀ q j, ¬ S q → z_i M' q j = z_i M q j
theorem zSi.rf {S : Nat → Prop} {M : zM} : zSi S M M := ⟨rfl, rfl, rfl, rfl, rfl, fun _ _ _ => rfl⟩
theorem zSi.tr {S : Nat → Prop} {M M1 M2 : zM} (h : zSi S M M1) (g : zSi S M1 M2) : zSi S M M2 := by
  obtain ⟨a1, a2, a3, a4, a5, a6⟩ := h
  obtain ⟨b1, b2, b3, b4, b5, b6⟩ := g
  exact ⟨b1.trans a1, b2.trans a2, b3.trans a3, b4.trans a4, b5.trans a5, fun q j hq => (b6 q j hq).trans (a6 q j hq)⟩
theorem zSi.wi {S : Nat → Prop} {M M1 : zM} {p k : Nat} {x : Int32} (h : zSi S M M1) (hp : S p) : zSi S M (w_i M1 p k x) :=
  h.tr ⟨rfl, rfl, rfl, rfl, rfl, fun _ _ hq => w_i_ne _ _ (fun w => hq (by rw [w.1]; exact hp))⟩
theorem zSi.mono {S T : Nat → Prop} {M M1 : zM} (h : zSi S M M1) (hST : ∀ q, S q → T q) : zSi T M M1 := ⟨h.1, h.2.1, h.2.2.1, h.2.2.2.1, h.2.2.2.2.1, fun q j hq => h.2.2.2.2.2 q j (fun w => hq (hST q w))⟩
theorem zRow.si {S : Nat → Prop} {M M1 : zM} {r a N c : Nat} {b : Nat → Nat} (h : zRow M r a N c b) (g : zSi S M M1) (hr : ¬ S r) (ha : ¬ S a) : zRow M1 r a N c b := by
  obtain ⟨h1, h2, h3, h4, h5, h6, h7, h8⟩ := h
  obtain ⟨g1, g2, g3, g4, g5, g6⟩ := g
  exact ⟨by rw [g1]; exact h1, by rw [g5]; exact h2, by rw [g1]; exact h3, by rw [g2]; exact h4, by rw [g6 _ _ hr]; exact h5, h6, h7, fun j hj => ⟨(h8 j hj).1, by rw [g6 _ _ ha]; exact (h8 j hj).2⟩⟩
/-- the points of one symbol, R lacking: u (one more than the points), and the bit behind it -/
def ptS (b : Nat → Nat) (e R pos : Nat) : Option (Nat × Nat) :=
  if e < pos + hib (R + 1) then none
  else if bf b pos (hib (R + 1)) < 2 * 2 ^ hib (R + 1) - 2 - R then some (bf b pos (hib (R + 1)), pos + hib (R + 1))
  else if e < pos + hib (R + 1) + 1 then none
  else some (if bf b pos (hib (R + 1) + 1) < 2 ^ hib (R + 1) then bf b pos (hib (R + 1) + 1) else bf b pos (hib (R + 1) + 1) - (2 * 2 ^ hib (R + 1) - 2 - R), pos + hib (R + 1) + 1)
theorem hib_R (R : Nat) : 2 ^ hib (R + 1) ≤ R + 1 ∧ R + 1 < 2 * 2 ^ hib (R + 1) := by
  obtain ⟨h1, h2⟩ := (hib_iff (v := R + 1) (by omega)).mp rfl
  rw [Nat.pow_succ] at h2
  exact ⟨h1, by omega⟩
theorem ptS_le {b : Nat → Nat} {e R pos u p1 : Nat} (h : ptS b e R pos = some (u, p1)) : u ≤ R + 1 ∧ pos ≤ p1 ∧ p1 ≤ e ∧ pos < p1 + (if R = 0 then 1 else 0) := by
  unfold ptS at h
  obtain ⟨a1, a2⟩ := hib_R R
  have h1 := bf_lt b pos (hib (R + 1) + 1)
  rw [Nat.pow_succ] at h1
  have h2 : R = 0 ∨ 1 ≤ hib (R + 1) := by
    by_cases hR : R = 0
    · exact Or.inl hR
    · right
      have : 2 ^ 0 < 2 ^ hib (R + 1) := by omega
      exact (Nat.pow_lt_pow_iff_right (by omega)).mp this
  split at h
  · cases h
  · split at h
    · cases h
      refine ⟨by omega, by omega, by omega, ?_⟩
      rcases h2 with h2 | h2
      · rw [if_pos h2]; omega
      · split <;> omega
    · split at h
      · cases h
      · simp only [Option.some.injEq, Prod.mk.injEq] at h
        obtain ⟨e1, e2⟩ := h
        refine ⟨?_, by omega, by omega, by split <;> omega⟩
        rw [← e1]
        split <;> omega
theorem c_nextPoints {O : zO} {M : zM} {p r a N c pos e R : Nat} {b : Nat → Nat} (h : zShB M p r pos e) (hr0 : r ≠ 0) (hr : zRow M r a N c b) (he : pos ≤ e) (hc : e ≤ 8 * c) (hR : R ≤ 512) :
    match ptS b e R pos with
    | none => ∃ M', zEv (fun n => F_Share_nextPoints O n p (nI R) M) (-2, M') ∧ zSi (fun q => q = p) M M' ∧ ∀ k, k ≠ 9 → z_i M' p k = z_i M p k
    | some (u, p1) => zEv (fun n => F_Share_nextPoints O n p (nI R) M) (nI u - 1, w_i M p 9 (nI p1)) := by
  have h' := h
  obtain ⟨h1, h2, h3, h4⟩ := h'
  obtain ⟨a1, a2⟩ := hib_R R
  have hw : hib (R + 1) ≤ 9 := by have := hib_lt (v := R + 1) (k := 10) (by omega) (by omega); omega
  have hpow : 2 ^ hib (R + 1) ≤ 2 ^ 9 := Nat.pow_le_pow_right (by omega) hw
  generalize hwe : hib (R + 1) = w at a1 a2 hw hpow
  have hpr : r ≠ p := fun z => by have := hr.1; rw [z, h1] at this; omega
  have hpa : a ≠ p := fun z => by have := hr.2.2.1; rw [z, h1] at this; omega
  have hc9 : c ≤ 32768 := Nat.le_trans hr.2.2.2.2.2.1 hr.2.2.2.2.2.2.1
  have e0 : ∀ n, F_Share_nextPoints O n p (nI R) M = (F_JInt_numberOfLeadingZeros O n (nI (R + 1)) M).bind fun q1 => f_Share_nextPoints_0 O n p (nI R) M |> fun _ => (zlet ((31 : Int32) - q1.1) fun v3 =>
      zlet ((1 : Int32) <<< (v3 &&& 31)) fun v5 =>
      zlet ((((2 : Int32) * v5) - (2 : Int32)) - nI R) fun v7 =>
      if z_k q1.2 p = 11 then
      (F_Share_nextBits O n p v3 q1.2).bind fun q10 =>
      if q10.1 < 0 then f_Share_nextPoints_42 O n q10.1 q10.2
      else if v7 ≤ q10.1 then
      if z_k q10.2 p = 11 then
      (F_Share_nextBits O n p (1 : Int32) q10.2).bind fun q13 =>
      if 0 ≤ q13.1 then
      zlet (q10.1 + (q13.1 * v5)) fun v15 =>
      if v15 < v5 then f_Share_nextPoints_101 O n (v15 - (1 : Int32)) q13.2
      else f_Share_nextPoints_101 O n ((v15 - v7) - (1 : Int32)) q13.2
      else some ((-2 : Int32), q13.2)
      else none
      else f_Share_nextPoints_42 O n q10.1 q10.2
      else none) := fun n => by
    unfold F_Share_nextPoints f_Share_nextPoints_0
    rw [nI_1]
  have f31 : (31 : Int32) - nI (31 - w) = nI w := by
    rw [show (31 : Int32) = nI 31 from rfl, pk_sub (by omega), show 31 - (31 - w) = w by omega]
  have ft : (1 : Int32) <<< (nI w &&& 31) = nI (2 ^ w) := by
    rw [show (1 : Int32) = nI 1 from rfl, nI_shl (by omega) (by omega), Nat.one_mul]
  have fm : (2 : Int32) * nI (2 ^ w) - (2 : Int32) - nI R = nI (2 * 2 ^ w - 2 - R) := by
    rw [show (2 : Int32) = nI 2 from rfl, pk_mul, pk_sub (by omega), pk_sub (by omega)]
  have hnb := c_nextBits (O := O) h hr0 hr he hc (m := w) (by omega)
  unfold ptS
  rw [hwe]
  have start : ∀ {α : Int32 × zM}, zEv (fun n => (F_Share_nextBits O n p (nI w) M).bind fun q10 =>
      if q10.1 < 0 then f_Share_nextPoints_42 O n q10.1 q10.2
      else if nI (2 * 2 ^ w - 2 - R) ≤ q10.1 then
      if z_k q10.2 p = 11 then
      (F_Share_nextBits O n p (1 : Int32) q10.2).bind fun q13 =>
      if 0 ≤ q13.1 then
      if q10.1 + (q13.1 * nI (2 ^ w)) < nI (2 ^ w) then f_Share_nextPoints_101 O n (q10.1 + (q13.1 * nI (2 ^ w)) - (1 : Int32)) q13.2
      else f_Share_nextPoints_101 O n ((q10.1 + (q13.1 * nI (2 ^ w)) - nI (2 * 2 ^ w - 2 - R)) - (1 : Int32)) q13.2
      else some ((-2 : Int32), q13.2)
      else none
      else f_Share_nextPoints_42 O n q10.1 q10.2) α → zEv (fun n => F_Share_nextPoints O n p (nI R) M) α := fun hα => by
    refine zEv.to (g := fun n => _) ?_ e0
    refine zEv.bind (c_nlz (v := R + 1) (by omega) (by omega)) ?_
    rw [hwe]
    dsimp only [zlet]
    rw [f31, ft, fm]
    simp only [if_pos h1]
    exact hα
  by_cases c1 : e < pos + w
  · rw [if_pos c1]
    rw [if_neg (by omega)] at hnb
    refine ⟨M, start ?_, zSi.rf, fun _ _ => rfl⟩
    refine zEv.bind hnb ?_
    refine (zEv.some _).to fun n => ?_
    rfl
  · rw [if_neg c1]
    rw [if_pos (by omega)] at hnb
    have hlt := bf_lt b pos w
    by_cases c2 : bf b pos w < 2 * 2 ^ w - 2 - R
    · rw [if_pos c2]
      refine start (zEv.bind hnb ((zEv.some _).to fun n => ?_))
      dsimp only
      rw [if_neg (nI_pos (by omega)), if_neg (fun z => by have := (nI_leI (by omega) (by omega)).mp z; omega)]
      unfold f_Share_nextPoints_42 f_Share_nextPoints_56
      rw [if_pos (nI_pos' (by omega))]
    · rw [if_neg c2]
      have hsb : zShB (w_i M p 9 (nI (pos + w))) p r (pos + w) e := ⟨h1, h2, w_i_eq _ _ _ _, by rw [w_i_ne _ _ (by omega)]; exact h4⟩
      have hr2 : zRow (w_i M p 9 (nI (pos + w))) r a N c b := hr.si (S := fun q => q = p) (zSi.rf.wi rfl) hpr hpa
      have hnb2 := c_nextBits (O := O) hsb hr0 hr2 (by omega) hc (m := 1) (by omega)
      have hb1 := bt8_lt b (pos + w)
      have e1 : bf b (pos + w) 1 = bt8 b (pos + w) := by simp [bf]
      have hlt1 := bf_lt b pos (w + 1)
      rw [Nat.pow_succ] at hlt1
      by_cases c3 : e < pos + w + 1
      · rw [if_pos c3]
        rw [if_neg (by omega)] at hnb2
        refine ⟨w_i M p 9 (nI (pos + w)), start ?_, zSi.rf.wi rfl, fun k hk => w_i_ne _ _ (fun w => hk w.2)⟩
        refine zEv.bind hnb ?_
        dsimp only
        simp only [if_neg (show ¬ nI (bf b pos w) < 0 from nI_pos (by omega)), if_pos (show nI (2 * 2 ^ w - 2 - R) ≤ nI (bf b pos w) from nI_le (by omega) (by omega)), if_pos (show z_k (w_i M p 9 (nI (pos + w))) p = 11 from h1)]
        refine zEv.bind hnb2 ((zEv.some _).to fun n => ?_)
        rfl
      · rw [if_neg c3]
        rw [if_pos (by omega), e1, w_ii] at hnb2
        have e2 : nI (bf b pos w) + nI (bt8 b (pos + w)) * nI (2 ^ w) = nI (bf b pos (w + 1)) := by
          rw [pk_mul, nI_add, Nat.mul_comm]; rfl
        refine start (zEv.bind hnb ?_)
        dsimp only
        simp only [if_neg (show ¬ nI (bf b pos w) < 0 from nI_pos (by omega)), if_pos (show nI (2 * 2 ^ w - 2 - R) ≤ nI (bf b pos w) from nI_le (by omega) (by omega)), if_pos (show z_k (w_i M p 9 (nI (pos + w))) p = 11 from h1)]
        refine zEv.bind hnb2 ((zEv.some _).to fun n => ?_)
        dsimp only
        rw [if_pos (nI_pos' (by omega)), e2]
        unfold f_Share_nextPoints_101
        by_cases c4 : bf b pos (w + 1) < 2 ^ w
        · rw [if_pos (nI_lt c4 (by omega)), if_pos c4]
        · rw [if_neg (nI_nlt (by omega) (by omega)), if_neg c4, pk_sub (by omega)]
