/-! A share told: the loop over its symbols, in the class. -/
theorem upd_at (pt : Nat → Int32) (s : Nat) (x : Int32) (j : Nat) : upd pt s x j = if j = s then x else pt j := rfl
/-- the points of a share: the array ap of last + 1 places, holding pt -/
def zPts (M : zM) (p ap last : Nat) (pt : Nat → Int32) : Prop := z_p M p 2 = ap ∧ z_k M ap = 100 ∧ z_n M ap = last + 1 ∧ ∀ j, j ≤ last → z_i M ap j = pt j
theorem l_tell {O : zO} {p r a N c last e ap : Nat} {b : Nat → Nat} (h1 : ap ≠ p) (h2 : ap ≠ r) (h3 : ap ≠ a) : ∀ (f R s pos : Nat) (pt : Nat → Int32) (M : zM), last + 2 ≤ s + f → s ≤ last + 1 → R ≤ 512 → zShT M p r a N c last b pos e → zPts M p ap last pt →
    match shS b e last f R s pos pt with
    | some (pos', pt') => ∃ M', zSi (fun q => q = p ∨ q = ap) M M' ∧ zShT M' p r a N c last b pos' e ∧ zPts M' p ap last pt' ∧ (∀ k, k ≠ 9 → z_i M' p k = z_i M p k) ∧ ∀ α, zEv (fun n => f_Share_tell_148 O n p 0 M') α → zEv (fun n => f_Share_tell_73 O n p (nI R) (nI s) M) α
    | none => ∃ M', zSi (fun q => q = p ∨ q = ap) M M' ∧ (∀ k, k ≠ 9 → z_i M' p k = z_i M p k) ∧ zEv (fun n => f_Share_tell_73 O n p (nI R) (nI s) M) (-1, M') := by
  intro f
  induction f with
  | zero => intro R s pos pt M g1 g2; omega
  | succ f ih =>
    intro R s pos pt M g1 g2 hR h hp
    have hla := h.2.2.2.2.2.2.1
    have hlast := h.2.2.2.2.2.1
    rw [shS]
    by_cases c0 : R = 0
    · subst c0
      rw [if_pos rfl]
      refine ⟨M, zSi.rf, h, hp, fun _ _ => rfl, fun α hα => zEv.succ (hα.to fun n => ?_)⟩
      rw [f_Share_tell_73, if_pos h.1.1]
      by_cases c : z_i M p 1 < nI s
      · rw [if_pos c]; rfl
      · rw [if_neg c, if_pos (show nI 0 ≤ 0 by decide)]; rfl
    · rw [if_neg c0]
      by_cases c1 : last < s
      · rw [if_pos c1]
        refine ⟨M, zSi.rf, fun _ _ => rfl, zEv.succ ((zEv.some _).to fun n => ?_)⟩
        rw [f_Share_tell_73, if_pos h.1.1, hlast, if_pos (nI_lt c1 (by omega))]
        unfold f_Share_tell_148
        rw [if_neg (nI_nle (by omega) (by omega))]
      · rw [if_neg c1]
        have hnp := c_nextPoints (O := O) (R := R) h.1 h.2.1 h.2.2.1 h.2.2.2.1 h.2.2.2.2.1 hR
        have start : ∀ {α : Int32 × zM}, zEv (fun n => (F_Share_nextPoints O n p (nI R) M).bind fun q2 =>
            if (-1 : Int32) ≤ q2.1 then
            if z_k q2.2 p = 11 then
            if z_k q2.2 (z_p q2.2 p 2) = 100 then
            if zin (nI s) (z_n q2.2 (z_p q2.2 p 2)) = true then
            if 0 ≤ q2.1 then f_Share_tell_125 O (f_Share_tell_73 O n) n p (nI s) q2.1 (nI R) q2.1 (w_i q2.2 (z_p q2.2 p 2) (nI s).toNatClampNeg q2.1)
            else f_Share_tell_125 O (f_Share_tell_73 O n) n p (nI s) q2.1 (nI R) (1 : Int32) (w_i q2.2 (z_p q2.2 p 2) (nI s).toNatClampNeg q2.1)
            else none
            else none
            else none
            else some ((-1 : Int32), q2.2)) α → zEv (fun n => f_Share_tell_73 O n p (nI R) (nI s) M) α := fun hα => by
          refine zEv.succ (hα.to fun n => ?_)
          rw [f_Share_tell_73, if_pos h.1.1, hlast, if_neg (nI_nlt (by omega) (by omega)), if_neg (nI_nle (by omega) (by omega))]
          rfl
        cases hpt : ptS b e R pos with
        | none =>
          rw [hpt] at hnp
          obtain ⟨M1, k1, k2, k3⟩ := hnp
          refine ⟨M1, k2.mono (fun q hq => Or.inl hq), k3, start (zEv.bind k1 ((zEv.some _).to fun n => ?_))⟩
          rfl
        | some q =>
          obtain ⟨u, p1⟩ := q
          rw [hpt] at hnp
          dsimp only at hnp ⊢
          obtain ⟨b1, b2, b3, b4⟩ := ptS_le hpt
          rw [if_neg c0] at b4
          -- the memory behind the points
          have hM7 : ∀ x, zSi (fun q => q = p ∨ q = ap) M (w_i (w_i M p 9 (nI p1)) ap s x) := fun x => (zSi.rf.wi (S := fun q => q = p ∨ q = ap) (Or.inl rfl)).wi (Or.inr rfl)
          have hT7 : ∀ x, zShT (w_i (w_i M p 9 (nI p1)) ap s x) p r a N c last b p1 e := fun x => by
            obtain ⟨q1, q2, q3, q4, q5, q6, q7, q8, q9⟩ := h.at (pos' := p1) b3
            exact ⟨q1.si (S := fun q => q = ap) zSi.p1 (fun w => h1 w.symm), q2, q3.si (S := fun q => q = ap) zSi.p1 (fun w => h2 w.symm) (fun w => h3 w.symm), q4, q5, by rw [w_i_ne _ _ (fun w => h1 w.1.symm)]; exact q6, q7, q8, q9⟩
          have hP7 : ∀ x, zPts (w_i (w_i M p 9 (nI p1)) ap s x) p ap last (upd pt s x) := fun x => by
            refine ⟨hp.1, hp.2.1, hp.2.2.1, fun j hj => ?_⟩
            rw [upd_at]
            by_cases c : j = s
            · rw [if_pos c, c, w_i_eq]
            · rw [if_neg c, w_i_ne _ _ (fun w => c w.2), w_i_ne _ _ (fun w => h1 w.1)]
              exact hp.2.2.2 j hj
          have hK7 : ∀ x k, k ≠ 9 → z_i (w_i (w_i M p 9 (nI p1)) ap s x) p k = z_i M p k := fun x k hk => by
            rw [w_i_ne _ _ (fun w => h1 w.1.symm), w_i_ne _ _ (fun w => hk w.2)]
          have hx : (nI u - 1).toInt = (u : Int) - 1 := pk_sub_toInt (a := u) (b := 1) (by omega) (by omega)
          have start2 : ∀ {α : Int32 × zM}, zEv (fun n => if 0 ≤ nI u - 1 then f_Share_tell_125 O (f_Share_tell_73 O n) n p (nI s) (nI u - 1) (nI R) (nI u - 1) (w_i (w_i M p 9 (nI p1)) ap s (nI u - 1)) else f_Share_tell_125 O (f_Share_tell_73 O n) n p (nI s) (nI u - 1) (nI R) (1 : Int32) (w_i (w_i M p 9 (nI p1)) ap s (nI u - 1))) α → zEv (fun n => f_Share_tell_73 O n p (nI R) (nI s) M) α := fun hα => by
            refine start (zEv.bind hnp (hα.to fun n => ?_))
            dsimp only
            rw [if_pos (show (-1 : Int32) ≤ nI u - 1 from by rw [Int32.le_iff_toInt_le, hx]; show (-1 : Int) ≤ _; omega), if_pos (show z_k (w_i M p 9 (nI p1)) p = 11 from h.1.1), show z_p (w_i M p 9 (nI p1)) p 2 = ap from hp.1, if_pos (show z_k (w_i M p 9 (nI p1)) ap = 100 from hp.2.1), show z_n (w_i M p 9 (nI p1)) ap = last + 1 from hp.2.2.1, if_pos (zin_nI (by omega) (by omega)), nI_cl (by omega)]
          by_cases c2 : u = 1
          · subst c2
            rw [if_pos rfl]
            have e0 : nI 1 - 1 = 0 := by decide
            rw [e0] at start2
            have hz := l_nones (O := O) (s := s) (last + 2) (s + 1) 0 (w_i (w_i M p 9 (nI p1)) ap s 0) p1 (by omega) (by omega) (by omega) (hT7 0)
            have start3 : ∀ {α : Int32 × zM}, zEv (fun n => (f_Share_nextNones_4 O n p (nI (3 * 0)) (nI 0) (w_i (w_i M p 9 (nI p1)) ap s 0)).bind fun q4 => f_Share_tell_73 O n p (nI R) (nI s + q4.1 + (1 : Int32)) q4.2) α → zEv (fun n => f_Share_tell_73 O n p (nI R) (nI s) M) α := fun hα => by
              refine start2 (hα.to fun n => ?_)
              rw [if_pos (by decide)]
              unfold f_Share_tell_125
              simp only [zlet]
              rw [if_pos trivial, if_pos (show z_k (w_i (w_i M p 9 (nI p1)) ap s 0) p = 11 from h.1.1), show nI R - 0 = nI R from Int32.sub_zero _]
              rfl
            cases hzr : zrS b e last (last + 2) (s + 1) p1 with
            | none =>
              rw [hzr] at hz
              obtain ⟨M2, v, z1, z2, z3, z4, z5⟩ := hz
              refine ⟨M2, (hM7 0).tr (z2.1.mono (fun q hq => Or.inl hq)), fun k hk => by rw [z2.2 k hk]; exact hK7 0 k hk, start3 (zEv.bind z1 ?_)⟩
              refine zEv.succ ((zEv.some _).to fun n => ?_)
              dsimp only
              have g11 : z_k M2 p = 11 := by rw [z2.1.1]; exact h.1.1
              have g12 : z_i M2 p 1 = nI last := by rw [z2.2 1 (by omega), hK7 0 1 (by omega)]; exact hlast
              rw [f_Share_tell_73, if_pos g11, g12, nI_add, nI_1, if_pos (nI_lt (by omega) (by omega))]
              unfold f_Share_tell_148
              rw [if_neg (nI_nle (by omega) (by omega))]
            | some q =>
              obtain ⟨s', p2⟩ := q
              rw [hzr] at hz
              obtain ⟨z1, z2, z3, z4⟩ := hz
              dsimp only
              have hT8 := (hT7 0).at (pos' := p2) z4
              have hP8 : zPts (w_i (w_i (w_i M p 9 (nI p1)) ap s 0) p 9 (nI p2)) p ap last (upd pt s 0) := by
                obtain ⟨q1, q2, q3, q4⟩ := hP7 0
                exact ⟨q1, q2, q3, fun j hj => by rw [w_i_ne _ _ (fun w => h1 w.1)]; exact q4 j hj⟩
              have ih' := ih R s' p2 (upd pt s 0) _ (by omega) z2 hR hT8 hP8
              have go : ∀ {α : Int32 × zM}, zEv (fun n => f_Share_tell_73 O n p (nI R) (nI s') (w_i (w_i (w_i M p 9 (nI p1)) ap s 0) p 9 (nI p2))) α → zEv (fun n => f_Share_tell_73 O n p (nI R) (nI s) M) α := fun hα => start3 (zEv.bind z1 (hα.to fun n => by
                dsimp only
                rw [nI_add, nI_1, show s + (s' - (s + 1)) + 1 = s' by omega]))
              have hM8 : zSi (fun q => q = p ∨ q = ap) M (w_i (w_i (w_i M p 9 (nI p1)) ap s 0) p 9 (nI p2)) := (hM7 0).wi (Or.inl rfl)
              cases hsh : shS b e last f R s' p2 (upd pt s 0) with
              | none =>
                rw [hsh] at ih'
                obtain ⟨M', k1, k2, k3⟩ := ih'
                exact ⟨M', hM8.tr k1, fun k hk => by rw [k2 k hk, w_i_ne _ _ (fun w => hk w.2)]; exact hK7 0 k hk, go k3⟩
              | some q =>
                obtain ⟨pos', pt'⟩ := q
                rw [hsh] at ih'
                obtain ⟨M', k1, k2, k3, k4, k5⟩ := ih'
                exact ⟨M', hM8.tr k1, k2, k3, fun k hk => by rw [k4 k hk, w_i_ne _ _ (fun w => hk w.2)]; exact hK7 0 k hk, fun α hα => go (k5 α hα)⟩
          · rw [if_neg c2]
            have hR' : nI R - (if u = 0 then 1 else nI u - 1) = nI (R - (if u = 0 then 1 else u - 1)) := by
              by_cases c : u = 0
              · rw [if_pos c, if_pos c]; exact pk_sub (a := R) (b := 1) (by omega)
              · rw [if_neg c, if_neg c, nI_s1 (by omega), pk_sub (by omega)]
            have ih' := ih (R - (if u = 0 then 1 else u - 1)) (s + 1) p1 (upd pt s (nI u - 1)) _ (by omega) (by omega) (by omega) (hT7 (nI u - 1)) (hP7 (nI u - 1))
            have go : ∀ {α : Int32 × zM}, zEv (fun n => f_Share_tell_73 O n p (nI (R - (if u = 0 then 1 else u - 1))) (nI (s + 1)) (w_i (w_i M p 9 (nI p1)) ap s (nI u - 1))) α → zEv (fun n => f_Share_tell_73 O n p (nI R) (nI s) M) α := fun hα => by
              refine start2 (hα.to fun n => ?_)
              have hne : ¬ nI u - 1 = 0 := fun w => by
                have := congrArg Int32.toInt w
                rw [hx] at this
                have h0 : (0 : Int32).toInt = 0 := by decide
                omega
              by_cases c : u = 0
              · rw [if_neg (fun w => by rw [Int32.le_iff_toInt_le, hx] at w; have h0 : (0 : Int32).toInt = 0 := by decide
                                        omega)]
                unfold f_Share_tell_125 f_Share_tell_142
                simp only [zlet]
                rw [if_neg hne, nI_1]
                rw [if_pos c] at hR'
                rw [hR']
              · rw [if_pos (by rw [Int32.le_iff_toInt_le, hx]; have h0 : (0 : Int32).toInt = 0 := by decide
                               omega)]
                unfold f_Share_tell_125 f_Share_tell_142
                simp only [zlet]
                rw [if_neg hne, nI_1]
                rw [if_neg c] at hR'
                rw [hR']
            cases hsh : shS b e last f (R - (if u = 0 then 1 else u - 1)) (s + 1) p1 (upd pt s (nI u - 1)) with
            | none =>
              rw [hsh] at ih'
              obtain ⟨M', k1, k2, k3⟩ := ih'
              exact ⟨M', (hM7 _).tr k1, fun k hk => by rw [k2 k hk]; exact hK7 _ k hk, go k3⟩
            | some q =>
              obtain ⟨pos', pt'⟩ := q
              rw [hsh] at ih'
              obtain ⟨M', k1, k2, k3, k4, k5⟩ := ih'
              exact ⟨M', (hM7 _).tr k1, k2, k3, fun k hk => by rw [k4 k hk]; exact hK7 _ k hk, fun α hα => go (k5 α hα)⟩
