/-! A share told: both sides, as wholes. -/
/-- nothing changes but what lies in S -/
def zSt (S : Nat → Prop) (M M' : zM) : Prop := z_k M' = z_k M ∧ z_n M' = z_n M ∧ z_s M' = z_s M ∧ (∀ q j, ¬ S q → z_i M' q j = z_i M q j) ∧ (∀ q j, ¬ S q → z_j M' q j = z_j M q j) ∧ ∀ q j, ¬ S q → z_p M' q j = z_p M q j
theorem zSt.rf {S : Nat → Prop} {M : zM} : zSt S M M := ⟨rfl, rfl, rfl, fun _ _ _ => rfl, fun _ _ _ => rfl, fun _ _ _ => rfl⟩
theorem zSt.tr {S : Nat → Prop} {M M1 M2 : zM} (h : zSt S M M1) (g : zSt S M1 M2) : zSt S M M2 := by
  obtain ⟨a1, a2, a3, a4, a5, a6⟩ := h
  obtain ⟨b1, b2, b3, b4, b5, b6⟩ := g
  exact ⟨b1.trans a1, b2.trans a2, b3.trans a3, fun q j hq => (b4 q j hq).trans (a4 q j hq), fun q j hq => (b5 q j hq).trans (a5 q j hq), fun q j hq => (b6 q j hq).trans (a6 q j hq)⟩
theorem zSt.mono {S T : Nat → Prop} {M M1 : zM} (h : zSt S M M1) (hST : ∀ q, S q → T q) : zSt T M M1 := ⟨h.1, h.2.1, h.2.2.1, fun q j hq => h.2.2.2.1 q j (fun w => hq (hST q w)), fun q j hq => h.2.2.2.2.1 q j (fun w => hq (hST q w)), fun q j hq => h.2.2.2.2.2 q j (fun w => hq (hST q w))⟩
theorem zSt.wi {S : Nat → Prop} {M M1 : zM} {p k : Nat} {x : Int32} (h : zSt S M M1) (hp : S p) : zSt S M (w_i M1 p k x) :=
  h.tr ⟨rfl, rfl, rfl, fun _ _ hq => w_i_ne _ _ (fun w => hq (by rw [w.1]; exact hp)), fun _ _ _ => rfl, fun _ _ _ => rfl⟩
theorem zSt.wu {S : Nat → Prop} {M M1 : zM} {p : Nat} {g : Nat → Int32} (h : zSt S M M1) (hp : S p) : zSt S M (w_u M1 p g) :=
  h.tr ⟨rfl, rfl, rfl, fun q j hq => by rw [w_u_i, if_neg (fun w => hq (by rw [w]; exact hp))], fun _ _ _ => rfl, fun _ _ _ => rfl⟩
theorem zSt.wp {S : Nat → Prop} {M M1 : zM} {p k x : Nat} (h : zSt S M M1) (hp : S p) : zSt S M (w_p M1 p k x) :=
  h.tr ⟨rfl, rfl, rfl, fun _ _ _ => rfl, fun _ _ _ => rfl, fun q j hq => by rw [w_p_p, if_neg (fun w => hq (by rw [w.1]; exact hp))]⟩
theorem zSt.wj {S : Nat → Prop} {M M1 : zM} {p k : Nat} {x : Int64} (h : zSt S M M1) (hp : S p) : zSt S M (w_j M1 p k x) :=
  h.tr ⟨rfl, rfl, rfl, fun _ _ _ => rfl, fun q j hq => by rw [w_j_j, if_neg (fun w => hq (by rw [w.1]; exact hp))], fun _ _ _ => rfl⟩
theorem zSt.wS {S : Nat → Prop} {M M1 : zM} {p : Nat} {N T B E : Nat → Int32} (h : zSt S M M1) (hp : S (p + 2) ∧ S (p + 3) ∧ S (p + 4) ∧ S (p + 5)) : zSt S M (w_S M1 p N T B E) :=
  (((h.wu hp.1).wu hp.2.1).wu hp.2.2.1).wu hp.2.2.2
theorem zSi.st {S : Nat → Prop} {M M1 : zM} (h : zSi S M M1) : zSt S M M1 := by
  obtain ⟨a1, a2, a3, a4, a5, a6⟩ := h
  exact ⟨a1, a2, a3, a6, fun q j _ => by rw [a4], fun q j _ => by rw [a5]⟩
theorem l_fillII {O : zO} {M : zM} {a N : Nat} {x : Int32} (h1 : z_k M a = 100) (h2 : z_n M a = N) (h3 : N < 100000) : ∀ d k, k + d = N → ∀ g, (∀ j, j < k → g j = x) → ∃ g', (∀ j, j < N → g' j = x) ∧ zEv (fun n => f_JArr_fill_II_5 O n a x (nI k) (nI N) (w_u M a g)) ((), w_u M a g') := by
  intro d
  induction d with
  | zero =>
    intro k hk g hg
    refine ⟨g, fun j hj => hg j (by omega), zEv.succ ((zEv.some _).to fun n => ?_)⟩
    rw [f_JArr_fill_II_5]
    simp (disch := omega) only [zlet, w_i_k, w_i_n, w_i_i, w_i_j, w_i_p, w_i_s, w_j_k, w_j_n, w_j_i, w_j_j, w_j_p, w_j_s, w_p_k, w_p_n, w_p_i, w_p_j, w_p_p, w_p_s, w_c_k, w_c_n, w_c_i, w_c_j, w_c_p, w_c_s, w_u_k, w_u_n, w_u_i, w_u_j, w_u_p, w_u_s, q_nf, ↓reduceIte, if_true, if_false, eq_self, and_true, true_and, and_false, false_and, Option.bind_some, ne_eq, not_false_eq_true, not_true_eq_false, nI_add, pk_mul, pk_sub, nI_ac, q_tlt, q_flt, q_tle, q_fle, q_teq, q_feq, q_tin, nI_cl, q_m1, q_m2, q_m3, q_m4, q_m5, q_m6, q_m7, q_l1, q_l2, q_l3, q_l4, q_l5, q_l6, lN_add, lN_mul, lN_sub, lN_i, nI_l, q_rem, q_rem2, q_div, q_shl, q_shr, q_i0, q_i1, q_i2, q_i3, q_i4, q_i5, q_i6, q_i7, q_i8, q_i9, q_i10, q_i11, q_i12, q_i14, q_i15, q_i16, q_i17, q_i18, q_i19, q_i20, q_i22, q_i24, q_i26, q_i28, q_i30, q_i31, q_i32, q_i35, q_i36, q_i38, q_i40, q_i42, q_i43, q_i48, q_i51, q_i52, q_i56, q_i63, q_i64, q_i67, q_i80, q_i95, q_i99, q_i126, q_i127, q_i128, q_i255, q_i256, q_i512, q_i1024, q_i12000, q_i32512, q_i32768, q_i131072, q_j0, q_j1, q_j2, q_j3, q_j4, q_j8, q_j256, Nat.one_mul, Nat.zero_add, Nat.add_zero, Nat.sub_zero, Nat.mul_one, q_ofN]
  | succ d ih =>
    intro k hk g hg
    obtain ⟨g', g1, g2⟩ := ih (k + 1) (by omega) (upd g k x) (fun j hj => by
      rw [upd_at]
      by_cases c : j = k
      · rw [if_pos c]
      · rw [if_neg c]; exact hg j (by omega))
    refine ⟨g', g1, zEv.succ (g2.to fun n => ?_)⟩
    rw [f_JArr_fill_II_5]
    simp (disch := omega) only [zlet, w_i_k, w_i_n, w_i_i, w_i_j, w_i_p, w_i_s, w_j_k, w_j_n, w_j_i, w_j_j, w_j_p, w_j_s, w_p_k, w_p_n, w_p_i, w_p_j, w_p_p, w_p_s, w_c_k, w_c_n, w_c_i, w_c_j, w_c_p, w_c_s, w_u_k, w_u_n, w_u_i, w_u_j, w_u_p, w_u_s, q_nf, ↓reduceIte, if_true, if_false, eq_self, and_true, true_and, and_false, false_and, Option.bind_some, ne_eq, not_false_eq_true, not_true_eq_false, nI_add, pk_mul, pk_sub, nI_ac, q_tlt, q_flt, q_tle, q_fle, q_teq, q_feq, q_tin, nI_cl, q_m1, q_m2, q_m3, q_m4, q_m5, q_m6, q_m7, q_l1, q_l2, q_l3, q_l4, q_l5, q_l6, lN_add, lN_mul, lN_sub, lN_i, nI_l, q_rem, q_rem2, q_div, q_shl, q_shr, q_i0, q_i1, q_i2, q_i3, q_i4, q_i5, q_i6, q_i7, q_i8, q_i9, q_i10, q_i11, q_i12, q_i14, q_i15, q_i16, q_i17, q_i18, q_i19, q_i20, q_i22, q_i24, q_i26, q_i28, q_i30, q_i31, q_i32, q_i35, q_i36, q_i38, q_i40, q_i42, q_i43, q_i48, q_i51, q_i52, q_i56, q_i63, q_i64, q_i67, q_i80, q_i95, q_i99, q_i126, q_i127, q_i128, q_i255, q_i256, q_i512, q_i1024, q_i12000, q_i32512, q_i32768, q_i131072, q_j0, q_j1, q_j2, q_j3, q_j4, q_j8, q_j256, Nat.one_mul, Nat.zero_add, Nat.add_zero, Nat.sub_zero, Nat.mul_one, q_ofN, h1, h2, w_u_w]
theorem c_fillII {O : zO} {M : zM} {a N : Nat} {x : Int32} (h1 : z_k M a = 100) (h2 : z_n M a = N) (h3 : N < 100000) : ∃ g, (∀ j, j < N → g j = x) ∧ zEv (fun n => F_JArr_fill_II O n a x M) ((), w_u M a g) := by
  obtain ⟨g', g1, g2⟩ := l_fillII (O := O) (x := x) h1 h2 h3 N 0 (by omega) (z_i M a) (fun j hj => by omega)
  refine ⟨g', g1, g2.to fun n => ?_⟩
  unfold F_JArr_fill_II f_JArr_fill_II_0
  rw [w_u_self, if_pos h1, h2]
  rfl
/-- a share told between two indices, greatest order G, last symbol last: its order, its points (one more than), the index behind it -/
def shT (b : Nat → Nat) (fr to G last : Nat) : Option (Nat × (Nat → Nat) × Nat) :=
  if 8 * fr + 4 ≤ 8 * to ∧ 5 + bf b (8 * fr) 4 ≤ G then
    match shS b (8 * to) last (last + 2) (2 ^ (5 + bf b (8 * fr) 4)) 0 (8 * fr + 4) (fun _ => 0) with
    | none => none
    | some (pos', pt') => some (5 + bf b (8 * fr) 4, fun j => (pt' j + 1).toNatClampNeg, (pos' + 7) / 8)
  else none
def upN (u : Nat → Nat) (s v : Nat) : Nat → Nat := fun j => if j = s then v else u j
theorem upN_cnt {u : Nat → Nat} {s v : Nat} (hs : u s = 1) : ∀ n, hcn (upN u s v) n + cum (upN u s v) n = hcn u n + cum u n + (if s < n then (if v = 0 then 1 else v - 1) else 0)
  | 0 => rfl
  | n + 1 => by
    have ih := upN_cnt (v := v) hs n
    show hcn (upN u s v) n + (if upN u s v n = 0 then 1 else 0) + (cum (upN u s v) n + (upN u s v n - 1)) = hcn u n + (if u n = 0 then 1 else 0) + (cum u n + (u n - 1)) + _
    by_cases c : n = s
    · subst c
      rw [if_neg (by omega)] at ih
      rw [show upN u n v n = v from if_pos rfl, hs, if_pos (show n < n + 1 by omega), if_neg (show ¬ 1 = 0 by omega)]
      split <;> omega
    · rw [show upN u s v n = u n from if_neg c]
      by_cases d : s < n
      · rw [if_pos d] at ih; rw [if_pos (show s < n + 1 by omega)]; omega
      · rw [if_neg d] at ih; rw [if_neg (show ¬ s < n + 1 by omega)]; omega
theorem upd_upN (u : Nat → Nat) (s v : Nat) : upd (fun j => nI (u j) - 1) s (nI v - 1) = fun j => nI (upN u s v j) - 1 := by
  funext j
  rw [upd_at]
  unfold upN
  by_cases c : j = s
  · rw [if_pos c, if_pos c]
  · rw [if_neg c, if_neg c]
theorem zrS_ge {b : Nat → Nat} {e last : Nat} : ∀ (f s pos s' p2 : Nat), zrS b e last f s pos = some (s', p2) → s ≤ s' ∧ pos ≤ p2 ∧ p2 ≤ e
  | 0, s, pos, s', p2, h => by simp [zrS] at h
  | f + 1, s, pos, s', p2, h => by
    simp only [zrS] at h
    split at h
    · cases h
    · split at h
      · cases h
      · split at h
        · have := zrS_ge f _ _ _ _ h; omega
        · cases h; omega
theorem shS_u {b : Nat → Nat} {e last T : Nat} (hla : last < 64) : ∀ (f R s pos : Nat) (u : Nat → Nat) (pos' : Nat) (pt' : Nat → Int32), shS b e last f R s pos (fun j => nI (u j) - 1) = some (pos', pt') → pos ≤ e → (∀ j, s ≤ j → u j = 1) → (∀ j, last < j → u j = 1) → R + (hcn u 64 + cum u 64) = T → pos ≤ pos' ∧ pos' ≤ e ∧ ∃ u', pt' = (fun j => nI (u' j) - 1) ∧ hcn u' 64 + cum u' 64 = T ∧ ∀ j, last < j → u' j = 1
  | 0, R, s, pos, u, pos', pt', h, _, _, _, _ => by simp [shS] at h
  | f + 1, R, s, pos, u, pos', pt', h, hpe, hu, hu2, hT => by
    rw [shS] at h
    by_cases c0 : R = 0
    · rw [if_pos c0] at h
      cases h
      exact ⟨Nat.le_refl _, hpe, u, rfl, by omega, hu2⟩
    · rw [if_neg c0] at h
      by_cases c1 : last < s
      · rw [if_pos c1] at h; cases h
      · rw [if_neg c1] at h
        cases hpt : ptS b e R pos with
        | none => rw [hpt] at h; cases h
        | some q =>
          obtain ⟨v, p1⟩ := q
          rw [hpt] at h
          dsimp only at h
          obtain ⟨b1, b2, b3, b4⟩ := ptS_le hpt
          have hcnt := upN_cnt (v := v) (hu s (Nat.le_refl _)) 64
          rw [if_pos (show s < 64 by omega)] at hcnt
          have hu3 : ∀ j, last < j → upN u s v j = 1 := fun j hj => by unfold upN; rw [if_neg (by omega)]; exact hu2 j hj
          by_cases c2 : v = 1
          · rw [if_pos c2] at h
            cases hz : zrS b e last (last + 2) (s + 1) p1 with
            | none => rw [hz] at h; cases h
            | some q =>
              obtain ⟨s', p2⟩ := q
              rw [hz] at h
              dsimp only at h
              have hz2 := zrS_ge _ _ _ _ _ hz
              rw [show (0 : Int32) = nI v - 1 from by rw [c2]; decide, upd_upN] at h
              rw [c2, if_neg (by omega)] at hcnt
              rw [c2] at h hu3
              obtain ⟨r1, r2, r3⟩ := shS_u (T := T) hla f R s' p2 _ pos' pt' h hz2.2.2 (fun j hj => by unfold upN; rw [if_neg (by omega)]; exact hu j (by omega)) hu3 (by omega)
              exact ⟨by omega, r2, r3⟩
          · rw [if_neg c2] at h
            rw [upd_upN] at h
            have hR : (if v = 0 then 1 else v - 1) ≤ R := by split <;> omega
            obtain ⟨r1, r2, r3⟩ := shS_u (T := T) hla f _ _ _ _ pos' pt' h b3 (fun j hj => by unfold upN; rw [if_neg (by omega)]; exact hu j (by omega)) hu3 (by omega)
            exact ⟨by omega, r2, r3⟩
theorem hc_ones : ∀ n, hcn (fun _ => 1) n = 0 ∧ cum (fun _ => 1) n = 0
  | 0 => ⟨rfl, rfl⟩
  | n + 1 => ⟨(hc_ones n).1, (hc_ones n).2⟩
theorem toN_u {v : Nat} (h : v < 2147483648) : (nI v - 1 + 1).toNatClampNeg = v := by
  rw [Int32.sub_add_cancel, nI_cl h]
theorem shT_ok {b : Nat → Nat} {fr to G last o nx : Nat} {u : Nat → Nat} (hG : G ≤ 9) (hla : last < 64) (h : shT b fr to G last = some (o, u, nx)) : zSh o last u ∧ o ≤ G ∧ fr ≤ nx ∧ nx ≤ to ∧ o = 5 + bf b (8 * fr) 4 ∧ ∃ pos', nx = (pos' + 7) / 8 ∧ shS b (8 * to) last (last + 2) (2 ^ o) 0 (8 * fr + 4) (fun _ => 0) = some (pos', fun j => nI (u j) - 1) := by
  unfold shT at h
  split at h
  · rename_i c
    have e0 : (fun _ : Nat => (0 : Int32)) = fun j => nI ((fun _ => 1) j) - 1 := by funext j; show (0 : Int32) = nI 1 - 1; decide
    cases hs : shS b (8 * to) last (last + 2) (2 ^ (5 + bf b (8 * fr) 4)) 0 (8 * fr + 4) (fun _ => 0) with
    | none => rw [hs] at h; cases h
    | some q =>
      obtain ⟨pos', pt'⟩ := q
      rw [hs] at h
      simp only [Option.some.injEq, Prod.mk.injEq] at h
      obtain ⟨h1, h2, h3⟩ := h
      have hs' := hs
      rw [e0] at hs'
      obtain ⟨r1, r2, u', r3, r4, r5⟩ := shS_u (T := 2 ^ (5 + bf b (8 * fr) 4)) hla _ _ _ _ _ _ _ hs' c.1 (fun _ _ => rfl) (fun _ _ => rfl) (by rw [(hc_ones 64).1, (hc_ones 64).2]; omega)
      have hzz : zSh (5 + bf b (8 * fr) 4) last u' := ⟨by omega, by omega, hla, r4, r5⟩
      have hp := pw_9 (show 5 + bf b (8 * fr) 4 ≤ 9 by omega)
      have eu : u = u' := by
        rw [← h2]
        funext j
        rw [r3]
        exact toN_u (by have := u_le hzz j; omega)
      subst h1
      subst eu
      exact ⟨hzz, c.2, by omega, by omega, rfl, pos', h3.symm, by rw [hs, r3]⟩
  · cases h
theorem shT_none {b : Nat → Nat} {fr to G last : Nat} (h : shT b fr to G last = none) (h1 : 8 * fr + 4 ≤ 8 * to) (h2 : 5 + bf b (8 * fr) 4 ≤ G) : shS b (8 * to) last (last + 2) (2 ^ (5 + bf b (8 * fr) 4)) 0 (8 * fr + 4) (fun _ => 0) = none := by
  unfold shT at h
  rw [if_pos ⟨h1, h2⟩] at h
  split at h
  · assumption
  · cases h
/-- a Share with a table -/
def zTB (M : zM) (p o : Nat) (u : Nat → Nat) : Prop := z_i M p 7 = nI o ∧ zTb o u 0 (z_i M (p + 3)) (z_i M (p + 4)) (z_i M (p + 5))
theorem zShS.fr {M M' : zM} {p G last : Nat} (h : zShS M p G last) (hk : z_k M' = z_k M) (hn : z_n M' = z_n M) (hp : ∀ f, f < 7 → z_p M' p f = z_p M p f) (hi : ∀ f, f < 2 → z_i M' p f = z_i M p f) : zShS M' p G last := by
  obtain ⟨s1, s2, s3, s4, s5, s6, s7, s8, s9, s10, s11, s12, s13, s14, s15, s16, s17, s18⟩ := h
  simp only [zShS, hk, hn]
  rw [hp 2 (by omega), hp 3 (by omega), hp 4 (by omega), hp 5 (by omega), hp 6 (by omega), hi 0 (by omega), hi 1 (by omega)]
  exact ⟨s1, s2, s3, s4, s5, s6, s7, s8, s9, s10, s11, s12, s13, s14, s15, s16, s17, s18⟩
theorem c_Share_tell {O : zO} {M : zM} {p G last r a N c fr to : Nat} {b : Nat → Nat} (h : zShS M p G last) (hG : G ≤ 9) (hG5 : 5 ≤ G) (hla : last ≤ 52) (hr : zRow M r a N c b) (hr0 : r ≠ 0) (hd : (r < p ∨ p + 5 < r) ∧ (a < p ∨ p + 5 < a)) (h1 : fr ≤ to) (h2 : to ≤ c) : ∃ M', zSt (fun q => p ≤ q ∧ q ≤ p + 5) M M' ∧ zShS M' p G last ∧ z_p M' p 8 = r ∧
    match shT b fr to G last with
    | none => zEv (fun n => F_Share_tell O n p r (nI fr) (nI to) M) (-1, M')
    | some (o, u, nx) => zEv (fun n => F_Share_tell O n p r (nI fr) (nI to) M) (nI nx, M') ∧ zTB M' p o u := by
  have h' := h
  obtain ⟨s1, s2, s3, s4, s5, s6, s7, s8, s9, s10, s11, s12, s13, s14, s15, s16, s17, s18⟩ := h'
  have hN := hr.2.2.2.2.2.1
  have hN2 := hr.2.2.2.2.2.2.1
  -- the memory at the first bits
  have hM8 : zSt (fun q => p ≤ q ∧ q ≤ p + 5) M (w_i (w_i (w_p M p 8 r) p 9 (nI (8 * fr))) p 10 (nI (8 * to))) := ((zSt.rf.wp ⟨by omega, by omega⟩).wi ⟨by omega, by omega⟩).wi ⟨by omega, by omega⟩
  have hfrow : ∀ {M1 : zM}, zSt (fun q => p ≤ q ∧ q ≤ p + 5) M M1 → zRow M1 r a N c b := fun {M1} g => by
    obtain ⟨g1, g2, g3, g4, g5, g6⟩ := g
    obtain ⟨r1, r2, r3, r4, r5, r6, r7, r8⟩ := hr
    refine ⟨by rw [g1]; exact r1, by rw [g6 _ _ (by omega)]; exact r2, by rw [g1]; exact r3, by rw [g2]; exact r4, by rw [g4 _ _ (by omega)]; exact r5, r6, r7, fun j hj => ⟨(r8 j hj).1, by rw [g4 _ _ (by omega)]; exact (r8 j hj).2⟩⟩
  have hS8 : zShS (w_i (w_i (w_p M p 8 r) p 9 (nI (8 * fr))) p 10 (nI (8 * to))) p G last := by
    refine h.fr rfl rfl (fun f hf => ?_) (fun f hf => ?_)
    · simp (disch := omega) only [zlet, w_i_k, w_i_n, w_i_i, w_i_j, w_i_p, w_i_s, w_j_k, w_j_n, w_j_i, w_j_j, w_j_p, w_j_s, w_p_k, w_p_n, w_p_i, w_p_j, w_p_p, w_p_s, w_c_k, w_c_n, w_c_i, w_c_j, w_c_p, w_c_s, w_u_k, w_u_n, w_u_i, w_u_j, w_u_p, w_u_s, q_nf, ↓reduceIte, if_true, if_false, eq_self, and_true, true_and, and_false, false_and, Option.bind_some, ne_eq, not_false_eq_true, not_true_eq_false]
    · simp (disch := omega) only [zlet, w_i_k, w_i_n, w_i_i, w_i_j, w_i_p, w_i_s, w_j_k, w_j_n, w_j_i, w_j_j, w_j_p, w_j_s, w_p_k, w_p_n, w_p_i, w_p_j, w_p_p, w_p_s, w_c_k, w_c_n, w_c_i, w_c_j, w_c_p, w_c_s, w_u_k, w_u_n, w_u_i, w_u_j, w_u_p, w_u_s, q_nf, ↓reduceIte, if_true, if_false, eq_self, and_true, true_and, and_false, false_and, Option.bind_some, ne_eq, not_false_eq_true, not_true_eq_false]
  have hB8 : zShB (w_i (w_i (w_p M p 8 r) p 9 (nI (8 * fr))) p 10 (nI (8 * to))) p r (8 * fr) (8 * to) := by
    refine ⟨s1, ?_, ?_, ?_⟩
    · simp (disch := omega) only [zlet, w_i_k, w_i_n, w_i_i, w_i_j, w_i_p, w_i_s, w_j_k, w_j_n, w_j_i, w_j_j, w_j_p, w_j_s, w_p_k, w_p_n, w_p_i, w_p_j, w_p_p, w_p_s, w_c_k, w_c_n, w_c_i, w_c_j, w_c_p, w_c_s, w_u_k, w_u_n, w_u_i, w_u_j, w_u_p, w_u_s, q_nf, ↓reduceIte, if_true, if_false, eq_self, and_true, true_and, and_false, false_and, Option.bind_some, ne_eq, not_false_eq_true, not_true_eq_false]
    · simp (disch := omega) only [zlet, w_i_k, w_i_n, w_i_i, w_i_j, w_i_p, w_i_s, w_j_k, w_j_n, w_j_i, w_j_j, w_j_p, w_j_s, w_p_k, w_p_n, w_p_i, w_p_j, w_p_p, w_p_s, w_c_k, w_c_n, w_c_i, w_c_j, w_c_p, w_c_s, w_u_k, w_u_n, w_u_i, w_u_j, w_u_p, w_u_s, q_nf, ↓reduceIte, if_true, if_false, eq_self, and_true, true_and, and_false, false_and, Option.bind_some, ne_eq, not_false_eq_true, not_true_eq_false]
    · simp (disch := omega) only [zlet, w_i_k, w_i_n, w_i_i, w_i_j, w_i_p, w_i_s, w_j_k, w_j_n, w_j_i, w_j_j, w_j_p, w_j_s, w_p_k, w_p_n, w_p_i, w_p_j, w_p_p, w_p_s, w_c_k, w_c_n, w_c_i, w_c_j, w_c_p, w_c_s, w_u_k, w_u_n, w_u_i, w_u_j, w_u_p, w_u_s, q_nf, ↓reduceIte, if_true, if_false, eq_self, and_true, true_and, and_false, false_and, Option.bind_some, ne_eq, not_false_eq_true, not_true_eq_false]
  have hnb := c_nextBits (O := O) (m := 4) hB8 hr0 (hfrow hM8) (by omega) (by omega) (by omega)
  generalize hM8e : w_i (w_i (w_p M p 8 r) p 9 (nI (8 * fr))) p 10 (nI (8 * to)) = M8 at hM8 hS8 hB8 hnb
  have hlt := bf_lt b (8 * fr) 4
  have start : ∀ {α : Int32 × zM}, zEv (fun n => (F_Share_nextBits O n p (nI 4) M8).bind fun q11 =>
      if q11.1 < 0 then f_Share_tell_44 O n q11.2
      else if z_k q11.2 p = 11 then
      if (q11.1 + (5 : Int32)) ≤ (z_i q11.2 p 0) then
      zlet (w_i q11.2 p 7 (q11.1 + (5 : Int32))) fun M14 =>
      (F_JArr_fill_II O n (z_p M14 p 2) (0 : Int32) M14).bind fun q17 =>
      if z_k q17.2 p = 11 then
      zlet ((1 : Int32) <<< ((z_i q17.2 p 7) &&& 31)) fun v20 =>
      f_Share_tell_73 O n p v20 (0 : Int32) q17.2
      else none
      else f_Share_tell_44 O n q11.2
      else none) α → zEv (fun n => F_Share_tell O n p r (nI fr) (nI to) M) α := fun hα => by
    refine hα.to fun n => ?_
    unfold F_Share_tell f_Share_tell_0
    rw [if_pos s1]
    simp only [zlet]
    rw [show (8 : Int32) = nI 8 from rfl, pk_mul, pk_mul, hM8e]
    rfl
  have d1 : z_p M8 p 8 = r := hB8.2.1
  by_cases c1 : 8 * fr + 4 ≤ 8 * to
  · rw [if_pos c1] at hnb
    have hn9 : zSt (fun q => p ≤ q ∧ q ≤ p + 5) M (w_i M8 p 9 (nI (8 * fr + 4))) := hM8.wi ⟨by omega, by omega⟩
    have hS9 : zShS (w_i M8 p 9 (nI (8 * fr + 4))) p G last := hS8.fr rfl rfl (fun _ _ => rfl) (fun f hf => by simp (disch := omega) only [zlet, w_i_k, w_i_n, w_i_i, w_i_j, w_i_p, w_i_s, w_j_k, w_j_n, w_j_i, w_j_j, w_j_p, w_j_s, w_p_k, w_p_n, w_p_i, w_p_j, w_p_p, w_p_s, w_c_k, w_c_n, w_c_i, w_c_j, w_c_p, w_c_s, w_u_k, w_u_n, w_u_i, w_u_j, w_u_p, w_u_s, q_nf, ↓reduceIte, if_true, if_false, eq_self, and_true, true_and, and_false, false_and, Option.bind_some, ne_eq, not_false_eq_true, not_true_eq_false])
    by_cases c2 : 5 + bf b (8 * fr) 4 ≤ G
    · have hp9 := pw_9 (show 5 + bf b (8 * fr) 4 ≤ 9 by omega)
      generalize hoe : 5 + bf b (8 * fr) 4 = o at *
      have hk14 : z_k (w_i (w_i M8 p 9 (nI (8 * fr + 4))) p 7 (nI o)) (p + 1) = 100 := by rw [w_i_k, w_i_k, hM8.1]; exact s7
      have hn14 : z_n (w_i (w_i M8 p 9 (nI (8 * fr + 4))) p 7 (nI o)) (p + 1) = last + 1 := by rw [w_i_n, w_i_n, hM8.2.1]; exact s12
      obtain ⟨g, g1, g2⟩ := c_fillII (O := O) (x := 0) hk14 hn14 (by omega)
      generalize hM15 : w_u (w_i (w_i M8 p 9 (nI (8 * fr + 4))) p 7 (nI o)) (p + 1) g = M15 at g2
      have hst15 : zSt (fun q => p ≤ q ∧ q ≤ p + 5) M M15 := by rw [← hM15]; exact (hn9.wi ⟨by omega, by omega⟩).wu ⟨by omega, by omega⟩
      have hS15 : zShS M15 p G last := by
        rw [← hM15]
        refine hS9.fr rfl rfl (fun _ _ => rfl) (fun f hf => ?_)
        simp (disch := omega) only [zlet, w_i_k, w_i_n, w_i_i, w_i_j, w_i_p, w_i_s, w_j_k, w_j_n, w_j_i, w_j_j, w_j_p, w_j_s, w_p_k, w_p_n, w_p_i, w_p_j, w_p_p, w_p_s, w_c_k, w_c_n, w_c_i, w_c_j, w_c_p, w_c_s, w_u_k, w_u_n, w_u_i, w_u_j, w_u_p, w_u_s, q_nf, ↓reduceIte, if_true, if_false, eq_self, and_true, true_and, and_false, false_and, Option.bind_some, ne_eq, not_false_eq_true, not_true_eq_false]
      have hT15 : zShT M15 p r a N c last b (8 * fr + 4) (8 * to) := by
        refine ⟨⟨by rw [hst15.1]; exact s1, ?_, ?_, ?_⟩, hr0, hfrow hst15, c1, by omega, hS15.2.2.2.2.2.2.2.2.2.2.2.2.2.2.2.2.2, hla, by omega, by omega⟩
        · rw [← hM15]; exact d1
        · rw [← hM15]
          simp (disch := omega) only [zlet, w_i_k, w_i_n, w_i_i, w_i_j, w_i_p, w_i_s, w_j_k, w_j_n, w_j_i, w_j_j, w_j_p, w_j_s, w_p_k, w_p_n, w_p_i, w_p_j, w_p_p, w_p_s, w_c_k, w_c_n, w_c_i, w_c_j, w_c_p, w_c_s, w_u_k, w_u_n, w_u_i, w_u_j, w_u_p, w_u_s, q_nf, ↓reduceIte, if_true, if_false, eq_self, and_true, true_and, and_false, false_and, Option.bind_some, ne_eq, not_false_eq_true, not_true_eq_false]
        · rw [← hM15]
          simp (disch := omega) only [zlet, w_i_k, w_i_n, w_i_i, w_i_j, w_i_p, w_i_s, w_j_k, w_j_n, w_j_i, w_j_j, w_j_p, w_j_s, w_p_k, w_p_n, w_p_i, w_p_j, w_p_p, w_p_s, w_c_k, w_c_n, w_c_i, w_c_j, w_c_p, w_c_s, w_u_k, w_u_n, w_u_i, w_u_j, w_u_p, w_u_s, q_nf, ↓reduceIte, if_true, if_false, eq_self, and_true, true_and, and_false, false_and, Option.bind_some, ne_eq, not_false_eq_true, not_true_eq_false]
          exact hB8.2.2.2
      have h715 : z_i M15 p 7 = nI o := by
        rw [← hM15]
        simp (disch := omega) only [zlet, w_i_k, w_i_n, w_i_i, w_i_j, w_i_p, w_i_s, w_j_k, w_j_n, w_j_i, w_j_j, w_j_p, w_j_s, w_p_k, w_p_n, w_p_i, w_p_j, w_p_p, w_p_s, w_c_k, w_c_n, w_c_i, w_c_j, w_c_p, w_c_s, w_u_k, w_u_n, w_u_i, w_u_j, w_u_p, w_u_s, q_nf, ↓reduceIte, if_true, if_false, eq_self, and_true, true_and, and_false, false_and, Option.bind_some, ne_eq, not_false_eq_true, not_true_eq_false]
      have hP15 : zPts M15 p (p + 1) last (fun _ => 0) := ⟨hS15.2.1, hS15.2.2.2.2.2.2.1, hS15.2.2.2.2.2.2.2.2.2.2.2.1, fun j hj => by
        rw [← hM15]
        simp (disch := omega) only [zlet, w_i_k, w_i_n, w_i_i, w_i_j, w_i_p, w_i_s, w_j_k, w_j_n, w_j_i, w_j_j, w_j_p, w_j_s, w_p_k, w_p_n, w_p_i, w_p_j, w_p_p, w_p_s, w_c_k, w_c_n, w_c_i, w_c_j, w_c_p, w_c_s, w_u_k, w_u_n, w_u_i, w_u_j, w_u_p, w_u_s, q_nf, ↓reduceIte, if_true, if_false, eq_self, and_true, true_and, and_false, false_and, Option.bind_some, ne_eq, not_false_eq_true, not_true_eq_false]
        exact g1 j (by omega)⟩
      have htell := l_tell (O := O) (p := p) (r := r) (a := a) (N := N) (c := c) (last := last) (e := 8 * to) (ap := p + 1) (b := b) (by omega) (by omega) (by omega) (last + 2) (2 ^ o) 0 (8 * fr + 4) (fun _ => 0) M15 (by omega) (by omega) hp9 hT15 hP15
      have start2 : ∀ {α : Int32 × zM}, zEv (fun n => f_Share_tell_73 O n p (nI (2 ^ o)) (nI 0) M15) α → zEv (fun n => F_Share_tell O n p r (nI fr) (nI to) M) α := fun hα => by
        refine start (zEv.bind hnb ?_)
        have e5 : nI (bf b (8 * fr) 4) + (5 : Int32) = nI o := by rw [show (5 : Int32) = nI 5 from rfl, nI_add, ← hoe, Nat.add_comm]
        have k9 : z_k (w_i M8 p 9 (nI (8 * fr + 4))) p = 11 := hS9.1
        have i9 : z_i (w_i M8 p 9 (nI (8 * fr + 4))) p 0 = nI G := hS9.2.2.2.2.2.2.2.2.2.2.2.2.2.2.2.2.1
        have p14 : z_p (w_i (w_i M8 p 9 (nI (8 * fr + 4))) p 7 (nI o)) p 2 = p + 1 := hS9.2.1
        simp only [if_neg (show ¬ nI (bf b (8 * fr) 4) < 0 from nI_pos (by omega)), e5, if_pos k9, i9, if_pos (show nI o ≤ nI G from nI_le c2 (by omega)), zlet, p14]
        refine zEv.bind g2 ?_
        simp only [if_pos (show z_k M15 p = 11 from hS15.1), h715, zlet]
        rw [show (1 : Int32) = nI 1 from rfl, show (31 : Int32) = nI 31 from rfl, sh1 (by omega)]
        exact hα
      have hsub : ∀ q, q = p ∨ q = p + 1 → p ≤ q ∧ q ≤ p + 5 := fun q hq => by omega
      cases hsh : shT b fr to G last with
      | none =>
        have hns := shT_none hsh c1 (by omega)
        rw [hoe] at hns
        rw [hns] at htell
        obtain ⟨M', m1, m3, m2⟩ := htell
        exact ⟨M', hst15.tr (m1.st.mono hsub), hS15.fr m1.1 m1.2.1 (fun f _ => by rw [m1.2.2.2.2.1]) (fun f hf => m3 f (by omega)), by rw [m1.2.2.2.2.1]; exact hT15.1.2.1, start2 m2⟩
      | some q =>
        obtain ⟨o', u, nx⟩ := q
        obtain ⟨t1, t2, t3, t4, t5, pos', t6, t7⟩ := shT_ok hG (by omega) hsh
        rw [hoe] at t5
        subst t5
        rw [t7] at htell
        obtain ⟨M', m1, m2, m3, m4, m5⟩ := htell
        have hS' : zShS M' p G last := hS15.fr m1.1 m1.2.1 (fun f _ => by rw [m1.2.2.2.2.1]) (fun f hf => m4 f (by omega))
        obtain ⟨N', T', B', E', l1, l2⟩ := c_Share_lay (O := O) (u := u) hS' c2 hG t1 (by rw [m4 7 (by omega)]; exact h715) (fun s hs => m3.2.2.2 s hs)
        refine ⟨w_S M' p N' T' B' E', (hst15.tr (m1.st.mono hsub)).wS ⟨⟨by omega, by omega⟩, ⟨by omega, by omega⟩, ⟨by omega, by omega⟩, ⟨by omega, by omega⟩⟩, hS'.fr rfl rfl (fun _ _ => rfl) (fun f hf => by simp (disch := omega) only [zlet, w_i_k, w_i_n, w_i_i, w_i_j, w_i_p, w_i_s, w_j_k, w_j_n, w_j_i, w_j_j, w_j_p, w_j_s, w_p_k, w_p_n, w_p_i, w_p_j, w_p_p, w_p_s, w_c_k, w_c_n, w_c_i, w_c_j, w_c_p, w_c_s, w_u_k, w_u_n, w_u_i, w_u_j, w_u_p, w_u_s, q_nf, ↓reduceIte, if_true, if_false, eq_self, and_true, true_and, and_false, false_and, Option.bind_some, ne_eq, not_false_eq_true, not_true_eq_false, w_S_i]), by rw [w_S_p, m1.2.2.2.2.1]; exact hT15.1.2.1, ?_, ?_, ?_⟩
        · refine start2 (m5 _ ?_)
          unfold f_Share_tell_148
          simp only [if_pos (show (0 : Int32) ≤ 0 by decide), if_pos hS'.1]
          refine zEv.bind l2 ((zEv.some _).to fun n => ?_)
          have k1 : z_k (w_S M' p N' T' B' E') p = 11 := hS'.1
          have i1 : z_i (w_S M' p N' T' B' E') p 9 = nI pos' := by simp (disch := omega) only [zlet, w_i_k, w_i_n, w_i_i, w_i_j, w_i_p, w_i_s, w_j_k, w_j_n, w_j_i, w_j_j, w_j_p, w_j_s, w_p_k, w_p_n, w_p_i, w_p_j, w_p_p, w_p_s, w_c_k, w_c_n, w_c_i, w_c_j, w_c_p, w_c_s, w_u_k, w_u_n, w_u_i, w_u_j, w_u_p, w_u_s, q_nf, ↓reduceIte, if_true, if_false, eq_self, and_true, true_and, and_false, false_and, Option.bind_some, ne_eq, not_false_eq_true, not_true_eq_false, w_S_i]; exact m2.1.2.2.1
          rw [if_pos k1, i1, show (7 : Int32) = nI 7 from rfl, nI_add, show (8 : Int32) = nI 8 from rfl, q_div (by have := m2.2.2.2.1; omega) (by omega) (by omega), t6]
        · simp (disch := omega) only [zlet, w_i_k, w_i_n, w_i_i, w_i_j, w_i_p, w_i_s, w_j_k, w_j_n, w_j_i, w_j_j, w_j_p, w_j_s, w_p_k, w_p_n, w_p_i, w_p_j, w_p_p, w_p_s, w_c_k, w_c_n, w_c_i, w_c_j, w_c_p, w_c_s, w_u_k, w_u_n, w_u_i, w_u_j, w_u_p, w_u_s, q_nf, ↓reduceIte, if_true, if_false, eq_self, and_true, true_and, and_false, false_and, Option.bind_some, ne_eq, not_false_eq_true, not_true_eq_false, w_S_i]
          rw [m4 7 (by omega)]; exact h715
        · intro k hk
          have := l1 k hk
          simp (disch := omega) only [zlet, w_i_k, w_i_n, w_i_i, w_i_j, w_i_p, w_i_s, w_j_k, w_j_n, w_j_i, w_j_j, w_j_p, w_j_s, w_p_k, w_p_n, w_p_i, w_p_j, w_p_p, w_p_s, w_c_k, w_c_n, w_c_i, w_c_j, w_c_p, w_c_s, w_u_k, w_u_n, w_u_i, w_u_j, w_u_p, w_u_s, q_nf, ↓reduceIte, if_true, if_false, eq_self, and_true, true_and, and_false, false_and, Option.bind_some, ne_eq, not_false_eq_true, not_true_eq_false, w_S_i, Nat.zero_add]
          exact this
    · have hsh : shT b fr to G last = none := by unfold shT; rw [if_neg (fun w => c2 w.2)]
      rw [hsh]
      refine ⟨w_i M8 p 9 (nI (8 * fr + 4)), hn9, hS9, d1, start (zEv.bind hnb ((zEv.some _).to fun n => ?_))⟩
      have k9 : z_k (w_i M8 p 9 (nI (8 * fr + 4))) p = 11 := hS9.1
      have i9 : z_i (w_i M8 p 9 (nI (8 * fr + 4))) p 0 = nI G := hS9.2.2.2.2.2.2.2.2.2.2.2.2.2.2.2.2.1
      dsimp only
      rw [if_neg (nI_pos (by omega)), if_pos k9, i9, show (5 : Int32) = nI 5 from rfl, nI_add, if_neg (fun w => by have := (nI_leI (by omega) (by omega)).mp w; omega)]
      rfl
  · rw [if_neg c1] at hnb
    have hsh : shT b fr to G last = none := by unfold shT; rw [if_neg (fun w => c1 w.1)]
    rw [hsh]
    refine ⟨M8, hM8, hS8, d1, start (zEv.bind hnb ((zEv.some _).to fun n => ?_))⟩
    rfl
/-! The reference's share, as a whole. -/
theorem zSi_u {M M' : zM} {a : Nat} (h : zSi (fun q => q = a) M M') : M' = w_u M a (z_i M' a) := by
  obtain ⟨a1, a2, a3, a4, a5, a6⟩ := h
  refine zM_ext (fun q => by rw [a1]; rfl) (fun q => by rw [a2]; rfl) (fun q j => ?_) (fun q j => by rw [a4]; rfl) (fun q j => by rw [a5]; rfl) (by rw [a3]; rfl)
  rw [w_u_i]
  by_cases c : q = a
  · rw [if_pos c, c]
  · rw [if_neg c, a6 q j c]
theorem l_Mo_85 {O : zO} {M : zM} {m last pos e o : Nat} (h1 : z_k M m = 13) (h2 : z_p M m 21 = m + 16) (h3 : z_k M (m + 16) = 100) (h4 : z_n M (m + 16) = 256) (h5 : z_i M m 22 = nI o) (h6 : o ≤ 9) : ∀ d k, k + d = 256 → ∀ g, (∀ j, j < k → g j = 0) → ∃ g', (∀ j, j < 256 → g' j = 0) ∧ ∀ α, zEv (fun n => f_Mo_share_118 O n m (nI last) (nI pos) (nI e) (nI (2 ^ o)) 0 (w_u M (m + 16) g')) α → zEv (fun n => f_Mo_share_85 O n m (nI last) (nI pos) (nI e) (nI k) (w_u M (m + 16) g)) α := by
  have hp := pw_9 h6
  intro d
  induction d with
  | zero =>
    intro k hk g hg
    refine ⟨g, fun j hj => hg j (by omega), fun α hα => zEv.succ (hα.to fun n => ?_)⟩
    rw [f_Mo_share_85]
    simp (disch := omega) only [zlet, w_i_k, w_i_n, w_i_i, w_i_j, w_i_p, w_i_s, w_j_k, w_j_n, w_j_i, w_j_j, w_j_p, w_j_s, w_p_k, w_p_n, w_p_i, w_p_j, w_p_p, w_p_s, w_c_k, w_c_n, w_c_i, w_c_j, w_c_p, w_c_s, w_u_k, w_u_n, w_u_i, w_u_j, w_u_p, w_u_s, q_nf, ↓reduceIte, if_true, if_false, eq_self, and_true, true_and, and_false, false_and, Option.bind_some, ne_eq, not_false_eq_true, not_true_eq_false, nI_add, pk_mul, pk_sub, nI_ac, q_tlt, q_flt, q_tle, q_fle, q_teq, q_feq, q_tin, nI_cl, q_m1, q_m2, q_m3, q_m4, q_m5, q_m6, q_m7, q_l1, q_l2, q_l3, q_l4, q_l5, q_l6, lN_add, lN_mul, lN_sub, lN_i, nI_l, q_rem, q_rem2, q_div, q_shl, q_shr, q_i0, q_i1, q_i2, q_i3, q_i4, q_i5, q_i6, q_i7, q_i8, q_i9, q_i10, q_i11, q_i12, q_i14, q_i15, q_i16, q_i17, q_i18, q_i19, q_i20, q_i22, q_i24, q_i26, q_i28, q_i30, q_i31, q_i32, q_i35, q_i36, q_i38, q_i40, q_i42, q_i43, q_i48, q_i51, q_i52, q_i56, q_i63, q_i64, q_i67, q_i80, q_i95, q_i99, q_i126, q_i127, q_i128, q_i255, q_i256, q_i512, q_i1024, q_i12000, q_i32512, q_i32768, q_i131072, q_j0, q_j1, q_j2, q_j3, q_j4, q_j8, q_j256, Nat.one_mul, Nat.zero_add, Nat.add_zero, Nat.sub_zero, Nat.mul_one, q_ofN, h1, h5]
  | succ d ih =>
    intro k hk g hg
    obtain ⟨g', g1, g2⟩ := ih (k + 1) (by omega) (upd g k 0) (fun j hj => by
      rw [upd_at]
      by_cases c : j = k
      · rw [if_pos c]
      · rw [if_neg c]; exact hg j (by omega))
    refine ⟨g', g1, fun α hα => zEv.succ ((g2 α hα).to fun n => ?_)⟩
    rw [f_Mo_share_85]
    simp (disch := omega) only [zlet, w_i_k, w_i_n, w_i_i, w_i_j, w_i_p, w_i_s, w_j_k, w_j_n, w_j_i, w_j_j, w_j_p, w_j_s, w_p_k, w_p_n, w_p_i, w_p_j, w_p_p, w_p_s, w_c_k, w_c_n, w_c_i, w_c_j, w_c_p, w_c_s, w_u_k, w_u_n, w_u_i, w_u_j, w_u_p, w_u_s, q_nf, ↓reduceIte, if_true, if_false, eq_self, and_true, true_and, and_false, false_and, Option.bind_some, ne_eq, not_false_eq_true, not_true_eq_false, nI_add, pk_mul, pk_sub, nI_ac, q_tlt, q_flt, q_tle, q_fle, q_teq, q_feq, q_tin, nI_cl, q_m1, q_m2, q_m3, q_m4, q_m5, q_m6, q_m7, q_l1, q_l2, q_l3, q_l4, q_l5, q_l6, lN_add, lN_mul, lN_sub, lN_i, nI_l, q_rem, q_rem2, q_div, q_shl, q_shr, q_i0, q_i1, q_i2, q_i3, q_i4, q_i5, q_i6, q_i7, q_i8, q_i9, q_i10, q_i11, q_i12, q_i14, q_i15, q_i16, q_i17, q_i18, q_i19, q_i20, q_i22, q_i24, q_i26, q_i28, q_i30, q_i31, q_i32, q_i35, q_i36, q_i38, q_i40, q_i42, q_i43, q_i48, q_i51, q_i52, q_i56, q_i63, q_i64, q_i67, q_i80, q_i95, q_i99, q_i126, q_i127, q_i128, q_i255, q_i256, q_i512, q_i1024, q_i12000, q_i32512, q_i32768, q_i131072, q_j0, q_j1, q_j2, q_j3, q_j4, q_j8, q_j256, Nat.one_mul, Nat.zero_add, Nat.add_zero, Nat.sub_zero, Nat.mul_one, q_ofN, h1, h2, h3, h4, w_u_w]
theorem c_Mo_share {O : zO} {M : zM} {m G last c fr to : Nat} {b : Nat → Nat} (hin : zIn13 M m (m + 1) c b) (h2 : z_p M m 21 = m + 16) (h3 : z_k M (m + 16) = 100) (h4 : z_n M (m + 16) = 256) (hG : G ≤ 9) (hla : last ≤ 52) (h5 : fr ≤ to) (h6 : to ≤ c) : ∃ x g, match shT b fr to G last with
    | none => zEv (fun n => F_Mo_share O n m (nI fr) (nI to) (nI G) (nI last) M) (-1, w_u (w_i M m 22 x) (m + 16) g)
    | some (o, u, nx) => zEv (fun n => F_Mo_share O n m (nI fr) (nI to) (nI G) (nI last) M) (nI nx, w_u (w_i M m 22 x) (m + 16) g) ∧ x = nI o ∧ ∀ j, j < 256 → g j = nI (u j) - 1 := by
  have h1 := hin.1
  have hc := hin.2.2.2.2.2.1
  have hself : ∀ x, w_i M m 22 x = w_u (w_i M m 22 x) (m + 16) (z_i (w_i M m 22 x) (m + 16)) := fun x => (w_u_self _ _).symm
  by_cases c1 : 8 * fr + 4 ≤ 8 * to
  · have t0 := bt8_lt b (8 * fr)
    have t1 := bt8_lt b (8 * fr + 1)
    have t2 := bt8_lt b (8 * fr + 2)
    have t3 := bt8_lt b (8 * fr + 3)
    have e4 : bf b (8 * fr) 4 = bt8 b (8 * fr) + 2 * bt8 b (8 * fr + 1) + 4 * bt8 b (8 * fr + 2) + 8 * bt8 b (8 * fr + 3) := by simp [bf]
    have start : ∀ {α : Int32 × zM}, zEv (fun n => if (z_i (w_i M m 22 (nI (5 + bf b (8 * fr) 4))) m 22) ≤ nI G then
        f_Mo_share_85 O n m (nI last) (nI (8 * fr + 4)) (nI (8 * to)) (nI 0) (w_i M m 22 (nI (5 + bf b (8 * fr) 4)))
        else some ((-1 : Int32), (w_i M m 22 (nI (5 + bf b (8 * fr) 4))))) α → zEv (fun n => F_Mo_share O n m (nI fr) (nI to) (nI G) (nI last) M) α := fun hα => by
      unfold F_Mo_share f_Mo_share_0
      simp (disch := omega) only [zlet, w_i_k, w_i_n, w_i_i, w_i_j, w_i_p, w_i_s, w_j_k, w_j_n, w_j_i, w_j_j, w_j_p, w_j_s, w_p_k, w_p_n, w_p_i, w_p_j, w_p_p, w_p_s, w_c_k, w_c_n, w_c_i, w_c_j, w_c_p, w_c_s, w_u_k, w_u_n, w_u_i, w_u_j, w_u_p, w_u_s, q_nf, ↓reduceIte, if_true, if_false, eq_self, and_true, true_and, and_false, false_and, Option.bind_some, ne_eq, not_false_eq_true, not_true_eq_false, nI_add, pk_mul, pk_sub, nI_ac, q_tlt, q_flt, q_tle, q_fle, q_teq, q_feq, q_tin, nI_cl, q_m1, q_m2, q_m3, q_m4, q_m5, q_m6, q_m7, q_l1, q_l2, q_l3, q_l4, q_l5, q_l6, lN_add, lN_mul, lN_sub, lN_i, nI_l, q_rem, q_rem2, q_div, q_shl, q_shr, q_i0, q_i1, q_i2, q_i3, q_i4, q_i5, q_i6, q_i7, q_i8, q_i9, q_i10, q_i11, q_i12, q_i14, q_i15, q_i16, q_i17, q_i18, q_i19, q_i20, q_i22, q_i24, q_i26, q_i28, q_i30, q_i31, q_i32, q_i35, q_i36, q_i38, q_i40, q_i42, q_i43, q_i48, q_i51, q_i52, q_i56, q_i63, q_i64, q_i67, q_i80, q_i95, q_i99, q_i126, q_i127, q_i128, q_i255, q_i256, q_i512, q_i1024, q_i12000, q_i32512, q_i32768, q_i131072, q_j0, q_j1, q_j2, q_j3, q_j4, q_j8, q_j256, Nat.one_mul, Nat.zero_add, Nat.add_zero, Nat.sub_zero, Nat.mul_one, q_ofN, h1]
      refine zEv.bind (c_Mo_bit hin (by omega)) ?_
      simp (disch := omega) only [zlet, w_i_k, w_i_n, w_i_i, w_i_j, w_i_p, w_i_s, w_j_k, w_j_n, w_j_i, w_j_j, w_j_p, w_j_s, w_p_k, w_p_n, w_p_i, w_p_j, w_p_p, w_p_s, w_c_k, w_c_n, w_c_i, w_c_j, w_c_p, w_c_s, w_u_k, w_u_n, w_u_i, w_u_j, w_u_p, w_u_s, q_nf, ↓reduceIte, if_true, if_false, eq_self, and_true, true_and, and_false, false_and, Option.bind_some, ne_eq, not_false_eq_true, not_true_eq_false, nI_add, pk_mul, pk_sub, nI_ac, q_tlt, q_flt, q_tle, q_fle, q_teq, q_feq, q_tin, nI_cl, q_m1, q_m2, q_m3, q_m4, q_m5, q_m6, q_m7, q_l1, q_l2, q_l3, q_l4, q_l5, q_l6, lN_add, lN_mul, lN_sub, lN_i, nI_l, q_rem, q_rem2, q_div, q_shl, q_shr, q_i0, q_i1, q_i2, q_i3, q_i4, q_i5, q_i6, q_i7, q_i8, q_i9, q_i10, q_i11, q_i12, q_i14, q_i15, q_i16, q_i17, q_i18, q_i19, q_i20, q_i22, q_i24, q_i26, q_i28, q_i30, q_i31, q_i32, q_i35, q_i36, q_i38, q_i40, q_i42, q_i43, q_i48, q_i51, q_i52, q_i56, q_i63, q_i64, q_i67, q_i80, q_i95, q_i99, q_i126, q_i127, q_i128, q_i255, q_i256, q_i512, q_i1024, q_i12000, q_i32512, q_i32768, q_i131072, q_j0, q_j1, q_j2, q_j3, q_j4, q_j8, q_j256, Nat.one_mul, Nat.zero_add, Nat.add_zero, Nat.sub_zero, Nat.mul_one, q_ofN, h1]
      refine zEv.bind (c_Mo_bit hin (by omega)) ?_
      simp (disch := omega) only [zlet, w_i_k, w_i_n, w_i_i, w_i_j, w_i_p, w_i_s, w_j_k, w_j_n, w_j_i, w_j_j, w_j_p, w_j_s, w_p_k, w_p_n, w_p_i, w_p_j, w_p_p, w_p_s, w_c_k, w_c_n, w_c_i, w_c_j, w_c_p, w_c_s, w_u_k, w_u_n, w_u_i, w_u_j, w_u_p, w_u_s, q_nf, ↓reduceIte, if_true, if_false, eq_self, and_true, true_and, and_false, false_and, Option.bind_some, ne_eq, not_false_eq_true, not_true_eq_false, nI_add, pk_mul, pk_sub, nI_ac, q_tlt, q_flt, q_tle, q_fle, q_teq, q_feq, q_tin, nI_cl, q_m1, q_m2, q_m3, q_m4, q_m5, q_m6, q_m7, q_l1, q_l2, q_l3, q_l4, q_l5, q_l6, lN_add, lN_mul, lN_sub, lN_i, nI_l, q_rem, q_rem2, q_div, q_shl, q_shr, q_i0, q_i1, q_i2, q_i3, q_i4, q_i5, q_i6, q_i7, q_i8, q_i9, q_i10, q_i11, q_i12, q_i14, q_i15, q_i16, q_i17, q_i18, q_i19, q_i20, q_i22, q_i24, q_i26, q_i28, q_i30, q_i31, q_i32, q_i35, q_i36, q_i38, q_i40, q_i42, q_i43, q_i48, q_i51, q_i52, q_i56, q_i63, q_i64, q_i67, q_i80, q_i95, q_i99, q_i126, q_i127, q_i128, q_i255, q_i256, q_i512, q_i1024, q_i12000, q_i32512, q_i32768, q_i131072, q_j0, q_j1, q_j2, q_j3, q_j4, q_j8, q_j256, Nat.one_mul, Nat.zero_add, Nat.add_zero, Nat.sub_zero, Nat.mul_one, q_ofN, h1]
      refine zEv.bind (c_Mo_bit hin (by omega)) ?_
      simp (disch := omega) only [zlet, w_i_k, w_i_n, w_i_i, w_i_j, w_i_p, w_i_s, w_j_k, w_j_n, w_j_i, w_j_j, w_j_p, w_j_s, w_p_k, w_p_n, w_p_i, w_p_j, w_p_p, w_p_s, w_c_k, w_c_n, w_c_i, w_c_j, w_c_p, w_c_s, w_u_k, w_u_n, w_u_i, w_u_j, w_u_p, w_u_s, q_nf, ↓reduceIte, if_true, if_false, eq_self, and_true, true_and, and_false, false_and, Option.bind_some, ne_eq, not_false_eq_true, not_true_eq_false, nI_add, pk_mul, pk_sub, nI_ac, q_tlt, q_flt, q_tle, q_fle, q_teq, q_feq, q_tin, nI_cl, q_m1, q_m2, q_m3, q_m4, q_m5, q_m6, q_m7, q_l1, q_l2, q_l3, q_l4, q_l5, q_l6, lN_add, lN_mul, lN_sub, lN_i, nI_l, q_rem, q_rem2, q_div, q_shl, q_shr, q_i0, q_i1, q_i2, q_i3, q_i4, q_i5, q_i6, q_i7, q_i8, q_i9, q_i10, q_i11, q_i12, q_i14, q_i15, q_i16, q_i17, q_i18, q_i19, q_i20, q_i22, q_i24, q_i26, q_i28, q_i30, q_i31, q_i32, q_i35, q_i36, q_i38, q_i40, q_i42, q_i43, q_i48, q_i51, q_i52, q_i56, q_i63, q_i64, q_i67, q_i80, q_i95, q_i99, q_i126, q_i127, q_i128, q_i255, q_i256, q_i512, q_i1024, q_i12000, q_i32512, q_i32768, q_i131072, q_j0, q_j1, q_j2, q_j3, q_j4, q_j8, q_j256, Nat.one_mul, Nat.zero_add, Nat.add_zero, Nat.sub_zero, Nat.mul_one, q_ofN, h1]
      refine zEv.bind (c_Mo_bit hin (by omega)) ?_
      refine hα.to fun n => ?_
      rw [e4]
      simp (disch := omega) only [zlet, w_i_k, w_i_n, w_i_i, w_i_j, w_i_p, w_i_s, w_j_k, w_j_n, w_j_i, w_j_j, w_j_p, w_j_s, w_p_k, w_p_n, w_p_i, w_p_j, w_p_p, w_p_s, w_c_k, w_c_n, w_c_i, w_c_j, w_c_p, w_c_s, w_u_k, w_u_n, w_u_i, w_u_j, w_u_p, w_u_s, q_nf, ↓reduceIte, if_true, if_false, eq_self, and_true, true_and, and_false, false_and, Option.bind_some, ne_eq, not_false_eq_true, not_true_eq_false, nI_add, pk_mul, pk_sub, nI_ac, q_tlt, q_flt, q_tle, q_fle, q_teq, q_feq, q_tin, nI_cl, q_m1, q_m2, q_m3, q_m4, q_m5, q_m6, q_m7, q_l1, q_l2, q_l3, q_l4, q_l5, q_l6, lN_add, lN_mul, lN_sub, lN_i, nI_l, q_rem, q_rem2, q_div, q_shl, q_shr, q_i0, q_i1, q_i2, q_i3, q_i4, q_i5, q_i6, q_i7, q_i8, q_i9, q_i10, q_i11, q_i12, q_i14, q_i15, q_i16, q_i17, q_i18, q_i19, q_i20, q_i22, q_i24, q_i26, q_i28, q_i30, q_i31, q_i32, q_i35, q_i36, q_i38, q_i40, q_i42, q_i43, q_i48, q_i51, q_i52, q_i56, q_i63, q_i64, q_i67, q_i80, q_i95, q_i99, q_i126, q_i127, q_i128, q_i255, q_i256, q_i512, q_i1024, q_i12000, q_i32512, q_i32768, q_i131072, q_j0, q_j1, q_j2, q_j3, q_j4, q_j8, q_j256, Nat.one_mul, Nat.zero_add, Nat.add_zero, Nat.sub_zero, Nat.mul_one, q_ofN, h1]
      rw [show 5 + (bt8 b (8 * fr) + 2 * bt8 b (8 * fr + 1) + 4 * bt8 b (8 * fr + 2) + 8 * bt8 b (8 * fr + 3)) = 5 + bt8 b (8 * fr) + 2 * bt8 b (8 * fr + 1) + 4 * bt8 b (8 * fr + 2) + 8 * bt8 b (8 * fr + 3) by omega]
    have hlt := bf_lt b (8 * fr) 4
    by_cases c2 : 5 + bf b (8 * fr) 4 ≤ G
    · generalize hoe : 5 + bf b (8 * fr) 4 = o at *
      have hp9 := pw_9 (show o ≤ 9 by omega)
      obtain ⟨g', g1, g2⟩ := l_Mo_85 (O := O) (M := w_i M m 22 (nI o)) (last := last) (pos := 8 * fr + 4) (e := 8 * to) (o := o) h1 h2 h3 h4 (by simp (disch := omega) only [zlet, w_i_k, w_i_n, w_i_i, w_i_j, w_i_p, w_i_s, w_j_k, w_j_n, w_j_i, w_j_j, w_j_p, w_j_s, w_p_k, w_p_n, w_p_i, w_p_j, w_p_p, w_p_s, w_c_k, w_c_n, w_c_i, w_c_j, w_c_p, w_c_s, w_u_k, w_u_n, w_u_i, w_u_j, w_u_p, w_u_s, q_nf, ↓reduceIte, if_true, if_false, eq_self, and_true, true_and, and_false, false_and, Option.bind_some, ne_eq, not_false_eq_true, not_true_eq_false]) (by omega) 256 0 (by omega) (z_i (w_i M m 22 (nI o)) (m + 16)) (fun j hj => by omega)
      have start2 : ∀ {α : Int32 × zM}, zEv (fun n => f_Mo_share_118 O n m (nI last) (nI (8 * fr + 4)) (nI (8 * to)) (nI (2 ^ o)) 0 (w_u (w_i M m 22 (nI o)) (m + 16) g')) α → zEv (fun n => F_Mo_share O n m (nI fr) (nI to) (nI G) (nI last) M) α := fun {α} hα => by
        refine start ((g2 α hα).to fun n => ?_)
        rw [w_u_self]
        simp (disch := omega) only [zlet, w_i_k, w_i_n, w_i_i, w_i_j, w_i_p, w_i_s, w_j_k, w_j_n, w_j_i, w_j_j, w_j_p, w_j_s, w_p_k, w_p_n, w_p_i, w_p_j, w_p_p, w_p_s, w_c_k, w_c_n, w_c_i, w_c_j, w_c_p, w_c_s, w_u_k, w_u_n, w_u_i, w_u_j, w_u_p, w_u_s, q_nf, ↓reduceIte, if_true, if_false, eq_self, and_true, true_and, and_false, false_and, Option.bind_some, ne_eq, not_false_eq_true, not_true_eq_false, nI_add, pk_mul, pk_sub, nI_ac, q_tlt, q_flt, q_tle, q_fle, q_teq, q_feq, q_tin, nI_cl, q_m1, q_m2, q_m3, q_m4, q_m5, q_m6, q_m7, q_l1, q_l2, q_l3, q_l4, q_l5, q_l6, lN_add, lN_mul, lN_sub, lN_i, nI_l, q_rem, q_rem2, q_div, q_shl, q_shr, q_i0, q_i1, q_i2, q_i3, q_i4, q_i5, q_i6, q_i7, q_i8, q_i9, q_i10, q_i11, q_i12, q_i14, q_i15, q_i16, q_i17, q_i18, q_i19, q_i20, q_i22, q_i24, q_i26, q_i28, q_i30, q_i31, q_i32, q_i35, q_i36, q_i38, q_i40, q_i42, q_i43, q_i48, q_i51, q_i52, q_i56, q_i63, q_i64, q_i67, q_i80, q_i95, q_i99, q_i126, q_i127, q_i128, q_i255, q_i256, q_i512, q_i1024, q_i12000, q_i32512, q_i32768, q_i131072, q_j0, q_j1, q_j2, q_j3, q_j4, q_j8, q_j256, Nat.one_mul, Nat.zero_add, Nat.add_zero, Nat.sub_zero, Nat.mul_one, q_ofN]
      have hin' : zIn13 (w_u (w_i M m 22 (nI o)) (m + 16) g') m (m + 1) c b := by
        obtain ⟨i1, i2, i3, i4, i5, i6, i7⟩ := hin
        refine ⟨i1, i2, i3, i4, ?_, i6, fun j hj => ⟨(i7 j hj).1, ?_⟩⟩
        · simp (disch := omega) only [zlet, w_i_k, w_i_n, w_i_i, w_i_j, w_i_p, w_i_s, w_j_k, w_j_n, w_j_i, w_j_j, w_j_p, w_j_s, w_p_k, w_p_n, w_p_i, w_p_j, w_p_p, w_p_s, w_c_k, w_c_n, w_c_i, w_c_j, w_c_p, w_c_s, w_u_k, w_u_n, w_u_i, w_u_j, w_u_p, w_u_s, q_nf, ↓reduceIte, if_true, if_false, eq_self, and_true, true_and, and_false, false_and, Option.bind_some, ne_eq, not_false_eq_true, not_true_eq_false]
          exact i5
        · simp (disch := omega) only [zlet, w_i_k, w_i_n, w_i_i, w_i_j, w_i_p, w_i_s, w_j_k, w_j_n, w_j_i, w_j_j, w_j_p, w_j_s, w_p_k, w_p_n, w_p_i, w_p_j, w_p_p, w_p_s, w_c_k, w_c_n, w_c_i, w_c_j, w_c_p, w_c_s, w_u_k, w_u_n, w_u_i, w_u_j, w_u_p, w_u_s, q_nf, ↓reduceIte, if_true, if_false, eq_self, and_true, true_and, and_false, false_and, Option.bind_some, ne_eq, not_false_eq_true, not_true_eq_false]
          exact (i7 j hj).2
      have hdr : zDr (w_u (w_i M m 22 (nI o)) (m + 16) g') m (m + 1) (m + 16) (fun _ => 0) := by
        refine ⟨h2, h3, h4, by omega, by omega, fun j hj => ?_⟩
        simp (disch := omega) only [zlet, w_i_k, w_i_n, w_i_i, w_i_j, w_i_p, w_i_s, w_j_k, w_j_n, w_j_i, w_j_j, w_j_p, w_j_s, w_p_k, w_p_n, w_p_i, w_p_j, w_p_p, w_p_s, w_c_k, w_c_n, w_c_i, w_c_j, w_c_p, w_c_s, w_u_k, w_u_n, w_u_i, w_u_j, w_u_p, w_u_s, q_nf, ↓reduceIte, if_true, if_false, eq_self, and_true, true_and, and_false, false_and, Option.bind_some, ne_eq, not_false_eq_true, not_true_eq_false]
        exact g1 j hj
      have hms := l_Mo_share (O := O) (p := m) (a := m + 1) (c := c) (last := last) (e := 8 * to) (ad := m + 16) (b := b) (by omega) hla (last + 2) (2 ^ o) 0 (8 * fr + 4) (fun _ => 0) _ (by omega) (by omega) hp9 c1 hin' hdr
      cases hsh : shT b fr to G last with
      | none =>
        have hns := shT_none hsh c1 (by omega)
        rw [hoe] at hns
        rw [hns] at hms
        obtain ⟨M', m1, m2⟩ := hms
        refine ⟨nI o, z_i M' (m + 16), start2 (m1.eq ?_)⟩
        rw [zSi_u m2, w_u_u]
        congr 2
        funext j
        simp (disch := omega) only [zlet, w_i_k, w_i_n, w_i_i, w_i_j, w_i_p, w_i_s, w_j_k, w_j_n, w_j_i, w_j_j, w_j_p, w_j_s, w_p_k, w_p_n, w_p_i, w_p_j, w_p_p, w_p_s, w_c_k, w_c_n, w_c_i, w_c_j, w_c_p, w_c_s, w_u_k, w_u_n, w_u_i, w_u_j, w_u_p, w_u_s, q_nf, ↓reduceIte, if_true, if_false, eq_self, and_true, true_and, and_false, false_and, Option.bind_some, ne_eq, not_false_eq_true, not_true_eq_false]
      | some q =>
        obtain ⟨o', u, nx⟩ := q
        obtain ⟨q1, q2, q3, q4, q5, pos', q6, q7⟩ := shT_ok hG (by omega) hsh
        rw [hoe] at q5
        subst q5
        rw [q7] at hms
        obtain ⟨M', m1, m2, m3, m4⟩ := hms
        refine ⟨nI o', z_i M' (m + 16), start2 (m1.eq ?_), rfl, fun j hj => m3.2.2.2.2.2 j hj⟩
        rw [q6, zSi_u m2, w_u_u]
        congr 2
        funext j
        simp (disch := omega) only [zlet, w_i_k, w_i_n, w_i_i, w_i_j, w_i_p, w_i_s, w_j_k, w_j_n, w_j_i, w_j_j, w_j_p, w_j_s, w_p_k, w_p_n, w_p_i, w_p_j, w_p_p, w_p_s, w_c_k, w_c_n, w_c_i, w_c_j, w_c_p, w_c_s, w_u_k, w_u_n, w_u_i, w_u_j, w_u_p, w_u_s, q_nf, ↓reduceIte, if_true, if_false, eq_self, and_true, true_and, and_false, false_and, Option.bind_some, ne_eq, not_false_eq_true, not_true_eq_false]
    · have hsh : shT b fr to G last = none := by unfold shT; rw [if_neg (fun w => c2 w.2)]
      rw [hsh]
      refine ⟨nI (5 + bf b (8 * fr) 4), z_i (w_i M m 22 (nI (5 + bf b (8 * fr) 4))) (m + 16), start ((zEv.some _).to fun n => ?_)⟩
      rw [← hself]
      simp (disch := omega) only [zlet, w_i_k, w_i_n, w_i_i, w_i_j, w_i_p, w_i_s, w_j_k, w_j_n, w_j_i, w_j_j, w_j_p, w_j_s, w_p_k, w_p_n, w_p_i, w_p_j, w_p_p, w_p_s, w_c_k, w_c_n, w_c_i, w_c_j, w_c_p, w_c_s, w_u_k, w_u_n, w_u_i, w_u_j, w_u_p, w_u_s, q_nf, ↓reduceIte, if_true, if_false, eq_self, and_true, true_and, and_false, false_and, Option.bind_some, ne_eq, not_false_eq_true, not_true_eq_false, nI_add, pk_mul, pk_sub, nI_ac, q_tlt, q_flt, q_tle, q_fle, q_teq, q_feq, q_tin, nI_cl, q_m1, q_m2, q_m3, q_m4, q_m5, q_m6, q_m7, q_l1, q_l2, q_l3, q_l4, q_l5, q_l6, lN_add, lN_mul, lN_sub, lN_i, nI_l, q_rem, q_rem2, q_div, q_shl, q_shr, q_i0, q_i1, q_i2, q_i3, q_i4, q_i5, q_i6, q_i7, q_i8, q_i9, q_i10, q_i11, q_i12, q_i14, q_i15, q_i16, q_i17, q_i18, q_i19, q_i20, q_i22, q_i24, q_i26, q_i28, q_i30, q_i31, q_i32, q_i35, q_i36, q_i38, q_i40, q_i42, q_i43, q_i48, q_i51, q_i52, q_i56, q_i63, q_i64, q_i67, q_i80, q_i95, q_i99, q_i126, q_i127, q_i128, q_i255, q_i256, q_i512, q_i1024, q_i12000, q_i32512, q_i32768, q_i131072, q_j0, q_j1, q_j2, q_j3, q_j4, q_j8, q_j256, Nat.one_mul, Nat.zero_add, Nat.add_zero, Nat.sub_zero, Nat.mul_one, q_ofN]
  · have hsh : shT b fr to G last = none := by unfold shT; rw [if_neg (fun w => c1 w.1)]
    rw [hsh]
    refine ⟨z_i M m 22, z_i M (m + 16), (zEv.some _).to fun n => ?_⟩
    rw [w_is rfl, w_u_self]
    unfold F_Mo_share f_Mo_share_0
    simp (disch := omega) only [zlet, w_i_k, w_i_n, w_i_i, w_i_j, w_i_p, w_i_s, w_j_k, w_j_n, w_j_i, w_j_j, w_j_p, w_j_s, w_p_k, w_p_n, w_p_i, w_p_j, w_p_p, w_p_s, w_c_k, w_c_n, w_c_i, w_c_j, w_c_p, w_c_s, w_u_k, w_u_n, w_u_i, w_u_j, w_u_p, w_u_s, q_nf, ↓reduceIte, if_true, if_false, eq_self, and_true, true_and, and_false, false_and, Option.bind_some, ne_eq, not_false_eq_true, not_true_eq_false, nI_add, pk_mul, pk_sub, nI_ac, q_tlt, q_flt, q_tle, q_fle, q_teq, q_feq, q_tin, nI_cl, q_m1, q_m2, q_m3, q_m4, q_m5, q_m6, q_m7, q_l1, q_l2, q_l3, q_l4, q_l5, q_l6, lN_add, lN_mul, lN_sub, lN_i, nI_l, q_rem, q_rem2, q_div, q_shl, q_shr, q_i0, q_i1, q_i2, q_i3, q_i4, q_i5, q_i6, q_i7, q_i8, q_i9, q_i10, q_i11, q_i12, q_i14, q_i15, q_i16, q_i17, q_i18, q_i19, q_i20, q_i22, q_i24, q_i26, q_i28, q_i30, q_i31, q_i32, q_i35, q_i36, q_i38, q_i40, q_i42, q_i43, q_i48, q_i51, q_i52, q_i56, q_i63, q_i64, q_i67, q_i80, q_i95, q_i99, q_i126, q_i127, q_i128, q_i255, q_i256, q_i512, q_i1024, q_i12000, q_i32512, q_i32768, q_i131072, q_j0, q_j1, q_j2, q_j3, q_j4, q_j8, q_j256, Nat.one_mul, Nat.zero_add, Nat.add_zero, Nat.sub_zero, Nat.mul_one, q_ofN]
