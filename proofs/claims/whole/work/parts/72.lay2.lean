/-! Share.lay: its loops. -/
theorem nI_m1 {v : Nat} (h : 0 < v) : nI v - 1 = nI (v - 1) := nI_s1 h
theorem nI_z1 : nI 0 - 1 = -nI 1 := by decide
/-- the places of those with -1 -/
def hP (o : Nat) (u : Nat → Nat) (s : Nat) (g : Nat → Int32) : Prop := ∀ k, 2 ^ o - hcn u s ≤ k → k < 2 ^ o → g k = nI (hsy u 64 0 (2 ^ o - 1 - k))
theorem hP.up {o last s : Nat} {u : Nat → Nat} {g : Nat → Int32} (h : zSh o last u) (hs : s < 64) (h0 : u s = 0) (hg : hP o u s g) : hcn u s < 2 ^ o ∧ hP o u (s + 1) (upd g (2 ^ o - hcn u s - 1) (nI s)) := by
  obtain ⟨h1, h2, h3, h4, h5⟩ := h
  have e1 : hcn u (s + 1) = hcn u s + 1 := by show hcn u s + (if u s = 0 then 1 else 0) = _; rw [if_pos h0]
  have e2 := hcn_mono u (show s + 1 ≤ 64 by omega)
  refine ⟨by omega, fun k hk hk2 => ?_⟩
  rw [upd_at]
  by_cases c : k = 2 ^ o - hcn u s - 1
  · rw [if_pos c]
    have := hsy_at u s (64 - s) 0
    rw [show 64 - s + s = 64 by omega, Nat.add_zero] at this
    rw [show 2 ^ o - 1 - k = hcn u s by omega, this, show 64 - s = (63 - s) + 1 by omega]
    simp only [hsy, h0, if_true]
  · rw [if_neg c]
    exact hg k (by omega) hk2
theorem hP.nx {o s : Nat} {u : Nat → Nat} {g : Nat → Int32} (h0 : u s ≠ 0) (hg : hP o u s g) : hP o u (s + 1) g := by
  have e1 : hcn u (s + 1) = hcn u s := by show hcn u s + (if u s = 0 then 1 else 0) = _; rw [if_neg h0]; rfl
  intro k hk hk2
  exact hg k (by omega) hk2
theorem l_lay11 {O : zO} {M : zM} {p G last o : Nat} {u : Nat → Nat} (h : zShS M p G last) (hG : o ≤ G) (hG9 : G ≤ 9) (hu : zSh o last u) (hpt : ∀ s, s ≤ last → z_i M (p + 1) s = nI (u s) - 1) : ∀ d s, s + d = last + 1 → ∀ g, hP o u s g → ∃ g', hP o u (last + 1) g' ∧ ∀ α, zEv (fun n => f_Share_lay_52 O n p (nI (2 ^ o - hcn u (last + 1)) - 1) 0 0 (w_u M (p + 3) g')) α → zEv (fun n => f_Share_lay_11 O n p (nI (2 ^ o - hcn u s) - 1) (nI s) (w_u M (p + 3) g)) α := by
  obtain ⟨s1, s2, s3, s4, s5, s6, s7, s8, s9, s10, s11, s12, s13, s14, s15, s16, s17, s18⟩ := h
  have hp := pw_9 hu.2.1
  have hl := hu.2.2.1
  have hoG := pw_le hG
  have hG5 := pw_9 hG9
  intro d
  induction d with
  | zero =>
    intro s hs g hg
    have e : s = last + 1 := by omega
    subst e
    refine ⟨g, hg, fun α hα => zEv.succ (hα.to fun n => ?_)⟩
    rw [f_Share_lay_11]
    simp (disch := omega) only [zlet, w_i_k, w_i_n, w_i_i, w_i_j, w_i_p, w_i_s, w_j_k, w_j_n, w_j_i, w_j_j, w_j_p, w_j_s, w_p_k, w_p_n, w_p_i, w_p_j, w_p_p, w_p_s, w_c_k, w_c_n, w_c_i, w_c_j, w_c_p, w_c_s, w_u_k, w_u_n, w_u_i, w_u_j, w_u_p, w_u_s, q_nf, ↓reduceIte, if_true, if_false, eq_self, and_true, true_and, and_false, false_and, Option.bind_some, ne_eq, not_false_eq_true, not_true_eq_false, nI_add, pk_mul, pk_sub, nI_ac, q_tlt, q_flt, q_tle, q_fle, q_teq, q_feq, q_tin, nI_cl, q_m1, q_m2, q_m3, q_m4, q_m5, q_m6, q_m7, q_l1, q_l2, q_l3, q_l4, q_l5, q_l6, lN_add, lN_mul, lN_sub, lN_i, nI_l, q_rem, q_rem2, q_div, q_shl, q_shr, q_i0, q_i1, q_i2, q_i3, q_i4, q_i5, q_i6, q_i7, q_i8, q_i9, q_i10, q_i11, q_i12, q_i14, q_i15, q_i16, q_i17, q_i18, q_i19, q_i20, q_i22, q_i24, q_i26, q_i28, q_i30, q_i31, q_i32, q_i35, q_i36, q_i38, q_i40, q_i42, q_i43, q_i48, q_i51, q_i52, q_i56, q_i63, q_i64, q_i67, q_i80, q_i95, q_i99, q_i126, q_i127, q_i128, q_i255, q_i256, q_i512, q_i1024, q_i12000, q_i32512, q_i32768, q_i131072, q_j0, q_j1, q_j2, q_j3, q_j4, q_j8, q_j256, Nat.one_mul, Nat.zero_add, Nat.add_zero, Nat.sub_zero, Nat.mul_one, q_ofN, s1, s18]
  | succ d ih =>
    intro s hs g hg
    have hp1 := hpt s (by omega)
    by_cases c : u s = 0
    · obtain ⟨b1, b2⟩ := hg.up hu (by omega) c
      obtain ⟨g', g1, g2⟩ := ih (s + 1) (by omega) _ b2
      refine ⟨g', g1, fun α hα => zEv.succ ((g2 α hα).to fun n => ?_)⟩
      have e1 : hcn u (s + 1) = hcn u s + 1 := by show hcn u s + (if u s = 0 then 1 else 0) = _; rw [if_pos c]
      rw [f_Share_lay_11]
      rw [c, nI_z1] at hp1
      rw [nI_m1 (show 0 < 2 ^ o - hcn u s by omega), e1, ← w_u_w]
      have e2 : nI (2 ^ o - hcn u s - 1) + -1 = nI (2 ^ o - (hcn u s + 1)) - 1 := by rw [← Int32.sub_eq_add_neg]; rfl
      have hneg : (0 : Int32) ≤ -nI 1 ↔ False := by decide
      simp only [hneg, hp1, s1, s2, s4, s7, s9, s12, s14, s18, e2, f_Share_lay_42, zlet, w_u_k, w_u_p, w_u_n, w_u_i, if_true, if_false]
      simp (disch := omega) only [zlet, w_i_k, w_i_n, w_i_i, w_i_j, w_i_p, w_i_s, w_j_k, w_j_n, w_j_i, w_j_j, w_j_p, w_j_s, w_p_k, w_p_n, w_p_i, w_p_j, w_p_p, w_p_s, w_c_k, w_c_n, w_c_i, w_c_j, w_c_p, w_c_s, w_u_k, w_u_n, w_u_i, w_u_j, w_u_p, w_u_s, q_nf, ↓reduceIte, if_true, if_false, eq_self, and_true, true_and, and_false, false_and, Option.bind_some, ne_eq, not_false_eq_true, not_true_eq_false, hp1, hneg]
      rw [if_neg (nI_nlt (by omega) (by omega)), if_pos (zin_nI (by omega) (by omega)), if_neg (nI_pos (by omega)), if_pos (zin_nI (by omega) (by omega)), nI_cl (by omega), nI_1, hp1, if_neg hneg.mp, nI_cl (by omega)]
    · obtain ⟨g', g1, g2⟩ := ih (s + 1) (by omega) _ (hg.nx c)
      refine ⟨g', g1, fun α hα => zEv.succ ((g2 α hα).to fun n => ?_)⟩
      have e1 : hcn u (s + 1) = hcn u s := by show hcn u s + (if u s = 0 then 1 else 0) = _; rw [if_neg c]; rfl
      have hul := u_le hu s
      rw [nI_m1 (by omega)] at hp1
      rw [f_Share_lay_11, e1]
      simp only [s1, s2, s4, s7, s9, s12, s14, s18, f_Share_lay_42, zlet, w_u_k, w_u_p, w_u_n, w_u_i, if_true, if_false]
      simp (disch := omega) only [zlet, w_i_k, w_i_n, w_i_i, w_i_j, w_i_p, w_i_s, w_j_k, w_j_n, w_j_i, w_j_j, w_j_p, w_j_s, w_p_k, w_p_n, w_p_i, w_p_j, w_p_p, w_p_s, w_c_k, w_c_n, w_c_i, w_c_j, w_c_p, w_c_s, w_u_k, w_u_n, w_u_i, w_u_j, w_u_p, w_u_s, q_nf, ↓reduceIte, if_true, if_false, eq_self, and_true, true_and, and_false, false_and, Option.bind_some, ne_eq, not_false_eq_true, not_true_eq_false, hp1]
      rw [if_neg (nI_nlt (by omega) (by omega)), if_pos (zin_nI (by omega) (by omega)), nI_cl (by omega), hp1, if_pos (nI_pos' (by omega)), nI_1]
/-- the places below, as far as rank r -/
def lP (o : Nat) (u : Nat → Nat) (r : Nat) (g : Nat → Int32) : Prop := (∀ k, k < 2 ^ o - hcn u 64 → cw o (2 ^ o - hcn u 64) (wki o k) < r → g k = nI (tS o u k)) ∧ ∀ k, 2 ^ o - hcn u 64 ≤ k → k < 2 ^ o → g k = nI (tS o u k)
theorem lP.up {o last s k i : Nat} {u : Nat → Nat} {g : Nat → Int32} (h : zSh o last u) (hs : s < 64) (hk : k + 1 < u s) (hg : lP o u (cum u s + k) g) (hi : i < 2 ^ o) (hw : wk o i < 2 ^ o - hcn u 64) (hc : cw o (2 ^ o - hcn u 64) i = cum u s + k) : lP o u (cum u s + k + 1) (upd g (wk o i) (nI s)) := by
  obtain ⟨h1, h2, h3, h4, h5⟩ := h
  obtain ⟨w1, w2⟩ := wk_i o h1 h2
  refine ⟨fun j hj hc2 => ?_, fun j hj hj2 => ?_⟩
  · rw [upd_at]
    by_cases c : j = wk o i
    · rw [if_pos c]
      congr 1
      unfold tS
      rw [if_pos (by omega), c, w1 i hi, hc]
      have := sy_at u s (64 - s) k
      rw [show 64 - s + s = 64 by omega] at this
      rw [this, show 64 - s = (63 - s) + 1 by omega]
      simp only [sy]
      rw [if_pos hk]
    · rw [if_neg c]
      refine hg.1 j hj ?_
      apply Classical.byContradiction
      intro d
      apply c
      have := cw_inj (o := o) (t := 2 ^ o - hcn u 64) (i := wki o j) (j := i) (by rw [w2 j (by omega)]; exact hj) hw (by omega)
      rw [← this, w2 j (by omega)]
  · rw [upd_at, if_neg (by omega)]
    exact hg.2 j hj hj2
/-- where the next one goes -/
def pP (o : Nat) (u : Nat → Nat) (r : Nat) (pl : Int32) : Prop := r < 2 ^ o - hcn u 64 → ∃ i, i < 2 ^ o ∧ wk o i < 2 ^ o - hcn u 64 ∧ cw o (2 ^ o - hcn u 64) i = r ∧ pl = nI (wk o i)
theorem wk_next {o t i r : Nat} (h1 : 5 ≤ o) (h2 : o ≤ 9) (ht : t ≤ 2 ^ o) (hi : i < 2 ^ o) (hw : wk o i < t) (hc : cw o t i = r) : ∃ d, 0 < d ∧ d ≤ 2 ^ o ∧ wk o (i + d) < t ∧ (∀ e, 0 < e → e < d → ¬ wk o (i + e) < t) ∧ (r + 1 < t → i + d < 2 ^ o ∧ cw o t (i + d) = r + 1) := by
  by_cases c : r + 1 < t
  · obtain ⟨j, j1, j2, j3⟩ := cw_at h1 h2 ht c
    have hij : i < j := by
      apply Classical.byContradiction
      intro d
      have := cw_mono o t (show j ≤ i by omega)
      omega
    refine ⟨j - i, by omega, by omega, by rw [show i + (j - i) = j by omega]; exact j2, fun e e1 e2 => ?_, fun _ => ?_⟩
    · exact cw_gap (j := j) (by omega) hw (by omega) (by omega)
    · rw [show i + (j - i) = j by omega]; exact ⟨j1, j3⟩
  · obtain ⟨d, d1, d2⟩ := pk_least (fun d => 0 < d ∧ wk o (i + d) < t) ⟨2 ^ o - i, by omega, by rw [show i + (2 ^ o - i) = 2 ^ o by omega, wk_all]; omega⟩
    have hd : d ≤ 2 ^ o := by
      apply Classical.byContradiction
      intro w
      exact d2 (2 ^ o - i) (by omega) ⟨by omega, by rw [show i + (2 ^ o - i) = 2 ^ o by omega, wk_all]; omega⟩
    exact ⟨d, d1.1, hd, d1.2, fun e e1 e2 w => d2 e e2 ⟨e1, w⟩, fun w => absurd w c⟩
abbrev zK52 : Type := Nat → Int32 → Int32 → Int32 → zM → Option (Unit × zM)
theorem l_lay63 {O : zO} {M : zM} {p G last o s : Nat} {u : Nat → Nat} (h : zShS M p G last) (hG : o ≤ G) (hG9 : G ≤ 9) (hu : zSh o last u) (ho : z_i M p 7 = nI o) (hpt : ∀ s, s ≤ last → z_i M (p + 1) s = nI (u s) - 1) (hs : s ≤ last) : ∀ d k, k + d = u s - 1 → ∀ g pl, lP o u (cum u s + k) g → pP o u (cum u s + k) pl → ∃ g' pl', lP o u (cum u (s + 1)) g' ∧ pP o u (cum u (s + 1)) pl' ∧ zEk (fun n (K : zK52) => f_Share_lay_63 O K n p (nI (2 ^ o - hcn u 64) - 1) pl (nI s) (nI k) (w_u M (p + 3) g)) (fun K => K p (nI (2 ^ o - hcn u 64) - 1) pl' (nI (s + 1)) (w_u M (p + 3) g')) := by
  have h0 := h
  obtain ⟨s1, s2, s3, s4, s5, s6, s7, s8, s9, s10, s11, s12, s13, s14, s15, s16, s17, s18⟩ := h0
  have hp := pw_9 hu.2.1
  have hl := hu.2.2.1
  have hsum := hu.2.2.2.1
  have hoG := pw_le hG
  have hG5 := pw_9 hG9
  have hp1 := hpt s hs
  have hul := u_le hu s
  intro d
  induction d with
  | zero =>
    intro k hk g pl hg hpl
    have e : cum u s + k = cum u (s + 1) := by show _ = cum u s + (u s - 1); omega
    rw [e] at hg hpl
    refine ⟨g, pl, hg, hpl, zEk.succ (zEk.of fun n K => ?_)⟩
    rw [f_Share_lay_63]
    have hle : nI (u s) - 1 ≤ nI k := by
      by_cases c : u s = 0
      · rw [c, nI_z1]; exact of_eq_true (q_m1 (by omega) (by omega))
      · rw [nI_m1 (by omega)]; exact nI_le (by omega) (by omega)
    simp (disch := omega) only [zlet, w_i_k, w_i_n, w_i_i, w_i_j, w_i_p, w_i_s, w_j_k, w_j_n, w_j_i, w_j_j, w_j_p, w_j_s, w_p_k, w_p_n, w_p_i, w_p_j, w_p_p, w_p_s, w_c_k, w_c_n, w_c_i, w_c_j, w_c_p, w_c_s, w_u_k, w_u_n, w_u_i, w_u_j, w_u_p, w_u_s, q_nf, ↓reduceIte, if_true, if_false, eq_self, and_true, true_and, and_false, false_and, Option.bind_some, ne_eq, not_false_eq_true, not_true_eq_false, s1, s2, s7, s12]
    rw [if_pos (zin_nI (by omega) (by omega)), nI_cl (by omega), hp1, if_pos hle, nI_1]
  | succ d ih =>
    intro k hk g pl hg hpl
    have hcs : cum u (s + 1) = cum u s + (u s - 1) := rfl
    have hcm := cum_mono u (show s + 1 ≤ 64 by omega)
    obtain ⟨i, i1, i2, i3, i4⟩ := hpl (by omega)
    obtain ⟨e, e1, e2, e3, e4, e5⟩ := wk_next hu.1 hu.2.1 (by omega) i1 i2 i3
    obtain ⟨g', pl', g1, g2, g3⟩ := ih (k + 1) (by omega) (upd g (wk o i) (nI s)) (nI (wk o (i + e))) (hg.up hu (by omega) (by omega) i1 i2 i3) (fun w => ⟨i + e, (e5 (by omega)).1, e3, (e5 (by omega)).2, rfl⟩)
    refine ⟨g', pl', g1, g2, zEk.succ ?_⟩
    have hS : zShS (w_u M (p + 3) (upd g (wk o i) (nI s))) p G last := by
      refine ⟨s1, s2, s3, s4, s5, s6, s7, s8, s9, s10, s11, s12, s13, s14, s15, s16, ?_, ?_⟩
      · simp (disch := omega) only [zlet, w_i_k, w_i_n, w_i_i, w_i_j, w_i_p, w_i_s, w_j_k, w_j_n, w_j_i, w_j_j, w_j_p, w_j_s, w_p_k, w_p_n, w_p_i, w_p_j, w_p_p, w_p_s, w_c_k, w_c_n, w_c_i, w_c_j, w_c_p, w_c_s, w_u_k, w_u_n, w_u_i, w_u_j, w_u_p, w_u_s, q_nf, ↓reduceIte, if_true, if_false, eq_self, and_true, true_and, and_false, false_and, Option.bind_some, ne_eq, not_false_eq_true, not_true_eq_false]
        exact s17
      · simp (disch := omega) only [zlet, w_i_k, w_i_n, w_i_i, w_i_j, w_i_p, w_i_s, w_j_k, w_j_n, w_j_i, w_j_j, w_j_p, w_j_s, w_p_k, w_p_n, w_p_i, w_p_j, w_p_p, w_p_s, w_c_k, w_c_n, w_c_i, w_c_j, w_c_p, w_c_s, w_u_k, w_u_n, w_u_i, w_u_j, w_u_p, w_u_s, q_nf, ↓reduceIte, if_true, if_false, eq_self, and_true, true_and, and_false, false_and, Option.bind_some, ne_eq, not_false_eq_true, not_true_eq_false]
        exact s18
    have hn := c_nextPlace (O := O) (t := 2 ^ o - hcn u 64) hS (by simp (disch := omega) only [zlet, w_i_k, w_i_n, w_i_i, w_i_j, w_i_p, w_i_s, w_j_k, w_j_n, w_j_i, w_j_j, w_j_p, w_j_s, w_p_k, w_p_n, w_p_i, w_p_j, w_p_p, w_p_s, w_c_k, w_c_n, w_c_i, w_c_j, w_c_p, w_c_s, w_u_k, w_u_n, w_u_i, w_u_j, w_u_p, w_u_s, q_nf, ↓reduceIte, if_true, if_false, eq_self, and_true, true_and, and_false, false_and, Option.bind_some, ne_eq, not_false_eq_true, not_true_eq_false]; exact ho) hu.1 hu.2.1 (by omega) (by omega) e1 e2 e3 e4
    refine zEk.to (f' := fun n K => (F_Share_nextPlace O n p (nI (wk o i)) (nI (2 ^ o - hcn u 64 - 1)) (w_u M (p + 3) (upd g (wk o i) (nI s)))).bind fun q13 => f_Share_lay_63 O K n p (nI (2 ^ o - hcn u 64) - 1) q13.1 (nI s) (nI (k + 1)) q13.2) ?_ (fun n K => ?_)
    · exact zEk.bind hn g3
    · have hle : ¬ nI (u s) - 1 ≤ nI k := by
        rw [nI_m1 (by omega)]; exact fun w => by have := (nI_leI (by omega) (by omega)).mp w; omega
      have hwl := wk_lt o i
      rw [f_Share_lay_63, i4]
      simp (disch := omega) only [zlet, w_i_k, w_i_n, w_i_i, w_i_j, w_i_p, w_i_s, w_j_k, w_j_n, w_j_i, w_j_j, w_j_p, w_j_s, w_p_k, w_p_n, w_p_i, w_p_j, w_p_p, w_p_s, w_c_k, w_c_n, w_c_i, w_c_j, w_c_p, w_c_s, w_u_k, w_u_n, w_u_i, w_u_j, w_u_p, w_u_s, q_nf, ↓reduceIte, if_true, if_false, eq_self, and_true, true_and, and_false, false_and, Option.bind_some, ne_eq, not_false_eq_true, not_true_eq_false, s1, s2, s4, s7, s9, s12, s14]
      rw [if_pos (zin_nI (by omega) (by omega)), nI_cl (show s < 2 ^ 31 by omega), hp1, if_neg hle, if_pos (zin_nI (by omega) (by omega)), nI_cl (by omega), w_u_w, nI_1, nI_m1 (by omega)]
theorem l_lay52 {O : zO} {M : zM} {p G last o : Nat} {u : Nat → Nat} (h : zShS M p G last) (hG : o ≤ G) (hG9 : G ≤ 9) (hu : zSh o last u) (ho : z_i M p 7 = nI o) (hpt : ∀ s, s ≤ last → z_i M (p + 1) s = nI (u s) - 1) : ∀ d s, s + d = last + 1 → ∀ g pl, lP o u (cum u s) g → pP o u (cum u s) pl → ∃ g', lP o u (cum u (last + 1)) g' ∧ ∀ α, zEv (fun n => (F_Share_number O n p (w_u M (p + 3) g')).bind fun q2 => some ((), q2.2)) α → zEv (fun n => f_Share_lay_52 O n p (nI (2 ^ o - hcn u 64) - 1) pl (nI s) (w_u M (p + 3) g)) α := by
  have h0 := h
  obtain ⟨s1, s2, s3, s4, s5, s6, s7, s8, s9, s10, s11, s12, s13, s14, s15, s16, s17, s18⟩ := h0
  have hl := hu.2.2.1
  intro d
  induction d with
  | zero =>
    intro s hs g pl hg hpl
    have e : s = last + 1 := by omega
    subst e
    refine ⟨g, hg, fun α hα => zEv.succ (hα.to fun n => ?_)⟩
    rw [f_Share_lay_52]
    simp (disch := omega) only [zlet, w_i_k, w_i_n, w_i_i, w_i_j, w_i_p, w_i_s, w_j_k, w_j_n, w_j_i, w_j_j, w_j_p, w_j_s, w_p_k, w_p_n, w_p_i, w_p_j, w_p_p, w_p_s, w_c_k, w_c_n, w_c_i, w_c_j, w_c_p, w_c_s, w_u_k, w_u_n, w_u_i, w_u_j, w_u_p, w_u_s, q_nf, ↓reduceIte, if_true, if_false, eq_self, and_true, true_and, and_false, false_and, Option.bind_some, ne_eq, not_false_eq_true, not_true_eq_false, nI_add, pk_mul, pk_sub, nI_ac, q_tlt, q_flt, q_tle, q_fle, q_teq, q_feq, q_tin, nI_cl, q_m1, q_m2, q_m3, q_m4, q_m5, q_m6, q_m7, q_l1, q_l2, q_l3, q_l4, q_l5, q_l6, lN_add, lN_mul, lN_sub, lN_i, nI_l, q_rem, q_rem2, q_div, q_shl, q_shr, q_i0, q_i1, q_i2, q_i3, q_i4, q_i5, q_i6, q_i7, q_i8, q_i9, q_i10, q_i11, q_i12, q_i14, q_i15, q_i16, q_i17, q_i18, q_i19, q_i20, q_i22, q_i24, q_i26, q_i28, q_i30, q_i31, q_i32, q_i35, q_i36, q_i38, q_i40, q_i42, q_i43, q_i48, q_i51, q_i52, q_i56, q_i63, q_i64, q_i67, q_i80, q_i95, q_i99, q_i126, q_i127, q_i128, q_i255, q_i256, q_i512, q_i1024, q_i12000, q_i32512, q_i32768, q_i131072, q_j0, q_j1, q_j2, q_j3, q_j4, q_j8, q_j256, Nat.one_mul, Nat.zero_add, Nat.add_zero, Nat.sub_zero, Nat.mul_one, q_ofN, s1, s18]
  | succ d ih =>
    intro s hs g pl hg hpl
    obtain ⟨g1, pl1, k1, k2, k3⟩ := l_lay63 (O := O) h hG hG9 hu ho hpt (show s ≤ last by omega) (u s - 1) 0 (by omega) g pl hg hpl
    obtain ⟨g', k4, k5⟩ := ih (s + 1) (by omega) g1 pl1 k1 k2
    refine ⟨g', k4, fun α hα => zEv.succ ?_⟩
    refine (k3.use (k := fun n => f_Share_lay_52 O n) (k5 α hα)).to fun n => ?_
    rw [f_Share_lay_52]
    simp (disch := omega) only [zlet, w_i_k, w_i_n, w_i_i, w_i_j, w_i_p, w_i_s, w_j_k, w_j_n, w_j_i, w_j_j, w_j_p, w_j_s, w_p_k, w_p_n, w_p_i, w_p_j, w_p_p, w_p_s, w_c_k, w_c_n, w_c_i, w_c_j, w_c_p, w_c_s, w_u_k, w_u_n, w_u_i, w_u_j, w_u_p, w_u_s, q_nf, ↓reduceIte, if_true, if_false, eq_self, and_true, true_and, and_false, false_and, Option.bind_some, ne_eq, not_false_eq_true, not_true_eq_false, s1, s18]
    rw [if_neg (nI_nlt (by omega) (by omega))]
    rfl
