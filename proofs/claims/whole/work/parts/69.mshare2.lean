/-! A share told: the reference's loop over its symbols. -/
/-- the draft: the array ad of 256 places, holding pt -/
def zDr (M : zM) (p a ad : Nat) (pt : Nat → Int32) : Prop := z_p M p 21 = ad ∧ z_k M ad = 100 ∧ z_n M ad = 256 ∧ ad ≠ p ∧ ad ≠ a ∧ ∀ j, j < 256 → z_i M ad j = pt j
theorem zDr.up {M : zM} {p a ad s : Nat} {pt : Nat → Int32} {x : Int32} (h : zDr M p a ad pt) : zDr (w_i M ad s x) p a ad (upd pt s x) := by
  obtain ⟨h1, h2, h3, h4, h5, h6⟩ := h
  refine ⟨h1, h2, h3, h4, h5, fun j hj => ?_⟩
  rw [upd_at]
  by_cases c : j = s
  · rw [if_pos c, c, w_i_eq]
  · rw [if_neg c, w_i_ne _ _ (fun w => c w.2)]; exact h6 j hj
theorem l_Mo_267 {O : zO} {M : zM} {p a c last e R s u p1 ad : Nat} {b : Nat → Nat} {pt : Nat → Int32} (h : zIn13 M p a c b) (hd : zDr M p a ad pt) (he : e ≤ 8 * c) (hla : last ≤ 52) (hs : s ≤ last) (hu : u ≤ R + 1) (hR0 : 0 < R) (hR : R ≤ 512) (hp1 : p1 ≤ e) :
    zEk (fun n (K : zK118) => f_Mo_share_267 O K n p (nI last) (nI p1) (nI e) (nI R) (nI s) (nI u) M) (if u = 1 then (match zrS b e last (last + 2) (s + 1) p1 with
      | some (s', p2) => fun K => K p (nI last) (nI p2) (nI e) (nI R) (nI s') (w_i M ad s (nI u - 1))
      | none => fun _ => some (-1, w_i M ad s (nI u - 1)))
      else fun K => K p (nI last) (nI p1) (nI e) (nI (R - (if u = 0 then 1 else u - 1))) (nI (s + 1)) (w_i M ad s (nI u - 1))) := by
  obtain ⟨d1, d2, d3, d4, d5, d6⟩ := hd
  have hM7 : zIn13 (w_i M ad s (nI u - 1)) p a c b := h.si (S := fun q => q = ad) zSi.p1 (fun w => d4 w.symm) (fun w => d5 w.symm)
  have e1 : ∀ n (K : zK118), f_Mo_share_267 O K n p (nI last) (nI p1) (nI e) (nI R) (nI s) (nI u) M = f_Mo_share_312 O K n p (nI last) (nI p1) (nI e) (nI (R - (if u = 0 then 1 else u - 1))) (nI (s + 1)) (if u = 1 then 1 else 0) (w_i M ad s (nI u - 1)) := fun n K => by
    unfold f_Mo_share_267
    rw [if_pos h.1, d1, if_pos d2, d3, if_pos (zin_nI (by omega) (by omega)), nI_cl (by omega)]
    simp only [zlet]
    by_cases c0 : u = 0
    · subst c0
      rw [if_pos (show nI 0 = 0 from rfl)]
      unfold f_Mo_share_293 f_Mo_share_310
      simp only [zlet]
      rw [if_neg (show ¬ nI 0 = 1 by decide), nI_s1 (by omega), nI_1, if_pos trivial, if_neg (by omega)]
    · rw [if_neg (nI_ne0 (by omega) (by omega))]
      unfold f_Mo_share_293 f_Mo_share_310
      simp only [zlet]
      rw [nI_s1 (by omega), pk_sub (by omega), nI_1, if_neg c0]
      by_cases c1 : u = 1
      · rw [if_pos c1, c1, if_pos (show nI 1 = 1 from rfl)]
      · rw [if_neg c1, if_neg (show ¬ nI u = 1 from fun w => c1 ((nI_eq (b := 1) (by omega) (by omega)).mp w))]
  by_cases c1 : u = 1
  · rw [if_pos c1]
    have hz := (l_Mo_zeros (O := O) (R := R) hM7 he hla (last + 2) (s + 1) p1 (by omega) (by omega) hp1).1
    refine hz.to fun n K => ?_
    rw [e1, if_pos c1, c1]
    rfl
  · rw [if_neg c1]
    refine zEk.succ (zEk.of fun n K => ?_)
    rw [e1, if_neg c1, f_Mo_share_312, if_pos rfl]
theorem l_Mo_share {O : zO} {p a c last e ad : Nat} {b : Nat → Nat} (he : e ≤ 8 * c) (hla : last ≤ 52) : ∀ (f R s pos : Nat) (pt : Nat → Int32) (M : zM), last + 2 ≤ s + f → s ≤ last + 1 → R ≤ 512 → pos ≤ e → zIn13 M p a c b → zDr M p a ad pt →
    match shS b e last f R s pos pt with
    | some (pos', pt') => ∃ M', zEv (fun n => f_Mo_share_118 O n p (nI last) (nI pos) (nI e) (nI R) (nI s) M) (nI ((pos' + 7) / 8), M') ∧ zSi (fun q => q = ad) M M' ∧ zDr M' p a ad pt' ∧ pos' ≤ e
    | none => ∃ M', zEv (fun n => f_Mo_share_118 O n p (nI last) (nI pos) (nI e) (nI R) (nI s) M) (-1, M') ∧ zSi (fun q => q = ad) M M' := by
  intro f
  induction f with
  | zero => intro R s pos pt M g1 g2; omega
  | succ f ih =>
    intro R s pos pt M g1 g2 hR hpe h hd
    have h6 := h.2.2.2.2.2.1
    rw [shS]
    by_cases c0 : R = 0
    · subst c0
      rw [if_pos rfl]
      refine ⟨M, zEv.succ ((zEv.some _).to fun n => ?_), zSi.rf, hd, hpe⟩
      rw [f_Mo_share_118, if_pos (show nI 0 ≤ 0 by decide), show (7 : Int32) = nI 7 from rfl, nI_add, show nI (pos + 7) / (8 : Int32) = nI ((pos + 7) / 8) from pk_div (d := 8) (by omega) (by omega) (by omega)]
    · rw [if_neg c0]
      by_cases c1 : last < s
      · rw [if_pos c1]
        refine ⟨M, zEv.succ ((zEv.some _).to fun n => ?_), zSi.rf⟩
        rw [f_Mo_share_118, if_neg (nI_nle (by omega) (by omega)), if_neg (fun w => by have := (nI_leI (by omega) (by omega)).mp w; omega)]
      · rw [if_neg c1]
        obtain ⟨a1, a2⟩ := hib_R R
        have hw : hib (R + 1) ≤ 9 := by have := hib_lt (v := R + 1) (k := 10) (by omega) (by omega); omega
        have hpow : 2 ^ hib (R + 1) ≤ 2 ^ 9 := Nat.pow_le_pow_right (by omega) hw
        generalize hwe : hib (R + 1) = w at a1 a2 hw hpow
        have ft : (1 : Int32) <<< (nI w &&& 31) = nI (2 ^ w) := by
          rw [show (1 : Int32) = nI 1 from rfl, nI_shl (by omega) (by omega), Nat.one_mul]
        have fm : (2 : Int32) * nI (2 ^ w) - (2 : Int32) - nI R = nI (2 * 2 ^ w - 2 - R) := by
          rw [show (2 : Int32) = nI 2 from rfl, pk_mul, pk_sub (by omega), pk_sub (by omega)]
        have start : ∀ {α : Int32 × zM}, zEv (fun n => if nI (pos + w) ≤ nI e then f_Mo_share_176 O (f_Mo_share_118 O n) n p (nI last) (nI pos) (nI e) (nI R) (nI s) (nI w) (nI (2 ^ w)) (nI (2 * 2 ^ w - 2 - R)) 0 0 M else some ((-1 : Int32), M)) α → zEv (fun n => f_Mo_share_118 O n p (nI last) (nI pos) (nI e) (nI R) (nI s) M) α := fun hα => by
          refine zEv.succ ?_
          refine zEv.to (g := fun n => (F_Mo_highest O n (nI (R + 1)) M).bind fun q1 => if (nI pos + q1.1) ≤ nI e then f_Mo_share_176 O (f_Mo_share_118 O n) n p (nI last) (nI pos) (nI e) (nI R) (nI s) q1.1 ((1 : Int32) <<< (q1.1 &&& 31)) ((((2 : Int32) * ((1 : Int32) <<< (q1.1 &&& 31))) - (2 : Int32)) - nI R) (0 : Int32) (0 : Int32) q1.2 else some ((-1 : Int32), q1.2)) ?_ (fun n => by
            rw [f_Mo_share_118, if_neg (nI_nle (by omega) (by omega)), if_pos (nI_le (by omega) (by omega)), nI_1]
            rfl)
          refine zEv.bind (c_Mo_highest (by omega) (by omega)) ?_
          rw [hwe]
          dsimp only
          rw [ft, fm, nI_add]
          exact hα
        have hsi7 : ∀ x, zSi (fun q => q = ad) M (w_i M ad s x) := fun x => zSi.p1
        have hin7 : ∀ x, zIn13 (w_i M ad s x) p a c b := fun x => h.si (S := fun q => q = ad) zSi.p1 (fun w => hd.2.2.2.1 w.symm) (fun w => hd.2.2.2.2.1 w.symm)
        -- with u and the bit behind it known
        have fin : ∀ u p1, ptS b e R pos = some (u, p1) → (∀ {α : Int32 × zM} {G : zK118 → Option (Int32 × zM)}, zEk (fun n K => f_Mo_share_267 O K n p (nI last) (nI p1) (nI e) (nI R) (nI s) (nI u) M) G → zEv (fun n => G (f_Mo_share_118 O n)) α → zEv (fun n => f_Mo_share_118 O n p (nI last) (nI pos) (nI e) (nI R) (nI s) M) α) →
            match (match (some (u, p1) : Option (Nat × Nat)) with
              | none => none
              | some (u, p1) => if u = 1 then
                  match zrS b e last (last + 2) (s + 1) p1 with
                  | none => none
                  | some (s', p2) => shS b e last f R s' p2 (upd pt s 0)
                else shS b e last f (R - (if u = 0 then 1 else u - 1)) (s + 1) p1 (upd pt s (nI u - 1))) with
            | some (pos', pt') => ∃ M', zEv (fun n => f_Mo_share_118 O n p (nI last) (nI pos) (nI e) (nI R) (nI s) M) (nI ((pos' + 7) / 8), M') ∧ zSi (fun q => q = ad) M M' ∧ zDr M' p a ad pt' ∧ pos' ≤ e
            | none => ∃ M', zEv (fun n => f_Mo_share_118 O n p (nI last) (nI pos) (nI e) (nI R) (nI s) M) (-1, M') ∧ zSi (fun q => q = ad) M M' := by
          intro u p1 hpt go
          obtain ⟨b1, b2, b3, b4⟩ := ptS_le hpt
          have hk := l_Mo_267 (O := O) (u := u) (last := last) (s := s) h hd he hla (by omega) b1 (by omega) hR b3
          dsimp only
          by_cases c2 : u = 1
          · rw [if_pos c2] at hk ⊢
            have hzb := (l_Mo_zeros (O := O) (R := R) h he hla (last + 2) (s + 1) p1 (by omega) (by omega) b3).2
            cases hzr : zrS b e last (last + 2) (s + 1) p1 with
            | none =>
              rw [hzr] at hk
              exact ⟨_, go hk (zEv.some _), hsi7 _⟩
            | some q =>
              obtain ⟨s', p2⟩ := q
              rw [hzr] at hk
              obtain ⟨z1, z2, z3, z4⟩ := hzb s' p2 hzr
              dsimp only
              have e0 : nI u - 1 = 0 := by rw [c2]; decide
              rw [e0] at hk
              have ih' := ih R s' p2 (upd pt s 0) (w_i M ad s 0) (by omega) z2 hR z4 (hin7 0) hd.up
              cases hsh : shS b e last f R s' p2 (upd pt s 0) with
              | none =>
                rw [hsh] at ih'
                obtain ⟨M', k1, k2⟩ := ih'
                exact ⟨M', go hk k1, (hsi7 0).tr k2⟩
              | some q =>
                obtain ⟨pos', pt'⟩ := q
                rw [hsh] at ih'
                obtain ⟨M', k1, k2, k3⟩ := ih'
                exact ⟨M', go hk k1, (hsi7 0).tr k2, k3⟩
          · rw [if_neg c2] at hk ⊢
            have ih' := ih (R - (if u = 0 then 1 else u - 1)) (s + 1) p1 (upd pt s (nI u - 1)) (w_i M ad s (nI u - 1)) (by omega) (by omega) (by omega) b3 (hin7 _) hd.up
            cases hsh : shS b e last f (R - (if u = 0 then 1 else u - 1)) (s + 1) p1 (upd pt s (nI u - 1)) with
            | none =>
              rw [hsh] at ih'
              obtain ⟨M', k1, k2⟩ := ih'
              exact ⟨M', go hk k1, (hsi7 _).tr k2⟩
            | some q =>
              obtain ⟨pos', pt'⟩ := q
              rw [hsh] at ih'
              obtain ⟨M', k1, k2, k3⟩ := ih'
              exact ⟨M', go hk k1, (hsi7 _).tr k2, k3⟩
        have hlt := bf_lt b pos w
        have hlt1 := bf_lt b pos (w + 1)
        rw [Nat.pow_succ] at hlt1
        have hbt := bt8_lt b (pos + w)
        by_cases k1 : e < pos + w
        · have hpt : ptS b e R pos = none := by unfold ptS; rw [hwe, if_pos k1]
          rw [hpt]
          refine ⟨M, start ((zEv.some _).to fun n => ?_), zSi.rf⟩
          rw [if_neg (fun z => by have := (nI_leI (by omega) (by omega)).mp z; omega)]
        · -- the loop of the bits
          have hle : pos + w ≤ e := by omega
          have start2 : ∀ {α : Int32 × zM} {G : zK118 → Option (Int32 × zM)}, zEk (fun n K => f_Mo_share_176 O K n p (nI last) (nI pos) (nI e) (nI R) (nI s) (nI w) (nI (2 ^ w)) (nI (2 * 2 ^ w - 2 - R)) (nI (bf b pos w)) (nI w) M) G → zEv (fun n => G (f_Mo_share_118 O n)) α → zEv (fun n => f_Mo_share_118 O n p (nI last) (nI pos) (nI e) (nI R) (nI s) M) α := fun {α G} hG hα => by
            refine start ?_
            have hl := l_Mo_u (O := O) (t := 2 ^ w) h he (by omega) hle hG w (Nat.le_refl _)
            rw [Nat.sub_self] at hl
            refine (hl.use (k := fun n => f_Mo_share_118 O n) hα).to fun n => ?_
            rw [if_pos (nI_le hle (by omega))]
            rfl
          by_cases k2 : bf b pos w < 2 * 2 ^ w - 2 - R
          · have hpt : ptS b e R pos = some (bf b pos w, pos + w) := by unfold ptS; rw [hwe, if_neg k1, if_pos k2]
            rw [hpt]
            refine fin _ _ hpt fun {α G} hG hα => start2 (G := G) (zEk.succ (hG.to fun n K => ?_)) hα
            rw [f_Mo_share_176]
            simp (disch := omega) only [zlet, w_i_k, w_i_n, w_i_i, w_i_j, w_i_p, w_i_s, w_j_k, w_j_n, w_j_i, w_j_j, w_j_p, w_j_s, w_p_k, w_p_n, w_p_i, w_p_j, w_p_p, w_p_s, w_c_k, w_c_n, w_c_i, w_c_j, w_c_p, w_c_s, ↓reduceIte, if_true, if_false, eq_self, and_true, true_and, and_false, false_and, Option.bind_some, ne_eq, not_false_eq_true, not_true_eq_false, nI_add, pk_mul, pk_sub, nI_ac, q_tlt, q_flt, q_tle, q_fle, q_teq, q_feq, q_tin, nI_cl, q_m1, q_m2, q_m3, q_m4, q_m5, q_m6, q_m7, q_l1, q_l2, q_l3, q_l4, q_l5, q_l6, lN_add, lN_mul, lN_sub, lN_i, nI_l, q_rem, q_rem2, q_div, q_shl, q_shr, q_i0, q_i1, q_i2, q_i3, q_i4, q_i5, q_i6, q_i7, q_i8, q_i9, q_i10, q_i11, q_i12, q_i14, q_i15, q_i16, q_i17, q_i18, q_i19, q_i20, q_i22, q_i24, q_i26, q_i28, q_i30, q_i31, q_i32, q_i35, q_i36, q_i38, q_i40, q_i42, q_i43, q_i48, q_i51, q_i52, q_i56, q_i63, q_i64, q_i67, q_i80, q_i95, q_i99, q_i126, q_i127, q_i128, q_i255, q_i256, q_i512, q_i1024, q_i12000, q_i32512, q_i32768, q_i131072, q_j0, q_j1, q_j2, q_j3, q_j4, q_j8, q_j256, Nat.one_mul, Nat.zero_add, Nat.add_zero, Nat.sub_zero, Nat.mul_one, q_ofN]
          · by_cases k3 : e < pos + w + 1
            · have hpt : ptS b e R pos = none := by unfold ptS; rw [hwe, if_neg k1, if_neg k2, if_pos k3]
              rw [hpt]
              refine ⟨M, start2 (G := fun _ => some (-1, M)) (zEk.succ (zEk.of fun n K => ?_)) (zEv.some _), zSi.rf⟩
              rw [f_Mo_share_176]
              simp (disch := omega) only [zlet, w_i_k, w_i_n, w_i_i, w_i_j, w_i_p, w_i_s, w_j_k, w_j_n, w_j_i, w_j_j, w_j_p, w_j_s, w_p_k, w_p_n, w_p_i, w_p_j, w_p_p, w_p_s, w_c_k, w_c_n, w_c_i, w_c_j, w_c_p, w_c_s, ↓reduceIte, if_true, if_false, eq_self, and_true, true_and, and_false, false_and, Option.bind_some, ne_eq, not_false_eq_true, not_true_eq_false, nI_add, pk_mul, pk_sub, nI_ac, q_tlt, q_flt, q_tle, q_fle, q_teq, q_feq, q_tin, nI_cl, q_m1, q_m2, q_m3, q_m4, q_m5, q_m6, q_m7, q_l1, q_l2, q_l3, q_l4, q_l5, q_l6, lN_add, lN_mul, lN_sub, lN_i, nI_l, q_rem, q_rem2, q_div, q_shl, q_shr, q_i0, q_i1, q_i2, q_i3, q_i4, q_i5, q_i6, q_i7, q_i8, q_i9, q_i10, q_i11, q_i12, q_i14, q_i15, q_i16, q_i17, q_i18, q_i19, q_i20, q_i22, q_i24, q_i26, q_i28, q_i30, q_i31, q_i32, q_i35, q_i36, q_i38, q_i40, q_i42, q_i43, q_i48, q_i51, q_i52, q_i56, q_i63, q_i64, q_i67, q_i80, q_i95, q_i99, q_i126, q_i127, q_i128, q_i255, q_i256, q_i512, q_i1024, q_i12000, q_i32512, q_i32768, q_i131072, q_j0, q_j1, q_j2, q_j3, q_j4, q_j8, q_j256, Nat.one_mul, Nat.zero_add, Nat.add_zero, Nat.sub_zero, Nat.mul_one, q_ofN]
            · have hpt : ptS b e R pos = some (if bf b pos (w + 1) < 2 ^ w then bf b pos (w + 1) else bf b pos (w + 1) - (2 * 2 ^ w - 2 - R), pos + w + 1) := by unfold ptS; rw [hwe, if_neg k1, if_neg k2, if_neg k3]
              rw [hpt]
              refine fin _ _ hpt fun {α G} hG hα => start2 (G := G) (zEk.succ ?_) hα
              have h9 : bt8 b (pos + w) * 2 ^ w ≤ 1 * 2 ^ 9 := Nat.mul_le_mul (by omega) hpow
              have e1 : bf b pos w + bt8 b (pos + w) * 2 ^ w = bf b pos (w + 1) := by rw [Nat.mul_comm]; rfl
              simp only [f_Mo_share_176]
              simp (disch := omega) only [zlet, w_i_k, w_i_n, w_i_i, w_i_j, w_i_p, w_i_s, w_j_k, w_j_n, w_j_i, w_j_j, w_j_p, w_j_s, w_p_k, w_p_n, w_p_i, w_p_j, w_p_p, w_p_s, w_c_k, w_c_n, w_c_i, w_c_j, w_c_p, w_c_s, ↓reduceIte, if_true, if_false, eq_self, and_true, true_and, and_false, false_and, Option.bind_some, ne_eq, not_false_eq_true, not_true_eq_false, nI_add, pk_mul, pk_sub, nI_ac, q_tlt, q_flt, q_tle, q_fle, q_teq, q_feq, q_tin, nI_cl, q_m1, q_m2, q_m3, q_m4, q_m5, q_m6, q_m7, q_l1, q_l2, q_l3, q_l4, q_l5, q_l6, lN_add, lN_mul, lN_sub, lN_i, nI_l, q_rem, q_rem2, q_div, q_shl, q_shr, q_i0, q_i1, q_i2, q_i3, q_i4, q_i5, q_i6, q_i7, q_i8, q_i9, q_i10, q_i11, q_i12, q_i14, q_i15, q_i16, q_i17, q_i18, q_i19, q_i20, q_i22, q_i24, q_i26, q_i28, q_i30, q_i31, q_i32, q_i35, q_i36, q_i38, q_i40, q_i42, q_i43, q_i48, q_i51, q_i52, q_i56, q_i63, q_i64, q_i67, q_i80, q_i95, q_i99, q_i126, q_i127, q_i128, q_i255, q_i256, q_i512, q_i1024, q_i12000, q_i32512, q_i32768, q_i131072, q_j0, q_j1, q_j2, q_j3, q_j4, q_j8, q_j256, Nat.one_mul, Nat.zero_add, Nat.add_zero, Nat.sub_zero, Nat.mul_one, q_ofN, h.1]
              refine zEk.bind (c_Mo_bit h (by omega)) ?_
              simp (disch := omega) only [zlet, w_i_k, w_i_n, w_i_i, w_i_j, w_i_p, w_i_s, w_j_k, w_j_n, w_j_i, w_j_j, w_j_p, w_j_s, w_p_k, w_p_n, w_p_i, w_p_j, w_p_p, w_p_s, w_c_k, w_c_n, w_c_i, w_c_j, w_c_p, w_c_s, ↓reduceIte, if_true, if_false, eq_self, and_true, true_and, and_false, false_and, Option.bind_some, ne_eq, not_false_eq_true, not_true_eq_false, nI_add, pk_mul, pk_sub, nI_ac, q_tlt, q_flt, q_tle, q_fle, q_teq, q_feq, q_tin, nI_cl, q_m1, q_m2, q_m3, q_m4, q_m5, q_m6, q_m7, q_l1, q_l2, q_l3, q_l4, q_l5, q_l6, lN_add, lN_mul, lN_sub, lN_i, nI_l, q_rem, q_rem2, q_div, q_shl, q_shr, q_i0, q_i1, q_i2, q_i3, q_i4, q_i5, q_i6, q_i7, q_i8, q_i9, q_i10, q_i11, q_i12, q_i14, q_i15, q_i16, q_i17, q_i18, q_i19, q_i20, q_i22, q_i24, q_i26, q_i28, q_i30, q_i31, q_i32, q_i35, q_i36, q_i38, q_i40, q_i42, q_i43, q_i48, q_i51, q_i52, q_i56, q_i63, q_i64, q_i67, q_i80, q_i95, q_i99, q_i126, q_i127, q_i128, q_i255, q_i256, q_i512, q_i1024, q_i12000, q_i32512, q_i32768, q_i131072, q_j0, q_j1, q_j2, q_j3, q_j4, q_j8, q_j256, Nat.one_mul, Nat.zero_add, Nat.add_zero, Nat.sub_zero, Nat.mul_one, q_ofN, e1, f_Mo_share_265]
              refine hG.to fun n K => ?_
              by_cases k4 : bf b pos (w + 1) < 2 ^ w
              · simp (disch := omega) only [zlet, w_i_k, w_i_n, w_i_i, w_i_j, w_i_p, w_i_s, w_j_k, w_j_n, w_j_i, w_j_j, w_j_p, w_j_s, w_p_k, w_p_n, w_p_i, w_p_j, w_p_p, w_p_s, w_c_k, w_c_n, w_c_i, w_c_j, w_c_p, w_c_s, ↓reduceIte, if_true, if_false, eq_self, and_true, true_and, and_false, false_and, Option.bind_some, ne_eq, not_false_eq_true, not_true_eq_false, nI_add, pk_mul, pk_sub, nI_ac, q_tlt, q_flt, q_tle, q_fle, q_teq, q_feq, q_tin, nI_cl, q_m1, q_m2, q_m3, q_m4, q_m5, q_m6, q_m7, q_l1, q_l2, q_l3, q_l4, q_l5, q_l6, lN_add, lN_mul, lN_sub, lN_i, nI_l, q_rem, q_rem2, q_div, q_shl, q_shr, q_i0, q_i1, q_i2, q_i3, q_i4, q_i5, q_i6, q_i7, q_i8, q_i9, q_i10, q_i11, q_i12, q_i14, q_i15, q_i16, q_i17, q_i18, q_i19, q_i20, q_i22, q_i24, q_i26, q_i28, q_i30, q_i31, q_i32, q_i35, q_i36, q_i38, q_i40, q_i42, q_i43, q_i48, q_i51, q_i52, q_i56, q_i63, q_i64, q_i67, q_i80, q_i95, q_i99, q_i126, q_i127, q_i128, q_i255, q_i256, q_i512, q_i1024, q_i12000, q_i32512, q_i32768, q_i131072, q_j0, q_j1, q_j2, q_j3, q_j4, q_j8, q_j256, Nat.one_mul, Nat.zero_add, Nat.add_zero, Nat.sub_zero, Nat.mul_one, q_ofN, k4]
              · simp (disch := omega) only [zlet, w_i_k, w_i_n, w_i_i, w_i_j, w_i_p, w_i_s, w_j_k, w_j_n, w_j_i, w_j_j, w_j_p, w_j_s, w_p_k, w_p_n, w_p_i, w_p_j, w_p_p, w_p_s, w_c_k, w_c_n, w_c_i, w_c_j, w_c_p, w_c_s, ↓reduceIte, if_true, if_false, eq_self, and_true, true_and, and_false, false_and, Option.bind_some, ne_eq, not_false_eq_true, not_true_eq_false, nI_add, pk_mul, pk_sub, nI_ac, q_tlt, q_flt, q_tle, q_fle, q_teq, q_feq, q_tin, nI_cl, q_m1, q_m2, q_m3, q_m4, q_m5, q_m6, q_m7, q_l1, q_l2, q_l3, q_l4, q_l5, q_l6, lN_add, lN_mul, lN_sub, lN_i, nI_l, q_rem, q_rem2, q_div, q_shl, q_shr, q_i0, q_i1, q_i2, q_i3, q_i4, q_i5, q_i6, q_i7, q_i8, q_i9, q_i10, q_i11, q_i12, q_i14, q_i15, q_i16, q_i17, q_i18, q_i19, q_i20, q_i22, q_i24, q_i26, q_i28, q_i30, q_i31, q_i32, q_i35, q_i36, q_i38, q_i40, q_i42, q_i43, q_i48, q_i51, q_i52, q_i56, q_i63, q_i64, q_i67, q_i80, q_i95, q_i99, q_i126, q_i127, q_i128, q_i255, q_i256, q_i512, q_i1024, q_i12000, q_i32512, q_i32768, q_i131072, q_j0, q_j1, q_j2, q_j3, q_j4, q_j8, q_j256, Nat.one_mul, Nat.zero_add, Nat.add_zero, Nat.sub_zero, Nat.mul_one, q_ofN, k4]
