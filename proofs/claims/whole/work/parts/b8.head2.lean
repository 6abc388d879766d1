/-! The head of a frame, on: both sides together. -/
theorem zHP.step {M M2 : zM} {X m cN mo c dc done id p k : Nat} {b cb db : Nat → Nat} {dd : Option dkT} (h : zHP M M2 X m cN b mo c cb dc db done id dd p) (hk : p + k ≤ cN) : zHP (w_i M (X + 73) 6 (nI (p + k))) (w_i M2 m 28 (nI (p + k))) X m cN b mo c cb dc db done id dd (p + k) := by
  have k73 := h.1.1.k73
  have h5 := h.2.2.2.2.1.2.2
  refine h.on (zSt.rf.wi (Or.inr (Or.inr rfl))) (zKp.rf.wi (Or.inl (by rw [k73]; omega))) (w_i_ne _ _ (by omega)) (fun f hf => w_i_ne _ _ (by omega)) (zRf.rf.wf (Or.inl rfl)) ?_ (w_i_eq _ _ _ _) (w_i_eq _ _ _ _) hk
  rw [w_i_ne _ _ (by omega), w_i_ne _ _ (by omega)]
  exact h5
/-- the reference's text behind the id -/
def rG (O : zO) (n : Nat) (m : Nat) (l1 : Int32) (l2 : Int32) (M : zM) : Option (Int32 × zM) :=
  zlet (l1 / (64 : Int32)) fun v5 =>
  if v5 = 0 then
  if l2 = 0 then
  f_Mo_frame_256 O n m l1 l2 (0 : Int32) M
  else
  f_Mo_frame_256 O n m l1 l2 (1 : Int32) M
  else
  f_Mo_frame_256 O n m l1 l2 ((1 : Int32) <<< (v5 &&& 31)) M
-- the id
set_option maxRecDepth 100000 in
set_option maxHeartbeats 4000000 in
theorem j_id {O : zO} {M M2 : zM} {X m cN mo c dc done id p k : Nat} {b cb db : Nat → Nat} {dd : Option dkT} {hd l2 : Int32} (h : zHP M M2 X m cN b mo c cb dc db done id dd p) (hk : k ≤ 4) (hid : id < 4294967296) :
    jBd X m M M2 (fun n => F_FR_idFits O n (X + 73) (nI k) M) (fun n => f_Mo_frame_172 O n m hd l2 (nI k) M2) ∨
    (p + k ≤ cN ∧ zEv (fun n => F_FR_idFits O n (X + 73) (nI k) M) (1, w_i M (X + 73) 6 (nI (p + k))) ∧ ∀ α, zEv (fun n => rG O n m hd l2 (w_i M2 m 28 (nI (p + k)))) α → zEv (fun n => f_Mo_frame_172 O n m hd l2 (nI k) M2) α) := by
  have h0 := h
  obtain ⟨a1, a2, a3, a4, a5, a6, a7, a8⟩ := h
  have hx := a1.1
  have hin := a1.2.1
  have hm := a2.1
  have hi2 := a2.2.1
  have hc9 := hin.cN
  have k73 := hx.k73
  have k1 := hx.k1
  have k5 := hx.k5
  have k69 := hx.k69
  have p0 := hx.p73_0
  have p1 := hx.p73_1
  have p2 := hx.p73_2
  have hlk := c_lacks (O := O) (k := k) hx hin a6 a8 (by omega)
  have hhas := c_has (O := O) (k := k) hm hi2 a7 a8 (by omega)
  have hnum := c_Row_number (O := O) hin p k (by omega) (by omega)
  by_cases c1 : p + k ≤ cN
  · rw [if_pos c1] at hlk hnum
    have hh := hhas.1 c1
    have hn2 := c_Mo_number (O := O) (hi2.in_ hm) p k (by omega) c1
    have hn4 : nb b p k < 4294967296 := by
      have h9 : nb b p k < 256 ^ k := nb_lt (fun i hi => hin.b (by omega))
      have h10 : 256 ^ k ≤ 256 ^ 4 := Nat.pow_le_pow_right (by omega) hk
      omega
    have okC : zEv (fun n => f_FR_idFits_58 O n (X + 73) (nI k) M) (1, w_i M (X + 73) 6 (nI (p + k))) := by
      unfold f_FR_idFits_58
      refine zEv.ip k73 (zEv.zl ?_)
      rw [a6, nI_add]
      exact zEv.some _
    have okM : ∀ α, zEv (fun n => rG O n m hd l2 (w_i M2 m 28 (nI (p + k)))) α → zEv (fun n => f_Mo_frame_219 O n m hd l2 (nI k) M2) α := fun α hα => by
      unfold f_Mo_frame_219
      refine zEv.ip hm.k (zEv.zl ?_)
      rw [a7, nI_add]
      exact hα
    have toC : ∀ {α : Int32 × zM}, zEv (fun n => if (lg_cmp (lN (nb b p k)) (0 : Int64)) = 0 then f_FR_idFits_58 O n (X + 73) (nI k) M else if (lg_cmp (lN (nb b p k)) (lN id)) = 0 then f_FR_idFits_58 O n (X + 73) (nI k) M else (F_Rep_fail O n (X + 69) (nI 4) (nI p) M).bind fun q11 => if q11.1 = 0 ∨ q11.1 = 1 then some (q11.1, q11.2) else none) α → zEv (fun n => F_FR_idFits O n (X + 73) (nI k) M) α := fun {α} hα => by
      unfold F_FR_idFits f_FR_idFits_0
      rw [nI_l (show k < 2 ^ 31 by omega)]
      refine zEv.ip k73 (zEv.bind hlk (zEv.ip rfl (zEv.ip k73 ?_)))
      dsimp only
      rw [p0, a6]
      refine zEv.ip k1 (zEv.bind hnum ?_)
      refine hα.to fun n => ?_
      dsimp only
      rw [p1, p2, a3.1]
      simp only [k73, k5, k69, if_true, a6]
      rfl
    have toM : ∀ {α : Int32 × zM}, zEv (fun n => if nI (nb b p k) = 0 then f_Mo_frame_219 O n m hd l2 (nI k) M2 else if nI (nb b p k) = nI id then f_Mo_frame_219 O n m hd l2 (nI k) M2 else (F_Mo_wrong O n m (nI 4) (nI p) M2).bind fun q10 => if q10.1 = 0 ∨ q10.1 = 1 then some (q10.1, q10.2) else none) α → zEv (fun n => f_Mo_frame_172 O n m hd l2 (nI k) M2) α := fun {α} hα => by
      unfold f_Mo_frame_172
      refine zEv.ip hm.k (zEv.bind hh (zEv.in_ (show ¬ (1 : Int32) = 0 by decide) (zEv.ip hm.k ?_)))
      dsimp only
      rw [a7]
      refine zEv.bind hn2 ?_
      refine hα.to fun n => ?_
      have mk := hm.k
      have e6 := a4.1
      dsimp only
      simp only [lN_i, zlet, mk, if_true, e6, a7]
      rfl
    have z0 : nI (nb b p k) = 0 ↔ nb b p k = 0 := nI_eq32 (b := 0) hn4 (by omega)
    have y0 : lg_cmp (lN (nb b p k)) (0 : Int64) = 0 ↔ nb b p k = 0 := by rw [lg_cmp_eq]; exact pk_lEQ (b := 0) (by omega) (by omega)
    have y1 : lg_cmp (lN (nb b p k)) (lN id) = 0 ↔ nb b p k = id := by rw [lg_cmp_eq]; exact pk_lEQ (by omega) (by omega)
    have z1 : nI (nb b p k) = nI id ↔ nb b p k = id := nI_eq32 hn4 hid
    by_cases d0 : nb b p k = 0
    · exact Or.inr ⟨c1, toC (zEv.ip (y0.mpr d0) okC), fun α hα => toM (zEv.ip (z0.mpr d0) (okM α hα))⟩
    by_cases d1 : nb b p k = id
    · exact Or.inr ⟨c1, toC (zEv.in_ (fun w => d0 (y0.mp w)) (zEv.ip (y1.mpr d1) okC)), fun α hα => toM (zEv.in_ (fun w => d0 (z0.mp w)) (zEv.ip (z1.mpr d1) (okM α hα)))⟩
    · exact Or.inl (h0.bad (f := 4) (q := p) (by omega) (by omega) (toC (zEv.in_ (fun w => d0 (y0.mp w)) (zEv.in_ (fun w => d1 (y1.mp w)) (zEv.bind (c_fail k69) (zEv.ip (Or.inl rfl) (zEv.some _)))))) (toM (zEv.in_ (fun w => d0 (z0.mp w)) (zEv.in_ (fun w => d1 (z1.mp w)) (zEv.bind (c_wrong hm.k) (zEv.ip (Or.inl rfl) (zEv.some _)))))))
  · left
    rw [if_neg c1] at hlk
    have hh := hhas.2 c1
    refine h0.bad (f := 1) (q := cN) (by omega) (by omega) ?_ ?_
    · unfold F_FR_idFits f_FR_idFits_0
      rw [nI_l (show k < 2 ^ 31 by omega)]
      exact zEv.ip k73 (zEv.bind hlk (zEv.in_ (show ¬ (1 : Int32) = 0 by decide) (zEv.ip k73 (zEv.bind (c_endsWithin hx hin) (zEv.ip (Or.inl rfl) (zEv.some _))))))
    · unfold f_Mo_frame_172
      exact zEv.ip hm.k (zEv.bind hh (zEv.ip rfl (zEv.some _)))
def sbS (f sg : Nat) : Nat := if 0 < f then 2 ^ f else sg
def dueS (b : Nat → Nat) (p sb : Nat) : Nat := nb b p sb + (if sb = 2 then 256 else 0)
theorem cwn_neg {v : Nat} (hv : v < 18446744073709551616) : (if 0 ≤ lg_cmp (lN v) (0 : Int64) then lN v else (9223372036854775807 : Int64)) = lN (cwn v) := by
  unfold cwn
  by_cases c : v < 9223372036854775808
  · rw [if_pos c, if_pos]
    rw [lg_cmp_ge, show (0 : Int64) = lN 0 from rfl, pk_lLE (by omega) (by omega)]
    omega
  · rw [if_neg c, if_neg]
    · rfl
    · rw [lg_cmp_ge]
      have := lN_neg (by omega) hv
      exact fun w => Int64.lt_irrefl (Int64.lt_of_lt_of_le this w)
-- the size
set_option maxRecDepth 100000 in
set_option maxHeartbeats 4000000 in
theorem j_size {O : zO} {M M2 : zM} {X m cN mo c dc done id p hd sg : Nat} {b cb db : Nat → Nat} {dd : Option dkT} (h : zHP M M2 X m cN b mo c cb dc db done id dd p) (hh0 : hd < 256) (hsg : sg < 2) (hw : sg = 0 → ∃ v, zWn M M2 X m v) :
    jBd X m M M2 (fun n => F_FR_sizeTold O n (X + 73) (nI (hd / 64)) (nI sg) M) (fun n => rG O n m (nI hd) (nI sg) M2) ∨
    (∃ M' M2', zEv (fun n => F_FR_sizeTold O n (X + 73) (nI (hd / 64)) (nI sg) M) (1, M') ∧ (∀ α, zEv (fun n => f_Mo_frame_326 O n m (nI hd) (nI (sbS (hd / 64) sg)) (lN (dueS b p (sbS (hd / 64) sg))) (nI p) M2') α → zEv (fun n => rG O n m (nI hd) (nI sg) M2) α) ∧ zSt (sHd X) M M' ∧ zKp X M M' ∧ zRf fHd sN m M2 M2' ∧ zHP M' M2' X m cN b mo c cb dc db done id dd (p + sbS (hd / 64) sg) ∧ z_i M' (X + 73) 8 = z_i M (X + 73) 8 ∧ z_i M' (X + 73) 9 = nI (if 0 < sbS (hd / 64) sg then 1 else 0) ∧ z_j M' (X + 73) 10 = lN (dueS b p (sbS (hd / 64) sg)) ∧ z_i M' (X + 73) 11 = nI p ∧ (∃ v, zWn M' M2' X m v) ∧ z_i M' (X + 69) 0 = z_i M (X + 69) 0 ∧ dueS b p (sbS (hd / 64) sg) < 18446744073709551616 ∧ sbS (hd / 64) sg ≤ 8) := by
  have h0 := h
  obtain ⟨a1, a2, a3, a4, a5, a6, a7, a8⟩ := h
  have hx := a1.1
  have hin := a1.2.1
  have hm := a2.1
  have hi2 := a2.2.1
  have hc9 := hin.cN
  have k73 := hx.k73
  have k1 := hx.k1
  have k69 := hx.k69
  have p0 := hx.p73_0
  have hsb : sbS (hd / 64) sg ≤ 8 := by
    unfold sbS
    split
    · have : 2 ^ (hd / 64) ≤ 2 ^ 3 := Nat.pow_le_pow_right (by omega) (by omega)
      omega
    · omega
  have toC19 : ∀ {α : Int32 × zM}, zEv (fun n => f_FR_sizeTold_19 O n (X + 73) (nI sg) (nI (sbS (hd / 64) sg)) M) α → zEv (fun n => F_FR_sizeTold O n (X + 73) (nI (hd / 64)) (nI sg) M) α := fun {α} hα => by
    unfold F_FR_sizeTold f_FR_sizeTold_0
    unfold sbS at hα
    by_cases c : 0 < hd / 64
    · rw [if_pos c] at hα
      refine zEv.in_ (fun w => by have := (nI_leI (b := 0) (by omega) (by omega)).mp w; omega) ?_
      rw [show (1 : Int32) = nI 1 from rfl, nI_shl (by omega) (by have : 2 ^ (hd / 64) ≤ 2 ^ 3 := Nat.pow_le_pow_right (by omega) (by omega); omega), Nat.one_mul]
      exact hα
    · rw [if_neg c] at hα
      refine zEv.ip ((nI_leI (b := 0) (by omega) (by omega)).mpr (by omega)) ?_
      rcases (show sg = 0 ∨ sg = 1 by omega) with e | e
      · subst e
        exact zEv.ip rfl hα
      · subst e
        exact zEv.in_ (by decide) hα
  have toM256 : ∀ {α : Int32 × zM}, zEv (fun n => f_Mo_frame_256 O n m (nI hd) (nI sg) (nI (sbS (hd / 64) sg)) M2) α → zEv (fun n => rG O n m (nI hd) (nI sg) M2) α := fun {α} hα => by
    unfold rG
    refine zEv.zl ?_
    rw [show (64 : Int32) = nI 64 from rfl, q_div (by omega) (by omega) (by omega)]
    unfold sbS at hα
    by_cases c : 0 < hd / 64
    · rw [if_pos c] at hα
      refine zEv.in_ (nI_ne0 (by omega) (by omega)) ?_
      rw [show (1 : Int32) = nI 1 from rfl, nI_shl (by omega) (by have : 2 ^ (hd / 64) ≤ 2 ^ 3 := Nat.pow_le_pow_right (by omega) (by omega); omega), Nat.one_mul]
      exact hα
    · rw [if_neg c] at hα
      refine zEv.ip (by rw [show hd / 64 = 0 by omega]; rfl) ?_
      rcases (show sg = 0 ∨ sg = 1 by omega) with e | e
      · subst e
        exact zEv.ip rfl hα
      · subst e
        exact zEv.in_ (by decide) hα
  generalize sbS (hd / 64) sg = sb at *
  have hlk := c_lacks (O := O) (k := sb) hx hin a6 a8 (by omega)
  have hhas := c_has (O := O) (k := sb) hm hi2 a7 a8 (by omega)
  by_cases c1 : p + sb ≤ cN
  · right
    rw [if_pos c1] at hlk
    have hh := hhas.1 c1
    have hn2 := c_Mo_number (O := O) (hi2.in_ hm) p sb (by omega) c1
    have hdue : dueS b p sb < 18446744073709551616 := by
      unfold dueS
      have h9 : nb b p sb < 256 ^ sb := nb_lt (fun i hi => hin.b (by omega))
      by_cases c2 : sb = 2
      · rw [if_pos c2]
        rw [c2] at h9 ⊢
        omega
      · rw [if_neg c2]
        have h10 : 256 ^ sb ≤ 256 ^ 8 := Nat.pow_le_pow_right (by omega) (by omega)
        omega
    generalize hfg : (if 0 < sb then 1 else 0) = fg
    have hfg1 : nI fg = 0 ∨ nI fg = 1 := by rw [← hfg]; split; exact Or.inr rfl; exact Or.inl rfl
    generalize hA : w_i (w_i M (X + 73) 9 (nI fg)) (X + 73) 11 (nI p) = A
    have sA : zSt (sHd X) M A := by rw [← hA]; exact (zSt.rf.wi (Or.inr (Or.inr rfl))).wi (Or.inr (Or.inr rfl))
    have kA : zKp X M A := by rw [← hA]; exact (zKp.rf.wi (Or.inl (by rw [k73]; omega))).wi (Or.inl (show z_k M (X + 73) ≠ 11 by rw [k73]; omega))
    have xA := hx.kp kA
    have inA := hin.st sA (by unfold sHd; omega) (by unfold sHd; omega)
    have hnum := c_Row_number (O := O) inA p sb (by omega) (by omega)
    rw [if_pos c1] at hnum
    generalize hB : w_i (w_j A (X + 73) 10 (lN (dueS b p sb))) (X + 73) 6 (nI (p + sb)) = B
    have sB : zSt (sHd X) M B := by rw [← hB]; exact (sA.wj (Or.inr (Or.inr rfl))).wi (Or.inr (Or.inr rfl))
    have a73 := xA.k73
    have kB : zKp X M B := by rw [← hB]; exact (kA.wj).wi (Or.inl (show z_k A (X + 73) ≠ 11 by rw [a73]; omega))
    have xB := hx.kp kB
    have B8 : z_i B (X + 73) 8 = z_i M (X + 73) 8 := by rw [← hB, ← hA]; simp (disch := omega) only [zlet, w_i_k, w_i_n, w_i_i, w_i_j, w_i_p, w_i_s, w_j_k, w_j_n, w_j_i, w_j_j, w_j_p, w_j_s, w_p_k, w_p_n, w_p_i, w_p_j, w_p_p, w_p_s, w_c_k, w_c_n, w_c_i, w_c_j, w_c_p, w_c_s, w_u_k, w_u_n, w_u_i, w_u_j, w_u_p, w_u_s, q_nf, ↓reduceIte, if_true, if_false, eq_self, and_true, true_and, and_false, false_and, Option.bind_some, ne_eq, not_false_eq_true, not_true_eq_false]
    have B9 : z_i B (X + 73) 9 = nI fg := by rw [← hB, ← hA]; simp (disch := omega) only [zlet, w_i_k, w_i_n, w_i_i, w_i_j, w_i_p, w_i_s, w_j_k, w_j_n, w_j_i, w_j_j, w_j_p, w_j_s, w_p_k, w_p_n, w_p_i, w_p_j, w_p_p, w_p_s, w_c_k, w_c_n, w_c_i, w_c_j, w_c_p, w_c_s, w_u_k, w_u_n, w_u_i, w_u_j, w_u_p, w_u_s, q_nf, ↓reduceIte, if_true, if_false, eq_self, and_true, true_and, and_false, false_and, Option.bind_some, ne_eq, not_false_eq_true, not_true_eq_false]
    have B10 : z_j B (X + 73) 10 = lN (dueS b p sb) := by rw [← hB, ← hA]; simp (disch := omega) only [zlet, w_i_k, w_i_n, w_i_i, w_i_j, w_i_p, w_i_s, w_j_k, w_j_n, w_j_i, w_j_j, w_j_p, w_j_s, w_p_k, w_p_n, w_p_i, w_p_j, w_p_p, w_p_s, w_c_k, w_c_n, w_c_i, w_c_j, w_c_p, w_c_s, w_u_k, w_u_n, w_u_i, w_u_j, w_u_p, w_u_s, q_nf, ↓reduceIte, if_true, if_false, eq_self, and_true, true_and, and_false, false_and, Option.bind_some, ne_eq, not_false_eq_true, not_true_eq_false]
    have B11 : z_i B (X + 73) 11 = nI p := by rw [← hB, ← hA]; simp (disch := omega) only [zlet, w_i_k, w_i_n, w_i_i, w_i_j, w_i_p, w_i_s, w_j_k, w_j_n, w_j_i, w_j_j, w_j_p, w_j_s, w_p_k, w_p_n, w_p_i, w_p_j, w_p_p, w_p_s, w_c_k, w_c_n, w_c_i, w_c_j, w_c_p, w_c_s, w_u_k, w_u_n, w_u_i, w_u_j, w_u_p, w_u_s, q_nf, ↓reduceIte, if_true, if_false, eq_self, and_true, true_and, and_false, false_and, Option.bind_some, ne_eq, not_false_eq_true, not_true_eq_false]
    have B6 : z_i B (X + 73) 6 = nI (p + sb) := by rw [← hB]; simp (disch := omega) only [zlet, w_i_k, w_i_n, w_i_i, w_i_j, w_i_p, w_i_s, w_j_k, w_j_n, w_j_i, w_j_j, w_j_p, w_j_s, w_p_k, w_p_n, w_p_i, w_p_j, w_p_p, w_p_s, w_c_k, w_c_n, w_c_i, w_c_j, w_c_p, w_c_s, w_u_k, w_u_n, w_u_i, w_u_j, w_u_p, w_u_s, q_nf, ↓reduceIte, if_true, if_false, eq_self, and_true, true_and, and_false, false_and, Option.bind_some, ne_eq, not_false_eq_true, not_true_eq_false]
    have B70 : ∀ f, z_i B (X + 70) f = z_i M (X + 70) f ∧ z_i B (X + 69) f = z_i M (X + 69) f := fun f => by
      refine ⟨?_, ?_⟩
      · rw [← hB, ← hA]; simp (disch := omega) only [zlet, w_i_k, w_i_n, w_i_i, w_i_j, w_i_p, w_i_s, w_j_k, w_j_n, w_j_i, w_j_j, w_j_p, w_j_s, w_p_k, w_p_n, w_p_i, w_p_j, w_p_p, w_p_s, w_c_k, w_c_n, w_c_i, w_c_j, w_c_p, w_c_s, w_u_k, w_u_n, w_u_i, w_u_j, w_u_p, w_u_s, q_nf, ↓reduceIte, if_true, if_false, eq_self, and_true, true_and, and_false, false_and, Option.bind_some, ne_eq, not_false_eq_true, not_true_eq_false]
      · rw [← hB, ← hA]; simp (disch := omega) only [zlet, w_i_k, w_i_n, w_i_i, w_i_j, w_i_p, w_i_s, w_j_k, w_j_n, w_j_i, w_j_j, w_j_p, w_j_s, w_p_k, w_p_n, w_p_i, w_p_j, w_p_p, w_p_s, w_c_k, w_c_n, w_c_i, w_c_j, w_c_p, w_c_s, w_u_k, w_u_n, w_u_i, w_u_j, w_u_p, w_u_s, q_nf, ↓reduceIte, if_true, if_false, eq_self, and_true, true_and, and_false, false_and, Option.bind_some, ne_eq, not_false_eq_true, not_true_eq_false]
    have J70 : z_j B (X + 70) 5 = z_j M (X + 70) 5 := by rw [← hB, ← hA]; simp (disch := omega) only [zlet, w_i_k, w_i_n, w_i_i, w_i_j, w_i_p, w_i_s, w_j_k, w_j_n, w_j_i, w_j_j, w_j_p, w_j_s, w_p_k, w_p_n, w_p_i, w_p_j, w_p_p, w_p_s, w_c_k, w_c_n, w_c_i, w_c_j, w_c_p, w_c_s, w_u_k, w_u_n, w_u_i, w_u_j, w_u_p, w_u_s, q_nf, ↓reduceIte, if_true, if_false, eq_self, and_true, true_and, and_false, false_and, Option.bind_some, ne_eq, not_false_eq_true, not_true_eq_false]
    have toB : ∀ {α : Int32 × zM}, zEv (fun n => if nI sg = 0 then f_FR_sizeTold_122 O n B else f_FR_sizeTold_119 O n (X + 73) (lN (cwn (dueS b p sb))) B) α → zEv (fun n => F_FR_sizeTold O n (X + 73) (nI (hd / 64)) (nI sg) M) α := fun {α} hα => by
      refine toC19 ?_
      unfold f_FR_sizeTold_19
      rw [nI_l (show sb < 2 ^ 31 by omega)]
      refine zEv.ip k73 (zEv.bind hlk (zEv.ip rfl ?_))
      dsimp only
      have to44 : zEv (fun n => f_FR_sizeTold_44 O n (X + 73) (nI sg) (nI sb) (X + 73) (nI fg) M) α := by
        unfold f_FR_sizeTold_44
        refine zEv.ip k73 (zEv.ip hfg1 (zEv.zl (zEv.ip k73 (zEv.zl ?_))))
        have e6' : z_i (w_i M (X + 73) 9 (nI fg)) (X + 73) 6 = nI p := by rw [w_i_ne _ _ (by omega)]; exact a6
        rw [e6', hA, xA.p73_0, show z_i A (X + 73) 6 = nI p by rw [← hA]; simp (disch := omega) only [zlet, w_i_k, w_i_n, w_i_i, w_i_j, w_i_p, w_i_s, w_j_k, w_j_n, w_j_i, w_j_j, w_j_p, w_j_s, w_p_k, w_p_n, w_p_i, w_p_j, w_p_p, w_p_s, w_c_k, w_c_n, w_c_i, w_c_j, w_c_p, w_c_s, w_u_k, w_u_n, w_u_i, w_u_j, w_u_p, w_u_s, q_nf, ↓reduceIte, if_true, if_false, eq_self, and_true, true_and, and_false, false_and, Option.bind_some, ne_eq, not_false_eq_true, not_true_eq_false]; exact a6]
        refine zEv.ip xA.k1 (zEv.bind hnum ?_)
        have to80 : ∀ {x : Int32} {k : Nat}, x = nI k → k < 2 ^ 31 → nb b p sb + k = dueS b p sb → zEv (fun n => f_FR_sizeTold_80 O n (X + 73) (nI sg) (nI sb) (X + 73) (lN (nb b p sb)) x A) α := fun {x k} ex hk2 ed => by
          subst ex
          unfold f_FR_sizeTold_80
          refine zEv.ip a73 (zEv.zl ?_)
          rw [nI_l hk2, lN_add, ed]
          refine zEv.ip a73 (zEv.zl ?_)
          have e6' : z_i (w_j A (X + 73) 10 (lN (dueS b p sb))) (X + 73) 6 = nI p := by simp (disch := omega) only [zlet, w_i_k, w_i_n, w_i_i, w_i_j, w_i_p, w_i_s, w_j_k, w_j_n, w_j_i, w_j_j, w_j_p, w_j_s, w_p_k, w_p_n, w_p_i, w_p_j, w_p_p, w_p_s, w_c_k, w_c_n, w_c_i, w_c_j, w_c_p, w_c_s, w_u_k, w_u_n, w_u_i, w_u_j, w_u_p, w_u_s, q_nf, ↓reduceIte, if_true, if_false, eq_self, and_true, true_and, and_false, false_and, Option.bind_some, ne_eq, not_false_eq_true, not_true_eq_false]; rw [← hA]; simp (disch := omega) only [zlet, w_i_k, w_i_n, w_i_i, w_i_j, w_i_p, w_i_s, w_j_k, w_j_n, w_j_i, w_j_j, w_j_p, w_j_s, w_p_k, w_p_n, w_p_i, w_p_j, w_p_p, w_p_s, w_c_k, w_c_n, w_c_i, w_c_j, w_c_p, w_c_s, w_u_k, w_u_n, w_u_i, w_u_j, w_u_p, w_u_s, q_nf, ↓reduceIte, if_true, if_false, eq_self, and_true, true_and, and_false, false_and, Option.bind_some, ne_eq, not_false_eq_true, not_true_eq_false]; exact a6
          rw [e6', nI_add, hB, B10]
          refine hα.to fun n => ?_
          rw [← cwn_neg hdue]
          split
          · rfl
          · split <;> rfl
        dsimp only
        by_cases c2 : sb = 2
        · exact zEv.ip (by rw [c2]; rfl) (to80 (k := 256) rfl (by omega) (by unfold dueS; rw [if_pos c2]))
        · exact zEv.in_ (fun w => c2 ((nI_eq (b := 2) (by omega) (by omega)).mp w)) (to80 (k := 0) rfl (by omega) (by unfold dueS; rw [if_neg c2]))
      by_cases c2 : 0 < sb
      · rw [if_pos c2] at hfg
        subst hfg
        exact zEv.in_ (fun w => by have := (nI_leI (b := 0) (by omega) (by omega)).mp w; omega) to44
      · rw [if_neg c2] at hfg
        subst hfg
        exact zEv.ip ((nI_leI (b := 0) (by omega) (by omega)).mpr (by omega)) to44
    generalize hQ : w_i M2 m 28 (nI (p + sb)) = Q
    have rQ : zRf fHd sN m M2 Q := by rw [← hQ]; exact zRf.rf.wf (Or.inl rfl)
    have toQ : ∀ {α : Int32 × zM}, zEv (fun n => if nI sg = 0 then f_Mo_frame_326 O n m (nI hd) (nI sb) (lN (dueS b p sb)) (nI p) Q else (F_Mo_tell O n m (w_j Q m 38 (lN (dueS b p sb)))).bind fun q12 => f_Mo_frame_326 O n m (nI hd) (nI sb) (lN (dueS b p sb)) (nI p) q12.2) α → zEv (fun n => rG O n m (nI hd) (nI sg) M2) α := fun {α} hα => by
      refine toM256 ?_
      unfold f_Mo_frame_256
      refine zEv.ip hm.k (zEv.bind hh (zEv.in_ (show ¬ (1 : Int32) = 0 by decide) (zEv.ip hm.k ?_)))
      dsimp only
      rw [a7]
      refine zEv.bind hn2 ?_
      have to292 : ∀ {x : Int64} {k : Nat}, x = lN k → nb b p sb + k = dueS b p sb → zEv (fun n => f_Mo_frame_292 O n m (nI hd) (nI sg) (nI sb) (lN (nb b p sb)) x M2) α := fun {x k} ex ed => by
        subst ex
        unfold f_Mo_frame_292
        rw [lN_add, ed]
        refine zEv.zl (zEv.ip hm.k (zEv.zl (zEv.zl ?_)))
        rw [a7, nI_add, hQ]
        exact hα
      dsimp only
      by_cases c2 : sb = 2
      · exact zEv.ip (by rw [c2]; rfl) (to292 (k := 256) rfl (by unfold dueS; rw [if_pos c2]))
      · exact zEv.in_ (fun w => c2 ((nI_eq (b := 2) (by omega) (by omega)).mp w)) (to292 (k := 0) rfl (by unfold dueS; rw [if_neg c2]))
    have q28 : z_i Q m 28 = nI (p + sb) := by rw [← hQ, w_i_eq]
    rcases (show sg = 0 ∨ sg = 1 by omega) with e | e
    · subst e
      obtain ⟨v, v1, v2, v3⟩ := hw rfl
      refine ⟨B, Q, toB (zEv.ip rfl (zEv.some _)), fun α hα => toQ (zEv.ip rfl hα), sB, kB, rQ, h0.on sB kB (B70 2).1 (fun f hf => (B70 f).2) rQ ?_ B6 q28 c1, B8, B9, B10, B11, ⟨v, J70.trans v1, ?_, v3⟩, (B70 0).2, hdue, hsb⟩
      · rw [(B70 5).2, show z_i Q m 39 = z_i M2 m 39 by rw [← hQ, w_i_ne _ _ (by omega)]]
        exact a5.2.2
      · rw [← hQ]; exact v2
    · subst e
      have hsw := c_setWindow (O := O) (v := dueS b p sb) xB
      have rQ1 : zRf fHd sN m M2 (w_j Q m 38 (lN (dueS b p sb))) := rQ.wg (Or.inr (Or.inl rfl))
      have e38 : z_j (w_j Q m 38 (lN (dueS b p sb))) m 38 = lN (dueS b p sb) := by simp (disch := omega) only [zlet, w_i_k, w_i_n, w_i_i, w_i_j, w_i_p, w_i_s, w_j_k, w_j_n, w_j_i, w_j_j, w_j_p, w_j_s, w_p_k, w_p_n, w_p_i, w_p_j, w_p_p, w_p_s, w_c_k, w_c_n, w_c_i, w_c_j, w_c_p, w_c_s, w_u_k, w_u_n, w_u_i, w_u_j, w_u_p, w_u_s, q_nf, ↓reduceIte, if_true, if_false, eq_self, and_true, true_and, and_false, false_and, Option.bind_some, ne_eq, not_false_eq_true, not_true_eq_false]
      have htl := c_tell (O := O) (rQ1.mo hm) e38 hdue
      have b73 := xB.k73
      have b69 := xB.k69
      generalize hC : w_i (w_j B (X + 70) 5 (lN (cwn (dueS b p sb)))) (X + 69) 5 (nI (iM (dueS b p sb))) = C at hsw
      have sC : zSt (sHd X) M C := by rw [← hC]; exact (sB.wj (Or.inr (Or.inl rfl))).wi (Or.inl rfl)
      have kC : zKp X M C := by rw [← hC]; exact (kB.wj).wi (Or.inl (show z_k B (X + 69) ≠ 11 by rw [b69]; omega))
      generalize hD : w_i (w_j Q m 38 (lN (dueS b p sb))) m 39 (nI (iM (dueS b p sb))) = D at htl
      have rD : zRf fHd sN m M2 D := by rw [← hD]; exact rQ1.wf (Or.inr (Or.inr rfl))
      have C73 : ∀ f, z_i C (X + 73) f = z_i B (X + 73) f := fun f => by rw [← hC, w_i_ne _ _ (by omega)]; rfl
      refine ⟨C, D, toB (zEv.in_ (by decide) ?_), fun α hα => toQ (zEv.in_ (by decide) (zEv.bind htl hα)), sC, kC, rD, h0.on sC kC ?_ (fun f hf => ?_) rD ?_ ((C73 6).trans B6) ?_ c1, (C73 8).trans B8, (C73 9).trans B9, ?_, (C73 11).trans B11, ⟨dueS b p sb, ?_, ?_, hdue⟩, ?_, hdue, hsb⟩
      · unfold f_FR_sizeTold_119
        exact zEv.ip b73 (zEv.bind hsw (zEv.some _))
      · rw [← hC, w_i_ne _ _ (by omega)]; exact (B70 2).1
      · rw [← hC, w_i_ne _ _ (by omega)]; exact (B70 f).2
      · rw [← hC, ← hD, w_i_eq, w_i_eq]
      · rw [← hD, w_i_ne _ _ (by omega)]; exact q28
      · rw [← hC]; simp (disch := omega) only [zlet, w_i_k, w_i_n, w_i_i, w_i_j, w_i_p, w_i_s, w_j_k, w_j_n, w_j_i, w_j_j, w_j_p, w_j_s, w_p_k, w_p_n, w_p_i, w_p_j, w_p_p, w_p_s, w_c_k, w_c_n, w_c_i, w_c_j, w_c_p, w_c_s, w_u_k, w_u_n, w_u_i, w_u_j, w_u_p, w_u_s, q_nf, ↓reduceIte, if_true, if_false, eq_self, and_true, true_and, and_false, false_and, Option.bind_some, ne_eq, not_false_eq_true, not_true_eq_false]; exact B10
      · rw [← hC]; simp (disch := omega) only [zlet, w_i_k, w_i_n, w_i_i, w_i_j, w_i_p, w_i_s, w_j_k, w_j_n, w_j_i, w_j_j, w_j_p, w_j_s, w_p_k, w_p_n, w_p_i, w_p_j, w_p_p, w_p_s, w_c_k, w_c_n, w_c_i, w_c_j, w_c_p, w_c_s, w_u_k, w_u_n, w_u_i, w_u_j, w_u_p, w_u_s, q_nf, ↓reduceIte, if_true, if_false, eq_self, and_true, true_and, and_false, false_and, Option.bind_some, ne_eq, not_false_eq_true, not_true_eq_false]
      · rw [← hD]; exact e38
      · rw [← hC, w_i_ne _ _ (by omega)]; exact (B70 0).2
  · left
    rw [if_neg c1] at hlk
    have hh := hhas.2 c1
    refine h0.bad (f := 1) (q := cN) (by omega) (by omega) (toC19 ?_) (toM256 ?_)
    · unfold f_FR_sizeTold_19
      rw [nI_l (show sb < 2 ^ 31 by omega)]
      exact zEv.ip k73 (zEv.bind hlk (zEv.in_ (show ¬ (1 : Int32) = 0 by decide) (zEv.ip k73 (zEv.bind (c_endsWithin hx hin) (zEv.ip (Or.inl rfl) (zEv.some _))))))
    · unfold f_Mo_frame_256
      exact zEv.ip hm.k (zEv.bind hh (zEv.ip rfl (zEv.some _)))
