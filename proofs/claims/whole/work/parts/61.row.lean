/-! Contracts of a row of bytes. -/
theorem z_lg_step {v w : Nat} (hv : v < 256 ^ 7) (hw : w < 256) : (lN v <<< ((8 : Int32).toInt64 &&& 63)) ||| (nI w).toInt64 = lN (v * 256 + w) := by
  have e1 : lN v <<< ((8 : Int32).toInt64 &&& 63) = lN (v * 256) := wb_shl v (k := 8) (by omega)
  rw [e1, nI_l (by omega)]
  exact g_or (k := 8) rfl hw (by omega)
/-- the loop of number: from the top byte down -/
theorem l_Row_number {O : zO} {M : zM} {p a N c : Nat} {b : Nat → Nat} (h : zRow M p a N c b) (s k : Nat) (hk : k ≤ 8) (hs : s + k ≤ c) : ∀ j, j ≤ k → zEv (fun n => f_Row_number_23 O n p (nI s) (lN (nb b (s + j) (k - j))) (nI (s + j) - 1) M) (lN (nb b s k), M) := by
  obtain ⟨h1, h2, h3, h4, h5, h6, h7, h8⟩ := h
  intro j
  induction j with
  | zero =>
    intro _
    refine (zEv.some _).to (g := fun n => some _) (fun n => ?_) |>.succ
    rw [f_Row_number_23]
    rw [if_pos]
    · simp only [Nat.add_zero, Nat.sub_zero, f_Row_number_53]
    · rw [Int32.lt_iff_toInt_lt]
      by_cases h0 : s = 0
      · subst h0; decide
      · rw [show nI (s + 0) - 1 = nI (s - 1) from pk_sub (a := s) (b := 1) (by omega), nI_toInt (by omega), nI_toInt (by omega)]; omega
  | succ j ih =>
    intro hj
    have e1 : nI (s + (j + 1)) - 1 = nI (s + j) := by rw [show s + (j + 1) = (s + j) + 1 by omega]; exact pk_sub (a := s + j + 1) (b := 1) (by omega)
    have hb := h8 (s + j) (by omega)
    have hlt : nb b (s + (j + 1)) (k - (j + 1)) < 256 ^ 7 := by
      have h9 : nb b (s + (j + 1)) (k - (j + 1)) < 256 ^ (k - (j + 1)) := nb_lt (fun i hi => (h8 _ (by omega)).1)
      have h10 : 256 ^ (k - (j + 1)) ≤ 256 ^ 7 := Nat.pow_le_pow_right (by omega) (by omega)
      omega
    refine zEv.succ ((ih (by omega)).to fun n => ?_)
    rw [f_Row_number_23, e1]
    rw [if_neg (fun w => by have := (nI_ltI (by omega) (by omega)).mp w; omega), if_pos h1, h2, if_pos h3, h4, if_pos (zin_nI (by omega) (by omega)), nI_cl (by omega), hb.2, z_byte hb.1]
    simp only [zlet]
    have hA : nb b (s + (j + 1)) (k - (j + 1)) * 256 + b (s + j) = nb b (s + j) (k - j) := by
      rw [show k - j = (k - (j + 1)) + 1 by omega]
      show nb b (s + (j + 1)) (k - (j + 1)) * 256 + b (s + j) = b (s + j) + 256 * nb b (s + j + 1) (k - (j + 1))
      rw [show s + (j + 1) = s + j + 1 by omega]
      omega
    have hB : nI (s + j) + (-1) = nI (s + j) - 1 := (Int32.sub_eq_add_neg _ _).symm
    rw [z_lg_step hlt hb.1, hA, hB]
theorem c_Row_number {O : zO} {M : zM} {p a N c : Nat} {b : Nat → Nat} (h : zRow M p a N c b) (s k : Nat) (hk : k ≤ 8) (hs : s < 2 ^ 30) : zEv (fun n => F_Row_number O n p (nI s) (nI k) M) (lN (if s + k ≤ c then nb b s k else 0), M) := by
  have h' := h
  obtain ⟨h1, h2, h3, h4, h5, h6, h7, h8⟩ := h'
  by_cases hc : s + k ≤ c
  · rw [if_pos hc]
    refine (l_Row_number (O := O) h s k hk hc k (Nat.le_refl _)).to fun n => ?_
    unfold F_Row_number f_Row_number_0
    rw [if_neg (nI_pos (by omega)), if_pos h1, h5, pk_sub (by omega), if_neg (fun w => by have := (nI_ltI (by omega) (by omega)).mp w; omega), nI_add, Nat.sub_self]
    rfl
  · rw [if_neg hc]
    refine (zEv.some _).to fun n => ?_
    unfold F_Row_number f_Row_number_0
    rw [if_neg (nI_pos (by omega)), if_pos h1, h5, if_pos, f_Row_number_53]
    · rfl
    · rw [Int32.lt_iff_toInt_lt, pk_sub_toInt (by omega) (by omega), nI_toInt (by omega)]; omega
