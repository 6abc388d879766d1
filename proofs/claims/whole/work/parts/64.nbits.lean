/-! The class: bits upwards (Share.nextBits). -/
theorem nI_or (a b : Nat) : nI a ||| nI b = nI (a ||| b) := by
  apply Int32.toBitVec_inj.mp
  show (nI a).toBitVec ||| (nI b).toBitVec = (nI (a ||| b)).toBitVec
  apply BitVec.eq_of_toNat_eq
  show ((BitVec.ofNat 32 a) ||| (BitVec.ofNat 32 b)).toNat = (BitVec.ofNat 32 (a ||| b)).toNat
  simp [BitVec.toNat_or, Nat.or_mod_two_pow]
theorem nI_orb {x y j : Nat} (hx : x < 2 ^ j) : nI x ||| nI (2 ^ j * y) = nI (x + 2 ^ j * y) := by
  rw [nI_or]
  congr 1
  rw [Nat.or_comm, ← Nat.two_pow_add_eq_or_of_lt hx, Nat.add_comm]
theorem nI_shl {v k : Nat} (hk : k < 32) (h : v * 2 ^ k < 2 ^ 32) : nI v <<< (nI k &&& 31) = nI (v * 2 ^ k) := pk_shlN _ k (s_l k hk) h
theorem sb_bit : ∀ v, v < 256 → ∀ r, r < 8 → (sb_b v >>> (nI r &&& 31)) &&& 1 = nI (v / 2 ^ r % 2) := by decide +kernel
theorem nI_and7 {n : Nat} (h : n < 2 ^ 31) : nI n &&& 7 = nI (n % 8) := pk_andN (by omega) 3 (by decide)
theorem nI_shr3 {n : Nat} (h : n < 2 ^ 31) : nI n >>> ((3 : Int32) &&& 31) = nI (n / 8) := nI_shr (r := 3) h (by omega)
/-- a Share: its object p, its row of bytes r, where it stands and ends -/
def zShB (M : zM) (p r pos e : Nat) : Prop := z_k M p = 11 ∧ z_p M p 8 = r ∧ z_i M p 9 = nI pos ∧ z_i M p 10 = nI e
theorem l_nextBits {O : zO} {M : zM} {p r a N c pos e m : Nat} {b : Nat → Nat} (h : zShB M p r pos e) (hr : zRow M r a N c b) (he : pos + m ≤ e) (hc : e ≤ 8 * c) (hm : m ≤ 16) : ∀ j, j ≤ m → zEv (fun n => f_Share_nextBits_26 O n p (nI m) (nI (bf b pos (m - j))) (nI (m - j)) (w_i M p 9 (nI (pos + (m - j))))) (nI (bf b pos m), w_i M p 9 (nI (pos + m))) := by
  obtain ⟨h1, h2, h3, h4⟩ := h
  obtain ⟨r1, r2, r3, r4, r5, r6, r7, r8⟩ := hr
  have hpr : r ≠ p := fun w => by rw [w, h1] at r1; omega
  have hpa : a ≠ p := fun w => by rw [w, h1] at r3; omega
  intro j
  induction j with
  | zero =>
    intro _
    refine zEv.succ ((zEv.some _).to fun n => ?_)
    rw [f_Share_nextBits_26, if_pos (nI_le (by omega) (by omega))]
    simp only [Nat.sub_zero]
  | succ j ih =>
    intro hj
    have hb := r8 ((pos + (m - (j + 1))) / 8) (by omega)
    have hlt := bf_lt b pos (m - (j + 1))
    have hpow : 2 ^ (m - (j + 1)) ≤ 2 ^ 15 := Nat.pow_le_pow_right (by omega) (by omega)
    have hbt := bt8_lt b (pos + (m - (j + 1)))
    refine zEv.succ ((ih (by omega)).to fun n => ?_)
    rw [f_Share_nextBits_26, if_neg (fun w => by have := (nI_leI (by omega) (by omega)).mp w; omega), if_pos (show z_k (w_i M p 9 _) p = 11 from h1)]
    simp only [zlet]
    rw [w_i_eq, nI_shr3 (by omega), if_neg (nI_pos (by omega))]
    rw [show z_p (w_i M p 9 (nI (pos + (m - (j + 1))))) p 8 = r from h2, if_pos (show z_k (w_i M p 9 _) r = 9 from r1), w_i_ne _ _ (fun w => hpr w.1), r5, if_neg (fun w => by have := (nI_leI (by omega) (by omega)).mp w; omega)]
    rw [show z_p (w_i M p 9 (nI (pos + (m - (j + 1))))) r 0 = a from r2, if_pos (show z_k (w_i M p 9 _) a = 101 from r3), show z_n (w_i M p 9 (nI (pos + (m - (j + 1))))) a = N from r4, if_pos (zin_nI (by omega) (by omega)), nI_cl (by omega), w_i_ne _ _ (fun w => hpa w.1), hb.2]
    unfold f_Share_nextBits_70
    rw [if_pos (show z_k (w_i M p 9 _) p = 11 from h1)]
    simp only [zlet]
    rw [w_i_eq, w_ii, nI_and7 (by omega), sb_bit _ hb.1 _ (by omega), nI_shl (by omega) ?_, nI_1, nI_1]
    · have e1 : b ((pos + (m - (j + 1))) / 8) / 2 ^ ((pos + (m - (j + 1))) % 8) % 2 = bt8 b (pos + (m - (j + 1))) := rfl
      have e2 : m - j = (m - (j + 1)) + 1 := by omega
      rw [e1, Nat.mul_comm, nI_orb hlt, e2]
      rfl
    · have h9 : bt8 b (pos + (m - (j + 1))) * 2 ^ (m - (j + 1)) ≤ 1 * 2 ^ 15 := Nat.mul_le_mul (by omega) hpow
      have e1 : b ((pos + (m - (j + 1))) / 8) / 2 ^ ((pos + (m - (j + 1))) % 8) % 2 = bt8 b (pos + (m - (j + 1))) := rfl
      rw [e1]
      omega
theorem c_nextBits {O : zO} {M : zM} {p r a N c pos e m : Nat} {b : Nat → Nat} (h : zShB M p r pos e) (hr0 : r ≠ 0) (hr : zRow M r a N c b) (he : pos ≤ e) (hc : e ≤ 8 * c) (hm : m ≤ 16) : zEv (fun n => F_Share_nextBits O n p (nI m) M) (if pos + m ≤ e then (nI (bf b pos m), w_i M p 9 (nI (pos + m))) else (-1, M)) := by
  have h' := h
  obtain ⟨h1, h2, h3, h4⟩ := h'
  have hN := hr.2.2.2.2.2.1
  have hN2 := hr.2.2.2.2.2.2.1
  by_cases hle : pos + m ≤ e
  · rw [if_pos hle]
    refine (l_nextBits (O := O) h hr hle hc hm m (Nat.le_refl _)).to fun n => ?_
    unfold F_Share_nextBits f_Share_nextBits_0
    rw [if_pos h1, h2, if_neg hr0, h3, h4, pk_sub he, if_pos (nI_le (by omega) (by omega)), Nat.sub_self, Nat.add_zero, w_is h3]
    rfl
  · rw [if_neg hle]
    refine (zEv.some _).to fun n => ?_
    unfold F_Share_nextBits f_Share_nextBits_0
    rw [if_pos h1, h2, if_neg hr0, h3, h4, pk_sub he, if_neg (fun w => by have := (nI_leI (by omega) (by omega)).mp w; omega)]
    rfl
