/-! Bits of bytes. -/
def bt8 (b : Nat → Nat) (k : Nat) : Nat := b (k / 8) / 2 ^ (k % 8) % 2
/-- n bits from bit p on, as a number -/
def bf (b : Nat → Nat) (p : Nat) : Nat → Nat
  | 0 => 0
  | n + 1 => bf b p n + 2 ^ n * bt8 b (p + n)
theorem bt8_lt (b : Nat → Nat) (k : Nat) : bt8 b k < 2 := Nat.mod_lt _ (by omega)
theorem bf_lt (b : Nat → Nat) (p : Nat) : ∀ n, bf b p n < 2 ^ n
  | 0 => by simp [bf]
  | n + 1 => by
    have ih := bf_lt b p n
    have h1 := bt8_lt b (p + n)
    have h2 : 2 ^ n * bt8 b (p + n) ≤ 2 ^ n * 1 := Nat.mul_le_mul_left _ (by omega)
    simp only [bf, Nat.pow_succ]
    omega
theorem bf_add (b : Nat → Nat) (p m : Nat) : ∀ n, bf b p (m + n) = bf b p m + 2 ^ m * bf b (p + m) n
  | 0 => by simp [bf]
  | n + 1 => by
    have ih := bf_add b p m n
    show bf b p (m + n) + 2 ^ (m + n) * bt8 b (p + (m + n)) = bf b p m + 2 ^ m * (bf b (p + m) n + 2 ^ n * bt8 b (p + m + n))
    rw [ih, Nat.mul_add, ← Nat.mul_assoc, ← Nat.pow_add, show p + (m + n) = p + m + n by omega]
    omega
theorem bf_low (b : Nat → Nat) (p n : Nat) : bf b p (n + 1) = bt8 b p + 2 * bf b (p + 1) n := by
  have h := bf_add b p 1 n
  rw [show 1 + n = n + 1 by omega] at h
  rw [h]
  simp [bf]
theorem bf_cut (b : Nat → Nat) (p r n t : Nat) : bf b p (r + (n + t)) / 2 ^ r % 2 ^ n = bf b (p + r) n := by
  have h1 := bf_lt b p r
  have h2 := bf_lt b (p + r) n
  rw [bf_add b p r (n + t), bf_add b (p + r) n t, Nat.add_mul_div_left _ _ (Nat.pow_pos (by omega)), Nat.div_eq_of_lt h1, Nat.zero_add, Nat.add_mul_mod_self_left, Nat.mod_eq_of_lt h2]
theorem bt8_at (b : Nat → Nat) (c i : Nat) (hi : i < 8) : bt8 b (8 * c + i) = b c / 2 ^ i % 2 := by
  unfold bt8
  rw [show (8 * c + i) / 8 = c by omega, show (8 * c + i) % 8 = i by omega]
theorem bf_byte (b : Nat → Nat) (c : Nat) (h : b c < 256) : bf b (8 * c) 8 = b c := by
  simp only [bf, bt8_at b c 0 (by omega), bt8_at b c 1 (by omega), bt8_at b c 2 (by omega), bt8_at b c 3 (by omega), bt8_at b c 4 (by omega), bt8_at b c 5 (by omega), bt8_at b c 6 (by omega), bt8_at b c 7 (by omega), Nat.add_zero]
  have h0 := bt8_at b c 0 (by omega)
  rw [Nat.add_zero] at h0
  rw [h0]
  generalize b c = v at h
  omega
theorem nb_bf (b : Nat → Nat) (a : Nat) : ∀ k, (∀ i, i < k → b (a + i) < 256) → nb b a k = bf b (8 * a) (8 * k)
  | 0, _ => rfl
  | k + 1, h => by
    have ih := nb_bf b a k (fun i hi => h i (by omega))
    rw [nb_top, ih, show 8 * (k + 1) = 8 * k + 8 by omega, bf_add, show 8 * a + 8 * k = 8 * (a + k) by omega, bf_byte b (a + k) (h k (by omega)), Nat.pow_mul]
/-- some bits of bytes, by a number of bytes -/
theorem bf_nb (b : Nat → Nat) {p n a k : Nat} (ha : p / 8 = a) (hk : p % 8 + n ≤ 8 * k) (h : ∀ i, i < k → b (a + i) < 256) : bf b p n = nb b a k / 2 ^ (p % 8) % 2 ^ n := by
  rw [nb_bf b a k h]
  obtain ⟨t, ht⟩ : ∃ t, 8 * k = p % 8 + (n + t) := ⟨8 * k - (p % 8 + n), by omega⟩
  rw [ht, bf_cut, show 8 * a + p % 8 = p by omega]
/-! The reference: its object p, its bytes IN at a, of which c stand -/
def zIn13 (M : zM) (p a c : Nat) (b : Nat → Nat) : Prop := z_k M p = 13 ∧ z_p M p 0 = a ∧ z_k M a = 100 ∧ z_n M a = 12000 ∧ z_i M p 1 = nI c ∧ c ≤ 12000 ∧ ∀ j, j < c → b j < 256 ∧ z_i M a j = nI (b j)
theorem nI_shr {v r : Nat} (hv : v < 2 ^ 31) (hr : r < 32) : nI v >>> (nI r &&& 31) = nI (v / 2 ^ r) := pk_shrN hv _ r (s_l r hr)
theorem c_Mo_bit {O : zO} {M : zM} {p a c k : Nat} {b : Nat → Nat} (h : zIn13 M p a c b) (hk : k < 8 * c) : zEv (fun n => F_Mo_bit O n p (nI k) M) (nI (bt8 b k), M) := by
  obtain ⟨h1, h2, h3, h4, h5, h6, h7⟩ := h
  have hb := h7 (k / 8) (by omega)
  refine (zEv.some _).to fun n => ?_
  unfold F_Mo_bit f_Mo_bit_0
  have e1 : nI k / (8 : Int32) = nI (k / 8) := pk_div (d := 8) (by omega) (by omega) (by omega)
  have e2 : nI k - nI k / (8 : Int32) * (8 : Int32) = nI (k % 8) := pk_rem (d := 8) (by omega) (by omega) (by omega)
  rw [e2, e1, if_pos h1, h2, if_pos h3, h4, if_pos (zin_nI (by omega) (by omega)), nI_cl (by omega), hb.2, nI_shr (by omega) (by omega)]
  have hlt : b (k / 8) / 2 ^ (k % 8) < 2 ^ 32 := Nat.lt_of_le_of_lt (Nat.div_le_self _ _) (by omega)
  rw [show nI (b (k / 8) / 2 ^ (k % 8)) &&& (1 : Int32) = nI (b (k / 8) / 2 ^ (k % 8) % 2 ^ 1) from pk_andN hlt 1 (by decide)]
  rfl
/-- the greatest k with 2^k <= v (v above 0) -/
def hib (v : Nat) : Nat := Nat.log2 v
theorem l_Mo_highest {O : zO} {M : zM} : ∀ (v : Nat), v < 2 ^ 31 → ∀ (k : Int32), zEv (fun n => f_Mo_highest_4 O n k (nI v) M) (if v = 0 then k else k + nI (hib v + 1), M) := by
  intro v
  induction v using Nat.strongRecOn with
  | _ v ih =>
    intro hv k
    by_cases h0 : v = 0
    · subst h0
      refine zEv.succ ((zEv.some _).to fun n => ?_)
      rw [f_Mo_highest_4, if_pos (show nI 0 ≤ 0 by decide), if_pos rfl]
    · rw [if_neg h0]
      have h2 := ih (v / 2) (by omega) (by omega) (k + 1)
      have e1 : nI v / (2 : Int32) = nI (v / 2) := pk_div (d := 2) (by omega) (by omega) (by omega)
      have e3 : (if v / 2 = 0 then k + 1 else k + 1 + nI (hib (v / 2) + 1)) = k + nI (hib v + 1) := by
        by_cases hz : v / 2 = 0
        · rw [if_pos hz]
          have : hib v = 0 := by unfold hib; rw [Nat.log2_def, if_neg (by omega)]
          rw [this]; rfl
        · rw [if_neg hz]
          have : hib v = hib (v / 2) + 1 := by unfold hib; rw [Nat.log2_def, if_pos (by omega)]
          rw [this, Int32.add_assoc]
          congr 1
          rw [show (1 : Int32) = nI 1 from rfl, nI_add]
          congr 1
          omega
      rw [e3] at h2
      refine zEv.succ (h2.to fun n => ?_)
      rw [f_Mo_highest_4, if_neg (nI_nle (by omega) hv), e1]
      rfl
theorem c_Mo_highest {O : zO} {M : zM} {v : Nat} (h0 : 0 < v) (hv : v < 2 ^ 31) : zEv (fun n => F_Mo_highest O n (nI v) M) (nI (hib v), M) := by
  have h := l_Mo_highest (O := O) (M := M) v hv (-1)
  rw [if_neg (by omega)] at h
  refine (h.eq ?_).to fun n => ?_
  · congr 1
    rw [← nI_1, Int32.add_comm (nI _) 1, ← Int32.add_assoc]
    show (0 : Int32) + _ = _
    rw [Int32.zero_add]
  · unfold F_Mo_highest f_Mo_highest_0
    rfl
