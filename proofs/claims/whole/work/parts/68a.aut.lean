/-! Words for reckoning by simp. -/
theorem q_i0 : (0 : Int32) = nI 0 := rfl
theorem q_i1 : (1 : Int32) = nI 1 := rfl
theorem q_i2 : (2 : Int32) = nI 2 := rfl
theorem q_i3 : (3 : Int32) = nI 3 := rfl
theorem q_i4 : (4 : Int32) = nI 4 := rfl
theorem q_i5 : (5 : Int32) = nI 5 := rfl
theorem q_i6 : (6 : Int32) = nI 6 := rfl
theorem q_i7 : (7 : Int32) = nI 7 := rfl
theorem q_i8 : (8 : Int32) = nI 8 := rfl
theorem q_i9 : (9 : Int32) = nI 9 := rfl
theorem q_i10 : (10 : Int32) = nI 10 := rfl
theorem q_i11 : (11 : Int32) = nI 11 := rfl
theorem q_i12 : (12 : Int32) = nI 12 := rfl
theorem q_i14 : (14 : Int32) = nI 14 := rfl
theorem q_i15 : (15 : Int32) = nI 15 := rfl
theorem q_i16 : (16 : Int32) = nI 16 := rfl
theorem q_i17 : (17 : Int32) = nI 17 := rfl
theorem q_i18 : (18 : Int32) = nI 18 := rfl
theorem q_i19 : (19 : Int32) = nI 19 := rfl
theorem q_i20 : (20 : Int32) = nI 20 := rfl
theorem q_i22 : (22 : Int32) = nI 22 := rfl
theorem q_i24 : (24 : Int32) = nI 24 := rfl
theorem q_i26 : (26 : Int32) = nI 26 := rfl
theorem q_i28 : (28 : Int32) = nI 28 := rfl
theorem q_i30 : (30 : Int32) = nI 30 := rfl
theorem q_i31 : (31 : Int32) = nI 31 := rfl
theorem q_i32 : (32 : Int32) = nI 32 := rfl
theorem q_i35 : (35 : Int32) = nI 35 := rfl
theorem q_i36 : (36 : Int32) = nI 36 := rfl
theorem q_i38 : (38 : Int32) = nI 38 := rfl
theorem q_i40 : (40 : Int32) = nI 40 := rfl
theorem q_i42 : (42 : Int32) = nI 42 := rfl
theorem q_i43 : (43 : Int32) = nI 43 := rfl
theorem q_i48 : (48 : Int32) = nI 48 := rfl
theorem q_i51 : (51 : Int32) = nI 51 := rfl
theorem q_i52 : (52 : Int32) = nI 52 := rfl
theorem q_i56 : (56 : Int32) = nI 56 := rfl
theorem q_i63 : (63 : Int32) = nI 63 := rfl
theorem q_i64 : (64 : Int32) = nI 64 := rfl
theorem q_i67 : (67 : Int32) = nI 67 := rfl
theorem q_i80 : (80 : Int32) = nI 80 := rfl
theorem q_i95 : (95 : Int32) = nI 95 := rfl
theorem q_i99 : (99 : Int32) = nI 99 := rfl
theorem q_i126 : (126 : Int32) = nI 126 := rfl
theorem q_i127 : (127 : Int32) = nI 127 := rfl
theorem q_i128 : (128 : Int32) = nI 128 := rfl
theorem q_i255 : (255 : Int32) = nI 255 := rfl
theorem q_i256 : (256 : Int32) = nI 256 := rfl
theorem q_i512 : (512 : Int32) = nI 512 := rfl
theorem q_i1024 : (1024 : Int32) = nI 1024 := rfl
theorem q_i12000 : (12000 : Int32) = nI 12000 := rfl
theorem q_i32512 : (32512 : Int32) = nI 32512 := rfl
theorem q_i32768 : (32768 : Int32) = nI 32768 := rfl
theorem q_i131072 : (131072 : Int32) = nI 131072 := rfl
theorem q_j0 : (0 : Int64) = lN 0 := rfl
theorem q_j1 : (1 : Int64) = lN 1 := rfl
theorem q_j2 : (2 : Int64) = lN 2 := rfl
theorem q_j3 : (3 : Int64) = lN 3 := rfl
theorem q_j4 : (4 : Int64) = lN 4 := rfl
theorem q_j8 : (8 : Int64) = lN 8 := rfl
theorem q_j256 : (256 : Int64) = lN 256 := rfl
theorem q_tlt {a b : Nat} (h : a < b) (hb : b < 2147483648) : (nI a < nI b) = True := eq_true (nI_lt h hb)
theorem q_flt {a b : Nat} (h : b ≤ a) (ha : a < 2147483648) : (nI a < nI b) = False := eq_false (nI_nlt h ha)
theorem q_tle {a b : Nat} (h : a ≤ b) (hb : b < 2147483648) : (nI a ≤ nI b) = True := eq_true (nI_le h hb)
theorem q_fle {a b : Nat} (h : b < a) (ha : a < 2147483648) : (nI a ≤ nI b) = False := eq_false (fun w => by have := (nI_leI (a := a) (b := b) (by omega) (by omega)).mp w; omega)
theorem q_teq {a b : Nat} (h : a = b) : (nI a = nI b) = True := eq_true (by rw [h])
theorem q_feq {a b : Nat} (h : a < b ∨ b < a) (ha : a < 2147483648) (hb : b < 2147483648) : (nI a = nI b) = False := eq_false (fun w => by have := (nI_eq (a := a) (b := b) (by omega) (by omega)).mp w; omega)
theorem q_tin {i n : Nat} (h : i < n) (hn : n < 2147483648) : (zin (nI i) n = true) = True := eq_true (zin_nI h hn)
theorem q_neg {c : Nat} (h : c < 2147483648) : (-nI c).toInt = -(c : Int) := sb_negT h
theorem q_m1 {a c : Nat} (ha : a < 2147483648) (hc : c < 2147483648) : (-nI c ≤ nI a) = True := eq_true (by rw [Int32.le_iff_toInt_le, q_neg hc, nI_toInt ha]; omega)
theorem q_m2 {a c : Nat} (h : 0 < a + c) (ha : a < 2147483648) (hc : c < 2147483648) : (-nI c < nI a) = True := eq_true (by rw [Int32.lt_iff_toInt_lt, q_neg hc, nI_toInt ha]; omega)
theorem q_m3 {a c : Nat} (ha : a < 2147483648) (hc : c < 2147483648) : (nI a < -nI c) = False := eq_false (by rw [Int32.lt_iff_toInt_lt, q_neg hc, nI_toInt ha]; omega)
theorem q_m4 {a c : Nat} (h : 0 < a + c) (ha : a < 2147483648) (hc : c < 2147483648) : (nI a ≤ -nI c) = False := eq_false (by rw [Int32.le_iff_toInt_le, q_neg hc, nI_toInt ha]; omega)
theorem q_m5 {a c : Nat} (h : 0 < a + c) (ha : a < 2147483648) (hc : c < 2147483648) : (nI a = -nI c) = False := eq_false (fun w => by have := congrArg Int32.toInt w; rw [q_neg hc, nI_toInt ha] at this; omega)
theorem q_m6 {a c : Nat} (h : 0 < a + c) (ha : a < 2147483648) (hc : c < 2147483648) : (-nI c = nI a) = False := eq_false (fun w => by have := congrArg Int32.toInt w; rw [q_neg hc, nI_toInt ha] at this; omega)
theorem q_m7 {a c : Nat} (h : a = c) : (-nI c = -nI a) = True := eq_true (by rw [h])
theorem q_l1 {a b : Nat} (h : a < b) (hb : b < 9223372036854775808) : (lN a < lN b) = True := eq_true ((pk_lLT (by omega) (by omega)).mpr h)
theorem q_l2 {a b : Nat} (h : b ≤ a) (ha : a < 9223372036854775808) : (lN a < lN b) = False := eq_false (fun w => by have := (pk_lLT (a := a) (b := b) (by omega) (by omega)).mp w; omega)
theorem q_l3 {a b : Nat} (h : a ≤ b) (hb : b < 9223372036854775808) : (lN a ≤ lN b) = True := eq_true ((pk_lLE (by omega) (by omega)).mpr h)
theorem q_l4 {a b : Nat} (h : b < a) (ha : a < 9223372036854775808) : (lN a ≤ lN b) = False := eq_false (fun w => by have := (pk_lLE (a := a) (b := b) (by omega) (by omega)).mp w; omega)
theorem q_l5 {a b : Nat} (h : a = b) : (lN a = lN b) = True := eq_true (by rw [h])
theorem q_l6 {a b : Nat} (h : a < b ∨ b < a) (ha : a < 9223372036854775808) (hb : b < 9223372036854775808) : (lN a = lN b) = False := eq_false (fun w => by have := (pk_lEQ (a := a) (b := b) (by omega) (by omega)).mp w; omega)
theorem q_div {a d : Nat} (ha : a < 2147483648) (h0 : 0 < d) (hd : d < 2147483648) : nI a / nI d = nI (a / d) := pk_div ha h0 hd
theorem q_shl {v k : Nat} (hk : k < 32) (h : v * 2 ^ k < 4294967296) : nI v <<< (nI k &&& nI 31) = nI (v * 2 ^ k) := nI_shl hk h
theorem q_shr {v r : Nat} (hv : v < 2147483648) (hr : r < 32) : nI v >>> (nI r &&& nI 31) = nI (v / 2 ^ r) := nI_shr hv hr
theorem q_rem2 (a d : Nat) : a - a / d * d = a % d := by
  have := Nat.div_add_mod a d
  rw [Nat.mul_comm] at this
  omega
theorem q_rem (a d : Nat) : nI a - nI (a / d * d) = nI (a % d) := by rw [pk_sub (Nat.div_mul_le_self a d), q_rem2]
theorem q_ofN (n : Nat) : Int32.ofNat n = nI n := rfl
