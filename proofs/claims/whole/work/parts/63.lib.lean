/-! The memory's algebra; the reference's number, take, open; leading zeros. -/
theorem zM_ext {M M' : zM} (h1 : ∀ q, z_k M q = z_k M' q) (h2 : ∀ q, z_n M q = z_n M' q) (h3 : ∀ q j, z_i M q j = z_i M' q j) (h4 : ∀ q j, z_j M q j = z_j M' q j) (h5 : ∀ q j, z_p M q j = z_p M' q j) (h6 : z_s M = z_s M') : M = M' := by
  obtain ⟨a1, a2, a3, a4, a5, a6⟩ := M
  obtain ⟨b1, b2, b3, b4, b5, b6⟩ := M'
  have e1 : a1 = b1 := funext h1
  have e2 : a2 = b2 := funext h2
  have e3 : a3 = b3 := funext fun q => funext (h3 q)
  have e4 : a4 = b4 := funext fun q => funext (h4 q)
  have e5 : a5 = b5 := funext fun q => funext (h5 q)
  have e6 : a6 = b6 := h6
  subst e1; subst e2; subst e3; subst e4; subst e5; subst e6
  rfl
theorem w_ii (M : zM) (p k : Nat) (x y : Int32) : w_i (w_i M p k x) p k y = w_i M p k y := by
  refine zM_ext (fun _ => rfl) (fun _ => rfl) (fun q j => ?_) (fun _ _ => rfl) (fun _ _ => rfl) rfl
  simp only [w_i_i]
  by_cases c : q = p ∧ j = k
  · simp only [if_pos c]
  · simp only [if_neg c]
theorem w_is {M : zM} {p k : Nat} {x : Int32} (h : z_i M p k = x) : w_i M p k x = M := by
  refine zM_ext (fun _ => rfl) (fun _ => rfl) (fun q j => ?_) (fun _ _ => rfl) (fun _ _ => rfl) rfl
  rw [w_i_i]
  by_cases c : q = p ∧ j = k
  · rw [if_pos c, c.1, c.2, h]
  · rw [if_neg c]
theorem w_i_eq (M : zM) (p k : Nat) (x : Int32) : z_i (w_i M p k x) p k = x := by rw [w_i_i, if_pos ⟨rfl, rfl⟩]
theorem w_i_ne (M : zM) {p k q j : Nat} (x : Int32) (h : ¬ (q = p ∧ j = k)) : z_i (w_i M p k x) q j = z_i M q j := by rw [w_i_i, if_neg h]
theorem zIn13.wi {M : zM} {p a c k : Nat} {b : Nat → Nat} {x : Int32} (h : zIn13 M p a c b) (hk : k ≠ 1) : zIn13 (w_i M p k x) p a c b := by
  obtain ⟨h1, h2, h3, h4, h5, h6, h7⟩ := h
  have hpa : a ≠ p := fun e => by rw [e, h1] at h3; omega
  exact ⟨h1, h2, h3, h4, by rw [w_i_ne _ _ (fun w => hk w.2.symm)]; exact h5, h6, fun j hj => ⟨(h7 j hj).1, by rw [w_i_ne _ _ (fun w => hpa w.1)]; exact (h7 j hj).2⟩⟩
theorem nI_s1 {n : Nat} (h : 0 < n) : nI n - 1 = nI (n - 1) := pk_sub (a := n) (b := 1) h
theorem nI_ac {n : Nat} (c : Nat) (h : c ≤ n) : nI n + (-nI c) = nI (n - c) := by rw [← Int32.sub_eq_add_neg]; exact pk_sub h
theorem l_Mo_number {O : zO} {M : zM} {p a c : Nat} {b : Nat → Nat} (h : zIn13 M p a c b) (s k : Nat) (hk : k ≤ 8) (hs : s + k ≤ c) : ∀ j, j ≤ k → zEv (fun n => f_Mo_number_7 O n p (nI s) (lN (nb b (s + j) (k - j))) (nI j - 1) M) (lN (nb b s k), M) := by
  obtain ⟨h1, h2, h3, h4, h5, h6, h7⟩ := h
  intro j
  induction j with
  | zero =>
    intro _
    refine zEv.succ ((zEv.some _).to fun n => ?_)
    rw [f_Mo_number_7, if_pos (by decide)]
    simp only [Nat.add_zero, Nat.sub_zero]
  | succ j ih =>
    intro hj
    have e1 : nI (j + 1) - 1 = nI j := nI_s1 (by omega)
    have hb := h7 (s + j) (by omega)
    have hlt : nb b (s + (j + 1)) (k - (j + 1)) < 256 ^ 7 := by
      have h9 : nb b (s + (j + 1)) (k - (j + 1)) < 256 ^ (k - (j + 1)) := nb_lt (fun i hi => (h7 _ (by omega)).1)
      have h10 : 256 ^ (k - (j + 1)) ≤ 256 ^ 7 := Nat.pow_le_pow_right (by omega) (by omega)
      omega
    have hA : nb b (s + (j + 1)) (k - (j + 1)) * 256 + b (s + j) = nb b (s + j) (k - j) := by
      rw [show k - j = (k - (j + 1)) + 1 by omega]
      show nb b (s + (j + 1)) (k - (j + 1)) * 256 + b (s + j) = b (s + j) + 256 * nb b (s + j + 1) (k - (j + 1))
      rw [show s + (j + 1) = s + j + 1 by omega]
      omega
    have hB : nI j + (-1) = nI j - 1 := (Int32.sub_eq_add_neg _ _).symm
    refine zEv.succ ((ih (by omega)).to fun n => ?_)
    rw [f_Mo_number_7, e1, if_neg (nI_pos (by omega)), if_pos h1, h2, if_pos h3, h4, nI_add, if_pos (zin_nI (by omega) (by omega)), nI_cl (by omega), hb.2]
    simp only [zlet]
    rw [z_lg_step hlt hb.1, hA, hB]
theorem c_Mo_number {O : zO} {M : zM} {p a c : Nat} {b : Nat → Nat} (h : zIn13 M p a c b) (s k : Nat) (hk : k ≤ 8) (hs : s + k ≤ c) : zEv (fun n => F_Mo_number O n p (nI s) (nI k) M) (lN (nb b s k), M) := by
  refine (l_Mo_number (O := O) h s k hk hs k (Nat.le_refl _)).to fun n => ?_
  unfold F_Mo_number f_Mo_number_0
  rw [Nat.sub_self]
  rfl
theorem l_Mo_take {O : zO} {M : zM} {p a c : Nat} {b : Nat → Nat} (h : zIn13 M p a c b) (S L m : Nat) (hS : z_i M p 47 = nI S) (hm : m ≤ L) (hm2 : m ≤ 40) (hc : S + L ≤ 8 * c) : ∀ j, j ≤ m → zEv (fun n => f_Mo_take_5 O n p (nI m) (lN (bf b (S + L - (m - j)) (m - j))) (nI (m - j)) (w_i M p 48 (nI (L - (m - j))))) (lN (bf b (S + L - m) m), w_i M p 48 (nI (L - m))) := by
  have h6 := h.2.2.2.2.2.1
  intro j
  induction j with
  | zero =>
    intro _
    refine zEv.succ ((zEv.some _).to fun n => ?_)
    rw [f_Mo_take_5, if_pos (nI_le (by omega) (by omega))]
    simp only [Nat.sub_zero]
  | succ j ih =>
    intro hj
    refine zEv.succ ?_
    have e0 : (fun n => f_Mo_take_5 O (n + 1) p (nI m) (lN (bf b (S + L - (m - (j + 1))) (m - (j + 1)))) (nI (m - (j + 1))) (w_i M p 48 (nI (L - (m - (j + 1)))))) = fun n => (F_Mo_bit O n p (nI (S + L - (m - j))) (w_i M p 48 (nI (L - (m - j))))).bind fun q5 => f_Mo_take_5 O n p (nI m) (((2 : Int64) * (lN (bf b (S + L - (m - (j + 1))) (m - (j + 1))))) + q5.1.toInt64) (nI (m - (j + 1)) + (1 : Int32)) q5.2 := by
      funext n
      rw [f_Mo_take_5, if_neg (fun w => by have := (nI_leI (by omega) (by omega)).mp w; omega), if_pos (show z_k (w_i M p 48 _) p = 13 from h.1)]
      simp only [zlet]
      rw [w_i_eq, w_ii, w_i_eq, w_i_ne _ _ (by omega), hS, nI_s1 (by omega), nI_add, show L - (m - (j + 1)) - 1 = L - (m - j) by omega, show S + (L - (m - j)) = S + L - (m - j) by omega]
    rw [e0]
    refine zEv.bind (c_Mo_bit (h.wi (by omega)) (by omega)) ?_
    refine (ih (by omega)).to fun n => ?_
    have hlt := bf_lt b (S + L - (m - (j + 1))) (m - (j + 1))
    have hbt := bt8_lt b (S + L - (m - j))
    have e1 : (2 : Int64) * lN (bf b (S + L - (m - (j + 1))) (m - (j + 1))) + (nI (bt8 b (S + L - (m - j)))).toInt64 = lN (bf b (S + L - (m - j)) (m - j)) := by
      rw [nI_l (by omega), show (2 : Int64) = lN 2 from rfl, lN_mul, lN_add, show m - j = (m - (j + 1)) + 1 by omega, bf_low, show S + L - (m - (j + 1) + 1) + 1 = S + L - (m - (j + 1)) by omega, Nat.add_comm]
    rw [e1, nI_1, show m - (j + 1) + 1 = m - j by omega]
theorem c_Mo_take {O : zO} {M : zM} {p a c : Nat} {b : Nat → Nat} (h : zIn13 M p a c b) {S L m : Nat} (hS : z_i M p 47 = nI S) (hL : z_i M p 48 = nI L) (hm : m ≤ L) (hm2 : m ≤ 40) (hc : S + L ≤ 8 * c) : zEv (fun n => F_Mo_take O n p (nI m) M) (lN (bf b (S + L - m) m), w_i M p 48 (nI (L - m))) := by
  refine (l_Mo_take (O := O) h S L m hS hm hm2 hc m (Nat.le_refl _)).to fun n => ?_
  unfold F_Mo_take f_Mo_take_0
  simp only [Nat.sub_self, Nat.sub_zero]
  rw [w_is hL]
  rfl
theorem hib_iff {v k : Nat} (h : 0 < v) : hib v = k ↔ 2 ^ k ≤ v ∧ v < 2 ^ (k + 1) := Nat.log2_eq_iff (by omega)
theorem hib_div {v k : Nat} (h : 2 ^ k ≤ v) : hib v = k + hib (v / 2 ^ k) := by
  have hp : 0 < 2 ^ k := Nat.pow_pos (by omega)
  have h0 : 0 < v / 2 ^ k := Nat.div_pos h hp
  obtain ⟨a1, a2⟩ := (hib_iff h0).mp rfl
  refine (hib_iff (by omega)).mpr ⟨?_, ?_⟩
  · rw [Nat.pow_add, Nat.mul_comm]
    exact Nat.le_trans (Nat.mul_le_mul_right _ a1) (Nat.div_mul_le_self v (2 ^ k))
  · rw [show k + hib (v / 2 ^ k) + 1 = (hib (v / 2 ^ k) + 1) + k by omega, Nat.pow_add]
    exact (Nat.div_lt_iff_lt_mul hp).mp a2
theorem hib_lt {v k : Nat} (h : v < 2 ^ k) (h0 : 0 < v) : hib v < k := by
  obtain ⟨a1, -⟩ := (hib_iff h0).mp rfl
  exact (Nat.pow_lt_pow_iff_right (by omega)).mp (Nat.lt_of_le_of_lt a1 h)
theorem nI_ushr {v k : Nat} (hv : v < 2 ^ 32) (hk : k < 32) : ((nI v).toUInt32 >>> ((nI k).toUInt32 &&& Int32.toUInt32 31)).toInt32 = nI (v / 2 ^ k) := pk_ushrN hv _ k (s_u k hk)
theorem nlz73 {O : zO} {M : zM} {n v r : Nat} (h0 : 0 < v) (hv : v < 4) (hr : 1 ≤ r) : f_JInt_numberOfLeadingZeros_73 O n (nI v) (nI r) M = some (nI (r - hib v), M) := by
  unfold f_JInt_numberOfLeadingZeros_73
  rw [show (1 : Int32) = nI 1 from rfl, nI_ushr (by omega) (by omega)]
  have e : hib v = v / 2 ^ 1 := by
    rcases (show v = 1 ∨ v = 2 ∨ v = 3 by omega) with rfl | rfl | rfl <;> decide
  rw [← e, pk_sub (by have := hib_lt (k := 2) (by omega) h0; omega)]
theorem nlz61 {O : zO} {M : zM} {n v r : Nat} (h0 : 0 < v) (hv : v < 16) (hr : 3 ≤ r) : f_JInt_numberOfLeadingZeros_61 O n (nI v) (nI r) M = some (nI (r - hib v), M) := by
  unfold f_JInt_numberOfLeadingZeros_61
  by_cases h : v < 4
  · rw [if_pos (show nI v < 4 from nI_lt (b := 4) h (by omega))]; exact nlz73 h0 h (by omega)
  · rw [if_neg (show ¬ nI v < 4 from nI_nlt (b := 4) (by omega) (by omega))]
    simp only [zlet]
    rw [show (2 : Int32) = nI 2 from rfl, nI_ac 2 (by omega), nI_ushr (by omega) (by omega), nlz73 (by omega) (by omega) (by omega), hib_div (v := v) (k := 2) (by omega), Nat.sub_sub]
theorem nlz48 {O : zO} {M : zM} {n v r : Nat} (h0 : 0 < v) (hv : v < 256) (hr : 7 ≤ r) : f_JInt_numberOfLeadingZeros_48 O n (nI v) (nI r) M = some (nI (r - hib v), M) := by
  unfold f_JInt_numberOfLeadingZeros_48
  by_cases h : v < 16
  · rw [if_pos (show nI v < 16 from nI_lt (b := 16) h (by omega))]; exact nlz61 h0 h (by omega)
  · rw [if_neg (show ¬ nI v < 16 from nI_nlt (b := 16) (by omega) (by omega))]
    simp only [zlet]
    rw [show (4 : Int32) = nI 4 from rfl, nI_ac 4 (by omega), nI_ushr (by omega) (by omega), nlz61 (by omega) (by omega) (by omega), hib_div (v := v) (k := 4) (by omega), Nat.sub_sub]
theorem nlz33 {O : zO} {M : zM} {n v r : Nat} (h0 : 0 < v) (hv : v < 65536) (hr : 15 ≤ r) : f_JInt_numberOfLeadingZeros_33 O n (nI v) (nI r) M = some (nI (r - hib v), M) := by
  unfold f_JInt_numberOfLeadingZeros_33
  by_cases h : v < 256
  · rw [if_pos (show nI v < 256 from nI_lt (b := 256) h (by omega))]; exact nlz48 h0 h (by omega)
  · rw [if_neg (show ¬ nI v < 256 from nI_nlt (b := 256) (by omega) (by omega))]
    simp only [zlet]
    rw [show (8 : Int32) = nI 8 from rfl, nI_ac 8 (by omega), nI_ushr (by omega) (by omega), nlz48 (by omega) (by omega) (by omega), hib_div (v := v) (k := 8) (by omega), Nat.sub_sub]
theorem c_nlz {O : zO} {M : zM} {v : Nat} (h0 : 0 < v) (hv : v < 2 ^ 31) : zEv (fun n => F_JInt_numberOfLeadingZeros O n (nI v) M) (nI (31 - hib v), M) := by
  refine (zEv.some _).to fun n => ?_
  unfold F_JInt_numberOfLeadingZeros f_JInt_numberOfLeadingZeros_0
  rw [if_pos (show 0 < nI v from nI_lt (a := 0) h0 hv)]
  by_cases h : v < 65536
  · rw [if_pos (show nI v < 65536 from nI_lt (b := 65536) h (by omega))]; exact nlz33 (r := 31) h0 h (by omega)
  · rw [if_neg (show ¬ nI v < 65536 from nI_nlt (b := 65536) (by omega) (by omega))]
    simp only [zlet]
    rw [show (31 : Int32) + (-16 : Int32) = nI 15 from rfl, show (16 : Int32) = nI 16 from rfl, nI_ushr (by omega) (by omega), nlz33 (by omega) (by omega) (by omega), hib_div (v := v) (k := 16) (by omega), show 31 - (16 + hib (v / 2 ^ 16)) = 15 - hib (v / 2 ^ 16) by omega]
theorem c_nlz0 {O : zO} {M : zM} : zEv (fun n => F_JInt_numberOfLeadingZeros O n 0 M) (32, M) := by
  refine (zEv.some _).to fun n => ?_
  unfold F_JInt_numberOfLeadingZeros f_JInt_numberOfLeadingZeros_0
  rw [if_neg (by decide), if_pos rfl]
  rfl
theorem c_min {O : zO} {M : zM} (x y : Int32) : zEv (fun n => F_JMath_min O n x y M) (if y < x then y else x, M) := by
  refine (zEv.some _).to fun n => ?_
  unfold F_JMath_min f_JMath_min_0
  by_cases h : y < x
  · rw [if_pos h, if_pos h]; rfl
  · rw [if_neg h, if_neg h]; rfl
