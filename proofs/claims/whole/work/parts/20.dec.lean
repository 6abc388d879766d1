def f_Row_init_14 (O : zO) (n : Nat) (l0 : Nat) (s0 : Nat) (s1 : Int32) (M : zM) : Option (Unit × zM) :=
  if ¬ s1 < 0 ∧ s1.toNatClampNeg ≤ 32768 then
  zlet (w_a M 101 s1.toNatClampNeg) fun M2 =>
  if z_k M2 s0 = 9 then
  zlet (w_p M2 s0 0 (z_s M + 1)) fun M6 =>
  if z_k M6 l0 = 9 then
  zlet (w_i M6 l0 1 (0 : Int32)) fun M11 =>
  some ((), M11)
  else none
  else none
  else none
set_option maxRecDepth 100000 in
set_option maxHeartbeats 4000000 in
theorem s_Row_init_14 {X : zX} {q : Unit × zM} (C : zC X zR8 prog_9_method_1_code 2 { frames := 1, cells := 1, slots := 32768, locals := 20 }) (hr : zRt X none) (hin : zIn X) (E : zE X none q.2 1 32768) : ∀ (n : Nat) (l0 : Nat) (s0 : Nat) (s1 : Int32) (M : zM), f_Row_init_14 (zOD X) n l0 s0 s1 M = some q → zW X 0 0 14 [some (zP l0), none] [zI s1, zP s0] M := by
  intro n l0 s0 s1 M h
  rw [f_Row_init_14] at h
  obtain ⟨h1, h⟩ := zif h
  obtain ⟨M2, e3, h⟩ := zlet_ex h
  have h4 := k_a e3
  refine r_newa C 1 32768 (z_d dd_Row_init 8 rfl) rfl (Nat.le_of_ble_eq_true rfl) ac_1 h1.1 h1.2 (Nat.le_of_ble_eq_true rfl) (Nat.le_of_ble_eq_true rfl) (Nat.le_of_ble_eq_true rfl) e3 ?_
  obtain ⟨h5, h⟩ := zif h
  obtain ⟨M6, e7, h⟩ := zlet_ex h
  have h8 := k_p e7 h4
  have h9 := k_p e7 h5
  refine r_putFP C hin (z_d dd_Row_init 9 rfl) lf_Row_7 rfl h5 e7 ?_
  refine r_aload_n C (z_d dd_Row_init 10 rfl) rfl ?_
  refine r_iconst (v := (0 : Int32)) C (z_d dd_Row_init 11 rfl) (by decide) ?_
  obtain ⟨h10, h⟩ := zif h
  obtain ⟨M11, e12, h⟩ := zlet_ex h
  have h13 := k_i e12 h8
  have h14 := k_i e12 h9
  have h15 := k_i e12 h10
  refine r_putI C (z_d dd_Row_init 12 rfl) lp_Row_13 rfl h10 e12 ?_
  obtain rfl := z_res h
  exact r_vret C E hr (z_d dd_Row_init 13 rfl) (Nat.le_of_ble_eq_true rfl) (Nat.le_of_ble_eq_true rfl)
def f_Row_init_0 (O : zO) (n : Nat) (l0 : Nat) (l1 : Int32) (M : zM) : Option (Unit × zM) :=
  if z_k M l0 = 9 then
  if l1 ≤ 0 then
  f_Row_init_14 O n l0 l0 (0 : Int32) M
  else
  f_Row_init_14 O n l0 l0 l1 M
  else none
set_option maxRecDepth 100000 in
set_option maxHeartbeats 4000000 in
theorem s_Row_init_0 {X : zX} {q : Unit × zM} (C : zC X zR8 prog_9_method_1_code 2 { frames := 1, cells := 1, slots := 32768, locals := 20 }) (hr : zRt X none) (hin : zIn X) (E : zE X none q.2 1 32768) : ∀ (n : Nat) (l0 : Nat) (l1 : Int32) (M : zM), f_Row_init_0 (zOD X) n l0 l1 M = some q → zW X 0 0 0 [some (zP l0), some (zI l1)] [] M := by
  intro n l0 l1 M h
  rw [f_Row_init_0] at h
  refine r_aload_n C (z_d dd_Row_init 0 rfl) rfl ?_
  obtain ⟨h1, h⟩ := zif h
  refine r_objK C 8 rfl h1 (z_d dd_Row_init 1 rfl) ml_Row_1 oi_i oi_c rfl (Nat.le_of_ble_eq_true rfl) ⟨(Nat.le_of_ble_eq_true rfl), (Nat.le_of_ble_eq_true rfl)⟩ ?_
  refine r_aload_n C (z_d dd_Row_init 2 rfl) rfl ?_
  refine r_iload_n C (z_d dd_Row_init 3 rfl) rfl ?_
  refine r_if_le C 13 (z_d dd_Row_init 4 rfl) (by decide) (fun c2 => ?_) (fun c2 => ?_)
  · have h := zift h c2
    refine r_iconst (v := (0 : Int32)) C (z_d dd_Row_init 7 rfl) (by decide) ?_
    refine r_mk [true, false] ?_
    exact s_Row_init_14 C hr hin E n l0 l0 (0 : Int32) M h
  · have h := ziff h c2
    refine r_iload_n C (z_d dd_Row_init 5 rfl) rfl ?_
    refine r_goto C 14 (z_d dd_Row_init 6 rfl) (by decide) ?_
    refine r_mk [true, false] ?_
    exact s_Row_init_14 C hr hin E n l0 l0 l1 M h
def F_Row_init (O : zO) (n : Nat) (l0 : Nat) (l1 : Int32) (M : zM) : Option (Unit × zM) := f_Row_init_0 O n l0 l1 M
theorem S_Row_init {l : Launch} {D : zD} {n : Nat} {l0 : Nat} {l1 : Int32} {M : zM} {q : Unit × zM} (h : F_Row_init D.2.2.2.2 n l0 l1 M = some q) : zMet l D mi_Row_init [zP l0, zI l1] M none q.2 :=
  z_met (by decide) (Nat.le_of_ble_eq_true rfl) (fun X C E hr hin hD hl => by
    subst hD
    exact s_Row_init_0 C hr (hin rfl) E n l0 l1 M h)

def f_Latest_init_0 (O : zO) (n : Nat) (l0 : Nat) (M : zM) : Option (Unit × zM) :=
  if z_k M l0 = 6 then
  zlet (w_j M l0 0 (1 : Int64)) fun M2 =>
  zlet (w_j M2 l0 1 (4 : Int64)) fun M5 =>
  zlet (w_j M5 l0 2 (8 : Int64)) fun M8 =>
  some ((), M8)
  else none
set_option maxRecDepth 100000 in
set_option maxHeartbeats 4000000 in
theorem s_Latest_init_0 {X : zX} {q : Unit × zM} (C : zC X zR5 prog_6_method_1_code 1 { frames := 1, cells := 0, slots := 0, locals := 20 }) (hr : zRt X none) (hin : zIn X) (E : zE X none q.2 0 0) : ∀ (n : Nat) (l0 : Nat) (M : zM), f_Latest_init_0 (zOD X) n l0 M = some q → zW X 0 0 0 [some (zP l0)] [] M := by
  intro n l0 M h
  rw [f_Latest_init_0] at h
  refine r_aload_n C (z_d dd_Latest_init 0 rfl) rfl ?_
  obtain ⟨h1, h⟩ := zif h
  refine r_objK C 5 rfl h1 (z_d dd_Latest_init 1 rfl) ml_Latest_1 oi_i oi_c rfl (Nat.le_of_ble_eq_true rfl) ⟨(Nat.le_of_ble_eq_true rfl), (Nat.le_of_ble_eq_true rfl)⟩ ?_
  refine r_aload_n C (z_d dd_Latest_init 2 rfl) rfl ?_
  refine r_lconst (v := (1 : Int64)) C (z_d dd_Latest_init 3 rfl) (by decide) ?_
  obtain ⟨M2, e3, h⟩ := zlet_ex h
  have h4 := k_j e3 h1
  refine r_putL C (z_d dd_Latest_init 4 rfl) lp_Latest_7 rfl h1 e3 ?_
  refine r_aload_n C (z_d dd_Latest_init 5 rfl) rfl ?_
  refine r_ldc2 (v := (4 : Int64)) C (z_d dd_Latest_init 6 rfl) kl_Latest_13 ?_
  obtain ⟨M5, e6, h⟩ := zlet_ex h
  have h7 := k_j e6 h4
  refine r_putL C (z_d dd_Latest_init 7 rfl) lp_Latest_15 rfl h4 e6 ?_
  refine r_aload_n C (z_d dd_Latest_init 8 rfl) rfl ?_
  refine r_ldc2 (v := (8 : Int64)) C (z_d dd_Latest_init 9 rfl) kl_Latest_18 ?_
  obtain ⟨M8, e9, h⟩ := zlet_ex h
  have h10 := k_j e9 h7
  refine r_putL C (z_d dd_Latest_init 10 rfl) lp_Latest_20 rfl h7 e9 ?_
  obtain rfl := z_res h
  exact r_vret C E hr (z_d dd_Latest_init 11 rfl) (Nat.le_of_ble_eq_true rfl) (Nat.le_of_ble_eq_true rfl)
def F_Latest_init (O : zO) (n : Nat) (l0 : Nat) (M : zM) : Option (Unit × zM) := f_Latest_init_0 O n l0 M
theorem S_Latest_init {l : Launch} {D : zD} {n : Nat} {l0 : Nat} {M : zM} {q : Unit × zM} (h : F_Latest_init D.2.2.2.2 n l0 M = some q) : zMet l D mi_Latest_init [zP l0] M none q.2 :=
  z_met (by decide) (Nat.le_of_ble_eq_true rfl) (fun X C E hr hin hD hl => by
    subst hD
    exact s_Latest_init_0 C hr (hin rfl) E n l0 M h)

def f_Share_init_0 (O : zO) (n : Nat) (l0 : Nat) (l1 : Int32) (l2 : Int32) (M : zM) : Option (Unit × zM) :=
  if z_k M l0 = 11 then
  zlet (w_i M l0 0 l1) fun M2 =>
  zlet (w_i M2 l0 1 l2) fun M5 =>
  if ¬ (l2 + (1 : Int32)) < 0 ∧ (l2 + (1 : Int32)).toNatClampNeg ≤ 53 then
  zlet (w_a M5 100 (l2 + (1 : Int32)).toNatClampNeg) fun M9 =>
  if z_k M9 l0 = 11 then
  zlet (w_p M9 l0 2 (z_s M5 + 1)) fun M13 =>
  if ¬ (l2 + (1 : Int32)) < 0 ∧ (l2 + (1 : Int32)).toNatClampNeg ≤ 53 then
  zlet (w_a M13 100 (l2 + (1 : Int32)).toNatClampNeg) fun M18 =>
  if z_k M18 l0 = 11 then
  zlet (w_p M18 l0 3 (z_s M13 + 1)) fun M22 =>
  if ¬ ((1 : Int32) <<< (l1 &&& 31)) < 0 ∧ ((1 : Int32) <<< (l1 &&& 31)).toNatClampNeg ≤ 512 then
  zlet (w_a M22 100 ((1 : Int32) <<< (l1 &&& 31)).toNatClampNeg) fun M27 =>
  if z_k M27 l0 = 11 then
  zlet (w_p M27 l0 4 (z_s M22 + 1)) fun M31 =>
  if ¬ ((1 : Int32) <<< (l1 &&& 31)) < 0 ∧ ((1 : Int32) <<< (l1 &&& 31)).toNatClampNeg ≤ 512 then
  zlet (w_a M31 100 ((1 : Int32) <<< (l1 &&& 31)).toNatClampNeg) fun M36 =>
  if z_k M36 l0 = 11 then
  zlet (w_p M36 l0 5 (z_s M31 + 1)) fun M40 =>
  if ¬ ((1 : Int32) <<< (l1 &&& 31)) < 0 ∧ ((1 : Int32) <<< (l1 &&& 31)).toNatClampNeg ≤ 512 then
  zlet (w_a M40 100 ((1 : Int32) <<< (l1 &&& 31)).toNatClampNeg) fun M45 =>
  if z_k M45 l0 = 11 then
  zlet (w_p M45 l0 6 (z_s M40 + 1)) fun M49 =>
  zlet (w_i M49 l0 7 (0 : Int32)) fun M53 =>
  zlet (w_p M53 l0 8 0) fun M57 =>
  zlet (w_i M57 l0 9 (0 : Int32)) fun M61 =>
  zlet (w_i M61 l0 10 (0 : Int32)) fun M65 =>
  some ((), M65)
  else none
  else none
  else none
  else none
  else none
  else none
  else none
  else none
  else none
  else none
  else none
set_option maxRecDepth 100000 in
set_option maxHeartbeats 4000000 in
theorem s_Share_init_0 {X : zX} {q : Unit × zM} (C : zC X zR10 prog_11_method_1_code 3 { frames := 1, cells := 5, slots := 1642, locals := 20 }) (hr : zRt X none) (hin : zIn X) (E : zE X none q.2 5 1642) : ∀ (n : Nat) (l0 : Nat) (l1 : Int32) (l2 : Int32) (M : zM), f_Share_init_0 (zOD X) n l0 l1 l2 M = some q → zW X 0 0 0 [some (zP l0), some (zI l1), some (zI l2)] [] M := by
  intro n l0 l1 l2 M h
  rw [f_Share_init_0] at h
  refine r_aload_n C (z_d dd_Share_init 0 rfl) rfl ?_
  obtain ⟨h1, h⟩ := zif h
  refine r_objK C 10 rfl h1 (z_d dd_Share_init 1 rfl) ml_Share_3 oi_i oi_c rfl (Nat.le_of_ble_eq_true rfl) ⟨(Nat.le_of_ble_eq_true rfl), (Nat.le_of_ble_eq_true rfl)⟩ ?_
  refine r_aload_n C (z_d dd_Share_init 2 rfl) rfl ?_
  refine r_iload_n C (z_d dd_Share_init 3 rfl) rfl ?_
  obtain ⟨M2, e3, h⟩ := zlet_ex h
  have h4 := k_i e3 h1
  refine r_putFI C hin (z_d dd_Share_init 4 rfl) lf_Share_9 rfl h1 e3 ?_
  refine r_aload_n C (z_d dd_Share_init 5 rfl) rfl ?_
  refine r_iload_n C (z_d dd_Share_init 6 rfl) rfl ?_
  obtain ⟨M5, e6, h⟩ := zlet_ex h
  have h7 := k_i e6 h4
  refine r_putFI C hin (z_d dd_Share_init 7 rfl) lf_Share_15 rfl h4 e6 ?_
  refine r_aload_n C (z_d dd_Share_init 8 rfl) rfl ?_
  refine r_iload_n C (z_d dd_Share_init 9 rfl) rfl ?_
  refine r_iconst (v := (1 : Int32)) C (z_d dd_Share_init 10 rfl) (by decide) ?_
  refine r_iadd C (z_d dd_Share_init 11 rfl) ?_
  obtain ⟨h8, h⟩ := zif h
  obtain ⟨M9, e10, h⟩ := zlet_ex h
  have h11 := k_a e10
  refine r_newa C 0 53 (z_d dd_Share_init 12 rfl) rfl (Nat.le_of_ble_eq_true rfl) ac_0 h8.1 h8.2 (Nat.le_of_ble_eq_true rfl) (Nat.le_of_ble_eq_true rfl) (Nat.le_of_ble_eq_true rfl) e10 ?_
  obtain ⟨h12, h⟩ := zif h
  obtain ⟨M13, e14, h⟩ := zlet_ex h
  have h15 := k_p e14 h11
  have h16 := k_p e14 h12
  refine r_putFP C hin (z_d dd_Share_init 13 rfl) lf_Share_18 rfl h12 e14 ?_
  refine r_aload_n C (z_d dd_Share_init 14 rfl) rfl ?_
  refine r_iload_n C (z_d dd_Share_init 15 rfl) rfl ?_
  refine r_iconst (v := (1 : Int32)) C (z_d dd_Share_init 16 rfl) (by decide) ?_
  refine r_iadd C (z_d dd_Share_init 17 rfl) ?_
  obtain ⟨h17, h⟩ := zif h
  obtain ⟨M18, e19, h⟩ := zlet_ex h
  have h20 := k_a e19
  refine r_newa C 0 53 (z_d dd_Share_init 18 rfl) rfl (Nat.le_of_ble_eq_true rfl) ac_0 h17.1 h17.2 (Nat.le_of_ble_eq_true rfl) (Nat.le_of_ble_eq_true rfl) (Nat.le_of_ble_eq_true rfl) e19 ?_
  obtain ⟨h21, h⟩ := zif h
  obtain ⟨M22, e23, h⟩ := zlet_ex h
  have h24 := k_p e23 h20
  have h25 := k_p e23 h21
  refine r_putFP C hin (z_d dd_Share_init 19 rfl) lf_Share_22 rfl h21 e23 ?_
  refine r_aload_n C (z_d dd_Share_init 20 rfl) rfl ?_
  refine r_iconst (v := (1 : Int32)) C (z_d dd_Share_init 21 rfl) (by decide) ?_
  refine r_iload_n C (z_d dd_Share_init 22 rfl) rfl ?_
  refine r_ishl C (z_d dd_Share_init 23 rfl) ?_
  obtain ⟨h26, h⟩ := zif h
  obtain ⟨M27, e28, h⟩ := zlet_ex h
  have h29 := k_a e28
  refine r_newa C 0 512 (z_d dd_Share_init 24 rfl) rfl (Nat.le_of_ble_eq_true rfl) ac_0 h26.1 h26.2 (Nat.le_of_ble_eq_true rfl) (Nat.le_of_ble_eq_true rfl) (Nat.le_of_ble_eq_true rfl) e28 ?_
  obtain ⟨h30, h⟩ := zif h
  obtain ⟨M31, e32, h⟩ := zlet_ex h
  have h33 := k_p e32 h29
  have h34 := k_p e32 h30
  refine r_putFP C hin (z_d dd_Share_init 25 rfl) lf_Share_25 rfl h30 e32 ?_
  refine r_aload_n C (z_d dd_Share_init 26 rfl) rfl ?_
  refine r_iconst (v := (1 : Int32)) C (z_d dd_Share_init 27 rfl) (by decide) ?_
  refine r_iload_n C (z_d dd_Share_init 28 rfl) rfl ?_
  refine r_ishl C (z_d dd_Share_init 29 rfl) ?_
  obtain ⟨h35, h⟩ := zif h
  obtain ⟨M36, e37, h⟩ := zlet_ex h
  have h38 := k_a e37
  refine r_newa C 0 512 (z_d dd_Share_init 30 rfl) rfl (Nat.le_of_ble_eq_true rfl) ac_0 h35.1 h35.2 (Nat.le_of_ble_eq_true rfl) (Nat.le_of_ble_eq_true rfl) (Nat.le_of_ble_eq_true rfl) e37 ?_
  obtain ⟨h39, h⟩ := zif h
  obtain ⟨M40, e41, h⟩ := zlet_ex h
  have h42 := k_p e41 h38
  have h43 := k_p e41 h39
  refine r_putFP C hin (z_d dd_Share_init 31 rfl) lf_Share_28 rfl h39 e41 ?_
  refine r_aload_n C (z_d dd_Share_init 32 rfl) rfl ?_
  refine r_iconst (v := (1 : Int32)) C (z_d dd_Share_init 33 rfl) (by decide) ?_
  refine r_iload_n C (z_d dd_Share_init 34 rfl) rfl ?_
  refine r_ishl C (z_d dd_Share_init 35 rfl) ?_
  obtain ⟨h44, h⟩ := zif h
  obtain ⟨M45, e46, h⟩ := zlet_ex h
  have h47 := k_a e46
  refine r_newa C 0 512 (z_d dd_Share_init 36 rfl) rfl (Nat.le_of_ble_eq_true rfl) ac_0 h44.1 h44.2 (Nat.le_of_ble_eq_true rfl) (Nat.le_of_ble_eq_true rfl) (Nat.le_of_ble_eq_true rfl) e46 ?_
  obtain ⟨h48, h⟩ := zif h
  obtain ⟨M49, e50, h⟩ := zlet_ex h
  have h51 := k_p e50 h47
  have h52 := k_p e50 h48
  refine r_putFP C hin (z_d dd_Share_init 37 rfl) lf_Share_31 rfl h48 e50 ?_
  refine r_aload_n C (z_d dd_Share_init 38 rfl) rfl ?_
  refine r_iconst (v := (0 : Int32)) C (z_d dd_Share_init 39 rfl) (by decide) ?_
  obtain ⟨M53, e54, h⟩ := zlet_ex h
  have h55 := k_i e54 h51
  have h56 := k_i e54 h52
  refine r_putI C (z_d dd_Share_init 40 rfl) lp_Share_34 rfl h52 e54 ?_
  refine r_aload_n C (z_d dd_Share_init 41 rfl) rfl ?_
  refine r_null C (z_d dd_Share_init 42 rfl) ?_
  obtain ⟨M57, e58, h⟩ := zlet_ex h
  have h59 := k_p e58 h55
  have h60 := k_p e58 h56
  refine r_putP C (z_d dd_Share_init 43 rfl) lp_Share_37 rfl h56 e58 ?_
  refine r_aload_n C (z_d dd_Share_init 44 rfl) rfl ?_
  refine r_iconst (v := (0 : Int32)) C (z_d dd_Share_init 45 rfl) (by decide) ?_
  obtain ⟨M61, e62, h⟩ := zlet_ex h
  have h63 := k_i e62 h59
  have h64 := k_i e62 h60
  refine r_putI C (z_d dd_Share_init 46 rfl) lp_Share_41 rfl h60 e62 ?_
  refine r_aload_n C (z_d dd_Share_init 47 rfl) rfl ?_
  refine r_iconst (v := (0 : Int32)) C (z_d dd_Share_init 48 rfl) (by decide) ?_
  obtain ⟨M65, e66, h⟩ := zlet_ex h
  have h67 := k_i e66 h63
  have h68 := k_i e66 h64
  refine r_putI C (z_d dd_Share_init 49 rfl) lp_Share_44 rfl h64 e66 ?_
  obtain rfl := z_res h
  exact r_vret C E hr (z_d dd_Share_init 50 rfl) (Nat.le_of_ble_eq_true rfl) (Nat.le_of_ble_eq_true rfl)
def F_Share_init (O : zO) (n : Nat) (l0 : Nat) (l1 : Int32) (l2 : Int32) (M : zM) : Option (Unit × zM) := f_Share_init_0 O n l0 l1 l2 M
theorem S_Share_init {l : Launch} {D : zD} {n : Nat} {l0 : Nat} {l1 : Int32} {l2 : Int32} {M : zM} {q : Unit × zM} (h : F_Share_init D.2.2.2.2 n l0 l1 l2 M = some q) : zMet l D mi_Share_init [zP l0, zI l1, zI l2] M none q.2 :=
  z_met (by decide) (Nat.le_of_ble_eq_true rfl) (fun X C E hr hin hD hl => by
    subst hD
    exact s_Share_init_0 C hr (hin rfl) E n l0 l1 l2 M h)

def f_Stream_init_0 (O : zO) (n : Nat) (l0 : Nat) (M : zM) : Option (Unit × zM) :=
  if z_k M l0 = 12 then
  zlet (w_p M l0 0 0) fun M2 =>
  zlet (w_i M2 l0 1 (0 : Int32)) fun M5 =>
  zlet (w_i M5 l0 2 (0 : Int32)) fun M8 =>
  some ((), M8)
  else none
set_option maxRecDepth 100000 in
set_option maxHeartbeats 4000000 in
theorem s_Stream_init_0 {X : zX} {q : Unit × zM} (C : zC X zR11 prog_12_method_1_code 1 { frames := 1, cells := 0, slots := 0, locals := 20 }) (hr : zRt X none) (hin : zIn X) (E : zE X none q.2 0 0) : ∀ (n : Nat) (l0 : Nat) (M : zM), f_Stream_init_0 (zOD X) n l0 M = some q → zW X 0 0 0 [some (zP l0)] [] M := by
  intro n l0 M h
  rw [f_Stream_init_0] at h
  refine r_aload_n C (z_d dd_Stream_init 0 rfl) rfl ?_
  obtain ⟨h1, h⟩ := zif h
  refine r_objK C 11 rfl h1 (z_d dd_Stream_init 1 rfl) ml_Stream_1 oi_i oi_c rfl (Nat.le_of_ble_eq_true rfl) ⟨(Nat.le_of_ble_eq_true rfl), (Nat.le_of_ble_eq_true rfl)⟩ ?_
  refine r_aload_n C (z_d dd_Stream_init 2 rfl) rfl ?_
  refine r_null C (z_d dd_Stream_init 3 rfl) ?_
  obtain ⟨M2, e3, h⟩ := zlet_ex h
  have h4 := k_p e3 h1
  refine r_putP C (z_d dd_Stream_init 4 rfl) lp_Stream_7 rfl h1 e3 ?_
  refine r_aload_n C (z_d dd_Stream_init 5 rfl) rfl ?_
  refine r_iconst (v := (0 : Int32)) C (z_d dd_Stream_init 6 rfl) (by decide) ?_
  obtain ⟨M5, e6, h⟩ := zlet_ex h
  have h7 := k_i e6 h4
  refine r_putI C (z_d dd_Stream_init 7 rfl) lp_Stream_13 rfl h4 e6 ?_
  refine r_aload_n C (z_d dd_Stream_init 8 rfl) rfl ?_
  refine r_iconst (v := (0 : Int32)) C (z_d dd_Stream_init 9 rfl) (by decide) ?_
  obtain ⟨M8, e9, h⟩ := zlet_ex h
  have h10 := k_i e9 h7
  refine r_putI C (z_d dd_Stream_init 10 rfl) lp_Stream_17 rfl h7 e9 ?_
  obtain rfl := z_res h
  exact r_vret C E hr (z_d dd_Stream_init 11 rfl) (Nat.le_of_ble_eq_true rfl) (Nat.le_of_ble_eq_true rfl)
def F_Stream_init (O : zO) (n : Nat) (l0 : Nat) (M : zM) : Option (Unit × zM) := f_Stream_init_0 O n l0 M
theorem S_Stream_init {l : Launch} {D : zD} {n : Nat} {l0 : Nat} {M : zM} {q : Unit × zM} (h : F_Stream_init D.2.2.2.2 n l0 M = some q) : zMet l D mi_Stream_init [zP l0] M none q.2 :=
  z_met (by decide) (Nat.le_of_ble_eq_true rfl) (fun X C E hr hin hD hl => by
    subst hD
    exact s_Stream_init_0 C hr (hin rfl) E n l0 M h)

def f_Codes_init_0 (O : zO) (n : Nat) (l0 : Nat) (M : zM) : Option (Unit × zM) :=
  if z_k M l0 = 2 then
  zlet (w_a M 100 (256 : Int32).toNatClampNeg) fun M2 =>
  if z_k M2 l0 = 2 then
  zlet (w_p M2 l0 0 (z_s M + 1)) fun M6 =>
  zlet (w_a M6 100 (256 : Int32).toNatClampNeg) fun M10 =>
  if z_k M10 l0 = 2 then
  zlet (w_p M10 l0 1 (z_s M6 + 1)) fun M14 =>
  zlet (w_a M14 100 (2048 : Int32).toNatClampNeg) fun M18 =>
  if z_k M18 l0 = 2 then
  zlet (w_p M18 l0 2 (z_s M14 + 1)) fun M22 =>
  zlet (w_a M22 11 0) fun M26 =>
  (F_Share_init O n (z_s M22 + 1) (6 : Int32) (11 : Int32) M26).bind fun q29 =>
  if z_k q29.2 l0 = 2 then
  zlet (w_p q29.2 l0 3 (z_s M22 + 1)) fun M32 =>
  zlet (w_a M32 12 0) fun M35 =>
  (F_Stream_init O n (z_s M32 + 1) M35).bind fun q38 =>
  if z_k q38.2 l0 = 2 then
  zlet (w_p q38.2 l0 4 (z_s M32 + 1)) fun M41 =>
  zlet (w_i M41 l0 5 (0 : Int32)) fun M44 =>
  zlet (w_i M44 l0 6 (0 : Int32)) fun M47 =>
  some ((), M47)
  else none
  else none
  else none
  else none
  else none
  else none
set_option maxRecDepth 100000 in
set_option maxHeartbeats 4000000 in
theorem s_Codes_init_0 {X : zX} {q : Unit × zM} (C : zC X zR1 prog_2_method_1_code 1 { frames := 2, cells := 10, slots := 4216, locals := 42 }) (hr : zRt X none) (hin : zIn X) (E : zE X none q.2 10 4216) : ∀ (n : Nat) (l0 : Nat) (M : zM), f_Codes_init_0 (zOD X) n l0 M = some q → zW X 0 0 0 [some (zP l0)] [] M := by
  intro n l0 M h
  rw [f_Codes_init_0] at h
  refine r_aload_n C (z_d dd_Codes_init 0 rfl) rfl ?_
  obtain ⟨h1, h⟩ := zif h
  refine r_objK C 1 rfl h1 (z_d dd_Codes_init 1 rfl) ml_Codes_3 oi_i oi_c rfl (Nat.le_of_ble_eq_true rfl) ⟨(Nat.le_of_ble_eq_true rfl), (Nat.le_of_ble_eq_true rfl)⟩ ?_
  refine r_aload_n C (z_d dd_Codes_init 2 rfl) rfl ?_
  refine r_sipush (v := (256 : Int32)) C (z_d dd_Codes_init 3 rfl) (by decide) ?_
  obtain ⟨M2, e3, h⟩ := zlet_ex h
  have h4 := k_a e3
  refine r_newa C 0 256 (z_d dd_Codes_init 4 rfl) rfl (Nat.le_of_ble_eq_true rfl) ac_0 (by decide) (by decide) (Nat.le_of_ble_eq_true rfl) (Nat.le_of_ble_eq_true rfl) (Nat.le_of_ble_eq_true rfl) e3 ?_
  obtain ⟨h5, h⟩ := zif h
  obtain ⟨M6, e7, h⟩ := zlet_ex h
  have h8 := k_p e7 h4
  have h9 := k_p e7 h5
  refine r_putFP C hin (z_d dd_Codes_init 5 rfl) lf_Codes_9 rfl h5 e7 ?_
  refine r_aload_n C (z_d dd_Codes_init 6 rfl) rfl ?_
  refine r_sipush (v := (256 : Int32)) C (z_d dd_Codes_init 7 rfl) (by decide) ?_
  obtain ⟨M10, e11, h⟩ := zlet_ex h
  have h12 := k_a e11
  refine r_newa C 0 256 (z_d dd_Codes_init 8 rfl) rfl (Nat.le_of_ble_eq_true rfl) ac_0 (by decide) (by decide) (Nat.le_of_ble_eq_true rfl) (Nat.le_of_ble_eq_true rfl) (Nat.le_of_ble_eq_true rfl) e11 ?_
  obtain ⟨h13, h⟩ := zif h
  obtain ⟨M14, e15, h⟩ := zlet_ex h
  have h16 := k_p e15 h12
  have h17 := k_p e15 h13
  refine r_putFP C hin (z_d dd_Codes_init 9 rfl) lf_Codes_15 rfl h13 e15 ?_
  refine r_aload_n C (z_d dd_Codes_init 10 rfl) rfl ?_
  refine r_sipush (v := (2048 : Int32)) C (z_d dd_Codes_init 11 rfl) (by decide) ?_
  obtain ⟨M18, e19, h⟩ := zlet_ex h
  have h20 := k_a e19
  refine r_newa C 0 2048 (z_d dd_Codes_init 12 rfl) rfl (Nat.le_of_ble_eq_true rfl) ac_0 (by decide) (by decide) (Nat.le_of_ble_eq_true rfl) (Nat.le_of_ble_eq_true rfl) (Nat.le_of_ble_eq_true rfl) e19 ?_
  obtain ⟨h21, h⟩ := zif h
  obtain ⟨M22, e23, h⟩ := zlet_ex h
  have h24 := k_p e23 h20
  have h25 := k_p e23 h21
  refine r_putFP C hin (z_d dd_Codes_init 13 rfl) lf_Codes_18 rfl h21 e23 ?_
  refine r_aload_n C (z_d dd_Codes_init 14 rfl) rfl ?_
  obtain ⟨M26, e27, h⟩ := zlet_ex h
  have h28 := k_a e27
  refine r_new (c := 10) C (z_d dd_Codes_init 15 rfl) rfl cl_Codes_21 ins_10 ini_10 (Nat.le_of_ble_eq_true rfl) (Nat.le_of_ble_eq_true rfl) e27 ?_
  refine r_dupP C (z_d dd_Codes_init 16 rfl) ?_
  refine r_bipush (v := (6 : Int32)) C (z_d dd_Codes_init 17 rfl) (by decide) ?_
  refine r_bipush (v := (11 : Int32)) C (z_d dd_Codes_init 18 rfl) (by decide) ?_
  obtain ⟨q29, c30, h⟩ := zbd h
  refine r_invIK (as := [zI (6 : Int32), zI (11 : Int32)]) C 10 rfl h28 (S_Share_init c30) (z_d dd_Codes_init 19 rfl) ok_Share_init rfl rfl iv_Share_init ml_Codes_23 rfl rfl rfl (Nat.le_of_ble_eq_true rfl) ⟨(Nat.le_of_ble_eq_true rfl), (Nat.le_of_ble_eq_true rfl)⟩ ⟨(Nat.le_of_ble_eq_true rfl), (Nat.le_of_ble_eq_true rfl)⟩ ?_
  obtain ⟨h31, h⟩ := zif h
  obtain ⟨M32, e33, h⟩ := zlet_ex h
  have h34 := k_p e33 h31
  refine r_putFP C hin (z_d dd_Codes_init 20 rfl) lf_Codes_26 rfl h31 e33 ?_
  refine r_aload_n C (z_d dd_Codes_init 21 rfl) rfl ?_
  obtain ⟨M35, e36, h⟩ := zlet_ex h
  have h37 := k_a e36
  refine r_new (c := 11) C (z_d dd_Codes_init 22 rfl) rfl cl_Codes_30 ins_11 ini_11 (Nat.le_of_ble_eq_true rfl) (Nat.le_of_ble_eq_true rfl) e36 ?_
  refine r_dupP C (z_d dd_Codes_init 23 rfl) ?_
  obtain ⟨q38, c39, h⟩ := zbd h
  refine r_invIK (as := []) C 11 rfl h37 (S_Stream_init c39) (z_d dd_Codes_init 24 rfl) ok_Stream_init rfl rfl iv_Stream_init ml_Codes_32 rfl rfl rfl (Nat.le_of_ble_eq_true rfl) ⟨(Nat.le_of_ble_eq_true rfl), (Nat.le_of_ble_eq_true rfl)⟩ ⟨(Nat.le_of_ble_eq_true rfl), (Nat.le_of_ble_eq_true rfl)⟩ ?_
  obtain ⟨h40, h⟩ := zif h
  obtain ⟨M41, e42, h⟩ := zlet_ex h
  have h43 := k_p e42 h40
  refine r_putFP C hin (z_d dd_Codes_init 25 rfl) lf_Codes_33 rfl h40 e42 ?_
  refine r_aload_n C (z_d dd_Codes_init 26 rfl) rfl ?_
  refine r_iconst (v := (0 : Int32)) C (z_d dd_Codes_init 27 rfl) (by decide) ?_
  obtain ⟨M44, e45, h⟩ := zlet_ex h
  have h46 := k_i e45 h43
  refine r_putI C (z_d dd_Codes_init 28 rfl) lp_Codes_37 rfl h43 e45 ?_
  refine r_aload_n C (z_d dd_Codes_init 29 rfl) rfl ?_
  refine r_iconst (v := (0 : Int32)) C (z_d dd_Codes_init 30 rfl) (by decide) ?_
  obtain ⟨M47, e48, h⟩ := zlet_ex h
  have h49 := k_i e48 h46
  refine r_putI C (z_d dd_Codes_init 31 rfl) lp_Codes_41 rfl h46 e48 ?_
  obtain rfl := z_res h
  exact r_vret C E hr (z_d dd_Codes_init 32 rfl) (Nat.le_of_ble_eq_true rfl) (Nat.le_of_ble_eq_true rfl)
def F_Codes_init (O : zO) (n : Nat) (l0 : Nat) (M : zM) : Option (Unit × zM) := f_Codes_init_0 O n l0 M
theorem S_Codes_init {l : Launch} {D : zD} {n : Nat} {l0 : Nat} {M : zM} {q : Unit × zM} (h : F_Codes_init D.2.2.2.2 n l0 M = some q) : zMet l D mi_Codes_init [zP l0] M none q.2 :=
  z_met (by decide) (Nat.le_of_ble_eq_true rfl) (fun X C E hr hin hD hl => by
    subst hD
    exact s_Codes_init_0 C hr (hin rfl) E n l0 M h)

def f_Dict_init_0 (O : zO) (n : Nat) (l0 : Nat) (M : zM) : Option (Unit × zM) :=
  if z_k M l0 = 4 then
  zlet (w_a M 9 0) fun M2 =>
  (F_Row_init O n (z_s M + 1) (12000 : Int32) M2).bind fun q5 =>
  if z_k q5.2 l0 = 4 then
  zlet (w_p q5.2 l0 0 (z_s M + 1)) fun M8 =>
  zlet (w_a M8 6 0) fun M11 =>
  (F_Latest_init O n (z_s M8 + 1) M11).bind fun q14 =>
  if z_k q14.2 l0 = 4 then
  zlet (w_p q14.2 l0 1 (z_s M8 + 1)) fun M17 =>
  zlet (w_j M17 l0 2 (0 : Int64)) fun M20 =>
  zlet (w_i M20 l0 3 (0 : Int32)) fun M23 =>
  zlet (w_a M23 2 0) fun M26 =>
  (F_Codes_init O n (z_s M23 + 1) M26).bind fun q29 =>
  if z_k q29.2 l0 = 4 then
  zlet (w_p q29.2 l0 4 (z_s M23 + 1)) fun M32 =>
  zlet (w_a M32 2 0) fun M35 =>
  (F_Codes_init O n (z_s M32 + 1) M35).bind fun q38 =>
  if z_k q38.2 l0 = 4 then
  zlet (w_p q38.2 l0 6 (z_s M32 + 1)) fun M41 =>
  zlet (w_a M41 104 (3 : Int32).toNatClampNeg) fun M44 =>
  if z_k M44 l0 = 4 then
  zlet (w_p M44 l0 5 (z_s M41 + 1)) fun M48 =>
  zlet (w_a M48 104 (3 : Int32).toNatClampNeg) fun M52 =>
  if z_k M52 l0 = 4 then
  zlet (w_p M52 l0 7 (z_s M48 + 1)) fun M56 =>
  zlet (w_a M56 11 0) fun M60 =>
  if O.2.1 (O.1 0) = true then
  if zin (0 : Int32) (O.2.2.1 (O.1 0)) = true then
  if O.2.1 (O.1 1) = true then
  if zin (0 : Int32) (O.2.2.1 (O.1 1)) = true then
  (F_Share_init O n (z_s M56 + 1) (O.2.2.2 (O.1 0) (0 : Int32).toNatClampNeg) (O.2.2.2 (O.1 1) (0 : Int32).toNatClampNeg) M60).bind fun q67 =>
  if z_k q67.2 (z_p M56 l0 5) = 104 then
  if zin (0 : Int32) (z_n q67.2 (z_p M56 l0 5)) = true then
  if z_k q67.2 (z_s M56 + 1) = 11 then
  zlet (w_p q67.2 (z_p M56 l0 5) (0 : Int32).toNatClampNeg (z_s M56 + 1)) fun M72 =>
  if z_k M72 l0 = 4 then
  zlet (w_a M72 11 0) fun M77 =>
  if O.2.1 (O.1 0) = true then
  if zin (0 : Int32) (O.2.2.1 (O.1 0)) = true then
  if O.2.1 (O.1 1) = true then
  if zin (0 : Int32) (O.2.2.1 (O.1 1)) = true then
  (F_Share_init O n (z_s M72 + 1) (O.2.2.2 (O.1 0) (0 : Int32).toNatClampNeg) (O.2.2.2 (O.1 1) (0 : Int32).toNatClampNeg) M77).bind fun q84 =>
  if z_k q84.2 (z_p M72 l0 7) = 104 then
  if zin (0 : Int32) (z_n q84.2 (z_p M72 l0 7)) = true then
  if z_k q84.2 (z_s M72 + 1) = 11 then
  zlet (w_p q84.2 (z_p M72 l0 7) (0 : Int32).toNatClampNeg (z_s M72 + 1)) fun M89 =>
  if z_k M89 l0 = 4 then
  zlet (w_a M89 11 0) fun M94 =>
  if O.2.1 (O.1 0) = true then
  if zin (1 : Int32) (O.2.2.1 (O.1 0)) = true then
  if O.2.1 (O.1 1) = true then
  if zin (1 : Int32) (O.2.2.1 (O.1 1)) = true then
  (F_Share_init O n (z_s M89 + 1) (O.2.2.2 (O.1 0) (1 : Int32).toNatClampNeg) (O.2.2.2 (O.1 1) (1 : Int32).toNatClampNeg) M94).bind fun q101 =>
  if z_k q101.2 (z_p M89 l0 5) = 104 then
  if zin (1 : Int32) (z_n q101.2 (z_p M89 l0 5)) = true then
  if z_k q101.2 (z_s M89 + 1) = 11 then
  zlet (w_p q101.2 (z_p M89 l0 5) (1 : Int32).toNatClampNeg (z_s M89 + 1)) fun M106 =>
  if z_k M106 l0 = 4 then
  zlet (w_a M106 11 0) fun M111 =>
  if O.2.1 (O.1 0) = true then
  if zin (1 : Int32) (O.2.2.1 (O.1 0)) = true then
  if O.2.1 (O.1 1) = true then
  if zin (1 : Int32) (O.2.2.1 (O.1 1)) = true then
  (F_Share_init O n (z_s M106 + 1) (O.2.2.2 (O.1 0) (1 : Int32).toNatClampNeg) (O.2.2.2 (O.1 1) (1 : Int32).toNatClampNeg) M111).bind fun q118 =>
  if z_k q118.2 (z_p M106 l0 7) = 104 then
  if zin (1 : Int32) (z_n q118.2 (z_p M106 l0 7)) = true then
  if z_k q118.2 (z_s M106 + 1) = 11 then
  zlet (w_p q118.2 (z_p M106 l0 7) (1 : Int32).toNatClampNeg (z_s M106 + 1)) fun M123 =>
  if z_k M123 l0 = 4 then
  zlet (w_a M123 11 0) fun M128 =>
  if O.2.1 (O.1 0) = true then
  if zin (2 : Int32) (O.2.2.1 (O.1 0)) = true then
  if O.2.1 (O.1 1) = true then
  if zin (2 : Int32) (O.2.2.1 (O.1 1)) = true then
  (F_Share_init O n (z_s M123 + 1) (O.2.2.2 (O.1 0) (2 : Int32).toNatClampNeg) (O.2.2.2 (O.1 1) (2 : Int32).toNatClampNeg) M128).bind fun q135 =>
  if z_k q135.2 (z_p M123 l0 5) = 104 then
  if zin (2 : Int32) (z_n q135.2 (z_p M123 l0 5)) = true then
  if z_k q135.2 (z_s M123 + 1) = 11 then
  zlet (w_p q135.2 (z_p M123 l0 5) (2 : Int32).toNatClampNeg (z_s M123 + 1)) fun M140 =>
  if z_k M140 l0 = 4 then
  zlet (w_a M140 11 0) fun M145 =>
  if O.2.1 (O.1 0) = true then
  if zin (2 : Int32) (O.2.2.1 (O.1 0)) = true then
  if O.2.1 (O.1 1) = true then
  if zin (2 : Int32) (O.2.2.1 (O.1 1)) = true then
  (F_Share_init O n (z_s M140 + 1) (O.2.2.2 (O.1 0) (2 : Int32).toNatClampNeg) (O.2.2.2 (O.1 1) (2 : Int32).toNatClampNeg) M145).bind fun q152 =>
  if z_k q152.2 (z_p M140 l0 7) = 104 then
  if zin (2 : Int32) (z_n q152.2 (z_p M140 l0 7)) = true then
  if z_k q152.2 (z_s M140 + 1) = 11 then
  zlet (w_p q152.2 (z_p M140 l0 7) (2 : Int32).toNatClampNeg (z_s M140 + 1)) fun M157 =>
  some ((), M157)
  else none
  else none
  else none
  else none
  else none
  else none
  else none
  else none
  else none
  else none
  else none
  else none
  else none
  else none
  else none
  else none
  else none
  else none
  else none
  else none
  else none
  else none
  else none
  else none
  else none
  else none
  else none
  else none
  else none
  else none
  else none
  else none
  else none
  else none
  else none
  else none
  else none
  else none
  else none
  else none
  else none
  else none
  else none
  else none
  else none
  else none
  else none
  else none
  else none
  else none
  else none
  else none
  else none
  else none
set_option maxRecDepth 100000 in
set_option maxHeartbeats 4000000 in
theorem s_Dict_init_0 {X : zX} {q : Unit × zM} (C : zC X zR3 prog_4_method_1_code 2 { frames := 3, cells := 63, slots := 51143, locals := 62 }) (hr : zRt X none) (hin : zIn X) (E : zE X none q.2 63 51143) : ∀ (n : Nat) (l0 : Nat) (M : zM), f_Dict_init_0 (zOD X) n l0 M = some q → zW X 0 0 0 [some (zP l0), none] [] M := by
  intro n l0 M h
  rw [f_Dict_init_0] at h
  refine r_aload_n C (z_d dd_Dict_init 0 rfl) rfl ?_
  obtain ⟨h1, h⟩ := zif h
  refine r_objK C 3 rfl h1 (z_d dd_Dict_init 1 rfl) ml_Dict_3 oi_i oi_c rfl (Nat.le_of_ble_eq_true rfl) ⟨(Nat.le_of_ble_eq_true rfl), (Nat.le_of_ble_eq_true rfl)⟩ ?_
  refine r_aload_n C (z_d dd_Dict_init 2 rfl) rfl ?_
  obtain ⟨M2, e3, h⟩ := zlet_ex h
  have h4 := k_a e3
  refine r_new (c := 8) C (z_d dd_Dict_init 3 rfl) rfl cl_Dict_9 ins_8 ini_8 (Nat.le_of_ble_eq_true rfl) (Nat.le_of_ble_eq_true rfl) e3 ?_
  refine r_dupP C (z_d dd_Dict_init 4 rfl) ?_
  refine r_sipush (v := (12000 : Int32)) C (z_d dd_Dict_init 5 rfl) (by decide) ?_
  obtain ⟨q5, c6, h⟩ := zbd h
  refine r_invIK (as := [zI (12000 : Int32)]) C 8 rfl h4 (S_Row_init c6) (z_d dd_Dict_init 6 rfl) ok_Row_init rfl rfl iv_Row_init ml_Dict_11 rfl rfl rfl (Nat.le_of_ble_eq_true rfl) ⟨(Nat.le_of_ble_eq_true rfl), (Nat.le_of_ble_eq_true rfl)⟩ ⟨(Nat.le_of_ble_eq_true rfl), (Nat.le_of_ble_eq_true rfl)⟩ ?_
  obtain ⟨h7, h⟩ := zif h
  obtain ⟨M8, e9, h⟩ := zlet_ex h
  have h10 := k_p e9 h7
  refine r_putFP C hin (z_d dd_Dict_init 7 rfl) lf_Dict_14 rfl h7 e9 ?_
  refine r_aload_n C (z_d dd_Dict_init 8 rfl) rfl ?_
  obtain ⟨M11, e12, h⟩ := zlet_ex h
  have h13 := k_a e12
  refine r_new (c := 5) C (z_d dd_Dict_init 9 rfl) rfl cl_Dict_20 ins_5 ini_5 (Nat.le_of_ble_eq_true rfl) (Nat.le_of_ble_eq_true rfl) e12 ?_
  refine r_dupP C (z_d dd_Dict_init 10 rfl) ?_
  obtain ⟨q14, c15, h⟩ := zbd h
  refine r_invIK (as := []) C 5 rfl h13 (S_Latest_init c15) (z_d dd_Dict_init 11 rfl) ok_Latest_init rfl rfl iv_Latest_init ml_Dict_22 rfl rfl rfl (Nat.le_of_ble_eq_true rfl) ⟨(Nat.le_of_ble_eq_true rfl), (Nat.le_of_ble_eq_true rfl)⟩ ⟨(Nat.le_of_ble_eq_true rfl), (Nat.le_of_ble_eq_true rfl)⟩ ?_
  obtain ⟨h16, h⟩ := zif h
  obtain ⟨M17, e18, h⟩ := zlet_ex h
  have h19 := k_p e18 h16
  refine r_putFP C hin (z_d dd_Dict_init 12 rfl) lf_Dict_23 rfl h16 e18 ?_
  refine r_aload_n C (z_d dd_Dict_init 13 rfl) rfl ?_
  refine r_lconst (v := (0 : Int64)) C (z_d dd_Dict_init 14 rfl) (by decide) ?_
  obtain ⟨M20, e21, h⟩ := zlet_ex h
  have h22 := k_j e21 h19
  refine r_putL C (z_d dd_Dict_init 15 rfl) lp_Dict_27 rfl h19 e21 ?_
  refine r_aload_n C (z_d dd_Dict_init 16 rfl) rfl ?_
  refine r_iconst (v := (0 : Int32)) C (z_d dd_Dict_init 17 rfl) (by decide) ?_
  obtain ⟨M23, e24, h⟩ := zlet_ex h
  have h25 := k_i e24 h22
  refine r_putZ C (z_d dd_Dict_init 18 rfl) lp_Dict_31 rfl (by decide) h22 e24 ?_
  refine r_aload_n C (z_d dd_Dict_init 19 rfl) rfl ?_
  obtain ⟨M26, e27, h⟩ := zlet_ex h
  have h28 := k_a e27
  refine r_new (c := 1) C (z_d dd_Dict_init 20 rfl) rfl cl_Dict_35 ins_1 ini_1 (Nat.le_of_ble_eq_true rfl) (Nat.le_of_ble_eq_true rfl) e27 ?_
  refine r_dupP C (z_d dd_Dict_init 21 rfl) ?_
  obtain ⟨q29, c30, h⟩ := zbd h
  refine r_invIK (as := []) C 1 rfl h28 (S_Codes_init c30) (z_d dd_Dict_init 22 rfl) ok_Codes_init rfl rfl iv_Codes_init ml_Dict_37 rfl rfl rfl (Nat.le_of_ble_eq_true rfl) ⟨(Nat.le_of_ble_eq_true rfl), (Nat.le_of_ble_eq_true rfl)⟩ ⟨(Nat.le_of_ble_eq_true rfl), (Nat.le_of_ble_eq_true rfl)⟩ ?_
  obtain ⟨h31, h⟩ := zif h
  obtain ⟨M32, e33, h⟩ := zlet_ex h
  have h34 := k_p e33 h31
  refine r_putP C (z_d dd_Dict_init 23 rfl) lp_Dict_38 rfl h31 e33 ?_
  refine r_aload_n C (z_d dd_Dict_init 24 rfl) rfl ?_
  obtain ⟨M35, e36, h⟩ := zlet_ex h
  have h37 := k_a e36
  refine r_new (c := 1) C (z_d dd_Dict_init 25 rfl) rfl cl_Dict_35 ins_1 ini_1 (Nat.le_of_ble_eq_true rfl) (Nat.le_of_ble_eq_true rfl) e36 ?_
  refine r_dupP C (z_d dd_Dict_init 26 rfl) ?_
  obtain ⟨q38, c39, h⟩ := zbd h
  refine r_invIK (as := []) C 1 rfl h37 (S_Codes_init c39) (z_d dd_Dict_init 27 rfl) ok_Codes_init rfl rfl iv_Codes_init ml_Dict_37 rfl rfl rfl (Nat.le_of_ble_eq_true rfl) ⟨(Nat.le_of_ble_eq_true rfl), (Nat.le_of_ble_eq_true rfl)⟩ ⟨(Nat.le_of_ble_eq_true rfl), (Nat.le_of_ble_eq_true rfl)⟩ ?_
  obtain ⟨h40, h⟩ := zif h
  obtain ⟨M41, e42, h⟩ := zlet_ex h
  have h43 := k_p e42 h40
  refine r_putP C (z_d dd_Dict_init 28 rfl) lp_Dict_42 rfl h40 e42 ?_
  refine r_aload_n C (z_d dd_Dict_init 29 rfl) rfl ?_
  refine r_iconst (v := (3 : Int32)) C (z_d dd_Dict_init 30 rfl) (by decide) ?_
  obtain ⟨M44, e45, h⟩ := zlet_ex h
  have h46 := k_a e45
  refine r_newq C 3 (z_d dd_Dict_init 31 rfl) cl_Dict_45 (by decide) (by decide) (Nat.le_of_ble_eq_true rfl) (Nat.le_of_ble_eq_true rfl) (Nat.le_of_ble_eq_true rfl) e45 ?_
  obtain ⟨h47, h⟩ := zif h
  obtain ⟨M48, e49, h⟩ := zlet_ex h
  have h50 := k_p e49 h46
  have h51 := k_p e49 h47
  refine r_putP C (z_d dd_Dict_init 32 rfl) lp_Dict_47 rfl h47 e49 ?_
  refine r_aload_n C (z_d dd_Dict_init 33 rfl) rfl ?_
  refine r_iconst (v := (3 : Int32)) C (z_d dd_Dict_init 34 rfl) (by decide) ?_
  obtain ⟨M52, e53, h⟩ := zlet_ex h
  have h54 := k_a e53
  refine r_newq C 3 (z_d dd_Dict_init 35 rfl) cl_Dict_45 (by decide) (by decide) (Nat.le_of_ble_eq_true rfl) (Nat.le_of_ble_eq_true rfl) (Nat.le_of_ble_eq_true rfl) e53 ?_
  obtain ⟨h55, h⟩ := zif h
  obtain ⟨M56, e57, h⟩ := zlet_ex h
  have h58 := k_p e57 h54
  have h59 := k_p e57 h55
  refine r_putP C (z_d dd_Dict_init 36 rfl) lp_Dict_51 rfl h55 e57 ?_
  refine r_iconst (v := (0 : Int32)) C (z_d dd_Dict_init 37 rfl) (by decide) ?_
  refine r_istore_n (lv' := [some (zP l0), some (zI (0 : Int32))]) C (z_d dd_Dict_init 38 rfl) (Nat.le_of_ble_eq_true rfl) rfl ?_
  refine r_iload_n C (z_d dd_Dict_init 39 rfl) rfl ?_
  refine r_iconst (v := (3 : Int32)) C (z_d dd_Dict_init 40 rfl) (by decide) ?_
  refine r_icmp_ge C 136 (z_d dd_Dict_init 41 rfl) (by decide) (fun hc => absurd hc (by decide)) (fun _ => ?_)
  refine r_aload_n C (z_d dd_Dict_init 42 rfl) rfl ?_
  refine r_getP C (z_d dd_Dict_init 43 rfl) lk_Dict_47 rfl h59 rfl ?_
  refine r_iload_n C (z_d dd_Dict_init 44 rfl) rfl ?_
  obtain ⟨M60, e61, h⟩ := zlet_ex h
  have h62 := k_a e61
  refine r_new (c := 10) C (z_d dd_Dict_init 45 rfl) rfl cl_Dict_45 ins_10 ini_10 (Nat.le_of_ble_eq_true rfl) (Nat.le_of_ble_eq_true rfl) e61 ?_
  refine r_dupP C (z_d dd_Dict_init 46 rfl) ?_
  refine r_gets (i := 0) C (z_d dd_Dict_init 47 rfl) rfl ls_Dict_54 ?_
  refine r_iload_n C (z_d dd_Dict_init 48 rfl) rfl ?_
  obtain ⟨h63, h⟩ := zif h
  obtain ⟨h64, h⟩ := zif h
  refine r_oald C (z_d dd_Dict_init 49 rfl) h63 h64 rfl ?_
  refine r_gets (i := 1) C (z_d dd_Dict_init 50 rfl) rfl ls_Dict_58 ?_
  refine r_iload_n C (z_d dd_Dict_init 51 rfl) rfl ?_
  obtain ⟨h65, h⟩ := zif h
  obtain ⟨h66, h⟩ := zif h
  refine r_oald C (z_d dd_Dict_init 52 rfl) h65 h66 rfl ?_
  obtain ⟨q67, c68, h⟩ := zbd h
  refine r_invIK (as := [zI ((zOD X).2.2.2 ((zOD X).1 0) (0 : Int32).toNatClampNeg), zI ((zOD X).2.2.2 ((zOD X).1 1) (0 : Int32).toNatClampNeg)]) C 10 rfl h62 (S_Share_init c68) (z_d dd_Dict_init 53 rfl) ok_Share_init rfl rfl iv_Share_init ml_Dict_61 rfl rfl rfl (Nat.le_of_ble_eq_true rfl) ⟨(Nat.le_of_ble_eq_true rfl), (Nat.le_of_ble_eq_true rfl)⟩ ⟨(Nat.le_of_ble_eq_true rfl), (Nat.le_of_ble_eq_true rfl)⟩ ?_
  obtain ⟨h69, h⟩ := zif h
  obtain ⟨h70, h⟩ := zif h
  obtain ⟨h71, h⟩ := zif h
  obtain ⟨M72, e73, h⟩ := zlet_ex h
  have h74 := k_p e73 h69
  have h75 := k_p e73 h71
  refine r_aast C (z_d dd_Dict_init 54 rfl) h69 h70 h71 e73 ?_
  refine r_aload_n C (z_d dd_Dict_init 55 rfl) rfl ?_
  obtain ⟨h76, h⟩ := zif h
  refine r_getP C (z_d dd_Dict_init 56 rfl) lk_Dict_51 rfl h76 rfl ?_
  refine r_iload_n C (z_d dd_Dict_init 57 rfl) rfl ?_
  obtain ⟨M77, e78, h⟩ := zlet_ex h
  have h79 := k_a e78
  refine r_new (c := 10) C (z_d dd_Dict_init 58 rfl) rfl cl_Dict_45 ins_10 ini_10 (Nat.le_of_ble_eq_true rfl) (Nat.le_of_ble_eq_true rfl) e78 ?_
  refine r_dupP C (z_d dd_Dict_init 59 rfl) ?_
  refine r_gets (i := 0) C (z_d dd_Dict_init 60 rfl) rfl ls_Dict_54 ?_
  refine r_iload_n C (z_d dd_Dict_init 61 rfl) rfl ?_
  obtain ⟨h80, h⟩ := zif h
  obtain ⟨h81, h⟩ := zif h
  refine r_oald C (z_d dd_Dict_init 62 rfl) h80 h81 rfl ?_
  refine r_gets (i := 1) C (z_d dd_Dict_init 63 rfl) rfl ls_Dict_58 ?_
  refine r_iload_n C (z_d dd_Dict_init 64 rfl) rfl ?_
  obtain ⟨h82, h⟩ := zif h
  obtain ⟨h83, h⟩ := zif h
  refine r_oald C (z_d dd_Dict_init 65 rfl) h82 h83 rfl ?_
  obtain ⟨q84, c85, h⟩ := zbd h
  refine r_invIK (as := [zI ((zOD X).2.2.2 ((zOD X).1 0) (0 : Int32).toNatClampNeg), zI ((zOD X).2.2.2 ((zOD X).1 1) (0 : Int32).toNatClampNeg)]) C 10 rfl h79 (S_Share_init c85) (z_d dd_Dict_init 66 rfl) ok_Share_init rfl rfl iv_Share_init ml_Dict_61 rfl rfl rfl (Nat.le_of_ble_eq_true rfl) ⟨(Nat.le_of_ble_eq_true rfl), (Nat.le_of_ble_eq_true rfl)⟩ ⟨(Nat.le_of_ble_eq_true rfl), (Nat.le_of_ble_eq_true rfl)⟩ ?_
  obtain ⟨h86, h⟩ := zif h
  obtain ⟨h87, h⟩ := zif h
  obtain ⟨h88, h⟩ := zif h
  obtain ⟨M89, e90, h⟩ := zlet_ex h
  have h91 := k_p e90 h86
  have h92 := k_p e90 h88
  refine r_aast C (z_d dd_Dict_init 67 rfl) h86 h87 h88 e90 ?_
  refine r_iinc (v := (1 : Int32)) (lv' := [some (zP l0), some (zI (1 : Int32))]) C (z_d dd_Dict_init 68 rfl) rfl (Nat.le_of_ble_eq_true rfl) (by decide) rfl ?_
  refine r_goto C 79 (z_d dd_Dict_init 69 rfl) (by decide) ?_
  refine r_iload_n C (z_d dd_Dict_init 39 rfl) rfl ?_
  refine r_iconst (v := (3 : Int32)) C (z_d dd_Dict_init 40 rfl) (by decide) ?_
  refine r_icmp_ge C 136 (z_d dd_Dict_init 41 rfl) (by decide) (fun hc => absurd hc (by decide)) (fun _ => ?_)
  refine r_aload_n C (z_d dd_Dict_init 42 rfl) rfl ?_
  obtain ⟨h93, h⟩ := zif h
  refine r_getP C (z_d dd_Dict_init 43 rfl) lk_Dict_47 rfl h93 rfl ?_
  refine r_iload_n C (z_d dd_Dict_init 44 rfl) rfl ?_
  obtain ⟨M94, e95, h⟩ := zlet_ex h
  have h96 := k_a e95
  refine r_new (c := 10) C (z_d dd_Dict_init 45 rfl) rfl cl_Dict_45 ins_10 ini_10 (Nat.le_of_ble_eq_true rfl) (Nat.le_of_ble_eq_true rfl) e95 ?_
  refine r_dupP C (z_d dd_Dict_init 46 rfl) ?_
  refine r_gets (i := 0) C (z_d dd_Dict_init 47 rfl) rfl ls_Dict_54 ?_
  refine r_iload_n C (z_d dd_Dict_init 48 rfl) rfl ?_
  obtain ⟨h97, h⟩ := zif h
  obtain ⟨h98, h⟩ := zif h
  refine r_oald C (z_d dd_Dict_init 49 rfl) h97 h98 rfl ?_
  refine r_gets (i := 1) C (z_d dd_Dict_init 50 rfl) rfl ls_Dict_58 ?_
  refine r_iload_n C (z_d dd_Dict_init 51 rfl) rfl ?_
  obtain ⟨h99, h⟩ := zif h
  obtain ⟨h100, h⟩ := zif h
  refine r_oald C (z_d dd_Dict_init 52 rfl) h99 h100 rfl ?_
  obtain ⟨q101, c102, h⟩ := zbd h
  refine r_invIK (as := [zI ((zOD X).2.2.2 ((zOD X).1 0) (1 : Int32).toNatClampNeg), zI ((zOD X).2.2.2 ((zOD X).1 1) (1 : Int32).toNatClampNeg)]) C 10 rfl h96 (S_Share_init c102) (z_d dd_Dict_init 53 rfl) ok_Share_init rfl rfl iv_Share_init ml_Dict_61 rfl rfl rfl (Nat.le_of_ble_eq_true rfl) ⟨(Nat.le_of_ble_eq_true rfl), (Nat.le_of_ble_eq_true rfl)⟩ ⟨(Nat.le_of_ble_eq_true rfl), (Nat.le_of_ble_eq_true rfl)⟩ ?_
  obtain ⟨h103, h⟩ := zif h
  obtain ⟨h104, h⟩ := zif h
  obtain ⟨h105, h⟩ := zif h
  obtain ⟨M106, e107, h⟩ := zlet_ex h
  have h108 := k_p e107 h103
  have h109 := k_p e107 h105
  refine r_aast C (z_d dd_Dict_init 54 rfl) h103 h104 h105 e107 ?_
  refine r_aload_n C (z_d dd_Dict_init 55 rfl) rfl ?_
  obtain ⟨h110, h⟩ := zif h
  refine r_getP C (z_d dd_Dict_init 56 rfl) lk_Dict_51 rfl h110 rfl ?_
  refine r_iload_n C (z_d dd_Dict_init 57 rfl) rfl ?_
  obtain ⟨M111, e112, h⟩ := zlet_ex h
  have h113 := k_a e112
  refine r_new (c := 10) C (z_d dd_Dict_init 58 rfl) rfl cl_Dict_45 ins_10 ini_10 (Nat.le_of_ble_eq_true rfl) (Nat.le_of_ble_eq_true rfl) e112 ?_
  refine r_dupP C (z_d dd_Dict_init 59 rfl) ?_
  refine r_gets (i := 0) C (z_d dd_Dict_init 60 rfl) rfl ls_Dict_54 ?_
  refine r_iload_n C (z_d dd_Dict_init 61 rfl) rfl ?_
  obtain ⟨h114, h⟩ := zif h
  obtain ⟨h115, h⟩ := zif h
  refine r_oald C (z_d dd_Dict_init 62 rfl) h114 h115 rfl ?_
  refine r_gets (i := 1) C (z_d dd_Dict_init 63 rfl) rfl ls_Dict_58 ?_
  refine r_iload_n C (z_d dd_Dict_init 64 rfl) rfl ?_
  obtain ⟨h116, h⟩ := zif h
  obtain ⟨h117, h⟩ := zif h
  refine r_oald C (z_d dd_Dict_init 65 rfl) h116 h117 rfl ?_
  obtain ⟨q118, c119, h⟩ := zbd h
  refine r_invIK (as := [zI ((zOD X).2.2.2 ((zOD X).1 0) (1 : Int32).toNatClampNeg), zI ((zOD X).2.2.2 ((zOD X).1 1) (1 : Int32).toNatClampNeg)]) C 10 rfl h113 (S_Share_init c119) (z_d dd_Dict_init 66 rfl) ok_Share_init rfl rfl iv_Share_init ml_Dict_61 rfl rfl rfl (Nat.le_of_ble_eq_true rfl) ⟨(Nat.le_of_ble_eq_true rfl), (Nat.le_of_ble_eq_true rfl)⟩ ⟨(Nat.le_of_ble_eq_true rfl), (Nat.le_of_ble_eq_true rfl)⟩ ?_
  obtain ⟨h120, h⟩ := zif h
  obtain ⟨h121, h⟩ := zif h
  obtain ⟨h122, h⟩ := zif h
  obtain ⟨M123, e124, h⟩ := zlet_ex h
  have h125 := k_p e124 h120
  have h126 := k_p e124 h122
  refine r_aast C (z_d dd_Dict_init 67 rfl) h120 h121 h122 e124 ?_
  refine r_iinc (v := (2 : Int32)) (lv' := [some (zP l0), some (zI (2 : Int32))]) C (z_d dd_Dict_init 68 rfl) rfl (Nat.le_of_ble_eq_true rfl) (by decide) rfl ?_
  refine r_goto C 79 (z_d dd_Dict_init 69 rfl) (by decide) ?_
  refine r_iload_n C (z_d dd_Dict_init 39 rfl) rfl ?_
  refine r_iconst (v := (3 : Int32)) C (z_d dd_Dict_init 40 rfl) (by decide) ?_
  refine r_icmp_ge C 136 (z_d dd_Dict_init 41 rfl) (by decide) (fun hc => absurd hc (by decide)) (fun _ => ?_)
  refine r_aload_n C (z_d dd_Dict_init 42 rfl) rfl ?_
  obtain ⟨h127, h⟩ := zif h
  refine r_getP C (z_d dd_Dict_init 43 rfl) lk_Dict_47 rfl h127 rfl ?_
  refine r_iload_n C (z_d dd_Dict_init 44 rfl) rfl ?_
  obtain ⟨M128, e129, h⟩ := zlet_ex h
  have h130 := k_a e129
  refine r_new (c := 10) C (z_d dd_Dict_init 45 rfl) rfl cl_Dict_45 ins_10 ini_10 (Nat.le_of_ble_eq_true rfl) (Nat.le_of_ble_eq_true rfl) e129 ?_
  refine r_dupP C (z_d dd_Dict_init 46 rfl) ?_
  refine r_gets (i := 0) C (z_d dd_Dict_init 47 rfl) rfl ls_Dict_54 ?_
  refine r_iload_n C (z_d dd_Dict_init 48 rfl) rfl ?_
  obtain ⟨h131, h⟩ := zif h
  obtain ⟨h132, h⟩ := zif h
  refine r_oald C (z_d dd_Dict_init 49 rfl) h131 h132 rfl ?_
  refine r_gets (i := 1) C (z_d dd_Dict_init 50 rfl) rfl ls_Dict_58 ?_
  refine r_iload_n C (z_d dd_Dict_init 51 rfl) rfl ?_
  obtain ⟨h133, h⟩ := zif h
  obtain ⟨h134, h⟩ := zif h
  refine r_oald C (z_d dd_Dict_init 52 rfl) h133 h134 rfl ?_
  obtain ⟨q135, c136, h⟩ := zbd h
  refine r_invIK (as := [zI ((zOD X).2.2.2 ((zOD X).1 0) (2 : Int32).toNatClampNeg), zI ((zOD X).2.2.2 ((zOD X).1 1) (2 : Int32).toNatClampNeg)]) C 10 rfl h130 (S_Share_init c136) (z_d dd_Dict_init 53 rfl) ok_Share_init rfl rfl iv_Share_init ml_Dict_61 rfl rfl rfl (Nat.le_of_ble_eq_true rfl) ⟨(Nat.le_of_ble_eq_true rfl), (Nat.le_of_ble_eq_true rfl)⟩ ⟨(Nat.le_of_ble_eq_true rfl), (Nat.le_of_ble_eq_true rfl)⟩ ?_
  obtain ⟨h137, h⟩ := zif h
  obtain ⟨h138, h⟩ := zif h
  obtain ⟨h139, h⟩ := zif h
  obtain ⟨M140, e141, h⟩ := zlet_ex h
  have h142 := k_p e141 h137
  have h143 := k_p e141 h139
  refine r_aast C (z_d dd_Dict_init 54 rfl) h137 h138 h139 e141 ?_
  refine r_aload_n C (z_d dd_Dict_init 55 rfl) rfl ?_
  obtain ⟨h144, h⟩ := zif h
  refine r_getP C (z_d dd_Dict_init 56 rfl) lk_Dict_51 rfl h144 rfl ?_
  refine r_iload_n C (z_d dd_Dict_init 57 rfl) rfl ?_
  obtain ⟨M145, e146, h⟩ := zlet_ex h
  have h147 := k_a e146
  refine r_new (c := 10) C (z_d dd_Dict_init 58 rfl) rfl cl_Dict_45 ins_10 ini_10 (Nat.le_of_ble_eq_true rfl) (Nat.le_of_ble_eq_true rfl) e146 ?_
  refine r_dupP C (z_d dd_Dict_init 59 rfl) ?_
  refine r_gets (i := 0) C (z_d dd_Dict_init 60 rfl) rfl ls_Dict_54 ?_
  refine r_iload_n C (z_d dd_Dict_init 61 rfl) rfl ?_
  obtain ⟨h148, h⟩ := zif h
  obtain ⟨h149, h⟩ := zif h
  refine r_oald C (z_d dd_Dict_init 62 rfl) h148 h149 rfl ?_
  refine r_gets (i := 1) C (z_d dd_Dict_init 63 rfl) rfl ls_Dict_58 ?_
  refine r_iload_n C (z_d dd_Dict_init 64 rfl) rfl ?_
  obtain ⟨h150, h⟩ := zif h
  obtain ⟨h151, h⟩ := zif h
  refine r_oald C (z_d dd_Dict_init 65 rfl) h150 h151 rfl ?_
  obtain ⟨q152, c153, h⟩ := zbd h
  refine r_invIK (as := [zI ((zOD X).2.2.2 ((zOD X).1 0) (2 : Int32).toNatClampNeg), zI ((zOD X).2.2.2 ((zOD X).1 1) (2 : Int32).toNatClampNeg)]) C 10 rfl h147 (S_Share_init c153) (z_d dd_Dict_init 66 rfl) ok_Share_init rfl rfl iv_Share_init ml_Dict_61 rfl rfl rfl (Nat.le_of_ble_eq_true rfl) ⟨(Nat.le_of_ble_eq_true rfl), (Nat.le_of_ble_eq_true rfl)⟩ ⟨(Nat.le_of_ble_eq_true rfl), (Nat.le_of_ble_eq_true rfl)⟩ ?_
  obtain ⟨h154, h⟩ := zif h
  obtain ⟨h155, h⟩ := zif h
  obtain ⟨h156, h⟩ := zif h
  obtain ⟨M157, e158, h⟩ := zlet_ex h
  have h159 := k_p e158 h154
  have h160 := k_p e158 h156
  refine r_aast C (z_d dd_Dict_init 67 rfl) h154 h155 h156 e158 ?_
  refine r_iinc (v := (3 : Int32)) (lv' := [some (zP l0), some (zI (3 : Int32))]) C (z_d dd_Dict_init 68 rfl) rfl (Nat.le_of_ble_eq_true rfl) (by decide) rfl ?_
  refine r_goto C 79 (z_d dd_Dict_init 69 rfl) (by decide) ?_
  refine r_iload_n C (z_d dd_Dict_init 39 rfl) rfl ?_
  refine r_iconst (v := (3 : Int32)) C (z_d dd_Dict_init 40 rfl) (by decide) ?_
  refine r_icmp_ge C 136 (z_d dd_Dict_init 41 rfl) (by decide) (fun _ => ?_) (fun hc => absurd hc (by decide))
  obtain rfl := z_res h
  exact r_vret C E hr (z_d dd_Dict_init 70 rfl) (Nat.le_of_ble_eq_true rfl) (Nat.le_of_ble_eq_true rfl)
def F_Dict_init (O : zO) (n : Nat) (l0 : Nat) (M : zM) : Option (Unit × zM) := f_Dict_init_0 O n l0 M
theorem S_Dict_init {l : Launch} {D : zD} {n : Nat} {l0 : Nat} {M : zM} {q : Unit × zM} (h : F_Dict_init D.2.2.2.2 n l0 M = some q) : zMet l D mi_Dict_init [zP l0] M none q.2 :=
  z_met (by decide) (Nat.le_of_ble_eq_true rfl) (fun X C E hr hin hD hl => by
    subst hD
    exact s_Dict_init_0 C hr (hin rfl) E n l0 M h)

def f_Rep_init_0 (O : zO) (n : Nat) (l0 : Nat) (M : zM) : Option (Unit × zM) :=
  if z_k M l0 = 8 then
  some ((), M)
  else none
set_option maxRecDepth 100000 in
set_option maxHeartbeats 4000000 in
theorem s_Rep_init_0 {X : zX} {q : Unit × zM} (C : zC X zR7 prog_8_method_1_code 1 { frames := 1, cells := 0, slots := 0, locals := 20 }) (hr : zRt X none) (hin : zIn X) (E : zE X none q.2 0 0) : ∀ (n : Nat) (l0 : Nat) (M : zM), f_Rep_init_0 (zOD X) n l0 M = some q → zW X 0 0 0 [some (zP l0)] [] M := by
  intro n l0 M h
  rw [f_Rep_init_0] at h
  refine r_aload_n C (z_d dd_Rep_init 0 rfl) rfl ?_
  obtain ⟨h1, h⟩ := zif h
  refine r_objK C 7 rfl h1 (z_d dd_Rep_init 1 rfl) ml_Rep_1 oi_i oi_c rfl (Nat.le_of_ble_eq_true rfl) ⟨(Nat.le_of_ble_eq_true rfl), (Nat.le_of_ble_eq_true rfl)⟩ ?_
  obtain rfl := z_res h
  exact r_vret C E hr (z_d dd_Rep_init 2 rfl) (Nat.le_of_ble_eq_true rfl) (Nat.le_of_ble_eq_true rfl)
def F_Rep_init (O : zO) (n : Nat) (l0 : Nat) (M : zM) : Option (Unit × zM) := f_Rep_init_0 O n l0 M
theorem S_Rep_init {l : Launch} {D : zD} {n : Nat} {l0 : Nat} {M : zM} {q : Unit × zM} (h : F_Rep_init D.2.2.2.2 n l0 M = some q) : zMet l D mi_Rep_init [zP l0] M none q.2 :=
  z_met (by decide) (Nat.le_of_ble_eq_true rfl) (fun X C E hr hin hD hl => by
    subst hD
    exact s_Rep_init_0 C hr (hin rfl) E n l0 M h)

def f_Content_init_0 (O : zO) (n : Nat) (l0 : Nat) (l1 : Nat) (M : zM) : Option (Unit × zM) :=
  if z_k M l0 = 3 then
  zlet (w_a M 9 0) fun M2 =>
  (F_Row_init O n (z_s M + 1) (32768 : Int32) M2).bind fun q5 =>
  if z_k q5.2 l0 = 3 then
  zlet (w_p q5.2 l0 0 (z_s M + 1)) fun M8 =>
  zlet (w_p M8 l0 1 l1) fun M11 =>
  zlet (w_i M11 l0 2 (0 : Int32)) fun M14 =>
  zlet (w_i M14 l0 3 (0 : Int32)) fun M17 =>
  zlet (w_i M17 l0 4 (0 : Int32)) fun M20 =>
  zlet (w_j M20 l0 5 (0 : Int64)) fun M23 =>
  some ((), M23)
  else none
  else none
set_option maxRecDepth 100000 in
set_option maxHeartbeats 4000000 in
theorem s_Content_init_0 {X : zX} {q : Unit × zM} (C : zC X zR2 prog_3_method_1_code 2 { frames := 2, cells := 2, slots := 32770, locals := 41 }) (hr : zRt X none) (hin : zIn X) (E : zE X none q.2 2 32770) : ∀ (n : Nat) (l0 : Nat) (l1 : Nat) (M : zM), f_Content_init_0 (zOD X) n l0 l1 M = some q → zW X 0 0 0 [some (zP l0), some (zP l1)] [] M := by
  intro n l0 l1 M h
  rw [f_Content_init_0] at h
  refine r_aload_n C (z_d dd_Content_init 0 rfl) rfl ?_
  obtain ⟨h1, h⟩ := zif h
  refine r_objK C 2 rfl h1 (z_d dd_Content_init 1 rfl) ml_Content_3 oi_i oi_c rfl (Nat.le_of_ble_eq_true rfl) ⟨(Nat.le_of_ble_eq_true rfl), (Nat.le_of_ble_eq_true rfl)⟩ ?_
  refine r_aload_n C (z_d dd_Content_init 2 rfl) rfl ?_
  obtain ⟨M2, e3, h⟩ := zlet_ex h
  have h4 := k_a e3
  refine r_new (c := 8) C (z_d dd_Content_init 3 rfl) rfl cl_Content_9 ins_8 ini_8 (Nat.le_of_ble_eq_true rfl) (Nat.le_of_ble_eq_true rfl) e3 ?_
  refine r_dupP C (z_d dd_Content_init 4 rfl) ?_
  refine r_ldc (v := (32768 : Int32)) C (z_d dd_Content_init 5 rfl) ki_Content_11 ?_
  obtain ⟨q5, c6, h⟩ := zbd h
  refine r_invIK (as := [zI (32768 : Int32)]) C 8 rfl h4 (S_Row_init c6) (z_d dd_Content_init 6 rfl) ok_Row_init rfl rfl iv_Row_init ml_Content_12 rfl rfl rfl (Nat.le_of_ble_eq_true rfl) ⟨(Nat.le_of_ble_eq_true rfl), (Nat.le_of_ble_eq_true rfl)⟩ ⟨(Nat.le_of_ble_eq_true rfl), (Nat.le_of_ble_eq_true rfl)⟩ ?_
  obtain ⟨h7, h⟩ := zif h
  obtain ⟨M8, e9, h⟩ := zlet_ex h
  have h10 := k_p e9 h7
  refine r_putFP C hin (z_d dd_Content_init 7 rfl) lf_Content_15 rfl h7 e9 ?_
  refine r_aload_n C (z_d dd_Content_init 8 rfl) rfl ?_
  refine r_aload_n C (z_d dd_Content_init 9 rfl) rfl ?_
  obtain ⟨M11, e12, h⟩ := zlet_ex h
  have h13 := k_p e12 h10
  refine r_putFP C hin (z_d dd_Content_init 10 rfl) lf_Content_21 rfl h10 e12 ?_
  refine r_aload_n C (z_d dd_Content_init 11 rfl) rfl ?_
  refine r_iconst (v := (0 : Int32)) C (z_d dd_Content_init 12 rfl) (by decide) ?_
  obtain ⟨M14, e15, h⟩ := zlet_ex h
  have h16 := k_i e15 h13
  refine r_putI C (z_d dd_Content_init 13 rfl) lp_Content_24 rfl h13 e15 ?_
  refine r_aload_n C (z_d dd_Content_init 14 rfl) rfl ?_
  refine r_iconst (v := (0 : Int32)) C (z_d dd_Content_init 15 rfl) (by decide) ?_
  obtain ⟨M17, e18, h⟩ := zlet_ex h
  have h19 := k_i e18 h16
  refine r_putI C (z_d dd_Content_init 16 rfl) lp_Content_28 rfl h16 e18 ?_
  refine r_aload_n C (z_d dd_Content_init 17 rfl) rfl ?_
  refine r_iconst (v := (0 : Int32)) C (z_d dd_Content_init 18 rfl) (by decide) ?_
  obtain ⟨M20, e21, h⟩ := zlet_ex h
  have h22 := k_i e21 h19
  refine r_putI C (z_d dd_Content_init 19 rfl) lp_Content_31 rfl h19 e21 ?_
  refine r_aload_n C (z_d dd_Content_init 20 rfl) rfl ?_
  refine r_lconst (v := (0 : Int64)) C (z_d dd_Content_init 21 rfl) (by decide) ?_
  obtain ⟨M23, e24, h⟩ := zlet_ex h
  have h25 := k_j e24 h22
  refine r_putL C (z_d dd_Content_init 22 rfl) lp_Content_34 rfl h22 e24 ?_
  obtain rfl := z_res h
  exact r_vret C E hr (z_d dd_Content_init 23 rfl) (Nat.le_of_ble_eq_true rfl) (Nat.le_of_ble_eq_true rfl)
def F_Content_init (O : zO) (n : Nat) (l0 : Nat) (l1 : Nat) (M : zM) : Option (Unit × zM) := f_Content_init_0 O n l0 l1 M
theorem S_Content_init {l : Launch} {D : zD} {n : Nat} {l0 : Nat} {l1 : Nat} {M : zM} {q : Unit × zM} (h : F_Content_init D.2.2.2.2 n l0 l1 M = some q) : zMet l D mi_Content_init [zP l0, zP l1] M none q.2 :=
  z_met (by decide) (Nat.le_of_ble_eq_true rfl) (fun X C E hr hin hD hl => by
    subst hD
    exact s_Content_init_0 C hr (hin rfl) E n l0 l1 M h)

def f_Lit_init_0 (O : zO) (n : Nat) (l0 : Nat) (l1 : Nat) (l2 : Nat) (M : zM) : Option (Unit × zM) :=
  if z_k M l0 = 7 then
  zlet (w_p M l0 0 l1) fun M2 =>
  zlet (w_p M2 l0 1 l2) fun M5 =>
  zlet (w_a M5 12 0) fun M8 =>
  (F_Stream_init O n (z_s M5 + 1) M8).bind fun q11 =>
  if z_k q11.2 l0 = 7 then
  zlet (w_p q11.2 l0 2 (z_s M5 + 1)) fun M14 =>
  zlet (w_a M14 2 0) fun M17 =>
  (F_Codes_init O n (z_s M14 + 1) M17).bind fun q20 =>
  if z_k q20.2 l0 = 7 then
  zlet (w_p q20.2 l0 3 (z_s M14 + 1)) fun M23 =>
  zlet (w_a M23 9 0) fun M26 =>
  (F_Row_init O n (z_s M23 + 1) (32768 : Int32) M26).bind fun q29 =>
  if z_k q29.2 l0 = 7 then
  zlet (w_p q29.2 l0 4 (z_s M23 + 1)) fun M32 =>
  zlet (w_p M32 l0 5 (z_p M32 l0 3)) fun M35 =>
  zlet (w_i M35 l0 6 (0 : Int32)) fun M38 =>
  zlet (w_i M38 l0 7 (0 : Int32)) fun M41 =>
  zlet (w_i M41 l0 8 (0 : Int32)) fun M44 =>
  zlet (w_i M44 l0 9 (0 : Int32)) fun M47 =>
  zlet (w_i M47 l0 10 (0 : Int32)) fun M50 =>
  zlet (w_i M50 l0 11 (0 : Int32)) fun M53 =>
  zlet (w_i M53 l0 12 (0 : Int32)) fun M56 =>
  some ((), M56)
  else none
  else none
  else none
  else none
set_option maxRecDepth 100000 in
set_option maxHeartbeats 4000000 in
theorem s_Lit_init_0 {X : zX} {q : Unit × zM} (C : zC X zR6 prog_7_method_1_code 3 { frames := 3, cells := 14, slots := 36996, locals := 62 }) (hr : zRt X none) (hin : zIn X) (E : zE X none q.2 14 36996) : ∀ (n : Nat) (l0 : Nat) (l1 : Nat) (l2 : Nat) (M : zM), f_Lit_init_0 (zOD X) n l0 l1 l2 M = some q → zW X 0 0 0 [some (zP l0), some (zP l1), some (zP l2)] [] M := by
  intro n l0 l1 l2 M h
  rw [f_Lit_init_0] at h
  refine r_aload_n C (z_d dd_Lit_init 0 rfl) rfl ?_
  obtain ⟨h1, h⟩ := zif h
  refine r_objK C 6 rfl h1 (z_d dd_Lit_init 1 rfl) ml_Lit_3 oi_i oi_c rfl (Nat.le_of_ble_eq_true rfl) ⟨(Nat.le_of_ble_eq_true rfl), (Nat.le_of_ble_eq_true rfl)⟩ ?_
  refine r_aload_n C (z_d dd_Lit_init 2 rfl) rfl ?_
  refine r_aload_n C (z_d dd_Lit_init 3 rfl) rfl ?_
  obtain ⟨M2, e3, h⟩ := zlet_ex h
  have h4 := k_p e3 h1
  refine r_putFP C hin (z_d dd_Lit_init 4 rfl) lf_Lit_9 rfl h1 e3 ?_
  refine r_aload_n C (z_d dd_Lit_init 5 rfl) rfl ?_
  refine r_aload_n C (z_d dd_Lit_init 6 rfl) rfl ?_
  obtain ⟨M5, e6, h⟩ := zlet_ex h
  have h7 := k_p e6 h4
  refine r_putFP C hin (z_d dd_Lit_init 7 rfl) lf_Lit_15 rfl h4 e6 ?_
  refine r_aload_n C (z_d dd_Lit_init 8 rfl) rfl ?_
  obtain ⟨M8, e9, h⟩ := zlet_ex h
  have h10 := k_a e9
  refine r_new (c := 11) C (z_d dd_Lit_init 9 rfl) rfl cl_Lit_19 ins_11 ini_11 (Nat.le_of_ble_eq_true rfl) (Nat.le_of_ble_eq_true rfl) e9 ?_
  refine r_dupP C (z_d dd_Lit_init 10 rfl) ?_
  obtain ⟨q11, c12, h⟩ := zbd h
  refine r_invIK (as := []) C 11 rfl h10 (S_Stream_init c12) (z_d dd_Lit_init 11 rfl) ok_Stream_init rfl rfl iv_Stream_init ml_Lit_21 rfl rfl rfl (Nat.le_of_ble_eq_true rfl) ⟨(Nat.le_of_ble_eq_true rfl), (Nat.le_of_ble_eq_true rfl)⟩ ⟨(Nat.le_of_ble_eq_true rfl), (Nat.le_of_ble_eq_true rfl)⟩ ?_
  obtain ⟨h13, h⟩ := zif h
  obtain ⟨M14, e15, h⟩ := zlet_ex h
  have h16 := k_p e15 h13
  refine r_putFP C hin (z_d dd_Lit_init 12 rfl) lf_Lit_22 rfl h13 e15 ?_
  refine r_aload_n C (z_d dd_Lit_init 13 rfl) rfl ?_
  obtain ⟨M17, e18, h⟩ := zlet_ex h
  have h19 := k_a e18
  refine r_new (c := 1) C (z_d dd_Lit_init 14 rfl) rfl cl_Lit_26 ins_1 ini_1 (Nat.le_of_ble_eq_true rfl) (Nat.le_of_ble_eq_true rfl) e18 ?_
  refine r_dupP C (z_d dd_Lit_init 15 rfl) ?_
  obtain ⟨q20, c21, h⟩ := zbd h
  refine r_invIK (as := []) C 1 rfl h19 (S_Codes_init c21) (z_d dd_Lit_init 16 rfl) ok_Codes_init rfl rfl iv_Codes_init ml_Lit_28 rfl rfl rfl (Nat.le_of_ble_eq_true rfl) ⟨(Nat.le_of_ble_eq_true rfl), (Nat.le_of_ble_eq_true rfl)⟩ ⟨(Nat.le_of_ble_eq_true rfl), (Nat.le_of_ble_eq_true rfl)⟩ ?_
  obtain ⟨h22, h⟩ := zif h
  obtain ⟨M23, e24, h⟩ := zlet_ex h
  have h25 := k_p e24 h22
  refine r_putFP C hin (z_d dd_Lit_init 17 rfl) lf_Lit_29 rfl h22 e24 ?_
  refine r_aload_n C (z_d dd_Lit_init 18 rfl) rfl ?_
  obtain ⟨M26, e27, h⟩ := zlet_ex h
  have h28 := k_a e27
  refine r_new (c := 8) C (z_d dd_Lit_init 19 rfl) rfl cl_Lit_33 ins_8 ini_8 (Nat.le_of_ble_eq_true rfl) (Nat.le_of_ble_eq_true rfl) e27 ?_
  refine r_dupP C (z_d dd_Lit_init 20 rfl) ?_
  refine r_ldc (v := (32768 : Int32)) C (z_d dd_Lit_init 21 rfl) ki_Lit_35 ?_
  obtain ⟨q29, c30, h⟩ := zbd h
  refine r_invIK (as := [zI (32768 : Int32)]) C 8 rfl h28 (S_Row_init c30) (z_d dd_Lit_init 22 rfl) ok_Row_init rfl rfl iv_Row_init ml_Lit_36 rfl rfl rfl (Nat.le_of_ble_eq_true rfl) ⟨(Nat.le_of_ble_eq_true rfl), (Nat.le_of_ble_eq_true rfl)⟩ ⟨(Nat.le_of_ble_eq_true rfl), (Nat.le_of_ble_eq_true rfl)⟩ ?_
  obtain ⟨h31, h⟩ := zif h
  obtain ⟨M32, e33, h⟩ := zlet_ex h
  have h34 := k_p e33 h31
  refine r_putFP C hin (z_d dd_Lit_init 23 rfl) lf_Lit_39 rfl h31 e33 ?_
  refine r_aload_n C (z_d dd_Lit_init 24 rfl) rfl ?_
  refine r_aload_n C (z_d dd_Lit_init 25 rfl) rfl ?_
  refine r_getP C (z_d dd_Lit_init 26 rfl) lk_Lit_29 rfl h34 rfl ?_
  obtain ⟨M35, e36, h⟩ := zlet_ex h
  have h37 := k_p e36 h34
  refine r_putP C (z_d dd_Lit_init 27 rfl) lp_Lit_42 rfl h34 e36 ?_
  refine r_aload_n C (z_d dd_Lit_init 28 rfl) rfl ?_
  refine r_iconst (v := (0 : Int32)) C (z_d dd_Lit_init 29 rfl) (by decide) ?_
  obtain ⟨M38, e39, h⟩ := zlet_ex h
  have h40 := k_i e39 h37
  refine r_putZ C (z_d dd_Lit_init 30 rfl) lp_Lit_45 rfl (by decide) h37 e39 ?_
  refine r_aload_n C (z_d dd_Lit_init 31 rfl) rfl ?_
  refine r_iconst (v := (0 : Int32)) C (z_d dd_Lit_init 32 rfl) (by decide) ?_
  obtain ⟨M41, e42, h⟩ := zlet_ex h
  have h43 := k_i e42 h40
  refine r_putI C (z_d dd_Lit_init 33 rfl) lp_Lit_49 rfl h40 e42 ?_
  refine r_aload_n C (z_d dd_Lit_init 34 rfl) rfl ?_
  refine r_iconst (v := (0 : Int32)) C (z_d dd_Lit_init 35 rfl) (by decide) ?_
  obtain ⟨M44, e45, h⟩ := zlet_ex h
  have h46 := k_i e45 h43
  refine r_putI C (z_d dd_Lit_init 36 rfl) lp_Lit_53 rfl h43 e45 ?_
  refine r_aload_n C (z_d dd_Lit_init 37 rfl) rfl ?_
  refine r_iconst (v := (0 : Int32)) C (z_d dd_Lit_init 38 rfl) (by decide) ?_
  obtain ⟨M47, e48, h⟩ := zlet_ex h
  have h49 := k_i e48 h46
  refine r_putI C (z_d dd_Lit_init 39 rfl) lp_Lit_56 rfl h46 e48 ?_
  refine r_aload_n C (z_d dd_Lit_init 40 rfl) rfl ?_
  refine r_iconst (v := (0 : Int32)) C (z_d dd_Lit_init 41 rfl) (by decide) ?_
  obtain ⟨M50, e51, h⟩ := zlet_ex h
  have h52 := k_i e51 h49
  refine r_putI C (z_d dd_Lit_init 42 rfl) lp_Lit_59 rfl h49 e51 ?_
  refine r_aload_n C (z_d dd_Lit_init 43 rfl) rfl ?_
  refine r_iconst (v := (0 : Int32)) C (z_d dd_Lit_init 44 rfl) (by decide) ?_
  obtain ⟨M53, e54, h⟩ := zlet_ex h
  have h55 := k_i e54 h52
  refine r_putI C (z_d dd_Lit_init 45 rfl) lp_Lit_62 rfl h52 e54 ?_
  refine r_aload_n C (z_d dd_Lit_init 46 rfl) rfl ?_
  refine r_iconst (v := (0 : Int32)) C (z_d dd_Lit_init 47 rfl) (by decide) ?_
  obtain ⟨M56, e57, h⟩ := zlet_ex h
  have h58 := k_i e57 h55
  refine r_putI C (z_d dd_Lit_init 48 rfl) lp_Lit_65 rfl h55 e57 ?_
  obtain rfl := z_res h
  exact r_vret C E hr (z_d dd_Lit_init 49 rfl) (Nat.le_of_ble_eq_true rfl) (Nat.le_of_ble_eq_true rfl)
def F_Lit_init (O : zO) (n : Nat) (l0 : Nat) (l1 : Nat) (l2 : Nat) (M : zM) : Option (Unit × zM) := f_Lit_init_0 O n l0 l1 l2 M
theorem S_Lit_init {l : Launch} {D : zD} {n : Nat} {l0 : Nat} {l1 : Nat} {l2 : Nat} {M : zM} {q : Unit × zM} (h : F_Lit_init D.2.2.2.2 n l0 l1 l2 M = some q) : zMet l D mi_Lit_init [zP l0, zP l1, zP l2] M none q.2 :=
  z_met (by decide) (Nat.le_of_ble_eq_true rfl) (fun X C E hr hin hD hl => by
    subst hD
    exact s_Lit_init_0 C hr (hin rfl) E n l0 l1 l2 M h)

def f_JMath_min_10 (O : zO) (n : Nat) (s0 : Int32) (M : zM) : Option (Int32 × zM) :=
  some (s0, M)
set_option maxRecDepth 100000 in
set_option maxHeartbeats 4000000 in
theorem s_JMath_min_10 {X : zX} {q : Int32 × zM} (C : zC X zJMath prog_17_method_69_code 2 { frames := 0, cells := 0, slots := 0, locals := 0 }) (hr : zRt X (some .int)) (E : zE X (some (zI q.1)) q.2 0 0) : ∀ (n : Nat) (s0 : Int32) (M : zM), f_JMath_min_10 (zOD X) n s0 M = some q → zW X 0 0 10 [none, none] [zI s0] M := by
  intro n s0 M h
  rw [f_JMath_min_10] at h
  obtain rfl := z_res h
  exact r_iretI C E hr (z_d dd_JMath_min 6 rfl) (Nat.le_of_ble_eq_true rfl) (Nat.le_of_ble_eq_true rfl)
def f_JMath_min_0 (O : zO) (n : Nat) (l0 : Int32) (l1 : Int32) (M : zM) : Option (Int32 × zM) :=
  if l1 < l0 then
  f_JMath_min_10 O n l1 M
  else
  f_JMath_min_10 O n l0 M
set_option maxRecDepth 100000 in
set_option maxHeartbeats 4000000 in
theorem s_JMath_min_0 {X : zX} {q : Int32 × zM} (C : zC X zJMath prog_17_method_69_code 2 { frames := 0, cells := 0, slots := 0, locals := 0 }) (hr : zRt X (some .int)) (E : zE X (some (zI q.1)) q.2 0 0) : ∀ (n : Nat) (l0 : Int32) (l1 : Int32) (M : zM), f_JMath_min_0 (zOD X) n l0 l1 M = some q → zW X 0 0 0 [some (zI l0), some (zI l1)] [] M := by
  intro n l0 l1 M h
  rw [f_JMath_min_0] at h
  refine r_iload_n C (z_d dd_JMath_min 0 rfl) rfl ?_
  refine r_iload_n C (z_d dd_JMath_min 1 rfl) rfl ?_
  refine r_icmp_gt C 9 (z_d dd_JMath_min 2 rfl) (by decide) (fun c1 => ?_) (fun c1 => ?_)
  · have h := zift h c1
    refine r_iload_n C (z_d dd_JMath_min 5 rfl) rfl ?_
    refine r_mk [false, false] ?_
    exact s_JMath_min_10 C hr E n l1 M h
  · have h := ziff h c1
    refine r_iload_n C (z_d dd_JMath_min 3 rfl) rfl ?_
    refine r_goto C 10 (z_d dd_JMath_min 4 rfl) (by decide) ?_
    refine r_mk [false, false] ?_
    exact s_JMath_min_10 C hr E n l0 M h
def F_JMath_min (O : zO) (n : Nat) (l0 : Int32) (l1 : Int32) (M : zM) : Option (Int32 × zM) := f_JMath_min_0 O n l0 l1 M
theorem S_JMath_min {l : Launch} {D : zD} {n : Nat} {l0 : Int32} {l1 : Int32} {M : zM} {q : Int32 × zM} (h : F_JMath_min D.2.2.2.2 n l0 l1 M = some q) : zMet l D mi_JMath_min [zI l0, zI l1] M (some (zI q.1)) q.2 :=
  z_metF (by decide +kernel) (Nat.le_of_ble_eq_true rfl) (fun X C E hr hin hD hl => by
    subst hD
    exact s_JMath_min_0 C hr E n l0 l1 M h)

def f_Share_nextPlace_24 (O : zO) : Nat → Int32 → Int32 → Int32 → Int32 → Int32 → Int32 → zM → Option (Int32 × zM)
  | 0, _, _, _, _, _, _, _ => none
  | n + 1, l1, l2, l3, l4, l5, l6, M =>
    if l3 ≤ l6 then
    some (l1, M)
    else
    zlet ((l5 + l4) &&& (l3 - (1 : Int32))) fun v1 =>
    if l2 < v1 then
    zlet (l6 + (1 : Int32)) fun v3 =>
    f_Share_nextPlace_24 O n l1 l2 l3 l4 v1 v3 M
    else
    some (v1, M)
set_option maxRecDepth 100000 in
set_option maxHeartbeats 4000000 in
theorem s_Share_nextPlace_24 {X : zX} {q : Int32 × zM} (C : zC X zR10 prog_11_method_12_code 7 { frames := 0, cells := 0, slots := 0, locals := 0 }) (hr : zRt X (some .int)) (E : zE X (some (zI q.1)) q.2 0 0) : ∀ (n : Nat) (l1 : Int32) (l2 : Int32) (l3 : Int32) (l4 : Int32) (l5 : Int32) (l6 : Int32) (M : zM), f_Share_nextPlace_24 (zOD X) n l1 l2 l3 l4 l5 l6 M = some q → zW X 0 0 24 [none, some (zI l1), some (zI l2), some (zI l3), some (zI l4), some (zI l5), some (zI l6)] [] M := by
  intro n
  induction n with
  | zero => intro l1 l2 l3 l4 l5 l6 M h; rw [f_Share_nextPlace_24] at h; cases h
  | succ n ih =>
    intro l1 l2 l3 l4 l5 l6 M h
    rw [f_Share_nextPlace_24] at h
    refine r_iload C (z_d dd_Share_nextPlace 19 rfl) rfl ?_
    refine r_iload_n C (z_d dd_Share_nextPlace 20 rfl) rfl ?_
    refine r_icmp_ge C 56 (z_d dd_Share_nextPlace 21 rfl) (by decide) (fun c6 => ?_) (fun c6 => ?_)
    · have h := zift h c6
      refine r_iload_n C (z_d dd_Share_nextPlace 37 rfl) rfl ?_
      obtain rfl := z_res h
      exact r_iretI C E hr (z_d dd_Share_nextPlace 38 rfl) (Nat.le_of_ble_eq_true rfl) (Nat.le_of_ble_eq_true rfl)
    · have h := ziff h c6
      refine r_iload C (z_d dd_Share_nextPlace 22 rfl) rfl ?_
      refine r_iload C (z_d dd_Share_nextPlace 23 rfl) rfl ?_
      refine r_iadd C (z_d dd_Share_nextPlace 24 rfl) ?_
      refine r_iload_n C (z_d dd_Share_nextPlace 25 rfl) rfl ?_
      refine r_iconst (v := (1 : Int32)) C (z_d dd_Share_nextPlace 26 rfl) (by decide) ?_
      refine r_isub C (z_d dd_Share_nextPlace 27 rfl) ?_
      refine r_iand C (z_d dd_Share_nextPlace 28 rfl) ?_
      obtain ⟨v1, e2, h⟩ := zlet_ex h
      refine r_nmI e2 ?_
      refine r_istore (lv' := [none, some (zI l1), some (zI l2), some (zI l3), some (zI l4), some (zI v1), some (zI l6)]) C (z_d dd_Share_nextPlace 29 rfl) (Nat.le_of_ble_eq_true rfl) rfl ?_
      refine r_iload C (z_d dd_Share_nextPlace 30 rfl) rfl ?_
      refine r_iload_n C (z_d dd_Share_nextPlace 31 rfl) rfl ?_
      refine r_icmp_gt C 50 (z_d dd_Share_nextPlace 32 rfl) (by decide) (fun c5 => ?_) (fun c5 => ?_)
      · have h := zift h c5
        obtain ⟨v3, e4, h⟩ := zlet_ex h
        refine r_iinc (v := v3) (lv' := [none, some (zI l1), some (zI l2), some (zI l3), some (zI l4), some (zI v1), some (zI v3)]) C (z_d dd_Share_nextPlace 35 rfl) rfl (Nat.le_of_ble_eq_true rfl) (by rw [e4]; rfl) rfl ?_
        refine r_goto C 24 (z_d dd_Share_nextPlace 36 rfl) (by decide) ?_
        exact ih l1 l2 l3 l4 v1 v3 M h
      · have h := ziff h c5
        refine r_iload C (z_d dd_Share_nextPlace 33 rfl) rfl ?_
        obtain rfl := z_res h
        exact r_iretI C E hr (z_d dd_Share_nextPlace 34 rfl) (Nat.le_of_ble_eq_true rfl) (Nat.le_of_ble_eq_true rfl)
def f_Share_nextPlace_0 (O : zO) (n : Nat) (l0 : Nat) (l1 : Int32) (l2 : Int32) (M : zM) : Option (Int32 × zM) :=
  if z_k M l0 = 11 then
  zlet ((1 : Int32) <<< ((z_i M l0 7) &&& 31)) fun v2 =>
  zlet (((v2 >>> ((1 : Int32) &&& 31)) + (v2 >>> ((3 : Int32) &&& 31))) + (3 : Int32)) fun v4 =>
  f_Share_nextPlace_24 O n l1 l2 v2 v4 l1 (0 : Int32) M
  else none
set_option maxRecDepth 100000 in
set_option maxHeartbeats 4000000 in
theorem s_Share_nextPlace_0 {X : zX} {q : Int32 × zM} (C : zC X zR10 prog_11_method_12_code 7 { frames := 0, cells := 0, slots := 0, locals := 0 }) (hr : zRt X (some .int)) (E : zE X (some (zI q.1)) q.2 0 0) : ∀ (n : Nat) (l0 : Nat) (l1 : Int32) (l2 : Int32) (M : zM), f_Share_nextPlace_0 (zOD X) n l0 l1 l2 M = some q → zW X 0 0 0 [some (zP l0), some (zI l1), some (zI l2), none, none, none, none] [] M := by
  intro n l0 l1 l2 M h
  rw [f_Share_nextPlace_0] at h
  refine r_iconst (v := (1 : Int32)) C (z_d dd_Share_nextPlace 0 rfl) (by decide) ?_
  refine r_aload_n C (z_d dd_Share_nextPlace 1 rfl) rfl ?_
  obtain ⟨h1, h⟩ := zif h
  refine r_getI C (z_d dd_Share_nextPlace 2 rfl) lk_Share_34 rfl h1 rfl ?_
  refine r_ishl C (z_d dd_Share_nextPlace 3 rfl) ?_
  obtain ⟨v2, e3, h⟩ := zlet_ex h
  refine r_nmI e3 ?_
  refine r_istore_n (lv' := [some (zP l0), some (zI l1), some (zI l2), some (zI v2), none, none, none]) C (z_d dd_Share_nextPlace 4 rfl) (Nat.le_of_ble_eq_true rfl) rfl ?_
  refine r_iload_n C (z_d dd_Share_nextPlace 5 rfl) rfl ?_
  refine r_iconst (v := (1 : Int32)) C (z_d dd_Share_nextPlace 6 rfl) (by decide) ?_
  refine r_ishr C (z_d dd_Share_nextPlace 7 rfl) ?_
  refine r_iload_n C (z_d dd_Share_nextPlace 8 rfl) rfl ?_
  refine r_iconst (v := (3 : Int32)) C (z_d dd_Share_nextPlace 9 rfl) (by decide) ?_
  refine r_ishr C (z_d dd_Share_nextPlace 10 rfl) ?_
  refine r_iadd C (z_d dd_Share_nextPlace 11 rfl) ?_
  refine r_iconst (v := (3 : Int32)) C (z_d dd_Share_nextPlace 12 rfl) (by decide) ?_
  refine r_iadd C (z_d dd_Share_nextPlace 13 rfl) ?_
  obtain ⟨v4, e5, h⟩ := zlet_ex h
  refine r_nmI e5 ?_
  refine r_istore (lv' := [some (zP l0), some (zI l1), some (zI l2), some (zI v2), some (zI v4), none, none]) C (z_d dd_Share_nextPlace 14 rfl) (Nat.le_of_ble_eq_true rfl) rfl ?_
  refine r_iload_n C (z_d dd_Share_nextPlace 15 rfl) rfl ?_
  refine r_istore (lv' := [some (zP l0), some (zI l1), some (zI l2), some (zI v2), some (zI v4), some (zI l1), none]) C (z_d dd_Share_nextPlace 16 rfl) (Nat.le_of_ble_eq_true rfl) rfl ?_
  refine r_iconst (v := (0 : Int32)) C (z_d dd_Share_nextPlace 17 rfl) (by decide) ?_
  refine r_istore (lv' := [some (zP l0), some (zI l1), some (zI l2), some (zI v2), some (zI v4), some (zI l1), some (zI (0 : Int32))]) C (z_d dd_Share_nextPlace 18 rfl) (Nat.le_of_ble_eq_true rfl) rfl ?_
  refine r_mk [false, true, true, true, true, true, true] ?_
  exact s_Share_nextPlace_24 C hr E n l1 l2 v2 v4 l1 (0 : Int32) M h
def F_Share_nextPlace (O : zO) (n : Nat) (l0 : Nat) (l1 : Int32) (l2 : Int32) (M : zM) : Option (Int32 × zM) := f_Share_nextPlace_0 O n l0 l1 l2 M
theorem S_Share_nextPlace {l : Launch} {D : zD} {n : Nat} {l0 : Nat} {l1 : Int32} {l2 : Int32} {M : zM} {q : Int32 × zM} (h : F_Share_nextPlace D.2.2.2.2 n l0 l1 l2 M = some q) : zMet l D mi_Share_nextPlace [zP l0, zI l1, zI l2] M (some (zI q.1)) q.2 :=
  z_met (by decide) (Nat.le_of_ble_eq_true rfl) (fun X C E hr hin hD hl => by
    subst hD
    exact s_Share_nextPlace_0 C hr E n l0 l1 l2 M h)

def f_JInt_numberOfLeadingZeros_73 (O : zO) (n : Nat) (l0 : Int32) (l1 : Int32) (M : zM) : Option (Int32 × zM) :=
  some ((l1 - (l0.toUInt32 >>> ((1 : Int32).toUInt32 &&& Int32.toUInt32 31)).toInt32), M)
set_option maxRecDepth 100000 in
set_option maxHeartbeats 4000000 in
theorem s_JInt_numberOfLeadingZeros_73 {X : zX} {q : Int32 × zM} (C : zC X zJInt prog_15_method_47_code 2 { frames := 0, cells := 0, slots := 0, locals := 0 }) (hr : zRt X (some .int)) (E : zE X (some (zI q.1)) q.2 0 0) : ∀ (n : Nat) (l0 : Int32) (l1 : Int32) (M : zM), f_JInt_numberOfLeadingZeros_73 (zOD X) n l0 l1 M = some q → zW X 0 0 73 [some (zI l0), some (zI l1)] [] M := by
  intro n l0 l1 M h
  rw [f_JInt_numberOfLeadingZeros_73] at h
  refine r_iload_n C (z_d dd_JInt_numberOfLeadingZeros 42 rfl) rfl ?_
  refine r_iload_n C (z_d dd_JInt_numberOfLeadingZeros 43 rfl) rfl ?_
  refine r_iconst (v := (1 : Int32)) C (z_d dd_JInt_numberOfLeadingZeros 44 rfl) (by decide) ?_
  refine r_iushr C (z_d dd_JInt_numberOfLeadingZeros 45 rfl) ?_
  refine r_isub C (z_d dd_JInt_numberOfLeadingZeros 46 rfl) ?_
  obtain rfl := z_res h
  exact r_iretI C E hr (z_d dd_JInt_numberOfLeadingZeros 47 rfl) (Nat.le_of_ble_eq_true rfl) (Nat.le_of_ble_eq_true rfl)
def f_JInt_numberOfLeadingZeros_61 (O : zO) (n : Nat) (l0 : Int32) (l1 : Int32) (M : zM) : Option (Int32 × zM) :=
  if l0 < (4 : Int32) then
  f_JInt_numberOfLeadingZeros_73 O n l0 l1 M
  else
  zlet (l1 + (-2 : Int32)) fun v1 =>
  zlet (l0.toUInt32 >>> ((2 : Int32).toUInt32 &&& Int32.toUInt32 31)).toInt32 fun v3 =>
  f_JInt_numberOfLeadingZeros_73 O n v3 v1 M
set_option maxRecDepth 100000 in
set_option maxHeartbeats 4000000 in
theorem s_JInt_numberOfLeadingZeros_61 {X : zX} {q : Int32 × zM} (C : zC X zJInt prog_15_method_47_code 2 { frames := 0, cells := 0, slots := 0, locals := 0 }) (hr : zRt X (some .int)) (E : zE X (some (zI q.1)) q.2 0 0) : ∀ (n : Nat) (l0 : Int32) (l1 : Int32) (M : zM), f_JInt_numberOfLeadingZeros_61 (zOD X) n l0 l1 M = some q → zW X 0 0 61 [some (zI l0), some (zI l1)] [] M := by
  intro n l0 l1 M h
  rw [f_JInt_numberOfLeadingZeros_61] at h
  refine r_iload_n C (z_d dd_JInt_numberOfLeadingZeros 34 rfl) rfl ?_
  refine r_iconst (v := (4 : Int32)) C (z_d dd_JInt_numberOfLeadingZeros 35 rfl) (by decide) ?_
  refine r_icmp_lt C 73 (z_d dd_JInt_numberOfLeadingZeros 36 rfl) (by decide) (fun c5 => ?_) (fun c5 => ?_)
  · have h := zift h c5
    exact s_JInt_numberOfLeadingZeros_73 C hr E n l0 l1 M h
  · have h := ziff h c5
    obtain ⟨v1, e2, h⟩ := zlet_ex h
    refine r_iinc (v := v1) (lv' := [some (zI l0), some (zI v1)]) C (z_d dd_JInt_numberOfLeadingZeros 37 rfl) rfl (Nat.le_of_ble_eq_true rfl) (by rw [e2]; rfl) rfl ?_
    refine r_iload_n C (z_d dd_JInt_numberOfLeadingZeros 38 rfl) rfl ?_
    refine r_iconst (v := (2 : Int32)) C (z_d dd_JInt_numberOfLeadingZeros 39 rfl) (by decide) ?_
    refine r_iushr C (z_d dd_JInt_numberOfLeadingZeros 40 rfl) ?_
    obtain ⟨v3, e4, h⟩ := zlet_ex h
    refine r_nmI e4 ?_
    refine r_istore_n (lv' := [some (zI v3), some (zI v1)]) C (z_d dd_JInt_numberOfLeadingZeros 41 rfl) (Nat.le_of_ble_eq_true rfl) rfl ?_
    exact s_JInt_numberOfLeadingZeros_73 C hr E n v3 v1 M h
def f_JInt_numberOfLeadingZeros_48 (O : zO) (n : Nat) (l0 : Int32) (l1 : Int32) (M : zM) : Option (Int32 × zM) :=
  if l0 < (16 : Int32) then
  f_JInt_numberOfLeadingZeros_61 O n l0 l1 M
  else
  zlet (l1 + (-4 : Int32)) fun v1 =>
  zlet (l0.toUInt32 >>> ((4 : Int32).toUInt32 &&& Int32.toUInt32 31)).toInt32 fun v3 =>
  f_JInt_numberOfLeadingZeros_61 O n v3 v1 M
set_option maxRecDepth 100000 in
set_option maxHeartbeats 4000000 in
theorem s_JInt_numberOfLeadingZeros_48 {X : zX} {q : Int32 × zM} (C : zC X zJInt prog_15_method_47_code 2 { frames := 0, cells := 0, slots := 0, locals := 0 }) (hr : zRt X (some .int)) (E : zE X (some (zI q.1)) q.2 0 0) : ∀ (n : Nat) (l0 : Int32) (l1 : Int32) (M : zM), f_JInt_numberOfLeadingZeros_48 (zOD X) n l0 l1 M = some q → zW X 0 0 48 [some (zI l0), some (zI l1)] [] M := by
  intro n l0 l1 M h
  rw [f_JInt_numberOfLeadingZeros_48] at h
  refine r_iload_n C (z_d dd_JInt_numberOfLeadingZeros 26 rfl) rfl ?_
  refine r_bipush (v := (16 : Int32)) C (z_d dd_JInt_numberOfLeadingZeros 27 rfl) (by decide) ?_
  refine r_icmp_lt C 61 (z_d dd_JInt_numberOfLeadingZeros 28 rfl) (by decide) (fun c5 => ?_) (fun c5 => ?_)
  · have h := zift h c5
    exact s_JInt_numberOfLeadingZeros_61 C hr E n l0 l1 M h
  · have h := ziff h c5
    obtain ⟨v1, e2, h⟩ := zlet_ex h
    refine r_iinc (v := v1) (lv' := [some (zI l0), some (zI v1)]) C (z_d dd_JInt_numberOfLeadingZeros 29 rfl) rfl (Nat.le_of_ble_eq_true rfl) (by rw [e2]; rfl) rfl ?_
    refine r_iload_n C (z_d dd_JInt_numberOfLeadingZeros 30 rfl) rfl ?_
    refine r_iconst (v := (4 : Int32)) C (z_d dd_JInt_numberOfLeadingZeros 31 rfl) (by decide) ?_
    refine r_iushr C (z_d dd_JInt_numberOfLeadingZeros 32 rfl) ?_
    obtain ⟨v3, e4, h⟩ := zlet_ex h
    refine r_nmI e4 ?_
    refine r_istore_n (lv' := [some (zI v3), some (zI v1)]) C (z_d dd_JInt_numberOfLeadingZeros 33 rfl) (Nat.le_of_ble_eq_true rfl) rfl ?_
    exact s_JInt_numberOfLeadingZeros_61 C hr E n v3 v1 M h
def f_JInt_numberOfLeadingZeros_33 (O : zO) (n : Nat) (l0 : Int32) (l1 : Int32) (M : zM) : Option (Int32 × zM) :=
  if l0 < (256 : Int32) then
  f_JInt_numberOfLeadingZeros_48 O n l0 l1 M
  else
  zlet (l1 + (-8 : Int32)) fun v1 =>
  zlet (l0.toUInt32 >>> ((8 : Int32).toUInt32 &&& Int32.toUInt32 31)).toInt32 fun v3 =>
  f_JInt_numberOfLeadingZeros_48 O n v3 v1 M
set_option maxRecDepth 100000 in
set_option maxHeartbeats 4000000 in
theorem s_JInt_numberOfLeadingZeros_33 {X : zX} {q : Int32 × zM} (C : zC X zJInt prog_15_method_47_code 2 { frames := 0, cells := 0, slots := 0, locals := 0 }) (hr : zRt X (some .int)) (E : zE X (some (zI q.1)) q.2 0 0) : ∀ (n : Nat) (l0 : Int32) (l1 : Int32) (M : zM), f_JInt_numberOfLeadingZeros_33 (zOD X) n l0 l1 M = some q → zW X 0 0 33 [some (zI l0), some (zI l1)] [] M := by
  intro n l0 l1 M h
  rw [f_JInt_numberOfLeadingZeros_33] at h
  refine r_iload_n C (z_d dd_JInt_numberOfLeadingZeros 18 rfl) rfl ?_
  refine r_sipush (v := (256 : Int32)) C (z_d dd_JInt_numberOfLeadingZeros 19 rfl) (by decide) ?_
  refine r_icmp_lt C 48 (z_d dd_JInt_numberOfLeadingZeros 20 rfl) (by decide) (fun c5 => ?_) (fun c5 => ?_)
  · have h := zift h c5
    exact s_JInt_numberOfLeadingZeros_48 C hr E n l0 l1 M h
  · have h := ziff h c5
    obtain ⟨v1, e2, h⟩ := zlet_ex h
    refine r_iinc (v := v1) (lv' := [some (zI l0), some (zI v1)]) C (z_d dd_JInt_numberOfLeadingZeros 21 rfl) rfl (Nat.le_of_ble_eq_true rfl) (by rw [e2]; rfl) rfl ?_
    refine r_iload_n C (z_d dd_JInt_numberOfLeadingZeros 22 rfl) rfl ?_
    refine r_bipush (v := (8 : Int32)) C (z_d dd_JInt_numberOfLeadingZeros 23 rfl) (by decide) ?_
    refine r_iushr C (z_d dd_JInt_numberOfLeadingZeros 24 rfl) ?_
    obtain ⟨v3, e4, h⟩ := zlet_ex h
    refine r_nmI e4 ?_
    refine r_istore_n (lv' := [some (zI v3), some (zI v1)]) C (z_d dd_JInt_numberOfLeadingZeros 25 rfl) (Nat.le_of_ble_eq_true rfl) rfl ?_
    exact s_JInt_numberOfLeadingZeros_48 C hr E n v3 v1 M h
def f_JInt_numberOfLeadingZeros_14 (O : zO) (n : Nat) (s0 : Int32) (M : zM) : Option (Int32 × zM) :=
  some (s0, M)
set_option maxRecDepth 100000 in
set_option maxHeartbeats 4000000 in
theorem s_JInt_numberOfLeadingZeros_14 {X : zX} {q : Int32 × zM} (C : zC X zJInt prog_15_method_47_code 2 { frames := 0, cells := 0, slots := 0, locals := 0 }) (hr : zRt X (some .int)) (E : zE X (some (zI q.1)) q.2 0 0) : ∀ (n : Nat) (s0 : Int32) (M : zM), f_JInt_numberOfLeadingZeros_14 (zOD X) n s0 M = some q → zW X 0 0 14 [none, none] [zI s0] M := by
  intro n s0 M h
  rw [f_JInt_numberOfLeadingZeros_14] at h
  obtain rfl := z_res h
  exact r_iretI C E hr (z_d dd_JInt_numberOfLeadingZeros 7 rfl) (Nat.le_of_ble_eq_true rfl) (Nat.le_of_ble_eq_true rfl)
def f_JInt_numberOfLeadingZeros_0 (O : zO) (n : Nat) (l0 : Int32) (M : zM) : Option (Int32 × zM) :=
  if 0 < l0 then
  if l0 < (65536 : Int32) then
  f_JInt_numberOfLeadingZeros_33 O n l0 (31 : Int32) M
  else
  zlet ((31 : Int32) + (-16 : Int32)) fun v1 =>
  zlet (l0.toUInt32 >>> ((16 : Int32).toUInt32 &&& Int32.toUInt32 31)).toInt32 fun v3 =>
  f_JInt_numberOfLeadingZeros_33 O n v3 v1 M
  else
  if l0 = 0 then
  f_JInt_numberOfLeadingZeros_14 O n (32 : Int32) M
  else
  f_JInt_numberOfLeadingZeros_14 O n (0 : Int32) M
set_option maxRecDepth 100000 in
set_option maxHeartbeats 4000000 in
theorem s_JInt_numberOfLeadingZeros_0 {X : zX} {q : Int32 × zM} (C : zC X zJInt prog_15_method_47_code 2 { frames := 0, cells := 0, slots := 0, locals := 0 }) (hr : zRt X (some .int)) (E : zE X (some (zI q.1)) q.2 0 0) : ∀ (n : Nat) (l0 : Int32) (M : zM), f_JInt_numberOfLeadingZeros_0 (zOD X) n l0 M = some q → zW X 0 0 0 [some (zI l0), none] [] M := by
  intro n l0 M h
  rw [f_JInt_numberOfLeadingZeros_0] at h
  refine r_iload_n C (z_d dd_JInt_numberOfLeadingZeros 0 rfl) rfl ?_
  refine r_if_gt C 15 (z_d dd_JInt_numberOfLeadingZeros 1 rfl) (by decide) (fun c7 => ?_) (fun c7 => ?_)
  · have h := zift h c7
    refine r_bipush (v := (31 : Int32)) C (z_d dd_JInt_numberOfLeadingZeros 8 rfl) (by decide) ?_
    refine r_istore_n (lv' := [some (zI l0), some (zI (31 : Int32))]) C (z_d dd_JInt_numberOfLeadingZeros 9 rfl) (Nat.le_of_ble_eq_true rfl) rfl ?_
    refine r_iload_n C (z_d dd_JInt_numberOfLeadingZeros 10 rfl) rfl ?_
    refine r_ldcw (v := (65536 : Int32)) C (z_d dd_JInt_numberOfLeadingZeros 11 rfl) ki_JInt_264 ?_
    refine r_icmp_lt C 33 (z_d dd_JInt_numberOfLeadingZeros 12 rfl) (by decide) (fun c5 => ?_) (fun c5 => ?_)
    · have h := zift h c5
      exact s_JInt_numberOfLeadingZeros_33 C hr E n l0 (31 : Int32) M h
    · have h := ziff h c5
      obtain ⟨v1, e2, h⟩ := zlet_ex h
      refine r_iinc (v := v1) (lv' := [some (zI l0), some (zI v1)]) C (z_d dd_JInt_numberOfLeadingZeros 13 rfl) rfl (Nat.le_of_ble_eq_true rfl) (by rw [e2]; rfl) rfl ?_
      refine r_iload_n C (z_d dd_JInt_numberOfLeadingZeros 14 rfl) rfl ?_
      refine r_bipush (v := (16 : Int32)) C (z_d dd_JInt_numberOfLeadingZeros 15 rfl) (by decide) ?_
      refine r_iushr C (z_d dd_JInt_numberOfLeadingZeros 16 rfl) ?_
      obtain ⟨v3, e4, h⟩ := zlet_ex h
      refine r_nmI e4 ?_
      refine r_istore_n (lv' := [some (zI v3), some (zI v1)]) C (z_d dd_JInt_numberOfLeadingZeros 17 rfl) (Nat.le_of_ble_eq_true rfl) rfl ?_
      exact s_JInt_numberOfLeadingZeros_33 C hr E n v3 v1 M h
  · have h := ziff h c7
    refine r_iload_n C (z_d dd_JInt_numberOfLeadingZeros 2 rfl) rfl ?_
    refine r_if_ne C 13 (z_d dd_JInt_numberOfLeadingZeros 3 rfl) (by decide) (fun c6 => ?_) (fun c6 => ?_)
    · have h := ziff h c6
      refine r_iconst (v := (0 : Int32)) C (z_d dd_JInt_numberOfLeadingZeros 6 rfl) (by decide) ?_
      refine r_mk [false, false] ?_
      exact s_JInt_numberOfLeadingZeros_14 C hr E n (0 : Int32) M h
    · have h := zift h c6
      refine r_bipush (v := (32 : Int32)) C (z_d dd_JInt_numberOfLeadingZeros 4 rfl) (by decide) ?_
      refine r_goto C 14 (z_d dd_JInt_numberOfLeadingZeros 5 rfl) (by decide) ?_
      refine r_mk [false, false] ?_
      exact s_JInt_numberOfLeadingZeros_14 C hr E n (32 : Int32) M h
def F_JInt_numberOfLeadingZeros (O : zO) (n : Nat) (l0 : Int32) (M : zM) : Option (Int32 × zM) := f_JInt_numberOfLeadingZeros_0 O n l0 M
theorem S_JInt_numberOfLeadingZeros {l : Launch} {D : zD} {n : Nat} {l0 : Int32} {M : zM} {q : Int32 × zM} (h : F_JInt_numberOfLeadingZeros D.2.2.2.2 n l0 M = some q) : zMet l D mi_JInt_numberOfLeadingZeros [zI l0] M (some (zI q.1)) q.2 :=
  z_metF (by decide +kernel) (Nat.le_of_ble_eq_true rfl) (fun X C E hr hin hD hl => by
    subst hD
    exact s_JInt_numberOfLeadingZeros_0 C hr E n l0 M h)

def f_Share_number_50 (O : zO) : Nat → Nat → Int32 → Int32 → zM → Option (Unit × zM)
  | 0, _, _, _, _ => none
  | n + 1, l0, l1, l2, M =>
    if l1 ≤ l2 then
    some ((), M)
    else
    if z_k M l0 = 11 then
    if z_k M (z_p M l0 4) = 100 then
    if zin l2 (z_n M (z_p M l0 4)) = true then
    zlet (z_i M (z_p M l0 4) l2.toNatClampNeg) fun v4 =>
    if z_k M (z_p M l0 3) = 100 then
    if zin v4 (z_n M (z_p M l0 3)) = true then
    zlet (z_i M (z_p M l0 3) v4.toNatClampNeg) fun v8 =>
    if zin v4 (z_n M (z_p M l0 3)) = true then
    if zin v4 (z_n M (z_p M l0 3)) = true then
    zlet (w_i M (z_p M l0 3) v4.toNatClampNeg ((z_i M (z_p M l0 3) v4.toNatClampNeg) + (1 : Int32))) fun M12 =>
    (F_JInt_numberOfLeadingZeros O n v8 M12).bind fun q17 =>
    zlet ((z_i M12 l0 7) - ((31 : Int32) - q17.1)) fun v19 =>
    if z_k q17.2 l0 = 11 then
    if z_k q17.2 (z_p q17.2 l0 5) = 100 then
    if zin l2 (z_n q17.2 (z_p q17.2 l0 5)) = true then
    zlet (w_i q17.2 (z_p q17.2 l0 5) l2.toNatClampNeg v19) fun M24 =>
    if z_k M24 (z_p M24 l0 6) = 100 then
    if zin l2 (z_n M24 (z_p M24 l0 6)) = true then
    zlet (w_i M24 (z_p M24 l0 6) l2.toNatClampNeg ((v8 <<< (v19 &&& 31)) - l1)) fun M30 =>
    zlet (l2 + (1 : Int32)) fun v35 =>
    f_Share_number_50 O n l0 l1 v35 M30
    else none
    else none
    else none
    else none
    else none
    else none
    else none
    else none
    else none
    else none
    else none
    else none
set_option maxRecDepth 100000 in
set_option maxHeartbeats 4000000 in
theorem s_Share_number_50 {X : zX} {q : Unit × zM} (C : zC X zR10 prog_11_method_13_code 6 { frames := 1, cells := 0, slots := 0, locals := 21 }) (hr : zRt X none) (E : zE X none q.2 0 0) : ∀ (n : Nat) (l0 : Nat) (l1 : Int32) (l2 : Int32) (M : zM), f_Share_number_50 (zOD X) n l0 l1 l2 M = some q → zW X 0 0 50 [some (zP l0), some (zI l1), some (zI l2), none, none, none] [] M := by
  intro n
  induction n with
  | zero => intro l0 l1 l2 M h; rw [f_Share_number_50] at h; cases h
  | succ n ih =>
    intro l0 l1 l2 M h
    rw [f_Share_number_50] at h
    refine r_iload_n C (z_d dd_Share_number 30 rfl) rfl ?_
    refine r_iload_n C (z_d dd_Share_number 31 rfl) rfl ?_
    refine r_icmp_ge C 122 (z_d dd_Share_number 32 rfl) (by decide) (fun c37 => ?_) (fun c37 => ?_)
    · have h := zift h c37
      obtain rfl := z_res h
      exact r_vret C E hr (z_d dd_Share_number 75 rfl) (Nat.le_of_ble_eq_true rfl) (Nat.le_of_ble_eq_true rfl)
    · have h := ziff h c37
      refine r_aload_n C (z_d dd_Share_number 33 rfl) rfl ?_
      obtain ⟨h1, h⟩ := zif h
      refine r_getP C (z_d dd_Share_number 34 rfl) lk_Share_25 rfl h1 rfl ?_
      refine r_iload_n C (z_d dd_Share_number 35 rfl) rfl ?_
      obtain ⟨h2, h⟩ := zif h
      obtain ⟨h3, h⟩ := zif h
      refine r_iald C (z_d dd_Share_number 36 rfl) h2 h3 rfl ?_
      obtain ⟨v4, e5, h⟩ := zlet_ex h
      refine r_nmI e5 ?_
      refine r_istore_n (lv' := [some (zP l0), some (zI l1), some (zI l2), some (zI v4), none, none]) C (z_d dd_Share_number 37 rfl) (Nat.le_of_ble_eq_true rfl) rfl ?_
      refine r_aload_n C (z_d dd_Share_number 38 rfl) rfl ?_
      refine r_getP C (z_d dd_Share_number 39 rfl) lk_Share_22 rfl h1 rfl ?_
      refine r_iload_n C (z_d dd_Share_number 40 rfl) rfl ?_
      obtain ⟨h6, h⟩ := zif h
      obtain ⟨h7, h⟩ := zif h
      refine r_iald C (z_d dd_Share_number 41 rfl) h6 h7 rfl ?_
      obtain ⟨v8, e9, h⟩ := zlet_ex h
      refine r_nmI e9 ?_
      refine r_istore (lv' := [some (zP l0), some (zI l1), some (zI l2), some (zI v4), some (zI v8), none]) C (z_d dd_Share_number 42 rfl) (Nat.le_of_ble_eq_true rfl) rfl ?_
      refine r_aload_n C (z_d dd_Share_number 43 rfl) rfl ?_
      refine r_getP C (z_d dd_Share_number 44 rfl) lk_Share_22 rfl h1 rfl ?_
      refine r_iload_n C (z_d dd_Share_number 45 rfl) rfl ?_
      refine r_dup2IP C (z_d dd_Share_number 46 rfl) ?_
      obtain ⟨h10, h⟩ := zif h
      refine r_iald C (z_d dd_Share_number 47 rfl) h6 h10 rfl ?_
      refine r_iconst (v := (1 : Int32)) C (z_d dd_Share_number 48 rfl) (by decide) ?_
      refine r_iadd C (z_d dd_Share_number 49 rfl) ?_
      obtain ⟨h11, h⟩ := zif h
      obtain ⟨M12, e13, h⟩ := zlet_ex h
      have h14 := k_i e13 h1
      have h15 := k_i e13 h2
      have h16 := k_i e13 h6
      refine r_iast C (z_d dd_Share_number 50 rfl) h6 h11 e13 ?_
      refine r_aload_n C (z_d dd_Share_number 51 rfl) rfl ?_
      refine r_getI C (z_d dd_Share_number 52 rfl) lk_Share_34 rfl h14 rfl ?_
      refine r_bipush (v := (31 : Int32)) C (z_d dd_Share_number 53 rfl) (by decide) ?_
      refine r_iload C (z_d dd_Share_number 54 rfl) rfl ?_
      obtain ⟨q17, c18, h⟩ := zbd h
      refine r_invS (as := [zI v8]) C (S_JInt_numberOfLeadingZeros c18) (z_d dd_Share_number 55 rfl) ok_JInt_numberOfLeadingZeros sv_JInt_numberOfLeadingZeros ml_Share_73 rfl rfl rfl (Nat.le_of_ble_eq_true rfl) ⟨(Nat.le_of_ble_eq_true rfl), (Nat.le_of_ble_eq_true rfl)⟩ ⟨(Nat.le_of_ble_eq_true rfl), (Nat.le_of_ble_eq_true rfl)⟩ ?_
      refine r_isub C (z_d dd_Share_number 56 rfl) ?_
      refine r_isub C (z_d dd_Share_number 57 rfl) ?_
      obtain ⟨v19, e20, h⟩ := zlet_ex h
      refine r_nmI e20 ?_
      refine r_istore (lv' := [some (zP l0), some (zI l1), some (zI l2), some (zI v4), some (zI v8), some (zI v19)]) C (z_d dd_Share_number 58 rfl) (Nat.le_of_ble_eq_true rfl) rfl ?_
      refine r_aload_n C (z_d dd_Share_number 59 rfl) rfl ?_
      obtain ⟨h21, h⟩ := zif h
      refine r_getP C (z_d dd_Share_number 60 rfl) lk_Share_28 rfl h21 rfl ?_
      refine r_iload_n C (z_d dd_Share_number 61 rfl) rfl ?_
      refine r_iload C (z_d dd_Share_number 62 rfl) rfl ?_
      obtain ⟨h22, h⟩ := zif h
      obtain ⟨h23, h⟩ := zif h
      obtain ⟨M24, e25, h⟩ := zlet_ex h
      have h26 := k_i e25 h21
      have h27 := k_i e25 h22
      refine r_iast C (z_d dd_Share_number 63 rfl) h22 h23 e25 ?_
      refine r_aload_n C (z_d dd_Share_number 64 rfl) rfl ?_
      refine r_getP C (z_d dd_Share_number 65 rfl) lk_Share_31 rfl h26 rfl ?_
      refine r_iload_n C (z_d dd_Share_number 66 rfl) rfl ?_
      refine r_iload C (z_d dd_Share_number 67 rfl) rfl ?_
      refine r_iload C (z_d dd_Share_number 68 rfl) rfl ?_
      refine r_ishl C (z_d dd_Share_number 69 rfl) ?_
      refine r_iload_n C (z_d dd_Share_number 70 rfl) rfl ?_
      refine r_isub C (z_d dd_Share_number 71 rfl) ?_
      obtain ⟨h28, h⟩ := zif h
      obtain ⟨h29, h⟩ := zif h
      obtain ⟨M30, e31, h⟩ := zlet_ex h
      have h32 := k_i e31 h26
      have h33 := k_i e31 h27
      have h34 := k_i e31 h28
      refine r_iast C (z_d dd_Share_number 72 rfl) h28 h29 e31 ?_
      obtain ⟨v35, e36, h⟩ := zlet_ex h
      refine r_iinc (v := v35) (lv' := [some (zP l0), some (zI l1), some (zI v35), some (zI v4), some (zI v8), some (zI v19)]) C (z_d dd_Share_number 73 rfl) rfl (Nat.le_of_ble_eq_true rfl) (by rw [e36]; rfl) rfl ?_
      refine r_goto C 50 (z_d dd_Share_number 74 rfl) (by decide) ?_
      refine r_mk [true, true, true, false, false, false] ?_
      exact ih l0 l1 v35 M30 h
def f_Share_number_34 (O : zO) (k2 : Nat → Int32 → zM → Option (Unit × zM)) (n : Nat) (l0 : Nat) (l1 : Int32) (s0 : Nat) (s1 : Int32) (s2 : Int32) (M : zM) : Option (Unit × zM) :=
  if z_k M s0 = 100 then
  if zin s1 (z_n M s0) = true then
  zlet (w_i M s0 s1.toNatClampNeg s2) fun M3 =>
  zlet (l1 + (1 : Int32)) fun v6 =>
  k2 l0 v6 M3
  else none
  else none
set_option maxRecDepth 100000 in
set_option maxHeartbeats 4000000 in
theorem s_Share_number_34 {X : zX} {q : Unit × zM} (C : zC X zR10 prog_11_method_13_code 6 { frames := 1, cells := 0, slots := 0, locals := 21 }) (hr : zRt X none) (E : zE X none q.2 0 0) {k2 : Nat → Int32 → zM → Option (Unit × zM)} (hk2 : ∀ (l0 : Nat) (l1 : Int32) (M : zM), k2 l0 l1 M = some q → zW X 0 0 2 [some (zP l0), some (zI l1), none, none, none, none] [] M) : ∀ (n : Nat) (l0 : Nat) (l1 : Int32) (s0 : Nat) (s1 : Int32) (s2 : Int32) (M : zM), f_Share_number_34 (zOD X) k2 n l0 l1 s0 s1 s2 M = some q → zW X 0 0 34 [some (zP l0), some (zI l1), none, none, none, none] [zI s2, zI s1, zP s0] M := by
  intro n l0 l1 s0 s1 s2 M h
  rw [f_Share_number_34] at h
  obtain ⟨h1, h⟩ := zif h
  obtain ⟨h2, h⟩ := zif h
  obtain ⟨M3, e4, h⟩ := zlet_ex h
  have h5 := k_i e4 h1
  refine r_iast C (z_d dd_Share_number 20 rfl) h1 h2 e4 ?_
  obtain ⟨v6, e7, h⟩ := zlet_ex h
  refine r_iinc (v := v6) (lv' := [some (zP l0), some (zI v6), none, none, none, none]) C (z_d dd_Share_number 21 rfl) rfl (Nat.le_of_ble_eq_true rfl) (by rw [e7]; rfl) rfl ?_
  refine r_goto C 2 (z_d dd_Share_number 22 rfl) (by decide) ?_
  exact hk2 l0 v6 M3 h
def f_Share_number_2 (O : zO) : Nat → Nat → Int32 → zM → Option (Unit × zM)
  | 0, _, _, _ => none
  | n + 1, l0, l1, M =>
    if z_k M l0 = 11 then
    if (z_i M l0 1) < l1 then
    zlet ((1 : Int32) <<< ((z_i M l0 7) &&& 31)) fun v2 =>
    f_Share_number_50 O n l0 v2 (0 : Int32) M
    else
    if z_k M (z_p M l0 2) = 100 then
    if zin l1 (z_n M (z_p M l0 2)) = true then
    if 0 ≤ (z_i M (z_p M l0 2) l1.toNatClampNeg) then
    if zin l1 (z_n M (z_p M l0 2)) = true then
    f_Share_number_34 O (f_Share_number_2 O n) n l0 l1 (z_p M l0 3) l1 (z_i M (z_p M l0 2) l1.toNatClampNeg) M
    else none
    else
    f_Share_number_34 O (f_Share_number_2 O n) n l0 l1 (z_p M l0 3) l1 (1 : Int32) M
    else none
    else none
    else none
set_option maxRecDepth 100000 in
set_option maxHeartbeats 4000000 in
theorem s_Share_number_2 {X : zX} {q : Unit × zM} (C : zC X zR10 prog_11_method_13_code 6 { frames := 1, cells := 0, slots := 0, locals := 21 }) (hr : zRt X none) (E : zE X none q.2 0 0) : ∀ (n : Nat) (l0 : Nat) (l1 : Int32) (M : zM), f_Share_number_2 (zOD X) n l0 l1 M = some q → zW X 0 0 2 [some (zP l0), some (zI l1), none, none, none, none] [] M := by
  intro n
  induction n with
  | zero => intro l0 l1 M h; rw [f_Share_number_2] at h; cases h
  | succ n ih =>
    intro l0 l1 M h
    rw [f_Share_number_2] at h
    refine r_iload_n C (z_d dd_Share_number 2 rfl) rfl ?_
    refine r_aload_n C (z_d dd_Share_number 3 rfl) rfl ?_
    obtain ⟨h1, h⟩ := zif h
    refine r_getI C (z_d dd_Share_number 4 rfl) lk_Share_15 rfl h1 rfl ?_
    refine r_icmp_gt C 41 (z_d dd_Share_number 5 rfl) (by decide) (fun c8 => ?_) (fun c8 => ?_)
    · have h := zift h c8
      refine r_iconst (v := (1 : Int32)) C (z_d dd_Share_number 23 rfl) (by decide) ?_
      refine r_aload_n C (z_d dd_Share_number 24 rfl) rfl ?_
      refine r_getI C (z_d dd_Share_number 25 rfl) lk_Share_34 rfl h1 rfl ?_
      refine r_ishl C (z_d dd_Share_number 26 rfl) ?_
      obtain ⟨v2, e3, h⟩ := zlet_ex h
      refine r_nmI e3 ?_
      refine r_istore_n (lv' := [some (zP l0), some (zI v2), none, none, none, none]) C (z_d dd_Share_number 27 rfl) (Nat.le_of_ble_eq_true rfl) rfl ?_
      refine r_iconst (v := (0 : Int32)) C (z_d dd_Share_number 28 rfl) (by decide) ?_
      refine r_istore_n (lv' := [some (zP l0), some (zI v2), some (zI (0 : Int32)), none, none, none]) C (z_d dd_Share_number 29 rfl) (Nat.le_of_ble_eq_true rfl) rfl ?_
      exact s_Share_number_50 C hr E n l0 v2 (0 : Int32) M h
    · have h := ziff h c8
      refine r_aload_n C (z_d dd_Share_number 6 rfl) rfl ?_
      refine r_getP C (z_d dd_Share_number 7 rfl) lk_Share_22 rfl h1 rfl ?_
      refine r_iload_n C (z_d dd_Share_number 8 rfl) rfl ?_
      refine r_aload_n C (z_d dd_Share_number 9 rfl) rfl ?_
      refine r_getP C (z_d dd_Share_number 10 rfl) lk_Share_18 rfl h1 rfl ?_
      refine r_iload_n C (z_d dd_Share_number 11 rfl) rfl ?_
      obtain ⟨h4, h⟩ := zif h
      obtain ⟨h5, h⟩ := zif h
      refine r_iald C (z_d dd_Share_number 12 rfl) h4 h5 rfl ?_
      refine r_if_ge C 28 (z_d dd_Share_number 13 rfl) (by decide) (fun c7 => ?_) (fun c7 => ?_)
      · have h := zift h c7
        refine r_aload_n C (z_d dd_Share_number 16 rfl) rfl ?_
        refine r_getP C (z_d dd_Share_number 17 rfl) lk_Share_18 rfl h1 rfl ?_
        refine r_iload_n C (z_d dd_Share_number 18 rfl) rfl ?_
        obtain ⟨h6, h⟩ := zif h
        refine r_iald C (z_d dd_Share_number 19 rfl) h4 h6 rfl ?_
        exact s_Share_number_34 C hr E ih n l0 l1 (z_p M l0 3) l1 (z_i M (z_p M l0 2) l1.toNatClampNeg) M h
      · have h := ziff h c7
        refine r_iconst (v := (1 : Int32)) C (z_d dd_Share_number 14 rfl) (by decide) ?_
        refine r_goto C 34 (z_d dd_Share_number 15 rfl) (by decide) ?_
        exact s_Share_number_34 C hr E ih n l0 l1 (z_p M l0 3) l1 (1 : Int32) M h
def f_Share_number_0 (O : zO) (n : Nat) (l0 : Nat) (M : zM) : Option (Unit × zM) :=
  f_Share_number_2 O n l0 (0 : Int32) M
set_option maxRecDepth 100000 in
set_option maxHeartbeats 4000000 in
theorem s_Share_number_0 {X : zX} {q : Unit × zM} (C : zC X zR10 prog_11_method_13_code 6 { frames := 1, cells := 0, slots := 0, locals := 21 }) (hr : zRt X none) (E : zE X none q.2 0 0) : ∀ (n : Nat) (l0 : Nat) (M : zM), f_Share_number_0 (zOD X) n l0 M = some q → zW X 0 0 0 [some (zP l0), none, none, none, none, none] [] M := by
  intro n l0 M h
  rw [f_Share_number_0] at h
  refine r_iconst (v := (0 : Int32)) C (z_d dd_Share_number 0 rfl) (by decide) ?_
  refine r_istore_n (lv' := [some (zP l0), some (zI (0 : Int32)), none, none, none, none]) C (z_d dd_Share_number 1 rfl) (Nat.le_of_ble_eq_true rfl) rfl ?_
  exact s_Share_number_2 C hr E n l0 (0 : Int32) M h
def F_Share_number (O : zO) (n : Nat) (l0 : Nat) (M : zM) : Option (Unit × zM) := f_Share_number_0 O n l0 M
theorem S_Share_number {l : Launch} {D : zD} {n : Nat} {l0 : Nat} {M : zM} {q : Unit × zM} (h : F_Share_number D.2.2.2.2 n l0 M = some q) : zMet l D mi_Share_number [zP l0] M none q.2 :=
  z_met (by decide) (Nat.le_of_ble_eq_true rfl) (fun X C E hr hin hD hl => by
    subst hD
    exact s_Share_number_0 C hr E n l0 M h)
