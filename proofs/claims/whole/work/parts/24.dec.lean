def f_Dict_takeFrom_27 (O : zO) (n : Nat) (l0 : Nat) (l1 : Nat) (M : zM) : Option (Int32 × zM) :=
  if z_k M l0 = 4 then
  zlet (w_j M l0 2 (0 : Int64)) fun M2 =>
  zlet (w_i M2 l0 3 (0 : Int32)) fun M5 =>
  (F_Dict_takeContent O n l0 l1 (0 : Int32) M5).bind fun q8 =>
  some (q8.1, q8.2)
  else none
set_option maxRecDepth 100000 in
set_option maxHeartbeats 4000000 in
theorem s_Dict_takeFrom_27 {X : zX} {q : Int32 × zM} (C : zC X zR3 prog_4_method_3_code 2 { frames := 6, cells := 0, slots := 0, locals := 148 }) (hr : zRt X (some .int)) (E : zE X (some (zI q.1)) q.2 0 0) : ∀ (n : Nat) (l0 : Nat) (l1 : Nat) (M : zM), f_Dict_takeFrom_27 (zOD X) n l0 l1 M = some q → zW X 0 0 27 [some (zP l0), some (zP l1)] [] M := by
  intro n l0 l1 M h
  rw [f_Dict_takeFrom_27] at h
  refine r_aload_n C (z_d dd_Dict_takeFrom 15 rfl) rfl ?_
  refine r_lconst (v := (0 : Int64)) C (z_d dd_Dict_takeFrom 16 rfl) (by decide) ?_
  obtain ⟨h1, h⟩ := zif h
  obtain ⟨M2, e3, h⟩ := zlet_ex h
  have h4 := k_j e3 h1
  refine r_putL C (z_d dd_Dict_takeFrom 17 rfl) lp_Dict_27 rfl h1 e3 ?_
  refine r_aload_n C (z_d dd_Dict_takeFrom 18 rfl) rfl ?_
  refine r_iconst (v := (0 : Int32)) C (z_d dd_Dict_takeFrom 19 rfl) (by decide) ?_
  obtain ⟨M5, e6, h⟩ := zlet_ex h
  have h7 := k_i e6 h4
  refine r_putZ C (z_d dd_Dict_takeFrom 20 rfl) lp_Dict_31 rfl (by decide) h4 e6 ?_
  refine r_aload_n C (z_d dd_Dict_takeFrom 21 rfl) rfl ?_
  refine r_aload_n C (z_d dd_Dict_takeFrom 22 rfl) rfl ?_
  refine r_iconst (v := (0 : Int32)) C (z_d dd_Dict_takeFrom 23 rfl) (by decide) ?_
  obtain ⟨q8, c9, h⟩ := zbd h
  refine r_invV (as := [zP l1, zI (0 : Int32)]) C 3 (S_Dict_takeContent c9) (z_d dd_Dict_takeFrom 24 rfl) ok_Dict_takeContent iv_Dict_takeContent se_Dict_takeContent ml_Dict_81 rfl rfl h7 rfl rfl rfl (Nat.le_of_ble_eq_true rfl) ⟨(Nat.le_of_ble_eq_true rfl), (Nat.le_of_ble_eq_true rfl)⟩ ⟨(Nat.le_of_ble_eq_true rfl), (Nat.le_of_ble_eq_true rfl)⟩ ?_
  obtain rfl := z_res h
  exact r_iretI C E hr (z_d dd_Dict_takeFrom 25 rfl) (Nat.le_of_ble_eq_true rfl) (Nat.le_of_ble_eq_true rfl)
def f_Dict_takeFrom_0 (O : zO) (n : Nat) (l0 : Nat) (l1 : Nat) (M : zM) : Option (Int32 × zM) :=
  if z_k M l1 = 9 then
  if (z_i M l1 1) < (4 : Int32) then
  f_Dict_takeFrom_27 O n l0 l1 M
  else
  (F_Row_number O n l1 (0 : Int32) (4 : Int32) M).bind fun q2 =>
  if (lg_cmp q2.1 (3962610743 : Int64)) = 0 then
  if z_k q2.2 l0 = 4 then
  (F_Dict_takeTold O n l0 l1 q2.2).bind fun q5 =>
  some (q5.1, q5.2)
  else none
  else
  f_Dict_takeFrom_27 O n l0 l1 q2.2
  else none
set_option maxRecDepth 100000 in
set_option maxHeartbeats 4000000 in
theorem s_Dict_takeFrom_0 {X : zX} {q : Int32 × zM} (C : zC X zR3 prog_4_method_3_code 2 { frames := 6, cells := 0, slots := 0, locals := 148 }) (hr : zRt X (some .int)) (E : zE X (some (zI q.1)) q.2 0 0) : ∀ (n : Nat) (l0 : Nat) (l1 : Nat) (M : zM), f_Dict_takeFrom_0 (zOD X) n l0 l1 M = some q → zW X 0 0 0 [some (zP l0), some (zP l1)] [] M := by
  intro n l0 l1 M h
  rw [f_Dict_takeFrom_0] at h
  refine r_aload_n C (z_d dd_Dict_takeFrom 0 rfl) rfl ?_
  obtain ⟨h1, h⟩ := zif h
  refine r_getI C (z_d dd_Dict_takeFrom 1 rfl) lk_Dict_67 rfl h1 rfl ?_
  refine r_iconst (v := (4 : Int32)) C (z_d dd_Dict_takeFrom 2 rfl) (by decide) ?_
  refine r_icmp_lt C 27 (z_d dd_Dict_takeFrom 3 rfl) (by decide) (fun c8 => ?_) (fun c8 => ?_)
  · have h := zift h c8
    exact s_Dict_takeFrom_27 C hr E n l0 l1 M h
  · have h := ziff h c8
    refine r_aload_n C (z_d dd_Dict_takeFrom 4 rfl) rfl ?_
    refine r_iconst (v := (0 : Int32)) C (z_d dd_Dict_takeFrom 5 rfl) (by decide) ?_
    refine r_iconst (v := (4 : Int32)) C (z_d dd_Dict_takeFrom 6 rfl) (by decide) ?_
    obtain ⟨q2, c3, h⟩ := zbd h
    refine r_invV (as := [zI (0 : Int32), zI (4 : Int32)]) C 8 (S_Row_number c3) (z_d dd_Dict_takeFrom 7 rfl) ok_Row_number iv_Row_number se_Row_number ml_Dict_71 rfl rfl h1 rfl rfl rfl (Nat.le_of_ble_eq_true rfl) ⟨(Nat.le_of_ble_eq_true rfl), (Nat.le_of_ble_eq_true rfl)⟩ ⟨(Nat.le_of_ble_eq_true rfl), (Nat.le_of_ble_eq_true rfl)⟩ ?_
    refine r_ldc2 (v := (3962610743 : Int64)) C (z_d dd_Dict_takeFrom 8 rfl) kl_Dict_75 ?_
    refine r_lcmp C (z_d dd_Dict_takeFrom 9 rfl) ?_
    refine r_if_ne C 27 (z_d dd_Dict_takeFrom 10 rfl) (by decide) (fun c7 => ?_) (fun c7 => ?_)
    · have h := ziff h c7
      exact s_Dict_takeFrom_27 C hr E n l0 l1 q2.2 h
    · have h := zift h c7
      refine r_aload_n C (z_d dd_Dict_takeFrom 11 rfl) rfl ?_
      refine r_aload_n C (z_d dd_Dict_takeFrom 12 rfl) rfl ?_
      obtain ⟨h4, h⟩ := zif h
      obtain ⟨q5, c6, h⟩ := zbd h
      refine r_invV (as := [zP l1]) C 3 (S_Dict_takeTold c6) (z_d dd_Dict_takeFrom 13 rfl) ok_Dict_takeTold iv_Dict_takeTold se_Dict_takeTold ml_Dict_77 rfl rfl h4 rfl rfl rfl (Nat.le_of_ble_eq_true rfl) ⟨(Nat.le_of_ble_eq_true rfl), (Nat.le_of_ble_eq_true rfl)⟩ ⟨(Nat.le_of_ble_eq_true rfl), (Nat.le_of_ble_eq_true rfl)⟩ ?_
      obtain rfl := z_res h
      exact r_iretI C E hr (z_d dd_Dict_takeFrom 14 rfl) (Nat.le_of_ble_eq_true rfl) (Nat.le_of_ble_eq_true rfl)
def F_Dict_takeFrom (O : zO) (n : Nat) (l0 : Nat) (l1 : Nat) (M : zM) : Option (Int32 × zM) := f_Dict_takeFrom_0 O n l0 l1 M
theorem S_Dict_takeFrom {l : Launch} {D : zD} {n : Nat} {l0 : Nat} {l1 : Nat} {M : zM} {q : Int32 × zM} (h : F_Dict_takeFrom D.2.2.2.2 n l0 l1 M = some q) : zMet l D mi_Dict_takeFrom [zP l0, zP l1] M (some (zI q.1)) q.2 :=
  z_met (by decide) (Nat.le_of_ble_eq_true rfl) (fun X C E hr hin hD hl => by
    subst hD
    exact s_Dict_takeFrom_0 C hr E n l0 l1 M h)

def f_SF_learn_23 (O : zO) (n : Nat) (l1 : Int32) (M : zM) : Option (Int32 × zM) :=
  some (l1, M)
set_option maxRecDepth 100000 in
set_option maxHeartbeats 4000000 in
theorem s_SF_learn_23 {X : zX} {q : Int32 × zM} (C : zC X zR0 prog_1_method_5_code 2 { frames := 7, cells := 0, slots := 0, locals := 169 }) (hr : zRt X (some .int)) (E : zE X (some (zI q.1)) q.2 0 0) : ∀ (n : Nat) (l1 : Int32) (M : zM), f_SF_learn_23 (zOD X) n l1 M = some q → zW X 0 0 23 [none, some (zI l1)] [] M := by
  intro n l1 M h
  rw [f_SF_learn_23] at h
  refine r_iload_n C (z_d dd_SF_learn 11 rfl) rfl ?_
  obtain rfl := z_res h
  exact r_iretI C E hr (z_d dd_SF_learn 12 rfl) (Nat.le_of_ble_eq_true rfl) (Nat.le_of_ble_eq_true rfl)
def f_SF_learn_0 (O : zO) (n : Nat) (l0 : Nat) (M : zM) : Option (Int32 × zM) :=
  if z_k M l0 = 1 then
  if z_k M (z_p M l0 2) = 4 then
  (F_Dict_takeFrom O n (z_p M l0 2) (z_p M l0 0) M).bind fun q3 =>
  if q3.1 < 0 then
  f_SF_learn_23 O n q3.1 q3.2
  else
  if z_k q3.2 l0 = 1 then
  if z_k q3.2 (z_p q3.2 l0 0) = 9 then
  (F_Row_empty O n (z_p q3.2 l0 0) q3.2).bind fun q7 =>
  f_SF_learn_23 O n q3.1 q7.2
  else none
  else none
  else none
  else none
set_option maxRecDepth 100000 in
set_option maxHeartbeats 4000000 in
theorem s_SF_learn_0 {X : zX} {q : Int32 × zM} (C : zC X zR0 prog_1_method_5_code 2 { frames := 7, cells := 0, slots := 0, locals := 169 }) (hr : zRt X (some .int)) (E : zE X (some (zI q.1)) q.2 0 0) : ∀ (n : Nat) (l0 : Nat) (M : zM), f_SF_learn_0 (zOD X) n l0 M = some q → zW X 0 0 0 [some (zP l0), none] [] M := by
  intro n l0 M h
  rw [f_SF_learn_0] at h
  refine r_aload_n C (z_d dd_SF_learn 0 rfl) rfl ?_
  obtain ⟨h1, h⟩ := zif h
  refine r_getP C (z_d dd_SF_learn 1 rfl) lk_SF_25 rfl h1 rfl ?_
  refine r_aload_n C (z_d dd_SF_learn 2 rfl) rfl ?_
  refine r_getP C (z_d dd_SF_learn 3 rfl) lk_SF_14 rfl h1 rfl ?_
  obtain ⟨h2, h⟩ := zif h
  obtain ⟨q3, c4, h⟩ := zbd h
  refine r_invV (as := [zP (z_p M l0 0)]) C 3 (S_Dict_takeFrom c4) (z_d dd_SF_learn 4 rfl) ok_Dict_takeFrom iv_Dict_takeFrom se_Dict_takeFrom ml_SF_74 rfl rfl h2 rfl rfl rfl (Nat.le_of_ble_eq_true rfl) ⟨(Nat.le_of_ble_eq_true rfl), (Nat.le_of_ble_eq_true rfl)⟩ ⟨(Nat.le_of_ble_eq_true rfl), (Nat.le_of_ble_eq_true rfl)⟩ ?_
  refine r_istore_n (lv' := [some (zP l0), some (zI q3.1)]) C (z_d dd_SF_learn 5 rfl) (Nat.le_of_ble_eq_true rfl) rfl ?_
  refine r_iload_n C (z_d dd_SF_learn 6 rfl) rfl ?_
  refine r_if_lt C 23 (z_d dd_SF_learn 7 rfl) (by decide) (fun c9 => ?_) (fun c9 => ?_)
  · have h := zift h c9
    refine r_mk [false, true] ?_
    exact s_SF_learn_23 C hr E n q3.1 q3.2 h
  · have h := ziff h c9
    refine r_aload_n C (z_d dd_SF_learn 8 rfl) rfl ?_
    obtain ⟨h5, h⟩ := zif h
    refine r_getP C (z_d dd_SF_learn 9 rfl) lk_SF_14 rfl h5 rfl ?_
    obtain ⟨h6, h⟩ := zif h
    obtain ⟨q7, c8, h⟩ := zbd h
    refine r_invV (as := []) C 8 (S_Row_empty c8) (z_d dd_SF_learn 10 rfl) ok_Row_empty iv_Row_empty se_Row_empty ml_SF_71 rfl rfl h6 rfl rfl rfl (Nat.le_of_ble_eq_true rfl) ⟨(Nat.le_of_ble_eq_true rfl), (Nat.le_of_ble_eq_true rfl)⟩ ⟨(Nat.le_of_ble_eq_true rfl), (Nat.le_of_ble_eq_true rfl)⟩ ?_
    refine r_mk [false, true] ?_
    exact s_SF_learn_23 C hr E n q3.1 q7.2 h
def F_SF_learn (O : zO) (n : Nat) (l0 : Nat) (M : zM) : Option (Int32 × zM) := f_SF_learn_0 O n l0 M
theorem S_SF_learn {l : Launch} {D : zD} {n : Nat} {l0 : Nat} {M : zM} {q : Int32 × zM} (h : F_SF_learn D.2.2.2.2 n l0 M = some q) : zMet l D mi_SF_learn [zP l0] M (some (zI q.1)) q.2 :=
  z_met (by decide) (Nat.le_of_ble_eq_true rfl) (fun X C E hr hin hD hl => by
    subst hD
    exact s_SF_learn_0 C hr E n l0 M h)

def f_Dict_drop_0 (O : zO) (n : Nat) (l0 : Nat) (M : zM) : Option (Unit × zM) :=
  if z_k M l0 = 4 then
  if z_k M (z_p M l0 0) = 9 then
  (F_Row_empty O n (z_p M l0 0) M).bind fun q3 =>
  if z_k q3.2 l0 = 4 then
  zlet (w_j q3.2 l0 2 (0 : Int64)) fun M6 =>
  zlet (w_i M6 l0 3 (0 : Int32)) fun M9 =>
  some ((), M9)
  else none
  else none
  else none
set_option maxRecDepth 100000 in
set_option maxHeartbeats 4000000 in
theorem s_Dict_drop_0 {X : zX} {q : Unit × zM} (C : zC X zR3 prog_4_method_2_code 1 { frames := 1, cells := 0, slots := 0, locals := 20 }) (hr : zRt X none) (E : zE X none q.2 0 0) : ∀ (n : Nat) (l0 : Nat) (M : zM), f_Dict_drop_0 (zOD X) n l0 M = some q → zW X 0 0 0 [some (zP l0)] [] M := by
  intro n l0 M h
  rw [f_Dict_drop_0] at h
  refine r_aload_n C (z_d dd_Dict_drop 0 rfl) rfl ?_
  obtain ⟨h1, h⟩ := zif h
  refine r_getP C (z_d dd_Dict_drop 1 rfl) lk_Dict_14 rfl h1 rfl ?_
  obtain ⟨h2, h⟩ := zif h
  obtain ⟨q3, c4, h⟩ := zbd h
  refine r_invV (as := []) C 8 (S_Row_empty c4) (z_d dd_Dict_drop 2 rfl) ok_Row_empty iv_Row_empty se_Row_empty ml_Dict_64 rfl rfl h2 rfl rfl rfl (Nat.le_of_ble_eq_true rfl) ⟨(Nat.le_of_ble_eq_true rfl), (Nat.le_of_ble_eq_true rfl)⟩ ⟨(Nat.le_of_ble_eq_true rfl), (Nat.le_of_ble_eq_true rfl)⟩ ?_
  refine r_aload_n C (z_d dd_Dict_drop 3 rfl) rfl ?_
  refine r_lconst (v := (0 : Int64)) C (z_d dd_Dict_drop 4 rfl) (by decide) ?_
  obtain ⟨h5, h⟩ := zif h
  obtain ⟨M6, e7, h⟩ := zlet_ex h
  have h8 := k_j e7 h5
  refine r_putL C (z_d dd_Dict_drop 5 rfl) lp_Dict_27 rfl h5 e7 ?_
  refine r_aload_n C (z_d dd_Dict_drop 6 rfl) rfl ?_
  refine r_iconst (v := (0 : Int32)) C (z_d dd_Dict_drop 7 rfl) (by decide) ?_
  obtain ⟨M9, e10, h⟩ := zlet_ex h
  have h11 := k_i e10 h8
  refine r_putZ C (z_d dd_Dict_drop 8 rfl) lp_Dict_31 rfl (by decide) h8 e10 ?_
  obtain rfl := z_res h
  exact r_vret C E hr (z_d dd_Dict_drop 9 rfl) (Nat.le_of_ble_eq_true rfl) (Nat.le_of_ble_eq_true rfl)
def F_Dict_drop (O : zO) (n : Nat) (l0 : Nat) (M : zM) : Option (Unit × zM) := f_Dict_drop_0 O n l0 M
theorem S_Dict_drop {l : Launch} {D : zD} {n : Nat} {l0 : Nat} {M : zM} {q : Unit × zM} (h : F_Dict_drop D.2.2.2.2 n l0 M = some q) : zMet l D mi_Dict_drop [zP l0] M none q.2 :=
  z_met (by decide) (Nat.le_of_ble_eq_true rfl) (fun X C E hr hin hD hl => by
    subst hD
    exact s_Dict_drop_0 C hr E n l0 M h)

def f_SF_forget_0 (O : zO) (n : Nat) (l0 : Nat) (M : zM) : Option (Unit × zM) :=
  if z_k M l0 = 1 then
  if z_k M (z_p M l0 2) = 4 then
  (F_Dict_drop O n (z_p M l0 2) M).bind fun q3 =>
  some ((), q3.2)
  else none
  else none
set_option maxRecDepth 100000 in
set_option maxHeartbeats 4000000 in
theorem s_SF_forget_0 {X : zX} {q : Unit × zM} (C : zC X zR0 prog_1_method_6_code 1 { frames := 2, cells := 0, slots := 0, locals := 40 }) (hr : zRt X none) (E : zE X none q.2 0 0) : ∀ (n : Nat) (l0 : Nat) (M : zM), f_SF_forget_0 (zOD X) n l0 M = some q → zW X 0 0 0 [some (zP l0)] [] M := by
  intro n l0 M h
  rw [f_SF_forget_0] at h
  refine r_aload_n C (z_d dd_SF_forget 0 rfl) rfl ?_
  obtain ⟨h1, h⟩ := zif h
  refine r_getP C (z_d dd_SF_forget 1 rfl) lk_SF_25 rfl h1 rfl ?_
  obtain ⟨h2, h⟩ := zif h
  obtain ⟨q3, c4, h⟩ := zbd h
  refine r_invV (as := []) C 3 (S_Dict_drop c4) (z_d dd_SF_forget 2 rfl) ok_Dict_drop iv_Dict_drop se_Dict_drop ml_SF_78 rfl rfl h2 rfl rfl rfl (Nat.le_of_ble_eq_true rfl) ⟨(Nat.le_of_ble_eq_true rfl), (Nat.le_of_ble_eq_true rfl)⟩ ⟨(Nat.le_of_ble_eq_true rfl), (Nat.le_of_ble_eq_true rfl)⟩ ?_
  obtain rfl := z_res h
  exact r_vret C E hr (z_d dd_SF_forget 3 rfl) (Nat.le_of_ble_eq_true rfl) (Nat.le_of_ble_eq_true rfl)
def F_SF_forget (O : zO) (n : Nat) (l0 : Nat) (M : zM) : Option (Unit × zM) := f_SF_forget_0 O n l0 M
theorem S_SF_forget {l : Launch} {D : zD} {n : Nat} {l0 : Nat} {M : zM} {q : Unit × zM} (h : F_SF_forget D.2.2.2.2 n l0 M = some q) : zMet l D mi_SF_forget [zP l0] M none q.2 :=
  z_met (by decide) (Nat.le_of_ble_eq_true rfl) (fun X C E hr hin hD hl => by
    subst hD
    exact s_SF_forget_0 C hr E n l0 M h)

def f_Rep_start_0 (O : zO) (n : Nat) (l0 : Nat) (M : zM) : Option (Unit × zM) :=
  if z_k M l0 = 8 then
  zlet (w_i M l0 0 (0 : Int32)) fun M2 =>
  zlet (w_i M2 l0 1 (0 : Int32)) fun M5 =>
  zlet (w_i M5 l0 2 (0 : Int32)) fun M8 =>
  zlet (w_i M8 l0 3 (0 : Int32)) fun M11 =>
  zlet (w_i M11 l0 4 (0 : Int32)) fun M14 =>
  zlet (w_i M14 l0 5 (0 : Int32)) fun M17 =>
  some ((), M17)
  else none
set_option maxRecDepth 100000 in
set_option maxHeartbeats 4000000 in
theorem s_Rep_start_0 {X : zX} {q : Unit × zM} (C : zC X zR7 prog_8_method_2_code 1 { frames := 0, cells := 0, slots := 0, locals := 0 }) (hr : zRt X none) (E : zE X none q.2 0 0) : ∀ (n : Nat) (l0 : Nat) (M : zM), f_Rep_start_0 (zOD X) n l0 M = some q → zW X 0 0 0 [some (zP l0)] [] M := by
  intro n l0 M h
  rw [f_Rep_start_0] at h
  refine r_aload_n C (z_d dd_Rep_start 0 rfl) rfl ?_
  refine r_iconst (v := (0 : Int32)) C (z_d dd_Rep_start 1 rfl) (by decide) ?_
  obtain ⟨h1, h⟩ := zif h
  obtain ⟨M2, e3, h⟩ := zlet_ex h
  have h4 := k_i e3 h1
  refine r_putI C (z_d dd_Rep_start 2 rfl) lp_Rep_7 rfl h1 e3 ?_
  refine r_aload_n C (z_d dd_Rep_start 3 rfl) rfl ?_
  refine r_iconst (v := (0 : Int32)) C (z_d dd_Rep_start 4 rfl) (by decide) ?_
  obtain ⟨M5, e6, h⟩ := zlet_ex h
  have h7 := k_i e6 h4
  refine r_putI C (z_d dd_Rep_start 5 rfl) lp_Rep_13 rfl h4 e6 ?_
  refine r_aload_n C (z_d dd_Rep_start 6 rfl) rfl ?_
  refine r_iconst (v := (0 : Int32)) C (z_d dd_Rep_start 7 rfl) (by decide) ?_
  obtain ⟨M8, e9, h⟩ := zlet_ex h
  have h10 := k_i e9 h7
  refine r_putI C (z_d dd_Rep_start 8 rfl) lp_Rep_16 rfl h7 e9 ?_
  refine r_aload_n C (z_d dd_Rep_start 9 rfl) rfl ?_
  refine r_iconst (v := (0 : Int32)) C (z_d dd_Rep_start 10 rfl) (by decide) ?_
  obtain ⟨M11, e12, h⟩ := zlet_ex h
  have h13 := k_i e12 h10
  refine r_putI C (z_d dd_Rep_start 11 rfl) lp_Rep_19 rfl h10 e12 ?_
  refine r_aload_n C (z_d dd_Rep_start 12 rfl) rfl ?_
  refine r_iconst (v := (0 : Int32)) C (z_d dd_Rep_start 13 rfl) (by decide) ?_
  obtain ⟨M14, e15, h⟩ := zlet_ex h
  have h16 := k_i e15 h13
  refine r_putI C (z_d dd_Rep_start 14 rfl) lp_Rep_22 rfl h13 e15 ?_
  refine r_aload_n C (z_d dd_Rep_start 15 rfl) rfl ?_
  refine r_iconst (v := (0 : Int32)) C (z_d dd_Rep_start 16 rfl) (by decide) ?_
  obtain ⟨M17, e18, h⟩ := zlet_ex h
  have h19 := k_i e18 h16
  refine r_putI C (z_d dd_Rep_start 17 rfl) lp_Rep_25 rfl h16 e18 ?_
  obtain rfl := z_res h
  exact r_vret C E hr (z_d dd_Rep_start 18 rfl) (Nat.le_of_ble_eq_true rfl) (Nat.le_of_ble_eq_true rfl)
def F_Rep_start (O : zO) (n : Nat) (l0 : Nat) (M : zM) : Option (Unit × zM) := f_Rep_start_0 O n l0 M
theorem S_Rep_start {l : Launch} {D : zD} {n : Nat} {l0 : Nat} {M : zM} {q : Unit × zM} (h : F_Rep_start D.2.2.2.2 n l0 M = some q) : zMet l D mi_Rep_start [zP l0] M none q.2 :=
  z_met (by decide) (Nat.le_of_ble_eq_true rfl) (fun X C E hr hin hD hl => by
    subst hD
    exact s_Rep_start_0 C hr E n l0 M h)

def f_Content_start_0 (O : zO) (n : Nat) (l0 : Nat) (l1 : Int32) (M : zM) : Option (Unit × zM) :=
  if z_k M l0 = 3 then
  if z_k M (z_p M l0 0) = 9 then
  (F_Row_empty O n (z_p M l0 0) M).bind fun q3 =>
  if z_k q3.2 l0 = 3 then
  zlet (w_i q3.2 l0 2 l1) fun M6 =>
  some ((), M6)
  else none
  else none
  else none
set_option maxRecDepth 100000 in
set_option maxHeartbeats 4000000 in
theorem s_Content_start_0 {X : zX} {q : Unit × zM} (C : zC X zR2 prog_3_method_2_code 2 { frames := 1, cells := 0, slots := 0, locals := 20 }) (hr : zRt X none) (E : zE X none q.2 0 0) : ∀ (n : Nat) (l0 : Nat) (l1 : Int32) (M : zM), f_Content_start_0 (zOD X) n l0 l1 M = some q → zW X 0 0 0 [some (zP l0), some (zI l1)] [] M := by
  intro n l0 l1 M h
  rw [f_Content_start_0] at h
  refine r_aload_n C (z_d dd_Content_start 0 rfl) rfl ?_
  obtain ⟨h1, h⟩ := zif h
  refine r_getP C (z_d dd_Content_start 1 rfl) lk_Content_15 rfl h1 rfl ?_
  obtain ⟨h2, h⟩ := zif h
  obtain ⟨q3, c4, h⟩ := zbd h
  refine r_invV (as := []) C 8 (S_Row_empty c4) (z_d dd_Content_start 2 rfl) ok_Row_empty iv_Row_empty se_Row_empty ml_Content_38 rfl rfl h2 rfl rfl rfl (Nat.le_of_ble_eq_true rfl) ⟨(Nat.le_of_ble_eq_true rfl), (Nat.le_of_ble_eq_true rfl)⟩ ⟨(Nat.le_of_ble_eq_true rfl), (Nat.le_of_ble_eq_true rfl)⟩ ?_
  refine r_aload_n C (z_d dd_Content_start 3 rfl) rfl ?_
  refine r_iload_n C (z_d dd_Content_start 4 rfl) rfl ?_
  obtain ⟨h5, h⟩ := zif h
  obtain ⟨M6, e7, h⟩ := zlet_ex h
  have h8 := k_i e7 h5
  refine r_putI C (z_d dd_Content_start 5 rfl) lp_Content_24 rfl h5 e7 ?_
  obtain rfl := z_res h
  exact r_vret C E hr (z_d dd_Content_start 6 rfl) (Nat.le_of_ble_eq_true rfl) (Nat.le_of_ble_eq_true rfl)
def F_Content_start (O : zO) (n : Nat) (l0 : Nat) (l1 : Int32) (M : zM) : Option (Unit × zM) := f_Content_start_0 O n l0 l1 M
theorem S_Content_start {l : Launch} {D : zD} {n : Nat} {l0 : Nat} {l1 : Int32} {M : zM} {q : Unit × zM} (h : F_Content_start D.2.2.2.2 n l0 l1 M = some q) : zMet l D mi_Content_start [zP l0, zI l1] M none q.2 :=
  z_met (by decide) (Nat.le_of_ble_eq_true rfl) (fun X C E hr hin hD hl => by
    subst hD
    exact s_Content_start_0 C hr E n l0 l1 M h)

def f_FR_start_0 (O : zO) (n : Nat) (l0 : Nat) (l1 : Int32) (M : zM) : Option (Unit × zM) :=
  if z_k M l0 = 5 then
  if z_k M (z_p M l0 2) = 8 then
  (F_Rep_start O n (z_p M l0 2) M).bind fun q3 =>
  if z_k q3.2 l0 = 5 then
  if z_k q3.2 (z_p q3.2 l0 3) = 3 then
  (F_Content_start O n (z_p q3.2 l0 3) l1 q3.2).bind fun q7 =>
  if z_k q7.2 l0 = 5 then
  zlet (w_i q7.2 l0 6 (0 : Int32)) fun M10 =>
  zlet (w_i M10 l0 7 (0 : Int32)) fun M13 =>
  some ((), M13)
  else none
  else none
  else none
  else none
  else none
set_option maxRecDepth 100000 in
set_option maxHeartbeats 4000000 in
theorem s_FR_start_0 {X : zX} {q : Unit × zM} (C : zC X zR4 prog_5_method_2_code 2 { frames := 2, cells := 0, slots := 0, locals := 41 }) (hr : zRt X none) (E : zE X none q.2 0 0) : ∀ (n : Nat) (l0 : Nat) (l1 : Int32) (M : zM), f_FR_start_0 (zOD X) n l0 l1 M = some q → zW X 0 0 0 [some (zP l0), some (zI l1)] [] M := by
  intro n l0 l1 M h
  rw [f_FR_start_0] at h
  refine r_aload_n C (z_d dd_FR_start 0 rfl) rfl ?_
  obtain ⟨h1, h⟩ := zif h
  refine r_getP C (z_d dd_FR_start 1 rfl) lk_FR_19 rfl h1 rfl ?_
  obtain ⟨h2, h⟩ := zif h
  obtain ⟨q3, c4, h⟩ := zbd h
  refine r_invV (as := []) C 7 (S_Rep_start c4) (z_d dd_FR_start 2 rfl) ok_Rep_start iv_Rep_start se_Rep_start ml_FR_66 rfl rfl h2 rfl rfl rfl (Nat.le_of_ble_eq_true rfl) ⟨(Nat.le_of_ble_eq_true rfl), (Nat.le_of_ble_eq_true rfl)⟩ ⟨(Nat.le_of_ble_eq_true rfl), (Nat.le_of_ble_eq_true rfl)⟩ ?_
  refine r_aload_n C (z_d dd_FR_start 3 rfl) rfl ?_
  obtain ⟨h5, h⟩ := zif h
  refine r_getP C (z_d dd_FR_start 4 rfl) lk_FR_23 rfl h5 rfl ?_
  refine r_iload_n C (z_d dd_FR_start 5 rfl) rfl ?_
  obtain ⟨h6, h⟩ := zif h
  obtain ⟨q7, c8, h⟩ := zbd h
  refine r_invV (as := [zI l1]) C 2 (S_Content_start c8) (z_d dd_FR_start 6 rfl) ok_Content_start iv_Content_start se_Content_start ml_FR_71 rfl rfl h6 rfl rfl rfl (Nat.le_of_ble_eq_true rfl) ⟨(Nat.le_of_ble_eq_true rfl), (Nat.le_of_ble_eq_true rfl)⟩ ⟨(Nat.le_of_ble_eq_true rfl), (Nat.le_of_ble_eq_true rfl)⟩ ?_
  refine r_aload_n C (z_d dd_FR_start 7 rfl) rfl ?_
  refine r_iconst (v := (0 : Int32)) C (z_d dd_FR_start 8 rfl) (by decide) ?_
  obtain ⟨h9, h⟩ := zif h
  obtain ⟨M10, e11, h⟩ := zlet_ex h
  have h12 := k_i e11 h9
  refine r_putI C (z_d dd_FR_start 9 rfl) lp_FR_45 rfl h9 e11 ?_
  refine r_aload_n C (z_d dd_FR_start 10 rfl) rfl ?_
  refine r_iconst (v := (0 : Int32)) C (z_d dd_FR_start 11 rfl) (by decide) ?_
  obtain ⟨M13, e14, h⟩ := zlet_ex h
  have h15 := k_i e14 h12
  refine r_putZ C (z_d dd_FR_start 12 rfl) lp_FR_49 rfl (by decide) h12 e14 ?_
  obtain rfl := z_res h
  exact r_vret C E hr (z_d dd_FR_start 13 rfl) (Nat.le_of_ble_eq_true rfl) (Nat.le_of_ble_eq_true rfl)
def F_FR_start (O : zO) (n : Nat) (l0 : Nat) (l1 : Int32) (M : zM) : Option (Unit × zM) := f_FR_start_0 O n l0 l1 M
theorem S_FR_start {l : Launch} {D : zD} {n : Nat} {l0 : Nat} {l1 : Int32} {M : zM} {q : Unit × zM} (h : F_FR_start D.2.2.2.2 n l0 l1 M = some q) : zMet l D mi_FR_start [zP l0, zI l1] M none q.2 :=
  z_met (by decide) (Nat.le_of_ble_eq_true rfl) (fun X C E hr hin hD hl => by
    subst hD
    exact s_FR_start_0 C hr E n l0 l1 M h)

def f_FR_goesOn_36 (O : zO) (n : Nat) (s0 : Int32) (M : zM) : Option (Int32 × zM) :=
  if s0 = 0 ∨ s0 = 1 then
  some (s0, M)
  else none
set_option maxRecDepth 100000 in
set_option maxHeartbeats 4000000 in
theorem s_FR_goesOn_36 {X : zX} {q : Int32 × zM} (C : zC X zR4 prog_5_method_3_code 1 { frames := 0, cells := 0, slots := 0, locals := 0 }) (hr : zRt X (some .boolean)) (E : zE X (some (zI q.1)) q.2 0 0) : ∀ (n : Nat) (s0 : Int32) (M : zM), f_FR_goesOn_36 (zOD X) n s0 M = some q → zW X 0 0 36 [none] [zI s0] M := by
  intro n s0 M h
  rw [f_FR_goesOn_36] at h
  obtain ⟨h1, h⟩ := zif h
  obtain rfl := z_res h
  exact r_iretZ C E hr (z_d dd_FR_goesOn 16 rfl) h1 (Nat.le_of_ble_eq_true rfl) (Nat.le_of_ble_eq_true rfl)
def f_FR_goesOn_35 (O : zO) (n : Nat) (M : zM) : Option (Int32 × zM) :=
  f_FR_goesOn_36 O n (0 : Int32) M
set_option maxRecDepth 100000 in
set_option maxHeartbeats 4000000 in
theorem s_FR_goesOn_35 {X : zX} {q : Int32 × zM} (C : zC X zR4 prog_5_method_3_code 1 { frames := 0, cells := 0, slots := 0, locals := 0 }) (hr : zRt X (some .boolean)) (E : zE X (some (zI q.1)) q.2 0 0) : ∀ (n : Nat) (M : zM), f_FR_goesOn_35 (zOD X) n M = some q → zW X 0 0 35 [none] [] M := by
  intro n M h
  rw [f_FR_goesOn_35] at h
  refine r_iconst (v := (0 : Int32)) C (z_d dd_FR_goesOn 15 rfl) (by decide) ?_
  exact s_FR_goesOn_36 C hr E n (0 : Int32) M h
def f_FR_goesOn_31 (O : zO) (n : Nat) (M : zM) : Option (Int32 × zM) :=
  f_FR_goesOn_36 O n (1 : Int32) M
set_option maxRecDepth 100000 in
set_option maxHeartbeats 4000000 in
theorem s_FR_goesOn_31 {X : zX} {q : Int32 × zM} (C : zC X zR4 prog_5_method_3_code 1 { frames := 0, cells := 0, slots := 0, locals := 0 }) (hr : zRt X (some .boolean)) (E : zE X (some (zI q.1)) q.2 0 0) : ∀ (n : Nat) (M : zM), f_FR_goesOn_31 (zOD X) n M = some q → zW X 0 0 31 [none] [] M := by
  intro n M h
  rw [f_FR_goesOn_31] at h
  refine r_iconst (v := (1 : Int32)) C (z_d dd_FR_goesOn 13 rfl) (by decide) ?_
  refine r_goto C 36 (z_d dd_FR_goesOn 14 rfl) (by decide) ?_
  exact s_FR_goesOn_36 C hr E n (1 : Int32) M h
def f_FR_goesOn_0 (O : zO) (n : Nat) (l0 : Nat) (M : zM) : Option (Int32 × zM) :=
  if z_k M l0 = 5 then
  if z_k M (z_p M l0 2) = 8 then
  if (z_i M (z_p M l0 2) 0) = 0 then
  if (z_i M l0 7) = 0 then
  if z_k M (z_p M l0 0) = 9 then
  if (z_i M (z_p M l0 0) 1) ≤ (z_i M l0 6) then
  f_FR_goesOn_35 O n M
  else
  f_FR_goesOn_31 O n M
  else none
  else
  f_FR_goesOn_31 O n M
  else
  f_FR_goesOn_35 O n M
  else none
  else none
set_option maxRecDepth 100000 in
set_option maxHeartbeats 4000000 in
theorem s_FR_goesOn_0 {X : zX} {q : Int32 × zM} (C : zC X zR4 prog_5_method_3_code 1 { frames := 0, cells := 0, slots := 0, locals := 0 }) (hr : zRt X (some .boolean)) (E : zE X (some (zI q.1)) q.2 0 0) : ∀ (n : Nat) (l0 : Nat) (M : zM), f_FR_goesOn_0 (zOD X) n l0 M = some q → zW X 0 0 0 [some (zP l0)] [] M := by
  intro n l0 M h
  rw [f_FR_goesOn_0] at h
  refine r_aload_n C (z_d dd_FR_goesOn 0 rfl) rfl ?_
  obtain ⟨h1, h⟩ := zif h
  refine r_getP C (z_d dd_FR_goesOn 1 rfl) lk_FR_19 rfl h1 rfl ?_
  obtain ⟨h2, h⟩ := zif h
  refine r_getI C (z_d dd_FR_goesOn 2 rfl) lk_FR_76 rfl h2 rfl ?_
  refine r_if_ne C 35 (z_d dd_FR_goesOn 3 rfl) (by decide) (fun c6 => ?_) (fun c6 => ?_)
  · have h := ziff h c6
    refine r_mk [false] ?_
    exact s_FR_goesOn_35 C hr E n M h
  · have h := zift h c6
    refine r_aload_n C (z_d dd_FR_goesOn 4 rfl) rfl ?_
    refine r_getI C (z_d dd_FR_goesOn 5 rfl) lk_FR_49 rfl h1 rfl ?_
    refine r_if_ne C 31 (z_d dd_FR_goesOn 6 rfl) (by decide) (fun c5 => ?_) (fun c5 => ?_)
    · have h := ziff h c5
      refine r_mk [false] ?_
      exact s_FR_goesOn_31 C hr E n M h
    · have h := zift h c5
      refine r_aload_n C (z_d dd_FR_goesOn 7 rfl) rfl ?_
      refine r_getI C (z_d dd_FR_goesOn 8 rfl) lk_FR_45 rfl h1 rfl ?_
      refine r_aload_n C (z_d dd_FR_goesOn 9 rfl) rfl ?_
      refine r_getP C (z_d dd_FR_goesOn 10 rfl) lk_FR_9 rfl h1 rfl ?_
      obtain ⟨h3, h⟩ := zif h
      refine r_getI C (z_d dd_FR_goesOn 11 rfl) lk_FR_79 rfl h3 rfl ?_
      refine r_icmp_ge C 35 (z_d dd_FR_goesOn 12 rfl) (by decide) (fun c4 => ?_) (fun c4 => ?_)
      · have h := zift h c4
        refine r_mk [false] ?_
        exact s_FR_goesOn_35 C hr E n M h
      · have h := ziff h c4
        refine r_mk [false] ?_
        exact s_FR_goesOn_31 C hr E n M h
def F_FR_goesOn (O : zO) (n : Nat) (l0 : Nat) (M : zM) : Option (Int32 × zM) := f_FR_goesOn_0 O n l0 M
theorem S_FR_goesOn {l : Launch} {D : zD} {n : Nat} {l0 : Nat} {M : zM} {q : Int32 × zM} (h : F_FR_goesOn D.2.2.2.2 n l0 M = some q) : zMet l D mi_FR_goesOn [zP l0] M (some (zI q.1)) q.2 :=
  z_met (by decide) (Nat.le_of_ble_eq_true rfl) (fun X C E hr hin hD hl => by
    subst hD
    exact s_FR_goesOn_0 C hr E n l0 M h)

def f_FR_lacks_23 (O : zO) (n : Nat) (s0 : Int32) (M : zM) : Option (Int32 × zM) :=
  if s0 = 0 ∨ s0 = 1 then
  some (s0, M)
  else none
set_option maxRecDepth 100000 in
set_option maxHeartbeats 4000000 in
theorem s_FR_lacks_23 {X : zX} {q : Int32 × zM} (C : zC X zR4 prog_5_method_5_code 3 { frames := 0, cells := 0, slots := 0, locals := 0 }) (hr : zRt X (some .boolean)) (E : zE X (some (zI q.1)) q.2 0 0) : ∀ (n : Nat) (s0 : Int32) (M : zM), f_FR_lacks_23 (zOD X) n s0 M = some q → zW X 0 0 23 [none, none, none] [zI s0] M := by
  intro n s0 M h
  rw [f_FR_lacks_23] at h
  obtain ⟨h1, h⟩ := zif h
  obtain rfl := z_res h
  exact r_iretZ C E hr (z_d dd_FR_lacks 13 rfl) h1 (Nat.le_of_ble_eq_true rfl) (Nat.le_of_ble_eq_true rfl)
def f_FR_lacks_0 (O : zO) (n : Nat) (l0 : Nat) (l1 : Int64) (M : zM) : Option (Int32 × zM) :=
  if z_k M l0 = 5 then
  if z_k M (z_p M l0 0) = 9 then
  if 0 ≤ (lg_cmp ((z_i M (z_p M l0 0) 1) - (z_i M l0 6)).toInt64 l1) then
  f_FR_lacks_23 O n (0 : Int32) M
  else
  f_FR_lacks_23 O n (1 : Int32) M
  else none
  else none
set_option maxRecDepth 100000 in
set_option maxHeartbeats 4000000 in
theorem s_FR_lacks_0 {X : zX} {q : Int32 × zM} (C : zC X zR4 prog_5_method_5_code 3 { frames := 0, cells := 0, slots := 0, locals := 0 }) (hr : zRt X (some .boolean)) (E : zE X (some (zI q.1)) q.2 0 0) : ∀ (n : Nat) (l0 : Nat) (l1 : Int64) (M : zM), f_FR_lacks_0 (zOD X) n l0 l1 M = some q → zW X 0 0 0 [some (zP l0), some (zL l1), none] [] M := by
  intro n l0 l1 M h
  rw [f_FR_lacks_0] at h
  refine r_aload_n C (z_d dd_FR_lacks 0 rfl) rfl ?_
  obtain ⟨h1, h⟩ := zif h
  refine r_getP C (z_d dd_FR_lacks 1 rfl) lk_FR_9 rfl h1 rfl ?_
  obtain ⟨h2, h⟩ := zif h
  refine r_getI C (z_d dd_FR_lacks 2 rfl) lk_FR_79 rfl h2 rfl ?_
  refine r_aload_n C (z_d dd_FR_lacks 3 rfl) rfl ?_
  refine r_getI C (z_d dd_FR_lacks 4 rfl) lk_FR_45 rfl h1 rfl ?_
  refine r_isub C (z_d dd_FR_lacks 5 rfl) ?_
  refine r_i2l C (z_d dd_FR_lacks 6 rfl) ?_
  refine r_lload_n C (z_d dd_FR_lacks 7 rfl) rfl ?_
  refine r_lcmp C (z_d dd_FR_lacks 8 rfl) ?_
  refine r_if_ge C 22 (z_d dd_FR_lacks 9 rfl) (by decide) (fun c3 => ?_) (fun c3 => ?_)
  · have h := zift h c3
    refine r_iconst (v := (0 : Int32)) C (z_d dd_FR_lacks 12 rfl) (by decide) ?_
    refine r_mk [false, false, false] ?_
    exact s_FR_lacks_23 C hr E n (0 : Int32) M h
  · have h := ziff h c3
    refine r_iconst (v := (1 : Int32)) C (z_d dd_FR_lacks 10 rfl) (by decide) ?_
    refine r_goto C 23 (z_d dd_FR_lacks 11 rfl) (by decide) ?_
    refine r_mk [false, false, false] ?_
    exact s_FR_lacks_23 C hr E n (1 : Int32) M h
def F_FR_lacks (O : zO) (n : Nat) (l0 : Nat) (l1 : Int64) (M : zM) : Option (Int32 × zM) := f_FR_lacks_0 O n l0 l1 M
theorem S_FR_lacks {l : Launch} {D : zD} {n : Nat} {l0 : Nat} {l1 : Int64} {M : zM} {q : Int32 × zM} (h : F_FR_lacks D.2.2.2.2 n l0 l1 M = some q) : zMet l D mi_FR_lacks [zP l0, zL l1] M (some (zI q.1)) q.2 :=
  z_met (by decide) (Nat.le_of_ble_eq_true rfl) (fun X C E hr hin hD hl => by
    subst hD
    exact s_FR_lacks_0 C hr E n l0 l1 M h)

def f_Rep_fail_0 (O : zO) (n : Nat) (l0 : Nat) (l1 : Int32) (l2 : Int32) (M : zM) : Option (Int32 × zM) :=
  if z_k M l0 = 8 then
  zlet (w_i M l0 0 l1) fun M2 =>
  zlet (w_i M2 l0 1 l2) fun M5 =>
  some ((0 : Int32), M5)
  else none
set_option maxRecDepth 100000 in
set_option maxHeartbeats 4000000 in
theorem s_Rep_fail_0 {X : zX} {q : Int32 × zM} (C : zC X zR7 prog_8_method_3_code 3 { frames := 0, cells := 0, slots := 0, locals := 0 }) (hr : zRt X (some .boolean)) (E : zE X (some (zI q.1)) q.2 0 0) : ∀ (n : Nat) (l0 : Nat) (l1 : Int32) (l2 : Int32) (M : zM), f_Rep_fail_0 (zOD X) n l0 l1 l2 M = some q → zW X 0 0 0 [some (zP l0), some (zI l1), some (zI l2)] [] M := by
  intro n l0 l1 l2 M h
  rw [f_Rep_fail_0] at h
  refine r_aload_n C (z_d dd_Rep_fail 0 rfl) rfl ?_
  refine r_iload_n C (z_d dd_Rep_fail 1 rfl) rfl ?_
  obtain ⟨h1, h⟩ := zif h
  obtain ⟨M2, e3, h⟩ := zlet_ex h
  have h4 := k_i e3 h1
  refine r_putI C (z_d dd_Rep_fail 2 rfl) lp_Rep_7 rfl h1 e3 ?_
  refine r_aload_n C (z_d dd_Rep_fail 3 rfl) rfl ?_
  refine r_iload_n C (z_d dd_Rep_fail 4 rfl) rfl ?_
  obtain ⟨M5, e6, h⟩ := zlet_ex h
  have h7 := k_i e6 h4
  refine r_putI C (z_d dd_Rep_fail 5 rfl) lp_Rep_13 rfl h4 e6 ?_
  refine r_iconst (v := (0 : Int32)) C (z_d dd_Rep_fail 6 rfl) (by decide) ?_
  obtain rfl := z_res h
  exact r_iretZ C E hr (z_d dd_Rep_fail 7 rfl) (by decide) (Nat.le_of_ble_eq_true rfl) (Nat.le_of_ble_eq_true rfl)
def F_Rep_fail (O : zO) (n : Nat) (l0 : Nat) (l1 : Int32) (l2 : Int32) (M : zM) : Option (Int32 × zM) := f_Rep_fail_0 O n l0 l1 l2 M
theorem S_Rep_fail {l : Launch} {D : zD} {n : Nat} {l0 : Nat} {l1 : Int32} {l2 : Int32} {M : zM} {q : Int32 × zM} (h : F_Rep_fail D.2.2.2.2 n l0 l1 l2 M = some q) : zMet l D mi_Rep_fail [zP l0, zI l1, zI l2] M (some (zI q.1)) q.2 :=
  z_met (by decide) (Nat.le_of_ble_eq_true rfl) (fun X C E hr hin hD hl => by
    subst hD
    exact s_Rep_fail_0 C hr E n l0 l1 l2 M h)

def f_FR_endsWithin_0 (O : zO) (n : Nat) (l0 : Nat) (M : zM) : Option (Int32 × zM) :=
  if z_k M l0 = 5 then
  if z_k M (z_p M l0 0) = 9 then
  if z_k M (z_p M l0 2) = 8 then
  (F_Rep_fail O n (z_p M l0 2) (1 : Int32) (z_i M (z_p M l0 0) 1) M).bind fun q4 =>
  if q4.1 = 0 ∨ q4.1 = 1 then
  some (q4.1, q4.2)
  else none
  else none
  else none
  else none
set_option maxRecDepth 100000 in
set_option maxHeartbeats 4000000 in
theorem s_FR_endsWithin_0 {X : zX} {q : Int32 × zM} (C : zC X zR4 prog_5_method_6_code 1 { frames := 1, cells := 0, slots := 0, locals := 22 }) (hr : zRt X (some .boolean)) (E : zE X (some (zI q.1)) q.2 0 0) : ∀ (n : Nat) (l0 : Nat) (M : zM), f_FR_endsWithin_0 (zOD X) n l0 M = some q → zW X 0 0 0 [some (zP l0)] [] M := by
  intro n l0 M h
  rw [f_FR_endsWithin_0] at h
  refine r_aload_n C (z_d dd_FR_endsWithin 0 rfl) rfl ?_
  obtain ⟨h1, h⟩ := zif h
  refine r_getP C (z_d dd_FR_endsWithin 1 rfl) lk_FR_19 rfl h1 rfl ?_
  refine r_iconst (v := (1 : Int32)) C (z_d dd_FR_endsWithin 2 rfl) (by decide) ?_
  refine r_aload_n C (z_d dd_FR_endsWithin 3 rfl) rfl ?_
  refine r_getP C (z_d dd_FR_endsWithin 4 rfl) lk_FR_9 rfl h1 rfl ?_
  obtain ⟨h2, h⟩ := zif h
  refine r_getI C (z_d dd_FR_endsWithin 5 rfl) lk_FR_79 rfl h2 rfl ?_
  obtain ⟨h3, h⟩ := zif h
  obtain ⟨q4, c5, h⟩ := zbd h
  refine r_invV (as := [zI (1 : Int32), zI (z_i M (z_p M l0 0) 1)]) C 7 (S_Rep_fail c5) (z_d dd_FR_endsWithin 6 rfl) ok_Rep_fail iv_Rep_fail se_Rep_fail ml_FR_110 rfl rfl h3 rfl rfl rfl (Nat.le_of_ble_eq_true rfl) ⟨(Nat.le_of_ble_eq_true rfl), (Nat.le_of_ble_eq_true rfl)⟩ ⟨(Nat.le_of_ble_eq_true rfl), (Nat.le_of_ble_eq_true rfl)⟩ ?_
  obtain ⟨h6, h⟩ := zif h
  obtain rfl := z_res h
  exact r_iretZ C E hr (z_d dd_FR_endsWithin 7 rfl) h6 (Nat.le_of_ble_eq_true rfl) (Nat.le_of_ble_eq_true rfl)
def F_FR_endsWithin (O : zO) (n : Nat) (l0 : Nat) (M : zM) : Option (Int32 × zM) := f_FR_endsWithin_0 O n l0 M
theorem S_FR_endsWithin {l : Launch} {D : zD} {n : Nat} {l0 : Nat} {M : zM} {q : Int32 × zM} (h : F_FR_endsWithin D.2.2.2.2 n l0 M = some q) : zMet l D mi_FR_endsWithin [zP l0] M (some (zI q.1)) q.2 :=
  z_met (by decide) (Nat.le_of_ble_eq_true rfl) (fun X C E hr hin hD hl => by
    subst hD
    exact s_FR_endsWithin_0 C hr E n l0 M h)

def f_Content_mostOfBlock_21 (O : zO) (n : Nat) (s0 : Int32) (M : zM) : Option (Int32 × zM) :=
  some (s0, M)
set_option maxRecDepth 100000 in
set_option maxHeartbeats 4000000 in
theorem s_Content_mostOfBlock_21 {X : zX} {q : Int32 × zM} (C : zC X zR2 prog_3_method_6_code 1 { frames := 0, cells := 0, slots := 0, locals := 0 }) (hr : zRt X (some .int)) (E : zE X (some (zI q.1)) q.2 0 0) : ∀ (n : Nat) (s0 : Int32) (M : zM), f_Content_mostOfBlock_21 (zOD X) n s0 M = some q → zW X 0 0 21 [none] [zI s0] M := by
  intro n s0 M h
  rw [f_Content_mostOfBlock_21] at h
  obtain rfl := z_res h
  exact r_iretI C E hr (z_d dd_Content_mostOfBlock 10 rfl) (Nat.le_of_ble_eq_true rfl) (Nat.le_of_ble_eq_true rfl)
def f_Content_mostOfBlock_0 (O : zO) (n : Nat) (l0 : Nat) (M : zM) : Option (Int32 × zM) :=
  if z_k M l0 = 3 then
  if 0 ≤ (lg_cmp (z_j M l0 5) (131072 : Int64)) then
  f_Content_mostOfBlock_21 O n (131072 : Int32) M
  else
  f_Content_mostOfBlock_21 O n (z_j M l0 5).toInt32 M
  else none
set_option maxRecDepth 100000 in
set_option maxHeartbeats 4000000 in
theorem s_Content_mostOfBlock_0 {X : zX} {q : Int32 × zM} (C : zC X zR2 prog_3_method_6_code 1 { frames := 0, cells := 0, slots := 0, locals := 0 }) (hr : zRt X (some .int)) (E : zE X (some (zI q.1)) q.2 0 0) : ∀ (n : Nat) (l0 : Nat) (M : zM), f_Content_mostOfBlock_0 (zOD X) n l0 M = some q → zW X 0 0 0 [some (zP l0)] [] M := by
  intro n l0 M h
  rw [f_Content_mostOfBlock_0] at h
  refine r_aload_n C (z_d dd_Content_mostOfBlock 0 rfl) rfl ?_
  obtain ⟨h1, h⟩ := zif h
  refine r_getL C (z_d dd_Content_mostOfBlock 1 rfl) lk_Content_34 rfl h1 rfl ?_
  refine r_ldc2 (v := (131072 : Int64)) C (z_d dd_Content_mostOfBlock 2 rfl) kl_Content_44 ?_
  refine r_lcmp C (z_d dd_Content_mostOfBlock 3 rfl) ?_
  refine r_if_ge C 19 (z_d dd_Content_mostOfBlock 4 rfl) (by decide) (fun c2 => ?_) (fun c2 => ?_)
  · have h := zift h c2
    refine r_ldc (v := (131072 : Int32)) C (z_d dd_Content_mostOfBlock 9 rfl) ki_Content_46 ?_
    refine r_mk [false] ?_
    exact s_Content_mostOfBlock_21 C hr E n (131072 : Int32) M h
  · have h := ziff h c2
    refine r_aload_n C (z_d dd_Content_mostOfBlock 5 rfl) rfl ?_
    refine r_getL C (z_d dd_Content_mostOfBlock 6 rfl) lk_Content_34 rfl h1 rfl ?_
    refine r_l2i C (z_d dd_Content_mostOfBlock 7 rfl) ?_
    refine r_goto C 21 (z_d dd_Content_mostOfBlock 8 rfl) (by decide) ?_
    refine r_mk [false] ?_
    exact s_Content_mostOfBlock_21 C hr E n (z_j M l0 5).toInt32 M h
def F_Content_mostOfBlock (O : zO) (n : Nat) (l0 : Nat) (M : zM) : Option (Int32 × zM) := f_Content_mostOfBlock_0 O n l0 M
theorem S_Content_mostOfBlock {l : Launch} {D : zD} {n : Nat} {l0 : Nat} {M : zM} {q : Int32 × zM} (h : F_Content_mostOfBlock D.2.2.2.2 n l0 M = some q) : zMet l D mi_Content_mostOfBlock [zP l0] M (some (zI q.1)) q.2 :=
  z_met (by decide) (Nat.le_of_ble_eq_true rfl) (fun X C E hr hin hD hl => by
    subst hD
    exact s_Content_mostOfBlock_0 C hr E n l0 M h)

def f_Content_startBlock_0 (O : zO) (n : Nat) (l0 : Nat) (M : zM) : Option (Unit × zM) :=
  if z_k M l0 = 3 then
  if z_k M (z_p M l0 0) = 9 then
  zlet (w_i M l0 4 (z_i M (z_p M l0 0) 1)) fun M3 =>
  some ((), M3)
  else none
  else none
set_option maxRecDepth 100000 in
set_option maxHeartbeats 4000000 in
theorem s_Content_startBlock_0 {X : zX} {q : Unit × zM} (C : zC X zR2 prog_3_method_4_code 1 { frames := 0, cells := 0, slots := 0, locals := 0 }) (hr : zRt X none) (E : zE X none q.2 0 0) : ∀ (n : Nat) (l0 : Nat) (M : zM), f_Content_startBlock_0 (zOD X) n l0 M = some q → zW X 0 0 0 [some (zP l0)] [] M := by
  intro n l0 M h
  rw [f_Content_startBlock_0] at h
  refine r_aload_n C (z_d dd_Content_startBlock 0 rfl) rfl ?_
  refine r_aload_n C (z_d dd_Content_startBlock 1 rfl) rfl ?_
  obtain ⟨h1, h⟩ := zif h
  refine r_getP C (z_d dd_Content_startBlock 2 rfl) lk_Content_15 rfl h1 rfl ?_
  obtain ⟨h2, h⟩ := zif h
  refine r_getI C (z_d dd_Content_startBlock 3 rfl) lk_Content_41 rfl h2 rfl ?_
  obtain ⟨M3, e4, h⟩ := zlet_ex h
  have h5 := k_i e4 h1
  have h6 := k_i e4 h2
  refine r_putI C (z_d dd_Content_startBlock 4 rfl) lp_Content_31 rfl h1 e4 ?_
  obtain rfl := z_res h
  exact r_vret C E hr (z_d dd_Content_startBlock 5 rfl) (Nat.le_of_ble_eq_true rfl) (Nat.le_of_ble_eq_true rfl)
def F_Content_startBlock (O : zO) (n : Nat) (l0 : Nat) (M : zM) : Option (Unit × zM) := f_Content_startBlock_0 O n l0 M
theorem S_Content_startBlock {l : Launch} {D : zD} {n : Nat} {l0 : Nat} {M : zM} {q : Unit × zM} (h : F_Content_startBlock D.2.2.2.2 n l0 M = some q) : zMet l D mi_Content_startBlock [zP l0] M none q.2 :=
  z_met (by decide) (Nat.le_of_ble_eq_true rfl) (fun X C E hr hin hD hl => by
    subst hD
    exact s_Content_startBlock_0 C hr E n l0 M h)

def f_Content_overMost_21 (O : zO) (n : Nat) (s0 : Int32) (M : zM) : Option (Int32 × zM) :=
  if s0 = 0 ∨ s0 = 1 then
  some (s0, M)
  else none
set_option maxRecDepth 100000 in
set_option maxHeartbeats 4000000 in
theorem s_Content_overMost_21 {X : zX} {q : Int32 × zM} (C : zC X zR2 prog_3_method_7_code 2 { frames := 0, cells := 0, slots := 0, locals := 0 }) (hr : zRt X (some .boolean)) (E : zE X (some (zI q.1)) q.2 0 0) : ∀ (n : Nat) (s0 : Int32) (M : zM), f_Content_overMost_21 (zOD X) n s0 M = some q → zW X 0 0 21 [none, none] [zI s0] M := by
  intro n s0 M h
  rw [f_Content_overMost_21] at h
  obtain ⟨h1, h⟩ := zif h
  obtain rfl := z_res h
  exact r_iretZ C E hr (z_d dd_Content_overMost 11 rfl) h1 (Nat.le_of_ble_eq_true rfl) (Nat.le_of_ble_eq_true rfl)
def f_Content_overMost_0 (O : zO) (n : Nat) (l0 : Nat) (l1 : Int32) (M : zM) : Option (Int32 × zM) :=
  if z_k M l0 = 3 then
  if z_k M (z_p M l0 0) = 9 then
  if l1 ≤ ((z_i M l0 2) - (z_i M (z_p M l0 0) 1)) then
  f_Content_overMost_21 O n (0 : Int32) M
  else
  f_Content_overMost_21 O n (1 : Int32) M
  else none
  else none
set_option maxRecDepth 100000 in
set_option maxHeartbeats 4000000 in
theorem s_Content_overMost_0 {X : zX} {q : Int32 × zM} (C : zC X zR2 prog_3_method_7_code 2 { frames := 0, cells := 0, slots := 0, locals := 0 }) (hr : zRt X (some .boolean)) (E : zE X (some (zI q.1)) q.2 0 0) : ∀ (n : Nat) (l0 : Nat) (l1 : Int32) (M : zM), f_Content_overMost_0 (zOD X) n l0 l1 M = some q → zW X 0 0 0 [some (zP l0), some (zI l1)] [] M := by
  intro n l0 l1 M h
  rw [f_Content_overMost_0] at h
  refine r_iload_n C (z_d dd_Content_overMost 0 rfl) rfl ?_
  refine r_aload_n C (z_d dd_Content_overMost 1 rfl) rfl ?_
  obtain ⟨h1, h⟩ := zif h
  refine r_getI C (z_d dd_Content_overMost 2 rfl) lk_Content_24 rfl h1 rfl ?_
  refine r_aload_n C (z_d dd_Content_overMost 3 rfl) rfl ?_
  refine r_getP C (z_d dd_Content_overMost 4 rfl) lk_Content_15 rfl h1 rfl ?_
  obtain ⟨h2, h⟩ := zif h
  refine r_getI C (z_d dd_Content_overMost 5 rfl) lk_Content_41 rfl h2 rfl ?_
  refine r_isub C (z_d dd_Content_overMost 6 rfl) ?_
  refine r_icmp_le C 20 (z_d dd_Content_overMost 7 rfl) (by decide) (fun c3 => ?_) (fun c3 => ?_)
  · have h := zift h c3
    refine r_iconst (v := (0 : Int32)) C (z_d dd_Content_overMost 10 rfl) (by decide) ?_
    refine r_mk [false, false] ?_
    exact s_Content_overMost_21 C hr E n (0 : Int32) M h
  · have h := ziff h c3
    refine r_iconst (v := (1 : Int32)) C (z_d dd_Content_overMost 8 rfl) (by decide) ?_
    refine r_goto C 21 (z_d dd_Content_overMost 9 rfl) (by decide) ?_
    refine r_mk [false, false] ?_
    exact s_Content_overMost_21 C hr E n (1 : Int32) M h
def F_Content_overMost (O : zO) (n : Nat) (l0 : Nat) (l1 : Int32) (M : zM) : Option (Int32 × zM) := f_Content_overMost_0 O n l0 l1 M
theorem S_Content_overMost {l : Launch} {D : zD} {n : Nat} {l0 : Nat} {l1 : Int32} {M : zM} {q : Int32 × zM} (h : F_Content_overMost D.2.2.2.2 n l0 l1 M = some q) : zMet l D mi_Content_overMost [zP l0, zI l1] M (some (zI q.1)) q.2 :=
  z_met (by decide) (Nat.le_of_ble_eq_true rfl) (fun X C E hr hin hD hl => by
    subst hD
    exact s_Content_overMost_0 C hr E n l0 l1 M h)

def f_JArr_fill_BIIB_10 (O : zO) : Nat → Nat → Int32 → Int32 → Int32 → zM → Option (Unit × zM)
  | 0, _, _, _, _, _ => none
  | n + 1, l0, l2, l3, l4, M =>
    if l2 ≤ l4 then
    some ((), M)
    else
    if z_k M l0 = 101 then
    if zin l4 (z_n M l0) = true then
    zlet (w_i M l0 l4.toNatClampNeg l3.toInt8.toInt32) fun M3 =>
    zlet (l4 + (1 : Int32)) fun v6 =>
    f_JArr_fill_BIIB_10 O n l0 l2 l3 v6 M3
    else none
    else none
set_option maxRecDepth 100000 in
set_option maxHeartbeats 4000000 in
theorem s_JArr_fill_BIIB_10 {X : zX} {q : Unit × zM} (C : zC X zJArr prog_19_method_110_code 5 { frames := 1, cells := 0, slots := 0, locals := 22 }) (hr : zRt X none) (E : zE X none q.2 0 0) : ∀ (n : Nat) (l0 : Nat) (l2 : Int32) (l3 : Int32) (l4 : Int32) (M : zM), f_JArr_fill_BIIB_10 (zOD X) n l0 l2 l3 l4 M = some q → zW X 0 0 10 [some (zP l0), none, some (zI l2), some (zI l3), some (zI l4)] [] M := by
  intro n
  induction n with
  | zero => intro l0 l2 l3 l4 M h; rw [f_JArr_fill_BIIB_10] at h; cases h
  | succ n ih =>
    intro l0 l2 l3 l4 M h
    rw [f_JArr_fill_BIIB_10] at h
    refine r_iload C (z_d dd_JArr_fill_BIIB 7 rfl) rfl ?_
    refine r_iload_n C (z_d dd_JArr_fill_BIIB 8 rfl) rfl ?_
    refine r_icmp_ge C 27 (z_d dd_JArr_fill_BIIB 9 rfl) (by decide) (fun c8 => ?_) (fun c8 => ?_)
    · have h := zift h c8
      obtain rfl := z_res h
      exact r_vret C E hr (z_d dd_JArr_fill_BIIB 16 rfl) (Nat.le_of_ble_eq_true rfl) (Nat.le_of_ble_eq_true rfl)
    · have h := ziff h c8
      refine r_aload_n C (z_d dd_JArr_fill_BIIB 10 rfl) rfl ?_
      refine r_iload C (z_d dd_JArr_fill_BIIB 11 rfl) rfl ?_
      refine r_iload_n C (z_d dd_JArr_fill_BIIB 12 rfl) rfl ?_
      obtain ⟨h1, h⟩ := zif h
      obtain ⟨h2, h⟩ := zif h
      obtain ⟨M3, e4, h⟩ := zlet_ex h
      have h5 := k_i e4 h1
      refine r_bast C (z_d dd_JArr_fill_BIIB 13 rfl) h1 h2 e4 ?_
      obtain ⟨v6, e7, h⟩ := zlet_ex h
      refine r_iinc (v := v6) (lv' := [some (zP l0), none, some (zI l2), some (zI l3), some (zI v6)]) C (z_d dd_JArr_fill_BIIB 14 rfl) rfl (Nat.le_of_ble_eq_true rfl) (by rw [e7]; rfl) rfl ?_
      refine r_goto C 10 (z_d dd_JArr_fill_BIIB 15 rfl) (by decide) ?_
      exact ih l0 l2 l3 v6 M3 h
def f_JArr_fill_BIIB_0 (O : zO) (n : Nat) (l0 : Nat) (l1 : Int32) (l2 : Int32) (l3 : Int32) (M : zM) : Option (Unit × zM) :=
  if z_k M l0 = 101 then
  (F_JArr_rangeCheck O n (Int32.ofNat (z_n M l0)) l1 l2 M).bind fun q2 =>
  f_JArr_fill_BIIB_10 O n l0 l2 l3 l1 q2.2
  else none
set_option maxRecDepth 100000 in
set_option maxHeartbeats 4000000 in
theorem s_JArr_fill_BIIB_0 {X : zX} {q : Unit × zM} (C : zC X zJArr prog_19_method_110_code 5 { frames := 1, cells := 0, slots := 0, locals := 22 }) (hr : zRt X none) (E : zE X none q.2 0 0) : ∀ (n : Nat) (l0 : Nat) (l1 : Int32) (l2 : Int32) (l3 : Int32) (M : zM), f_JArr_fill_BIIB_0 (zOD X) n l0 l1 l2 l3 M = some q → zW X 0 0 0 [some (zP l0), some (zI l1), some (zI l2), some (zI l3), none] [] M := by
  intro n l0 l1 l2 l3 M h
  rw [f_JArr_fill_BIIB_0] at h
  refine r_aload_n C (z_d dd_JArr_fill_BIIB 0 rfl) rfl ?_
  obtain ⟨h1, h⟩ := zif h
  refine r_alen C 1 (z_d dd_JArr_fill_BIIB 1 rfl) h1 (Nat.le_of_ble_eq_true rfl) rfl ?_
  refine r_iload_n C (z_d dd_JArr_fill_BIIB 2 rfl) rfl ?_
  refine r_iload_n C (z_d dd_JArr_fill_BIIB 3 rfl) rfl ?_
  obtain ⟨q2, c3, h⟩ := zbd h
  refine r_invS (as := [zI (Int32.ofNat (z_n M l0)), zI l1, zI l2]) C (S_JArr_rangeCheck c3) (z_d dd_JArr_fill_BIIB 4 rfl) ok_JArr_rangeCheck sv_JArr_rangeCheck ml_JArr_13 rfl rfl rfl (Nat.le_of_ble_eq_true rfl) ⟨(Nat.le_of_ble_eq_true rfl), (Nat.le_of_ble_eq_true rfl)⟩ ⟨(Nat.le_of_ble_eq_true rfl), (Nat.le_of_ble_eq_true rfl)⟩ ?_
  refine r_iload_n C (z_d dd_JArr_fill_BIIB 5 rfl) rfl ?_
  refine r_istore (lv' := [some (zP l0), some (zI l1), some (zI l2), some (zI l3), some (zI l1)]) C (z_d dd_JArr_fill_BIIB 6 rfl) (Nat.le_of_ble_eq_true rfl) rfl ?_
  refine r_mk [true, false, true, true, true] ?_
  exact s_JArr_fill_BIIB_10 C hr E n l0 l2 l3 l1 q2.2 h
def F_JArr_fill_BIIB (O : zO) (n : Nat) (l0 : Nat) (l1 : Int32) (l2 : Int32) (l3 : Int32) (M : zM) : Option (Unit × zM) := f_JArr_fill_BIIB_0 O n l0 l1 l2 l3 M
theorem S_JArr_fill_BIIB {l : Launch} {D : zD} {n : Nat} {l0 : Nat} {l1 : Int32} {l2 : Int32} {l3 : Int32} {M : zM} {q : Unit × zM} (h : F_JArr_fill_BIIB D.2.2.2.2 n l0 l1 l2 l3 M = some q) : zMet l D mi_JArr_fill_BIIB [zP l0, zI l1, zI l2, zI l3] M none q.2 :=
  z_metF (by decide +kernel) (Nat.le_of_ble_eq_true rfl) (fun X C E hr hin hD hl => by
    subst hD
    exact s_JArr_fill_BIIB_0 C hr E n l0 l1 l2 l3 M h)

def f_Row_putTimes_48 (O : zO) (n : Nat) (M : zM) : Option (Unit × zM) :=
  some ((), M)
set_option maxRecDepth 100000 in
set_option maxHeartbeats 4000000 in
theorem s_Row_putTimes_48 {X : zX} {q : Unit × zM} (C : zC X zR8 prog_9_method_7_code 4 { frames := 2, cells := 0, slots := 0, locals := 46 }) (hr : zRt X none) (E : zE X none q.2 0 0) : ∀ (n : Nat) (M : zM), f_Row_putTimes_48 (zOD X) n M = some q → zW X 0 0 48 [none, none, none, none] [] M := by
  intro n M h
  rw [f_Row_putTimes_48] at h
  obtain rfl := z_res h
  exact r_vret C E hr (z_d dd_Row_putTimes 28 rfl) (Nat.le_of_ble_eq_true rfl) (Nat.le_of_ble_eq_true rfl)
def f_Row_putTimes_0 (O : zO) (n : Nat) (l0 : Nat) (l1 : Int32) (l2 : Int32) (M : zM) : Option (Unit × zM) :=
  if z_k M l0 = 9 then
  if z_k M (z_p M l0 0) = 101 then
  (F_JMath_min O n l2 ((Int32.ofNat (z_n M (z_p M l0 0))) - (z_i M l0 1)) M).bind fun q3 =>
  if q3.1 ≤ 0 then
  f_Row_putTimes_48 O n q3.2
  else
  if z_k q3.2 l0 = 9 then
  (F_JArr_fill_BIIB O n (z_p q3.2 l0 0) (z_i q3.2 l0 1) ((z_i q3.2 l0 1) + q3.1) l1.toInt8.toInt32 q3.2).bind fun q6 =>
  if z_k q6.2 l0 = 9 then
  zlet (w_i q6.2 l0 1 ((z_i q6.2 l0 1) + q3.1)) fun M9 =>
  f_Row_putTimes_48 O n M9
  else none
  else none
  else none
  else none
set_option maxRecDepth 100000 in
set_option maxHeartbeats 4000000 in
theorem s_Row_putTimes_0 {X : zX} {q : Unit × zM} (C : zC X zR8 prog_9_method_7_code 4 { frames := 2, cells := 0, slots := 0, locals := 46 }) (hr : zRt X none) (E : zE X none q.2 0 0) : ∀ (n : Nat) (l0 : Nat) (l1 : Int32) (l2 : Int32) (M : zM), f_Row_putTimes_0 (zOD X) n l0 l1 l2 M = some q → zW X 0 0 0 [some (zP l0), some (zI l1), some (zI l2), none] [] M := by
  intro n l0 l1 l2 M h
  rw [f_Row_putTimes_0] at h
  refine r_iload_n C (z_d dd_Row_putTimes 0 rfl) rfl ?_
  refine r_aload_n C (z_d dd_Row_putTimes 1 rfl) rfl ?_
  obtain ⟨h1, h⟩ := zif h
  refine r_getP C (z_d dd_Row_putTimes 2 rfl) lk_Row_7 rfl h1 rfl ?_
  obtain ⟨h2, h⟩ := zif h
  refine r_alen C 1 (z_d dd_Row_putTimes 3 rfl) h2 (Nat.le_of_ble_eq_true rfl) rfl ?_
  refine r_aload_n C (z_d dd_Row_putTimes 4 rfl) rfl ?_
  refine r_getI C (z_d dd_Row_putTimes 5 rfl) lk_Row_13 rfl h1 rfl ?_
  refine r_isub C (z_d dd_Row_putTimes 6 rfl) ?_
  obtain ⟨q3, c4, h⟩ := zbd h
  refine r_invS (as := [zI l2, zI ((Int32.ofNat (z_n M (z_p M l0 0))) - (z_i M l0 1))]) C (S_JMath_min c4) (z_d dd_Row_putTimes 7 rfl) ok_JMath_min sv_JMath_min ml_Row_17 rfl rfl rfl (Nat.le_of_ble_eq_true rfl) ⟨(Nat.le_of_ble_eq_true rfl), (Nat.le_of_ble_eq_true rfl)⟩ ⟨(Nat.le_of_ble_eq_true rfl), (Nat.le_of_ble_eq_true rfl)⟩ ?_
  refine r_istore_n (lv' := [some (zP l0), some (zI l1), some (zI l2), some (zI q3.1)]) C (z_d dd_Row_putTimes 8 rfl) (Nat.le_of_ble_eq_true rfl) rfl ?_
  refine r_iload_n C (z_d dd_Row_putTimes 9 rfl) rfl ?_
  refine r_if_le C 48 (z_d dd_Row_putTimes 10 rfl) (by decide) (fun c12 => ?_) (fun c12 => ?_)
  · have h := zift h c12
    refine r_mk [false, false, false, false] ?_
    exact s_Row_putTimes_48 C hr E n q3.2 h
  · have h := ziff h c12
    refine r_aload_n C (z_d dd_Row_putTimes 11 rfl) rfl ?_
    obtain ⟨h5, h⟩ := zif h
    refine r_getP C (z_d dd_Row_putTimes 12 rfl) lk_Row_7 rfl h5 rfl ?_
    refine r_aload_n C (z_d dd_Row_putTimes 13 rfl) rfl ?_
    refine r_getI C (z_d dd_Row_putTimes 14 rfl) lk_Row_13 rfl h5 rfl ?_
    refine r_aload_n C (z_d dd_Row_putTimes 15 rfl) rfl ?_
    refine r_getI C (z_d dd_Row_putTimes 16 rfl) lk_Row_13 rfl h5 rfl ?_
    refine r_iload_n C (z_d dd_Row_putTimes 17 rfl) rfl ?_
    refine r_iadd C (z_d dd_Row_putTimes 18 rfl) ?_
    refine r_iload_n C (z_d dd_Row_putTimes 19 rfl) rfl ?_
    refine r_i2b C (z_d dd_Row_putTimes 20 rfl) ?_
    obtain ⟨q6, c7, h⟩ := zbd h
    refine r_invS (as := [zP (z_p q3.2 l0 0), zI (z_i q3.2 l0 1), zI ((z_i q3.2 l0 1) + q3.1), zI l1.toInt8.toInt32]) C (S_JArr_fill_BIIB c7) (z_d dd_Row_putTimes 21 rfl) ok_JArr_fill_BIIB sv_JArr_fill_BIIB ml_Row_23 rfl rfl rfl (Nat.le_of_ble_eq_true rfl) ⟨(Nat.le_of_ble_eq_true rfl), (Nat.le_of_ble_eq_true rfl)⟩ ⟨(Nat.le_of_ble_eq_true rfl), (Nat.le_of_ble_eq_true rfl)⟩ ?_
    refine r_aload_n C (z_d dd_Row_putTimes 22 rfl) rfl ?_
    refine r_dupP C (z_d dd_Row_putTimes 23 rfl) ?_
    obtain ⟨h8, h⟩ := zif h
    refine r_getI C (z_d dd_Row_putTimes 24 rfl) lk_Row_13 rfl h8 rfl ?_
    refine r_iload_n C (z_d dd_Row_putTimes 25 rfl) rfl ?_
    refine r_iadd C (z_d dd_Row_putTimes 26 rfl) ?_
    obtain ⟨M9, e10, h⟩ := zlet_ex h
    have h11 := k_i e10 h8
    refine r_putI C (z_d dd_Row_putTimes 27 rfl) lp_Row_13 rfl h8 e10 ?_
    refine r_mk [false, false, false, false] ?_
    exact s_Row_putTimes_48 C hr E n M9 h
def F_Row_putTimes (O : zO) (n : Nat) (l0 : Nat) (l1 : Int32) (l2 : Int32) (M : zM) : Option (Unit × zM) := f_Row_putTimes_0 O n l0 l1 l2 M
theorem S_Row_putTimes {l : Launch} {D : zD} {n : Nat} {l0 : Nat} {l1 : Int32} {l2 : Int32} {M : zM} {q : Unit × zM} (h : F_Row_putTimes D.2.2.2.2 n l0 l1 l2 M = some q) : zMet l D mi_Row_putTimes [zP l0, zI l1, zI l2] M none q.2 :=
  z_met (by decide) (Nat.le_of_ble_eq_true rfl) (fun X C E hr hin hD hl => by
    subst hD
    exact s_Row_putTimes_0 C hr E n l0 l1 l2 M h)

def f_FR_plain_77 (O : zO) (n : Nat) (M : zM) : Option (Int32 × zM) :=
  some ((1 : Int32), M)
set_option maxRecDepth 100000 in
set_option maxHeartbeats 4000000 in
theorem s_FR_plain_77 {X : zX} {q : Int32 × zM} (C : zC X zR4 prog_5_method_14_code 3 { frames := 3, cells := 0, slots := 0, locals := 84 }) (hr : zRt X (some .boolean)) (E : zE X (some (zI q.1)) q.2 0 0) : ∀ (n : Nat) (M : zM), f_FR_plain_77 (zOD X) n M = some q → zW X 0 0 77 [none, none, none] [] M := by
  intro n M h
  rw [f_FR_plain_77] at h
  refine r_iconst (v := (1 : Int32)) C (z_d dd_FR_plain 38 rfl) (by decide) ?_
  obtain rfl := z_res h
  exact r_iretZ C E hr (z_d dd_FR_plain 39 rfl) (by decide) (Nat.le_of_ble_eq_true rfl) (Nat.le_of_ble_eq_true rfl)
def f_FR_plain_0 (O : zO) (n : Nat) (l0 : Nat) (l1 : Int32) (l2 : Int32) (M : zM) : Option (Int32 × zM) :=
  if z_k M l0 = 5 then
  if z_k M (z_p M l0 3) = 3 then
  (F_Content_overMost O n (z_p M l0 3) l2 M).bind fun q3 =>
  if q3.1 = 0 then
  if l1 = 0 then
  if z_k q3.2 l0 = 5 then
  if z_k q3.2 (z_p q3.2 l0 3) = 3 then
  if z_k q3.2 (z_p q3.2 (z_p q3.2 l0 3) 0) = 9 then
  (F_Row_putPart O n (z_p q3.2 (z_p q3.2 l0 3) 0) (z_p q3.2 l0 0) ((z_i q3.2 l0 6) + (3 : Int32)) l2 q3.2).bind fun q16 =>
  f_FR_plain_77 O n q16.2
  else none
  else none
  else none
  else
  if z_k q3.2 l0 = 5 then
  if z_k q3.2 (z_p q3.2 l0 3) = 3 then
  if z_k q3.2 (z_p q3.2 l0 0) = 9 then
  (F_Row_at O n (z_p q3.2 l0 0) ((z_i q3.2 l0 6) + (3 : Int32)) q3.2).bind fun q8 =>
  if z_k q8.2 (z_p q3.2 (z_p q3.2 l0 3) 0) = 9 then
  (F_Row_putTimes O n (z_p q3.2 (z_p q3.2 l0 3) 0) q8.1 l2 q8.2).bind fun q11 =>
  f_FR_plain_77 O n q11.2
  else none
  else none
  else none
  else none
  else
  if z_k q3.2 l0 = 5 then
  if z_k q3.2 (z_p q3.2 l0 2) = 8 then
  (F_Rep_fail O n (z_p q3.2 l0 2) (7 : Int32) (z_i q3.2 l0 6) q3.2).bind fun q21 =>
  if q21.1 = 0 ∨ q21.1 = 1 then
  some (q21.1, q21.2)
  else none
  else none
  else none
  else none
  else none
set_option maxRecDepth 100000 in
set_option maxHeartbeats 4000000 in
theorem s_FR_plain_0 {X : zX} {q : Int32 × zM} (C : zC X zR4 prog_5_method_14_code 3 { frames := 3, cells := 0, slots := 0, locals := 84 }) (hr : zRt X (some .boolean)) (E : zE X (some (zI q.1)) q.2 0 0) : ∀ (n : Nat) (l0 : Nat) (l1 : Int32) (l2 : Int32) (M : zM), f_FR_plain_0 (zOD X) n l0 l1 l2 M = some q → zW X 0 0 0 [some (zP l0), some (zI l1), some (zI l2)] [] M := by
  intro n l0 l1 l2 M h
  rw [f_FR_plain_0] at h
  refine r_aload_n C (z_d dd_FR_plain 0 rfl) rfl ?_
  obtain ⟨h1, h⟩ := zif h
  refine r_getP C (z_d dd_FR_plain 1 rfl) lk_FR_23 rfl h1 rfl ?_
  refine r_iload_n C (z_d dd_FR_plain 2 rfl) rfl ?_
  obtain ⟨h2, h⟩ := zif h
  obtain ⟨q3, c4, h⟩ := zbd h
  refine r_invV (as := [zI l2]) C 2 (S_Content_overMost c4) (z_d dd_FR_plain 3 rfl) ok_Content_overMost iv_Content_overMost se_Content_overMost ml_FR_183 rfl rfl h2 rfl rfl rfl (Nat.le_of_ble_eq_true rfl) ⟨(Nat.le_of_ble_eq_true rfl), (Nat.le_of_ble_eq_true rfl)⟩ ⟨(Nat.le_of_ble_eq_true rfl), (Nat.le_of_ble_eq_true rfl)⟩ ?_
  refine r_if_eq C 25 (z_d dd_FR_plain 4 rfl) (by decide) (fun c24 => ?_) (fun c24 => ?_)
  · have h := zift h c24
    refine r_iload_n C (z_d dd_FR_plain 12 rfl) rfl ?_
    refine r_if_ne C 53 (z_d dd_FR_plain 13 rfl) (by decide) (fun c18 => ?_) (fun c18 => ?_)
    · have h := ziff h c18
      refine r_aload_n C (z_d dd_FR_plain 26 rfl) rfl ?_
      obtain ⟨h5, h⟩ := zif h
      refine r_getP C (z_d dd_FR_plain 27 rfl) lk_FR_23 rfl h5 rfl ?_
      obtain ⟨h6, h⟩ := zif h
      refine r_getP C (z_d dd_FR_plain 28 rfl) lk_FR_186 rfl h6 rfl ?_
      refine r_aload_n C (z_d dd_FR_plain 29 rfl) rfl ?_
      refine r_getP C (z_d dd_FR_plain 30 rfl) lk_FR_9 rfl h5 rfl ?_
      refine r_aload_n C (z_d dd_FR_plain 31 rfl) rfl ?_
      refine r_getI C (z_d dd_FR_plain 32 rfl) lk_FR_45 rfl h5 rfl ?_
      refine r_iconst (v := (3 : Int32)) C (z_d dd_FR_plain 33 rfl) (by decide) ?_
      refine r_iadd C (z_d dd_FR_plain 34 rfl) ?_
      obtain ⟨h7, h⟩ := zif h
      obtain ⟨q8, c9, h⟩ := zbd h
      refine r_invV (as := [zI ((z_i q3.2 l0 6) + (3 : Int32))]) C 8 (S_Row_at c9) (z_d dd_FR_plain 35 rfl) ok_Row_at iv_Row_at se_Row_at ml_FR_114 rfl rfl h7 rfl rfl rfl (Nat.le_of_ble_eq_true rfl) ⟨(Nat.le_of_ble_eq_true rfl), (Nat.le_of_ble_eq_true rfl)⟩ ⟨(Nat.le_of_ble_eq_true rfl), (Nat.le_of_ble_eq_true rfl)⟩ ?_
      refine r_iload_n C (z_d dd_FR_plain 36 rfl) rfl ?_
      obtain ⟨h10, h⟩ := zif h
      obtain ⟨q11, c12, h⟩ := zbd h
      refine r_invV (as := [zI q8.1, zI l2]) C 8 (S_Row_putTimes c12) (z_d dd_FR_plain 37 rfl) ok_Row_putTimes iv_Row_putTimes se_Row_putTimes ml_FR_193 rfl rfl h10 rfl rfl rfl (Nat.le_of_ble_eq_true rfl) ⟨(Nat.le_of_ble_eq_true rfl), (Nat.le_of_ble_eq_true rfl)⟩ ⟨(Nat.le_of_ble_eq_true rfl), (Nat.le_of_ble_eq_true rfl)⟩ ?_
      refine r_mk [false, false, false] ?_
      exact s_FR_plain_77 C hr E n q11.2 h
    · have h := zift h c18
      refine r_aload_n C (z_d dd_FR_plain 14 rfl) rfl ?_
      obtain ⟨h13, h⟩ := zif h
      refine r_getP C (z_d dd_FR_plain 15 rfl) lk_FR_23 rfl h13 rfl ?_
      obtain ⟨h14, h⟩ := zif h
      refine r_getP C (z_d dd_FR_plain 16 rfl) lk_FR_186 rfl h14 rfl ?_
      refine r_aload_n C (z_d dd_FR_plain 17 rfl) rfl ?_
      refine r_getP C (z_d dd_FR_plain 18 rfl) lk_FR_9 rfl h13 rfl ?_
      refine r_aload_n C (z_d dd_FR_plain 19 rfl) rfl ?_
      refine r_getI C (z_d dd_FR_plain 20 rfl) lk_FR_45 rfl h13 rfl ?_
      refine r_iconst (v := (3 : Int32)) C (z_d dd_FR_plain 21 rfl) (by decide) ?_
      refine r_iadd C (z_d dd_FR_plain 22 rfl) ?_
      refine r_iload_n C (z_d dd_FR_plain 23 rfl) rfl ?_
      obtain ⟨h15, h⟩ := zif h
      obtain ⟨q16, c17, h⟩ := zbd h
      refine r_invV (as := [zP (z_p q3.2 l0 0), zI ((z_i q3.2 l0 6) + (3 : Int32)), zI l2]) C 8 (S_Row_putPart c17) (z_d dd_FR_plain 24 rfl) ok_Row_putPart iv_Row_putPart se_Row_putPart ml_FR_189 rfl rfl h15 rfl rfl rfl (Nat.le_of_ble_eq_true rfl) ⟨(Nat.le_of_ble_eq_true rfl), (Nat.le_of_ble_eq_true rfl)⟩ ⟨(Nat.le_of_ble_eq_true rfl), (Nat.le_of_ble_eq_true rfl)⟩ ?_
      refine r_goto C 77 (z_d dd_FR_plain 25 rfl) (by decide) ?_
      refine r_mk [false, false, false] ?_
      exact s_FR_plain_77 C hr E n q16.2 h
  · have h := ziff h c24
    refine r_aload_n C (z_d dd_FR_plain 5 rfl) rfl ?_
    obtain ⟨h19, h⟩ := zif h
    refine r_getP C (z_d dd_FR_plain 6 rfl) lk_FR_19 rfl h19 rfl ?_
    refine r_bipush (v := (7 : Int32)) C (z_d dd_FR_plain 7 rfl) (by decide) ?_
    refine r_aload_n C (z_d dd_FR_plain 8 rfl) rfl ?_
    refine r_getI C (z_d dd_FR_plain 9 rfl) lk_FR_45 rfl h19 rfl ?_
    obtain ⟨h20, h⟩ := zif h
    obtain ⟨q21, c22, h⟩ := zbd h
    refine r_invV (as := [zI (7 : Int32), zI (z_i q3.2 l0 6)]) C 7 (S_Rep_fail c22) (z_d dd_FR_plain 10 rfl) ok_Rep_fail iv_Rep_fail se_Rep_fail ml_FR_110 rfl rfl h20 rfl rfl rfl (Nat.le_of_ble_eq_true rfl) ⟨(Nat.le_of_ble_eq_true rfl), (Nat.le_of_ble_eq_true rfl)⟩ ⟨(Nat.le_of_ble_eq_true rfl), (Nat.le_of_ble_eq_true rfl)⟩ ?_
    obtain ⟨h23, h⟩ := zif h
    obtain rfl := z_res h
    exact r_iretZ C E hr (z_d dd_FR_plain 11 rfl) h23 (Nat.le_of_ble_eq_true rfl) (Nat.le_of_ble_eq_true rfl)
def F_FR_plain (O : zO) (n : Nat) (l0 : Nat) (l1 : Int32) (l2 : Int32) (M : zM) : Option (Int32 × zM) := f_FR_plain_0 O n l0 l1 l2 M
theorem S_FR_plain {l : Launch} {D : zD} {n : Nat} {l0 : Nat} {l1 : Int32} {l2 : Int32} {M : zM} {q : Int32 × zM} (h : F_FR_plain D.2.2.2.2 n l0 l1 l2 M = some q) : zMet l D mi_FR_plain [zP l0, zI l1, zI l2] M (some (zI q.1)) q.2 :=
  z_met (by decide) (Nat.le_of_ble_eq_true rfl) (fun X C E hr hin hD hl => by
    subst hD
    exact s_FR_plain_0 C hr E n l0 l1 l2 M h)

def f_Lit_plainHead_96 (O : zO) (n : Nat) (s0 : Nat) (s1 : Int32) (s2 : Int32) (M : zM) : Option (Int32 × zM) :=
  if z_k M s0 = 7 then
  zlet (w_i M s0 9 (s1 + s2)) fun M2 =>
  some ((1 : Int32), M2)
  else none
set_option maxRecDepth 100000 in
set_option maxHeartbeats 4000000 in
theorem s_Lit_plainHead_96 {X : zX} {q : Int32 × zM} (C : zC X zR6 prog_7_method_7_code 4 { frames := 1, cells := 0, slots := 0, locals := 25 }) (hr : zRt X (some .boolean)) (E : zE X (some (zI q.1)) q.2 0 0) : ∀ (n : Nat) (s0 : Nat) (s1 : Int32) (s2 : Int32) (M : zM), f_Lit_plainHead_96 (zOD X) n s0 s1 s2 M = some q → zW X 0 0 96 [none, none, none, none] [zI s2, zI s1, zP s0] M := by
  intro n s0 s1 s2 M h
  rw [f_Lit_plainHead_96] at h
  refine r_iadd C (z_d dd_Lit_plainHead 55 rfl) ?_
  obtain ⟨h1, h⟩ := zif h
  obtain ⟨M2, e3, h⟩ := zlet_ex h
  have h4 := k_i e3 h1
  refine r_putI C (z_d dd_Lit_plainHead 56 rfl) lp_Lit_56 rfl h1 e3 ?_
  refine r_iconst (v := (1 : Int32)) C (z_d dd_Lit_plainHead 57 rfl) (by decide) ?_
  obtain rfl := z_res h
  exact r_iretZ C E hr (z_d dd_Lit_plainHead 58 rfl) (by decide) (Nat.le_of_ble_eq_true rfl) (Nat.le_of_ble_eq_true rfl)
def f_Lit_plainHead_65 (O : zO) (n : Nat) (l0 : Nat) (l1 : Int32) (l3 : Int32) (s0 : Nat) (s1 : Int32) (s2 : Int32) (M : zM) : Option (Int32 × zM) :=
  if z_k M s0 = 7 then
  zlet (w_i M s0 7 (s1 >>> (s2 &&& 31))) fun M2 =>
  if z_k M2 l0 = 7 then
  zlet (w_i M2 l0 12 (l1 + l3)) fun M6 =>
  if (z_i M6 l0 10) = 0 then
  f_Lit_plainHead_96 O n l0 (z_i M6 l0 12) (z_i M6 l0 7) M6
  else
  f_Lit_plainHead_96 O n l0 (z_i M6 l0 12) (1 : Int32) M6
  else none
  else none
set_option maxRecDepth 100000 in
set_option maxHeartbeats 4000000 in
theorem s_Lit_plainHead_65 {X : zX} {q : Int32 × zM} (C : zC X zR6 prog_7_method_7_code 4 { frames := 1, cells := 0, slots := 0, locals := 25 }) (hr : zRt X (some .boolean)) (E : zE X (some (zI q.1)) q.2 0 0) : ∀ (n : Nat) (l0 : Nat) (l1 : Int32) (l3 : Int32) (s0 : Nat) (s1 : Int32) (s2 : Int32) (M : zM), f_Lit_plainHead_65 (zOD X) n l0 l1 l3 s0 s1 s2 M = some q → zW X 0 0 65 [some (zP l0), some (zI l1), none, some (zI l3)] [zI s2, zI s1, zP s0] M := by
  intro n l0 l1 l3 s0 s1 s2 M h
  rw [f_Lit_plainHead_65] at h
  refine r_ishr C (z_d dd_Lit_plainHead 38 rfl) ?_
  obtain ⟨h1, h⟩ := zif h
  obtain ⟨M2, e3, h⟩ := zlet_ex h
  have h4 := k_i e3 h1
  refine r_putI C (z_d dd_Lit_plainHead 39 rfl) lp_Lit_49 rfl h1 e3 ?_
  refine r_aload_n C (z_d dd_Lit_plainHead 40 rfl) rfl ?_
  refine r_iload_n C (z_d dd_Lit_plainHead 41 rfl) rfl ?_
  refine r_iload_n C (z_d dd_Lit_plainHead 42 rfl) rfl ?_
  refine r_iadd C (z_d dd_Lit_plainHead 43 rfl) ?_
  obtain ⟨h5, h⟩ := zif h
  obtain ⟨M6, e7, h⟩ := zlet_ex h
  have h8 := k_i e7 h4
  have h9 := k_i e7 h5
  refine r_putI C (z_d dd_Lit_plainHead 44 rfl) lp_Lit_65 rfl h5 e7 ?_
  refine r_aload_n C (z_d dd_Lit_plainHead 45 rfl) rfl ?_
  refine r_aload_n C (z_d dd_Lit_plainHead 46 rfl) rfl ?_
  refine r_getI C (z_d dd_Lit_plainHead 47 rfl) lk_Lit_65 rfl h9 rfl ?_
  refine r_aload_n C (z_d dd_Lit_plainHead 48 rfl) rfl ?_
  refine r_getI C (z_d dd_Lit_plainHead 49 rfl) lk_Lit_59 rfl h9 rfl ?_
  refine r_if_ne C 95 (z_d dd_Lit_plainHead 50 rfl) (by decide) (fun c10 => ?_) (fun c10 => ?_)
  · have h := ziff h c10
    refine r_iconst (v := (1 : Int32)) C (z_d dd_Lit_plainHead 54 rfl) (by decide) ?_
    refine r_mk [false, false, false, false] ?_
    exact s_Lit_plainHead_96 C hr E n l0 (z_i M6 l0 12) (1 : Int32) M6 h
  · have h := zift h c10
    refine r_aload_n C (z_d dd_Lit_plainHead 51 rfl) rfl ?_
    refine r_getI C (z_d dd_Lit_plainHead 52 rfl) lk_Lit_49 rfl h9 rfl ?_
    refine r_goto C 96 (z_d dd_Lit_plainHead 53 rfl) (by decide) ?_
    refine r_mk [false, false, false, false] ?_
    exact s_Lit_plainHead_96 C hr E n l0 (z_i M6 l0 12) (z_i M6 l0 7) M6 h
def f_Lit_plainHead_25 (O : zO) (n : Nat) (l0 : Nat) (l1 : Int32) (l2 : Int32) (s0 : Int32) (M : zM) : Option (Int32 × zM) :=
  if s0 ≤ (l2 - l1) then
  if z_k M l0 = 7 then
  if z_k M (z_p M l0 0) = 9 then
  (F_Row_number O n (z_p M l0 0) l1 s0 M).bind fun q3 =>
  if s0 = (1 : Int32) then
  f_Lit_plainHead_65 O n l0 l1 s0 l0 q3.1.toInt32 (3 : Int32) q3.2
  else
  f_Lit_plainHead_65 O n l0 l1 s0 l0 q3.1.toInt32 (4 : Int32) q3.2
  else none
  else none
  else
  if z_k M l0 = 7 then
  if z_k M (z_p M l0 1) = 8 then
  (F_Rep_fail O n (z_p M l0 1) (10 : Int32) l2 M).bind fun q8 =>
  if q8.1 = 0 ∨ q8.1 = 1 then
  some (q8.1, q8.2)
  else none
  else none
  else none
set_option maxRecDepth 100000 in
set_option maxHeartbeats 4000000 in
theorem s_Lit_plainHead_25 {X : zX} {q : Int32 × zM} (C : zC X zR6 prog_7_method_7_code 4 { frames := 1, cells := 0, slots := 0, locals := 25 }) (hr : zRt X (some .boolean)) (E : zE X (some (zI q.1)) q.2 0 0) : ∀ (n : Nat) (l0 : Nat) (l1 : Int32) (l2 : Int32) (s0 : Int32) (M : zM), f_Lit_plainHead_25 (zOD X) n l0 l1 l2 s0 M = some q → zW X 0 0 25 [some (zP l0), some (zI l1), some (zI l2), none] [zI s0] M := by
  intro n l0 l1 l2 s0 M h
  rw [f_Lit_plainHead_25] at h
  refine r_istore_n (lv' := [some (zP l0), some (zI l1), some (zI l2), some (zI s0)]) C (z_d dd_Lit_plainHead 13 rfl) (Nat.le_of_ble_eq_true rfl) rfl ?_
  refine r_iload_n C (z_d dd_Lit_plainHead 14 rfl) rfl ?_
  refine r_iload_n C (z_d dd_Lit_plainHead 15 rfl) rfl ?_
  refine r_isub C (z_d dd_Lit_plainHead 16 rfl) ?_
  refine r_iload_n C (z_d dd_Lit_plainHead 17 rfl) rfl ?_
  refine r_icmp_ge C 44 (z_d dd_Lit_plainHead 18 rfl) (by decide) (fun c11 => ?_) (fun c11 => ?_)
  · have h := zift h c11
    refine r_aload_n C (z_d dd_Lit_plainHead 25 rfl) rfl ?_
    refine r_aload_n C (z_d dd_Lit_plainHead 26 rfl) rfl ?_
    obtain ⟨h1, h⟩ := zif h
    refine r_getP C (z_d dd_Lit_plainHead 27 rfl) lk_Lit_9 rfl h1 rfl ?_
    refine r_iload_n C (z_d dd_Lit_plainHead 28 rfl) rfl ?_
    refine r_iload_n C (z_d dd_Lit_plainHead 29 rfl) rfl ?_
    obtain ⟨h2, h⟩ := zif h
    obtain ⟨q3, c4, h⟩ := zbd h
    refine r_invV (as := [zI l1, zI s0]) C 8 (S_Row_number c4) (z_d dd_Lit_plainHead 30 rfl) ok_Row_number iv_Row_number se_Row_number ml_Lit_116 rfl rfl h2 rfl rfl rfl (Nat.le_of_ble_eq_true rfl) ⟨(Nat.le_of_ble_eq_true rfl), (Nat.le_of_ble_eq_true rfl)⟩ ⟨(Nat.le_of_ble_eq_true rfl), (Nat.le_of_ble_eq_true rfl)⟩ ?_
    refine r_l2i C (z_d dd_Lit_plainHead 31 rfl) ?_
    refine r_iload_n C (z_d dd_Lit_plainHead 32 rfl) rfl ?_
    refine r_iconst (v := (1 : Int32)) C (z_d dd_Lit_plainHead 33 rfl) (by decide) ?_
    refine r_icmp_ne C 64 (z_d dd_Lit_plainHead 34 rfl) (by decide) (fun c5 => ?_) (fun c5 => ?_)
    · have h := ziff h c5
      refine r_iconst (v := (4 : Int32)) C (z_d dd_Lit_plainHead 37 rfl) (by decide) ?_
      refine r_mk [true, true, false, true] ?_
      exact s_Lit_plainHead_65 C hr E n l0 l1 s0 l0 q3.1.toInt32 (4 : Int32) q3.2 h
    · have h := zift h c5
      refine r_iconst (v := (3 : Int32)) C (z_d dd_Lit_plainHead 35 rfl) (by decide) ?_
      refine r_goto C 65 (z_d dd_Lit_plainHead 36 rfl) (by decide) ?_
      refine r_mk [true, true, false, true] ?_
      exact s_Lit_plainHead_65 C hr E n l0 l1 s0 l0 q3.1.toInt32 (3 : Int32) q3.2 h
  · have h := ziff h c11
    refine r_aload_n C (z_d dd_Lit_plainHead 19 rfl) rfl ?_
    obtain ⟨h6, h⟩ := zif h
    refine r_getP C (z_d dd_Lit_plainHead 20 rfl) lk_Lit_15 rfl h6 rfl ?_
    refine r_bipush (v := (10 : Int32)) C (z_d dd_Lit_plainHead 21 rfl) (by decide) ?_
    refine r_iload_n C (z_d dd_Lit_plainHead 22 rfl) rfl ?_
    obtain ⟨h7, h⟩ := zif h
    obtain ⟨q8, c9, h⟩ := zbd h
    refine r_invV (as := [zI (10 : Int32), zI l2]) C 7 (S_Rep_fail c9) (z_d dd_Lit_plainHead 23 rfl) ok_Rep_fail iv_Rep_fail se_Rep_fail ml_Lit_81 rfl rfl h7 rfl rfl rfl (Nat.le_of_ble_eq_true rfl) ⟨(Nat.le_of_ble_eq_true rfl), (Nat.le_of_ble_eq_true rfl)⟩ ⟨(Nat.le_of_ble_eq_true rfl), (Nat.le_of_ble_eq_true rfl)⟩ ?_
    obtain ⟨h10, h⟩ := zif h
    obtain rfl := z_res h
    exact r_iretZ C E hr (z_d dd_Lit_plainHead 24 rfl) h10 (Nat.le_of_ble_eq_true rfl) (Nat.le_of_ble_eq_true rfl)
def f_Lit_plainHead_0 (O : zO) (n : Nat) (l0 : Nat) (l1 : Int32) (l2 : Int32) (M : zM) : Option (Int32 × zM) :=
  if z_k M l0 = 7 then
  if (z_i M l0 11) = (1 : Int32) then
  f_Lit_plainHead_25 O n l0 l1 l2 (2 : Int32) M
  else
  if (z_i M l0 11) = (3 : Int32) then
  f_Lit_plainHead_25 O n l0 l1 l2 (3 : Int32) M
  else
  f_Lit_plainHead_25 O n l0 l1 l2 (1 : Int32) M
  else none
set_option maxRecDepth 100000 in
set_option maxHeartbeats 4000000 in
theorem s_Lit_plainHead_0 {X : zX} {q : Int32 × zM} (C : zC X zR6 prog_7_method_7_code 4 { frames := 1, cells := 0, slots := 0, locals := 25 }) (hr : zRt X (some .boolean)) (E : zE X (some (zI q.1)) q.2 0 0) : ∀ (n : Nat) (l0 : Nat) (l1 : Int32) (l2 : Int32) (M : zM), f_Lit_plainHead_0 (zOD X) n l0 l1 l2 M = some q → zW X 0 0 0 [some (zP l0), some (zI l1), some (zI l2), none] [] M := by
  intro n l0 l1 l2 M h
  rw [f_Lit_plainHead_0] at h
  refine r_aload_n C (z_d dd_Lit_plainHead 0 rfl) rfl ?_
  obtain ⟨h1, h⟩ := zif h
  refine r_getI C (z_d dd_Lit_plainHead 1 rfl) lk_Lit_62 rfl h1 rfl ?_
  refine r_iconst (v := (1 : Int32)) C (z_d dd_Lit_plainHead 2 rfl) (by decide) ?_
  refine r_icmp_ne C 12 (z_d dd_Lit_plainHead 3 rfl) (by decide) (fun c3 => ?_) (fun c3 => ?_)
  · have h := ziff h c3
    refine r_aload_n C (z_d dd_Lit_plainHead 6 rfl) rfl ?_
    refine r_getI C (z_d dd_Lit_plainHead 7 rfl) lk_Lit_62 rfl h1 rfl ?_
    refine r_iconst (v := (3 : Int32)) C (z_d dd_Lit_plainHead 8 rfl) (by decide) ?_
    refine r_icmp_ne C 24 (z_d dd_Lit_plainHead 9 rfl) (by decide) (fun c2 => ?_) (fun c2 => ?_)
    · have h := ziff h c2
      refine r_iconst (v := (1 : Int32)) C (z_d dd_Lit_plainHead 12 rfl) (by decide) ?_
      exact s_Lit_plainHead_25 C hr E n l0 l1 l2 (1 : Int32) M h
    · have h := zift h c2
      refine r_iconst (v := (3 : Int32)) C (z_d dd_Lit_plainHead 10 rfl) (by decide) ?_
      refine r_goto C 25 (z_d dd_Lit_plainHead 11 rfl) (by decide) ?_
      exact s_Lit_plainHead_25 C hr E n l0 l1 l2 (3 : Int32) M h
  · have h := zift h c3
    refine r_iconst (v := (2 : Int32)) C (z_d dd_Lit_plainHead 4 rfl) (by decide) ?_
    refine r_goto C 25 (z_d dd_Lit_plainHead 5 rfl) (by decide) ?_
    exact s_Lit_plainHead_25 C hr E n l0 l1 l2 (2 : Int32) M h
def F_Lit_plainHead (O : zO) (n : Nat) (l0 : Nat) (l1 : Int32) (l2 : Int32) (M : zM) : Option (Int32 × zM) := f_Lit_plainHead_0 O n l0 l1 l2 M
theorem S_Lit_plainHead {l : Launch} {D : zD} {n : Nat} {l0 : Nat} {l1 : Int32} {l2 : Int32} {M : zM} {q : Int32 × zM} (h : F_Lit_plainHead D.2.2.2.2 n l0 l1 l2 M = some q) : zMet l D mi_Lit_plainHead [zP l0, zI l1, zI l2] M (some (zI q.1)) q.2 :=
  z_met (by decide) (Nat.le_of_ble_eq_true rfl) (fun X C E hr hin hD hl => by
    subst hD
    exact s_Lit_plainHead_0 C hr E n l0 l1 l2 M h)

def f_Lit_codedHead_59 (O : zO) (n : Nat) (l0 : Nat) (l1 : Int32) (l3 : Int32) (s0 : Int32) (M : zM) : Option (Int32 × zM) :=
  if z_k M l0 = 7 then
  if z_k M (z_p M l0 0) = 9 then
  (F_Row_number O n (z_p M l0 0) l1 l3 M).bind fun q3 =>
  zlet (q3.1 >>> ((4 : Int32).toInt64 &&& 63)) fun v5 =>
  if z_k q3.2 l0 = 7 then
  zlet (w_i q3.2 l0 7 (v5 &&& (((1 : Int32) <<< (s0 &&& 31)) - (1 : Int32)).toInt64).toInt32) fun M8 =>
  zlet (w_i M8 l0 12 (l1 + l3)) fun M11 =>
  zlet (w_i M11 l0 9 ((z_i M11 l0 12) + (v5 >>> (s0.toInt64 &&& 63)).toInt32)) fun M14 =>
  some ((1 : Int32), M14)
  else none
  else none
  else none
set_option maxRecDepth 100000 in
set_option maxHeartbeats 4000000 in
theorem s_Lit_codedHead_59 {X : zX} {q : Int32 × zM} (C : zC X zR6 prog_7_method_8_code 7 { frames := 1, cells := 0, slots := 0, locals := 25 }) (hr : zRt X (some .boolean)) (E : zE X (some (zI q.1)) q.2 0 0) : ∀ (n : Nat) (l0 : Nat) (l1 : Int32) (l3 : Int32) (s0 : Int32) (M : zM), f_Lit_codedHead_59 (zOD X) n l0 l1 l3 s0 M = some q → zW X 0 0 59 [some (zP l0), some (zI l1), none, some (zI l3), none, none, none] [zI s0] M := by
  intro n l0 l1 l3 s0 M h
  rw [f_Lit_codedHead_59] at h
  refine r_istore (lv' := [some (zP l0), some (zI l1), none, some (zI l3), some (zI s0), none, none]) C (z_d dd_Lit_codedHead 34 rfl) (Nat.le_of_ble_eq_true rfl) rfl ?_
  refine r_aload_n C (z_d dd_Lit_codedHead 35 rfl) rfl ?_
  obtain ⟨h1, h⟩ := zif h
  refine r_getP C (z_d dd_Lit_codedHead 36 rfl) lk_Lit_9 rfl h1 rfl ?_
  refine r_iload_n C (z_d dd_Lit_codedHead 37 rfl) rfl ?_
  refine r_iload_n C (z_d dd_Lit_codedHead 38 rfl) rfl ?_
  obtain ⟨h2, h⟩ := zif h
  obtain ⟨q3, c4, h⟩ := zbd h
  refine r_invV (as := [zI l1, zI l3]) C 8 (S_Row_number c4) (z_d dd_Lit_codedHead 39 rfl) ok_Row_number iv_Row_number se_Row_number ml_Lit_116 rfl rfl h2 rfl rfl rfl (Nat.le_of_ble_eq_true rfl) ⟨(Nat.le_of_ble_eq_true rfl), (Nat.le_of_ble_eq_true rfl)⟩ ⟨(Nat.le_of_ble_eq_true rfl), (Nat.le_of_ble_eq_true rfl)⟩ ?_
  refine r_iconst (v := (4 : Int32)) C (z_d dd_Lit_codedHead 40 rfl) (by decide) ?_
  refine r_lshr C (z_d dd_Lit_codedHead 41 rfl) ?_
  obtain ⟨v5, e6, h⟩ := zlet_ex h
  refine r_nmL e6 ?_
  refine r_lstore (lv' := [some (zP l0), some (zI l1), none, some (zI l3), some (zI s0), some (zL v5), none]) C (z_d dd_Lit_codedHead 42 rfl) (Nat.le_of_ble_eq_true rfl) rfl ?_
  refine r_aload_n C (z_d dd_Lit_codedHead 43 rfl) rfl ?_
  refine r_lload C (z_d dd_Lit_codedHead 44 rfl) rfl ?_
  refine r_iconst (v := (1 : Int32)) C (z_d dd_Lit_codedHead 45 rfl) (by decide) ?_
  refine r_iload C (z_d dd_Lit_codedHead 46 rfl) rfl ?_
  refine r_ishl C (z_d dd_Lit_codedHead 47 rfl) ?_
  refine r_iconst (v := (1 : Int32)) C (z_d dd_Lit_codedHead 48 rfl) (by decide) ?_
  refine r_isub C (z_d dd_Lit_codedHead 49 rfl) ?_
  refine r_i2l C (z_d dd_Lit_codedHead 50 rfl) ?_
  refine r_land C (z_d dd_Lit_codedHead 51 rfl) ?_
  refine r_l2i C (z_d dd_Lit_codedHead 52 rfl) ?_
  obtain ⟨h7, h⟩ := zif h
  obtain ⟨M8, e9, h⟩ := zlet_ex h
  have h10 := k_i e9 h7
  refine r_putI C (z_d dd_Lit_codedHead 53 rfl) lp_Lit_49 rfl h7 e9 ?_
  refine r_aload_n C (z_d dd_Lit_codedHead 54 rfl) rfl ?_
  refine r_iload_n C (z_d dd_Lit_codedHead 55 rfl) rfl ?_
  refine r_iload_n C (z_d dd_Lit_codedHead 56 rfl) rfl ?_
  refine r_iadd C (z_d dd_Lit_codedHead 57 rfl) ?_
  obtain ⟨M11, e12, h⟩ := zlet_ex h
  have h13 := k_i e12 h10
  refine r_putI C (z_d dd_Lit_codedHead 58 rfl) lp_Lit_65 rfl h10 e12 ?_
  refine r_aload_n C (z_d dd_Lit_codedHead 59 rfl) rfl ?_
  refine r_aload_n C (z_d dd_Lit_codedHead 60 rfl) rfl ?_
  refine r_getI C (z_d dd_Lit_codedHead 61 rfl) lk_Lit_65 rfl h13 rfl ?_
  refine r_lload C (z_d dd_Lit_codedHead 62 rfl) rfl ?_
  refine r_iload C (z_d dd_Lit_codedHead 63 rfl) rfl ?_
  refine r_lshr C (z_d dd_Lit_codedHead 64 rfl) ?_
  refine r_l2i C (z_d dd_Lit_codedHead 65 rfl) ?_
  refine r_iadd C (z_d dd_Lit_codedHead 66 rfl) ?_
  obtain ⟨M14, e15, h⟩ := zlet_ex h
  have h16 := k_i e15 h13
  refine r_putI C (z_d dd_Lit_codedHead 67 rfl) lp_Lit_56 rfl h13 e15 ?_
  refine r_iconst (v := (1 : Int32)) C (z_d dd_Lit_codedHead 68 rfl) (by decide) ?_
  obtain rfl := z_res h
  exact r_iretZ C E hr (z_d dd_Lit_codedHead 69 rfl) (by decide) (Nat.le_of_ble_eq_true rfl) (Nat.le_of_ble_eq_true rfl)
def f_Lit_codedHead_18 (O : zO) (n : Nat) (l0 : Nat) (l1 : Int32) (l2 : Int32) (s0 : Int32) (M : zM) : Option (Int32 × zM) :=
  if s0 ≤ (l2 - l1) then
  if z_k M l0 = 7 then
  if (2 : Int32) ≤ (z_i M l0 11) then
  f_Lit_codedHead_59 O n l0 l1 s0 (((4 : Int32) * (z_i M l0 11)) + (6 : Int32)) M
  else
  f_Lit_codedHead_59 O n l0 l1 s0 (10 : Int32) M
  else none
  else
  if z_k M l0 = 7 then
  if z_k M (z_p M l0 1) = 8 then
  (F_Rep_fail O n (z_p M l0 1) (10 : Int32) l2 M).bind fun q5 =>
  if q5.1 = 0 ∨ q5.1 = 1 then
  some (q5.1, q5.2)
  else none
  else none
  else none
set_option maxRecDepth 100000 in
set_option maxHeartbeats 4000000 in
theorem s_Lit_codedHead_18 {X : zX} {q : Int32 × zM} (C : zC X zR6 prog_7_method_8_code 7 { frames := 1, cells := 0, slots := 0, locals := 25 }) (hr : zRt X (some .boolean)) (E : zE X (some (zI q.1)) q.2 0 0) : ∀ (n : Nat) (l0 : Nat) (l1 : Int32) (l2 : Int32) (s0 : Int32) (M : zM), f_Lit_codedHead_18 (zOD X) n l0 l1 l2 s0 M = some q → zW X 0 0 18 [some (zP l0), some (zI l1), some (zI l2), none, none, none, none] [zI s0] M := by
  intro n l0 l1 l2 s0 M h
  rw [f_Lit_codedHead_18] at h
  refine r_istore_n (lv' := [some (zP l0), some (zI l1), some (zI l2), some (zI s0), none, none, none]) C (z_d dd_Lit_codedHead 10 rfl) (Nat.le_of_ble_eq_true rfl) rfl ?_
  refine r_iload_n C (z_d dd_Lit_codedHead 11 rfl) rfl ?_
  refine r_iload_n C (z_d dd_Lit_codedHead 12 rfl) rfl ?_
  refine r_isub C (z_d dd_Lit_codedHead 13 rfl) ?_
  refine r_iload_n C (z_d dd_Lit_codedHead 14 rfl) rfl ?_
  refine r_icmp_ge C 37 (z_d dd_Lit_codedHead 15 rfl) (by decide) (fun c8 => ?_) (fun c8 => ?_)
  · have h := zift h c8
    refine r_aload_n C (z_d dd_Lit_codedHead 22 rfl) rfl ?_
    obtain ⟨h1, h⟩ := zif h
    refine r_getI C (z_d dd_Lit_codedHead 23 rfl) lk_Lit_62 rfl h1 rfl ?_
    refine r_iconst (v := (2 : Int32)) C (z_d dd_Lit_codedHead 24 rfl) (by decide) ?_
    refine r_icmp_ge C 50 (z_d dd_Lit_codedHead 25 rfl) (by decide) (fun c2 => ?_) (fun c2 => ?_)
    · have h := zift h c2
      refine r_iconst (v := (4 : Int32)) C (z_d dd_Lit_codedHead 28 rfl) (by decide) ?_
      refine r_aload_n C (z_d dd_Lit_codedHead 29 rfl) rfl ?_
      refine r_getI C (z_d dd_Lit_codedHead 30 rfl) lk_Lit_62 rfl h1 rfl ?_
      refine r_imul C (z_d dd_Lit_codedHead 31 rfl) ?_
      refine r_bipush (v := (6 : Int32)) C (z_d dd_Lit_codedHead 32 rfl) (by decide) ?_
      refine r_iadd C (z_d dd_Lit_codedHead 33 rfl) ?_
      refine r_mk [true, true, false, true, false, false, false] ?_
      exact s_Lit_codedHead_59 C hr E n l0 l1 s0 (((4 : Int32) * (z_i M l0 11)) + (6 : Int32)) M h
    · have h := ziff h c2
      refine r_bipush (v := (10 : Int32)) C (z_d dd_Lit_codedHead 26 rfl) (by decide) ?_
      refine r_goto C 59 (z_d dd_Lit_codedHead 27 rfl) (by decide) ?_
      refine r_mk [true, true, false, true, false, false, false] ?_
      exact s_Lit_codedHead_59 C hr E n l0 l1 s0 (10 : Int32) M h
  · have h := ziff h c8
    refine r_aload_n C (z_d dd_Lit_codedHead 16 rfl) rfl ?_
    obtain ⟨h3, h⟩ := zif h
    refine r_getP C (z_d dd_Lit_codedHead 17 rfl) lk_Lit_15 rfl h3 rfl ?_
    refine r_bipush (v := (10 : Int32)) C (z_d dd_Lit_codedHead 18 rfl) (by decide) ?_
    refine r_iload_n C (z_d dd_Lit_codedHead 19 rfl) rfl ?_
    obtain ⟨h4, h⟩ := zif h
    obtain ⟨q5, c6, h⟩ := zbd h
    refine r_invV (as := [zI (10 : Int32), zI l2]) C 7 (S_Rep_fail c6) (z_d dd_Lit_codedHead 20 rfl) ok_Rep_fail iv_Rep_fail se_Rep_fail ml_Lit_81 rfl rfl h4 rfl rfl rfl (Nat.le_of_ble_eq_true rfl) ⟨(Nat.le_of_ble_eq_true rfl), (Nat.le_of_ble_eq_true rfl)⟩ ⟨(Nat.le_of_ble_eq_true rfl), (Nat.le_of_ble_eq_true rfl)⟩ ?_
    obtain ⟨h7, h⟩ := zif h
    obtain rfl := z_res h
    exact r_iretZ C E hr (z_d dd_Lit_codedHead 21 rfl) h7 (Nat.le_of_ble_eq_true rfl) (Nat.le_of_ble_eq_true rfl)
def f_Lit_codedHead_0 (O : zO) (n : Nat) (l0 : Nat) (l1 : Int32) (l2 : Int32) (M : zM) : Option (Int32 × zM) :=
  if z_k M l0 = 7 then
  if (2 : Int32) ≤ (z_i M l0 11) then
  f_Lit_codedHead_18 O n l0 l1 l2 ((z_i M l0 11) + (2 : Int32)) M
  else
  f_Lit_codedHead_18 O n l0 l1 l2 (3 : Int32) M
  else none
set_option maxRecDepth 100000 in
set_option maxHeartbeats 4000000 in
theorem s_Lit_codedHead_0 {X : zX} {q : Int32 × zM} (C : zC X zR6 prog_7_method_8_code 7 { frames := 1, cells := 0, slots := 0, locals := 25 }) (hr : zRt X (some .boolean)) (E : zE X (some (zI q.1)) q.2 0 0) : ∀ (n : Nat) (l0 : Nat) (l1 : Int32) (l2 : Int32) (M : zM), f_Lit_codedHead_0 (zOD X) n l0 l1 l2 M = some q → zW X 0 0 0 [some (zP l0), some (zI l1), some (zI l2), none, none, none, none] [] M := by
  intro n l0 l1 l2 M h
  rw [f_Lit_codedHead_0] at h
  refine r_aload_n C (z_d dd_Lit_codedHead 0 rfl) rfl ?_
  obtain ⟨h1, h⟩ := zif h
  refine r_getI C (z_d dd_Lit_codedHead 1 rfl) lk_Lit_62 rfl h1 rfl ?_
  refine r_iconst (v := (2 : Int32)) C (z_d dd_Lit_codedHead 2 rfl) (by decide) ?_
  refine r_icmp_ge C 12 (z_d dd_Lit_codedHead 3 rfl) (by decide) (fun c2 => ?_) (fun c2 => ?_)
  · have h := zift h c2
    refine r_aload_n C (z_d dd_Lit_codedHead 6 rfl) rfl ?_
    refine r_getI C (z_d dd_Lit_codedHead 7 rfl) lk_Lit_62 rfl h1 rfl ?_
    refine r_iconst (v := (2 : Int32)) C (z_d dd_Lit_codedHead 8 rfl) (by decide) ?_
    refine r_iadd C (z_d dd_Lit_codedHead 9 rfl) ?_
    exact s_Lit_codedHead_18 C hr E n l0 l1 l2 ((z_i M l0 11) + (2 : Int32)) M h
  · have h := ziff h c2
    refine r_iconst (v := (3 : Int32)) C (z_d dd_Lit_codedHead 4 rfl) (by decide) ?_
    refine r_goto C 18 (z_d dd_Lit_codedHead 5 rfl) (by decide) ?_
    exact s_Lit_codedHead_18 C hr E n l0 l1 l2 (3 : Int32) M h
def F_Lit_codedHead (O : zO) (n : Nat) (l0 : Nat) (l1 : Int32) (l2 : Int32) (M : zM) : Option (Int32 × zM) := f_Lit_codedHead_0 O n l0 l1 l2 M
theorem S_Lit_codedHead {l : Launch} {D : zD} {n : Nat} {l0 : Nat} {l1 : Int32} {l2 : Int32} {M : zM} {q : Int32 × zM} (h : F_Lit_codedHead D.2.2.2.2 n l0 l1 l2 M = some q) : zMet l D mi_Lit_codedHead [zP l0, zI l1, zI l2] M (some (zI q.1)) q.2 :=
  z_met (by decide) (Nat.le_of_ble_eq_true rfl) (fun X C E hr hin hD hl => by
    subst hD
    exact s_Lit_codedHead_0 C hr E n l0 l1 l2 M h)

def f_Lit_quarter_0 (O : zO) (n : Nat) (l0 : Nat) (M : zM) : Option (Int32 × zM) :=
  if z_k M l0 = 7 then
  some ((((z_i M l0 7) + (3 : Int32)) / (4 : Int32)), M)
  else none
set_option maxRecDepth 100000 in
set_option maxHeartbeats 4000000 in
theorem s_Lit_quarter_0 {X : zX} {q : Int32 × zM} (C : zC X zR6 prog_7_method_6_code 1 { frames := 0, cells := 0, slots := 0, locals := 0 }) (hr : zRt X (some .int)) (E : zE X (some (zI q.1)) q.2 0 0) : ∀ (n : Nat) (l0 : Nat) (M : zM), f_Lit_quarter_0 (zOD X) n l0 M = some q → zW X 0 0 0 [some (zP l0)] [] M := by
  intro n l0 M h
  rw [f_Lit_quarter_0] at h
  refine r_aload_n C (z_d dd_Lit_quarter 0 rfl) rfl ?_
  obtain ⟨h1, h⟩ := zif h
  refine r_getI C (z_d dd_Lit_quarter 1 rfl) lk_Lit_49 rfl h1 rfl ?_
  refine r_iconst (v := (3 : Int32)) C (z_d dd_Lit_quarter 2 rfl) (by decide) ?_
  refine r_iadd C (z_d dd_Lit_quarter 3 rfl) ?_
  refine r_iconst (v := (4 : Int32)) C (z_d dd_Lit_quarter 4 rfl) (by decide) ?_
  refine r_idiv C (z_d dd_Lit_quarter 5 rfl) (by decide) ?_
  obtain rfl := z_res h
  exact r_iretI C E hr (z_d dd_Lit_quarter 6 rfl) (Nat.le_of_ble_eq_true rfl) (Nat.le_of_ble_eq_true rfl)
def F_Lit_quarter (O : zO) (n : Nat) (l0 : Nat) (M : zM) : Option (Int32 × zM) := f_Lit_quarter_0 O n l0 M
theorem S_Lit_quarter {l : Launch} {D : zD} {n : Nat} {l0 : Nat} {M : zM} {q : Int32 × zM} (h : F_Lit_quarter D.2.2.2.2 n l0 M = some q) : zMet l D mi_Lit_quarter [zP l0] M (some (zI q.1)) q.2 :=
  z_met (by decide) (Nat.le_of_ble_eq_true rfl) (fun X C E hr hin hD hl => by
    subst hD
    exact s_Lit_quarter_0 C hr E n l0 M h)

def f_Lit_takePlain_51 (O : zO) (n : Nat) (M : zM) : Option (Unit × zM) :=
  some ((), M)
set_option maxRecDepth 100000 in
set_option maxHeartbeats 4000000 in
theorem s_Lit_takePlain_51 {X : zX} {q : Unit × zM} (C : zC X zR6 prog_7_method_9_code 1 { frames := 3, cells := 0, slots := 0, locals := 84 }) (hr : zRt X none) (E : zE X none q.2 0 0) : ∀ (n : Nat) (M : zM), f_Lit_takePlain_51 (zOD X) n M = some q → zW X 0 0 51 [none] [] M := by
  intro n M h
  rw [f_Lit_takePlain_51] at h
  obtain rfl := z_res h
  exact r_vret C E hr (z_d dd_Lit_takePlain 23 rfl) (Nat.le_of_ble_eq_true rfl) (Nat.le_of_ble_eq_true rfl)
def f_Lit_takePlain_0 (O : zO) (n : Nat) (l0 : Nat) (M : zM) : Option (Unit × zM) :=
  if z_k M l0 = 7 then
  if (z_i M l0 10) = 0 then
  if z_k M (z_p M l0 4) = 9 then
  (F_Row_putPart O n (z_p M l0 4) (z_p M l0 0) (z_i M l0 12) (z_i M l0 7) M).bind fun q10 =>
  f_Lit_takePlain_51 O n q10.2
  else none
  else
  if z_k M (z_p M l0 0) = 9 then
  (F_Row_at O n (z_p M l0 0) (z_i M l0 12) M).bind fun q3 =>
  if z_k q3.2 l0 = 7 then
  if z_k q3.2 (z_p M l0 4) = 9 then
  (F_Row_putTimes O n (z_p M l0 4) q3.1 (z_i q3.2 l0 7) q3.2).bind fun q7 =>
  f_Lit_takePlain_51 O n q7.2
  else none
  else none
  else none
  else none
set_option maxRecDepth 100000 in
set_option maxHeartbeats 4000000 in
theorem s_Lit_takePlain_0 {X : zX} {q : Unit × zM} (C : zC X zR6 prog_7_method_9_code 1 { frames := 3, cells := 0, slots := 0, locals := 84 }) (hr : zRt X none) (E : zE X none q.2 0 0) : ∀ (n : Nat) (l0 : Nat) (M : zM), f_Lit_takePlain_0 (zOD X) n l0 M = some q → zW X 0 0 0 [some (zP l0)] [] M := by
  intro n l0 M h
  rw [f_Lit_takePlain_0] at h
  refine r_aload_n C (z_d dd_Lit_takePlain 0 rfl) rfl ?_
  obtain ⟨h1, h⟩ := zif h
  refine r_getI C (z_d dd_Lit_takePlain 1 rfl) lk_Lit_59 rfl h1 rfl ?_
  refine r_if_ne C 29 (z_d dd_Lit_takePlain 2 rfl) (by decide) (fun c12 => ?_) (fun c12 => ?_)
  · have h := ziff h c12
    refine r_aload_n C (z_d dd_Lit_takePlain 13 rfl) rfl ?_
    refine r_getP C (z_d dd_Lit_takePlain 14 rfl) lk_Lit_39 rfl h1 rfl ?_
    refine r_aload_n C (z_d dd_Lit_takePlain 15 rfl) rfl ?_
    refine r_getP C (z_d dd_Lit_takePlain 16 rfl) lk_Lit_9 rfl h1 rfl ?_
    refine r_aload_n C (z_d dd_Lit_takePlain 17 rfl) rfl ?_
    refine r_getI C (z_d dd_Lit_takePlain 18 rfl) lk_Lit_65 rfl h1 rfl ?_
    obtain ⟨h2, h⟩ := zif h
    obtain ⟨q3, c4, h⟩ := zbd h
    refine r_invV (as := [zI (z_i M l0 12)]) C 8 (S_Row_at c4) (z_d dd_Lit_takePlain 19 rfl) ok_Row_at iv_Row_at se_Row_at ml_Lit_87 rfl rfl h2 rfl rfl rfl (Nat.le_of_ble_eq_true rfl) ⟨(Nat.le_of_ble_eq_true rfl), (Nat.le_of_ble_eq_true rfl)⟩ ⟨(Nat.le_of_ble_eq_true rfl), (Nat.le_of_ble_eq_true rfl)⟩ ?_
    refine r_aload_n C (z_d dd_Lit_takePlain 20 rfl) rfl ?_
    obtain ⟨h5, h⟩ := zif h
    refine r_getI C (z_d dd_Lit_takePlain 21 rfl) lk_Lit_49 rfl h5 rfl ?_
    obtain ⟨h6, h⟩ := zif h
    obtain ⟨q7, c8, h⟩ := zbd h
    refine r_invV (as := [zI q3.1, zI (z_i q3.2 l0 7)]) C 8 (S_Row_putTimes c8) (z_d dd_Lit_takePlain 22 rfl) ok_Row_putTimes iv_Row_putTimes se_Row_putTimes ml_Lit_120 rfl rfl h6 rfl rfl rfl (Nat.le_of_ble_eq_true rfl) ⟨(Nat.le_of_ble_eq_true rfl), (Nat.le_of_ble_eq_true rfl)⟩ ⟨(Nat.le_of_ble_eq_true rfl), (Nat.le_of_ble_eq_true rfl)⟩ ?_
    refine r_mk [false] ?_
    exact s_Lit_takePlain_51 C hr E n q7.2 h
  · have h := zift h c12
    refine r_aload_n C (z_d dd_Lit_takePlain 3 rfl) rfl ?_
    refine r_getP C (z_d dd_Lit_takePlain 4 rfl) lk_Lit_39 rfl h1 rfl ?_
    refine r_aload_n C (z_d dd_Lit_takePlain 5 rfl) rfl ?_
    refine r_getP C (z_d dd_Lit_takePlain 6 rfl) lk_Lit_9 rfl h1 rfl ?_
    refine r_aload_n C (z_d dd_Lit_takePlain 7 rfl) rfl ?_
    refine r_getI C (z_d dd_Lit_takePlain 8 rfl) lk_Lit_65 rfl h1 rfl ?_
    refine r_aload_n C (z_d dd_Lit_takePlain 9 rfl) rfl ?_
    refine r_getI C (z_d dd_Lit_takePlain 10 rfl) lk_Lit_49 rfl h1 rfl ?_
    obtain ⟨h9, h⟩ := zif h
    obtain ⟨q10, c11, h⟩ := zbd h
    refine r_invV (as := [zP (z_p M l0 0), zI (z_i M l0 12), zI (z_i M l0 7)]) C 8 (S_Row_putPart c11) (z_d dd_Lit_takePlain 11 rfl) ok_Row_putPart iv_Row_putPart se_Row_putPart ml_Lit_74 rfl rfl h9 rfl rfl rfl (Nat.le_of_ble_eq_true rfl) ⟨(Nat.le_of_ble_eq_true rfl), (Nat.le_of_ble_eq_true rfl)⟩ ⟨(Nat.le_of_ble_eq_true rfl), (Nat.le_of_ble_eq_true rfl)⟩ ?_
    refine r_goto C 51 (z_d dd_Lit_takePlain 12 rfl) (by decide) ?_
    refine r_mk [false] ?_
    exact s_Lit_takePlain_51 C hr E n q10.2 h
def F_Lit_takePlain (O : zO) (n : Nat) (l0 : Nat) (M : zM) : Option (Unit × zM) := f_Lit_takePlain_0 O n l0 M
theorem S_Lit_takePlain {l : Launch} {D : zD} {n : Nat} {l0 : Nat} {M : zM} {q : Unit × zM} (h : F_Lit_takePlain D.2.2.2.2 n l0 M = some q) : zMet l D mi_Lit_takePlain [zP l0] M none q.2 :=
  z_met (by decide) (Nat.le_of_ble_eq_true rfl) (fun X C E hr hin hD hl => by
    subst hD
    exact s_Lit_takePlain_0 C hr E n l0 M h)

def f_Codes_next_33 (O : zO) (n : Nat) (l0 : Nat) (l1 : Nat) (s0 : Int32) (M : zM) : Option (Int32 × zM) :=
  if z_k M l1 = 12 then
  if z_k M l0 = 2 then
  if z_k M (z_p M l0 1) = 100 then
  if zin s0 (z_n M (z_p M l0 1)) = true then
  zlet (w_i M l1 2 ((z_i M l1 2) + ((z_i M l0 5) - (z_i M (z_p M l0 1) s0.toNatClampNeg)))) fun M5 =>
  some (s0, M5)
  else none
  else none
  else none
  else none
set_option maxRecDepth 100000 in
set_option maxHeartbeats 4000000 in
theorem s_Codes_next_33 {X : zX} {q : Int32 × zM} (C : zC X zR1 prog_2_method_2_code 4 { frames := 1, cells := 0, slots := 0, locals := 26 }) (hr : zRt X (some .int)) (E : zE X (some (zI q.1)) q.2 0 0) : ∀ (n : Nat) (l0 : Nat) (l1 : Nat) (s0 : Int32) (M : zM), f_Codes_next_33 (zOD X) n l0 l1 s0 M = some q → zW X 0 0 33 [some (zP l0), some (zP l1), none, none] [zI s0] M := by
  intro n l0 l1 s0 M h
  rw [f_Codes_next_33] at h
  refine r_istore_n (lv' := [some (zP l0), some (zP l1), none, some (zI s0)]) C (z_d dd_Codes_next 19 rfl) (Nat.le_of_ble_eq_true rfl) rfl ?_
  refine r_aload_n C (z_d dd_Codes_next 20 rfl) rfl ?_
  refine r_dupP C (z_d dd_Codes_next 21 rfl) ?_
  obtain ⟨h1, h⟩ := zif h
  refine r_getI C (z_d dd_Codes_next 22 rfl) lk_Codes_48 rfl h1 rfl ?_
  refine r_aload_n C (z_d dd_Codes_next 23 rfl) rfl ?_
  obtain ⟨h2, h⟩ := zif h
  refine r_getI C (z_d dd_Codes_next 24 rfl) lk_Codes_37 rfl h2 rfl ?_
  refine r_aload_n C (z_d dd_Codes_next 25 rfl) rfl ?_
  refine r_getP C (z_d dd_Codes_next 26 rfl) lk_Codes_15 rfl h2 rfl ?_
  refine r_iload_n C (z_d dd_Codes_next 27 rfl) rfl ?_
  obtain ⟨h3, h⟩ := zif h
  obtain ⟨h4, h⟩ := zif h
  refine r_iald C (z_d dd_Codes_next 28 rfl) h3 h4 rfl ?_
  refine r_isub C (z_d dd_Codes_next 29 rfl) ?_
  refine r_iadd C (z_d dd_Codes_next 30 rfl) ?_
  obtain ⟨M5, e6, h⟩ := zlet_ex h
  have h7 := k_i e6 h1
  have h8 := k_i e6 h2
  have h9 := k_i e6 h3
  refine r_putI C (z_d dd_Codes_next 31 rfl) lp_Codes_48 rfl h1 e6 ?_
  refine r_iload_n C (z_d dd_Codes_next 32 rfl) rfl ?_
  obtain rfl := z_res h
  exact r_iretI C E hr (z_d dd_Codes_next 33 rfl) (Nat.le_of_ble_eq_true rfl) (Nat.le_of_ble_eq_true rfl)
def f_Codes_next_32 (O : zO) (n : Nat) (l0 : Nat) (l1 : Nat) (M : zM) : Option (Int32 × zM) :=
  f_Codes_next_33 O n l0 l1 (0 : Int32) M
set_option maxRecDepth 100000 in
set_option maxHeartbeats 4000000 in
theorem s_Codes_next_32 {X : zX} {q : Int32 × zM} (C : zC X zR1 prog_2_method_2_code 4 { frames := 1, cells := 0, slots := 0, locals := 26 }) (hr : zRt X (some .int)) (E : zE X (some (zI q.1)) q.2 0 0) : ∀ (n : Nat) (l0 : Nat) (l1 : Nat) (M : zM), f_Codes_next_32 (zOD X) n l0 l1 M = some q → zW X 0 0 32 [some (zP l0), some (zP l1), none, none] [] M := by
  intro n l0 l1 M h
  rw [f_Codes_next_32] at h
  refine r_iconst (v := (0 : Int32)) C (z_d dd_Codes_next 18 rfl) (by decide) ?_
  exact s_Codes_next_33 C hr E n l0 l1 (0 : Int32) M h
def f_Codes_next_0 (O : zO) (n : Nat) (l0 : Nat) (l1 : Nat) (M : zM) : Option (Int32 × zM) :=
  if z_k M l0 = 2 then
  if z_k M l1 = 12 then
  (F_Stream_take O n l1 (z_i M l0 5) M).bind fun q3 =>
  zlet q3.1.toInt32 fun v5 =>
  if v5 < 0 then
  f_Codes_next_32 O n l0 l1 q3.2
  else
  if z_k q3.2 l0 = 2 then
  if z_k q3.2 (z_p q3.2 l0 2) = 100 then
  if (Int32.ofNat (z_n q3.2 (z_p q3.2 l0 2))) ≤ v5 then
  f_Codes_next_32 O n l0 l1 q3.2
  else
  if zin v5 (z_n q3.2 (z_p q3.2 l0 2)) = true then
  f_Codes_next_33 O n l0 l1 (z_i q3.2 (z_p q3.2 l0 2) v5.toNatClampNeg) q3.2
  else none
  else none
  else none
  else none
  else none
set_option maxRecDepth 100000 in
set_option maxHeartbeats 4000000 in
theorem s_Codes_next_0 {X : zX} {q : Int32 × zM} (C : zC X zR1 prog_2_method_2_code 4 { frames := 1, cells := 0, slots := 0, locals := 26 }) (hr : zRt X (some .int)) (E : zE X (some (zI q.1)) q.2 0 0) : ∀ (n : Nat) (l0 : Nat) (l1 : Nat) (M : zM), f_Codes_next_0 (zOD X) n l0 l1 M = some q → zW X 0 0 0 [some (zP l0), some (zP l1), none, none] [] M := by
  intro n l0 l1 M h
  rw [f_Codes_next_0] at h
  refine r_aload_n C (z_d dd_Codes_next 0 rfl) rfl ?_
  refine r_aload_n C (z_d dd_Codes_next 1 rfl) rfl ?_
  obtain ⟨h1, h⟩ := zif h
  refine r_getI C (z_d dd_Codes_next 2 rfl) lk_Codes_37 rfl h1 rfl ?_
  obtain ⟨h2, h⟩ := zif h
  obtain ⟨q3, c4, h⟩ := zbd h
  refine r_invV (as := [zI (z_i M l0 5)]) C 11 (S_Stream_take c4) (z_d dd_Codes_next 3 rfl) ok_Stream_take iv_Stream_take se_Stream_take ml_Codes_44 rfl rfl h2 rfl rfl rfl (Nat.le_of_ble_eq_true rfl) ⟨(Nat.le_of_ble_eq_true rfl), (Nat.le_of_ble_eq_true rfl)⟩ ⟨(Nat.le_of_ble_eq_true rfl), (Nat.le_of_ble_eq_true rfl)⟩ ?_
  refine r_l2i C (z_d dd_Codes_next 4 rfl) ?_
  obtain ⟨v5, e6, h⟩ := zlet_ex h
  refine r_nmI e6 ?_
  refine r_istore_n (lv' := [some (zP l0), some (zP l1), some (zI v5), none]) C (z_d dd_Codes_next 5 rfl) (Nat.le_of_ble_eq_true rfl) rfl ?_
  refine r_iload_n C (z_d dd_Codes_next 6 rfl) rfl ?_
  refine r_if_lt C 32 (z_d dd_Codes_next 7 rfl) (by decide) (fun c11 => ?_) (fun c11 => ?_)
  · have h := zift h c11
    refine r_mk [true, true, false, false] ?_
    exact s_Codes_next_32 C hr E n l0 l1 q3.2 h
  · have h := ziff h c11
    refine r_iload_n C (z_d dd_Codes_next 8 rfl) rfl ?_
    refine r_aload_n C (z_d dd_Codes_next 9 rfl) rfl ?_
    obtain ⟨h7, h⟩ := zif h
    refine r_getP C (z_d dd_Codes_next 10 rfl) lk_Codes_18 rfl h7 rfl ?_
    obtain ⟨h8, h⟩ := zif h
    refine r_alen C 0 (z_d dd_Codes_next 11 rfl) h8 (Nat.le_of_ble_eq_true rfl) rfl ?_
    refine r_icmp_ge C 32 (z_d dd_Codes_next 12 rfl) (by decide) (fun c10 => ?_) (fun c10 => ?_)
    · have h := zift h c10
      refine r_mk [true, true, false, false] ?_
      exact s_Codes_next_32 C hr E n l0 l1 q3.2 h
    · have h := ziff h c10
      refine r_aload_n C (z_d dd_Codes_next 13 rfl) rfl ?_
      refine r_getP C (z_d dd_Codes_next 14 rfl) lk_Codes_18 rfl h7 rfl ?_
      refine r_iload_n C (z_d dd_Codes_next 15 rfl) rfl ?_
      obtain ⟨h9, h⟩ := zif h
      refine r_iald C (z_d dd_Codes_next 16 rfl) h8 h9 rfl ?_
      refine r_goto C 33 (z_d dd_Codes_next 17 rfl) (by decide) ?_
      refine r_mk [true, true, false, false] ?_
      exact s_Codes_next_33 C hr E n l0 l1 (z_i q3.2 (z_p q3.2 l0 2) v5.toNatClampNeg) q3.2 h
def F_Codes_next (O : zO) (n : Nat) (l0 : Nat) (l1 : Nat) (M : zM) : Option (Int32 × zM) := f_Codes_next_0 O n l0 l1 M
theorem S_Codes_next {l : Launch} {D : zD} {n : Nat} {l0 : Nat} {l1 : Nat} {M : zM} {q : Int32 × zM} (h : F_Codes_next D.2.2.2.2 n l0 l1 M = some q) : zMet l D mi_Codes_next [zP l0, zP l1] M (some (zI q.1)) q.2 :=
  z_met (by decide) (Nat.le_of_ble_eq_true rfl) (fun X C E hr hin hD hl => by
    subst hD
    exact s_Codes_next_0 C hr E n l0 l1 M h)

def f_Lit_takeStream_98 (O : zO) (n : Nat) (s0 : Int32) (M : zM) : Option (Int32 × zM) :=
  if s0 = 0 ∨ s0 = 1 then
  some (s0, M)
  else none
set_option maxRecDepth 100000 in
set_option maxHeartbeats 4000000 in
theorem s_Lit_takeStream_98 {X : zX} {q : Int32 × zM} (C : zC X zR6 prog_7_method_11_code 5 { frames := 2, cells := 0, slots := 0, locals := 49 }) (hr : zRt X (some .boolean)) (E : zE X (some (zI q.1)) q.2 0 0) : ∀ (n : Nat) (s0 : Int32) (M : zM), f_Lit_takeStream_98 (zOD X) n s0 M = some q → zW X 0 0 98 [none, none, none, none, none] [zI s0] M := by
  intro n s0 M h
  rw [f_Lit_takeStream_98] at h
  obtain ⟨h1, h⟩ := zif h
  obtain rfl := z_res h
  exact r_iretZ C E hr (z_d dd_Lit_takeStream 46 rfl) h1 (Nat.le_of_ble_eq_true rfl) (Nat.le_of_ble_eq_true rfl)
def f_Lit_takeStream_93 (O : zO) (n : Nat) (M : zM) : Option (Int32 × zM) :=
  f_Lit_takeStream_98 O n (1 : Int32) M
set_option maxRecDepth 100000 in
set_option maxHeartbeats 4000000 in
theorem s_Lit_takeStream_93 {X : zX} {q : Int32 × zM} (C : zC X zR6 prog_7_method_11_code 5 { frames := 2, cells := 0, slots := 0, locals := 49 }) (hr : zRt X (some .boolean)) (E : zE X (some (zI q.1)) q.2 0 0) : ∀ (n : Nat) (M : zM), f_Lit_takeStream_93 (zOD X) n M = some q → zW X 0 0 93 [none, none, none, none, none] [] M := by
  intro n M h
  rw [f_Lit_takeStream_93] at h
  refine r_iconst (v := (1 : Int32)) C (z_d dd_Lit_takeStream 43 rfl) (by decide) ?_
  refine r_goto C 98 (z_d dd_Lit_takeStream 44 rfl) (by decide) ?_
  exact s_Lit_takeStream_98 C hr E n (1 : Int32) M h
def f_Lit_takeStream_70 (O : zO) (n : Nat) (l0 : Nat) (l1 : Int32) (M : zM) : Option (Int32 × zM) :=
  if z_k M l0 = 7 then
  if z_k M (z_p M l0 2) = 12 then
  if (z_i M (z_p M l0 2) 2) = 0 then
  f_Lit_takeStream_93 O n M
  else
  if z_k M (z_p M l0 1) = 8 then
  (F_Rep_fail O n (z_p M l0 1) (14 : Int32) l1 M).bind fun q4 =>
  if q4.1 = 0 then
  f_Lit_takeStream_98 O n (0 : Int32) q4.2
  else
  f_Lit_takeStream_93 O n q4.2
  else none
  else none
  else none
set_option maxRecDepth 100000 in
set_option maxHeartbeats 4000000 in
theorem s_Lit_takeStream_70 {X : zX} {q : Int32 × zM} (C : zC X zR6 prog_7_method_11_code 5 { frames := 2, cells := 0, slots := 0, locals := 49 }) (hr : zRt X (some .boolean)) (E : zE X (some (zI q.1)) q.2 0 0) : ∀ (n : Nat) (l0 : Nat) (l1 : Int32) (M : zM), f_Lit_takeStream_70 (zOD X) n l0 l1 M = some q → zW X 0 0 70 [some (zP l0), some (zI l1), none, none, none] [] M := by
  intro n l0 l1 M h
  rw [f_Lit_takeStream_70] at h
  refine r_aload_n C (z_d dd_Lit_takeStream 33 rfl) rfl ?_
  obtain ⟨h1, h⟩ := zif h
  refine r_getP C (z_d dd_Lit_takeStream 34 rfl) lk_Lit_22 rfl h1 rfl ?_
  obtain ⟨h2, h⟩ := zif h
  refine r_getI C (z_d dd_Lit_takeStream 35 rfl) lk_Lit_128 rfl h2 rfl ?_
  refine r_if_eq C 93 (z_d dd_Lit_takeStream 36 rfl) (by decide) (fun c7 => ?_) (fun c7 => ?_)
  · have h := zift h c7
    refine r_mk [false, false, false, false, false] ?_
    exact s_Lit_takeStream_93 C hr E n M h
  · have h := ziff h c7
    refine r_aload_n C (z_d dd_Lit_takeStream 37 rfl) rfl ?_
    refine r_getP C (z_d dd_Lit_takeStream 38 rfl) lk_Lit_15 rfl h1 rfl ?_
    refine r_bipush (v := (14 : Int32)) C (z_d dd_Lit_takeStream 39 rfl) (by decide) ?_
    refine r_iload_n C (z_d dd_Lit_takeStream 40 rfl) rfl ?_
    obtain ⟨h3, h⟩ := zif h
    obtain ⟨q4, c5, h⟩ := zbd h
    refine r_invV (as := [zI (14 : Int32), zI l1]) C 7 (S_Rep_fail c5) (z_d dd_Lit_takeStream 41 rfl) ok_Rep_fail iv_Rep_fail se_Rep_fail ml_Lit_81 rfl rfl h3 rfl rfl rfl (Nat.le_of_ble_eq_true rfl) ⟨(Nat.le_of_ble_eq_true rfl), (Nat.le_of_ble_eq_true rfl)⟩ ⟨(Nat.le_of_ble_eq_true rfl), (Nat.le_of_ble_eq_true rfl)⟩ ?_
    refine r_if_eq C 97 (z_d dd_Lit_takeStream 42 rfl) (by decide) (fun c6 => ?_) (fun c6 => ?_)
    · have h := zift h c6
      refine r_iconst (v := (0 : Int32)) C (z_d dd_Lit_takeStream 45 rfl) (by decide) ?_
      refine r_mk [false, false, false, false, false] ?_
      exact s_Lit_takeStream_98 C hr E n (0 : Int32) q4.2 h
    · have h := ziff h c6
      refine r_mk [false, false, false, false, false] ?_
      exact s_Lit_takeStream_93 C hr E n q4.2 h
def f_Lit_takeStream_30 (O : zO) : Nat → Nat → Int32 → Int32 → Int32 → zM → Option (Int32 × zM)
  | 0, _, _, _, _, _ => none
  | n + 1, l0, l1, l3, l4, M =>
    if l3 ≤ l4 then
    f_Lit_takeStream_70 O n l0 l1 M
    else
    if z_k M l0 = 7 then
    if z_k M (z_p M l0 2) = 12 then
    if (z_i M (z_p M l0 2) 2) < 0 then
    f_Lit_takeStream_70 O n l0 l1 M
    else
    if z_k M (z_p M l0 5) = 2 then
    (F_Codes_next O n (z_p M l0 5) (z_p M l0 2) M).bind fun q4 =>
    if z_k q4.2 (z_p M l0 4) = 9 then
    (F_Row_put O n (z_p M l0 4) q4.1 q4.2).bind fun q7 =>
    zlet (l4 + (1 : Int32)) fun v9 =>
    f_Lit_takeStream_30 O n l0 l1 l3 v9 q7.2
    else none
    else none
    else none
    else none
set_option maxRecDepth 100000 in
set_option maxHeartbeats 4000000 in
theorem s_Lit_takeStream_30 {X : zX} {q : Int32 × zM} (C : zC X zR6 prog_7_method_11_code 5 { frames := 2, cells := 0, slots := 0, locals := 49 }) (hr : zRt X (some .boolean)) (E : zE X (some (zI q.1)) q.2 0 0) : ∀ (n : Nat) (l0 : Nat) (l1 : Int32) (l3 : Int32) (l4 : Int32) (M : zM), f_Lit_takeStream_30 (zOD X) n l0 l1 l3 l4 M = some q → zW X 0 0 30 [some (zP l0), some (zI l1), none, some (zI l3), some (zI l4)] [] M := by
  intro n
  induction n with
  | zero => intro l0 l1 l3 l4 M h; rw [f_Lit_takeStream_30] at h; cases h
  | succ n ih =>
    intro l0 l1 l3 l4 M h
    rw [f_Lit_takeStream_30] at h
    refine r_iload C (z_d dd_Lit_takeStream 16 rfl) rfl ?_
    refine r_iload_n C (z_d dd_Lit_takeStream 17 rfl) rfl ?_
    refine r_icmp_ge C 70 (z_d dd_Lit_takeStream 18 rfl) (by decide) (fun c12 => ?_) (fun c12 => ?_)
    · have h := zift h c12
      refine r_mk [true, true, false, false, false] ?_
      exact s_Lit_takeStream_70 C hr E n l0 l1 M h
    · have h := ziff h c12
      refine r_aload_n C (z_d dd_Lit_takeStream 19 rfl) rfl ?_
      obtain ⟨h1, h⟩ := zif h
      refine r_getP C (z_d dd_Lit_takeStream 20 rfl) lk_Lit_22 rfl h1 rfl ?_
      obtain ⟨h2, h⟩ := zif h
      refine r_getI C (z_d dd_Lit_takeStream 21 rfl) lk_Lit_128 rfl h2 rfl ?_
      refine r_if_lt C 70 (z_d dd_Lit_takeStream 22 rfl) (by decide) (fun c11 => ?_) (fun c11 => ?_)
      · have h := zift h c11
        refine r_mk [true, true, false, false, false] ?_
        exact s_Lit_takeStream_70 C hr E n l0 l1 M h
      · have h := ziff h c11
        refine r_aload_n C (z_d dd_Lit_takeStream 23 rfl) rfl ?_
        refine r_getP C (z_d dd_Lit_takeStream 24 rfl) lk_Lit_39 rfl h1 rfl ?_
        refine r_aload_n C (z_d dd_Lit_takeStream 25 rfl) rfl ?_
        refine r_getP C (z_d dd_Lit_takeStream 26 rfl) lk_Lit_42 rfl h1 rfl ?_
        refine r_aload_n C (z_d dd_Lit_takeStream 27 rfl) rfl ?_
        refine r_getP C (z_d dd_Lit_takeStream 28 rfl) lk_Lit_22 rfl h1 rfl ?_
        obtain ⟨h3, h⟩ := zif h
        obtain ⟨q4, c5, h⟩ := zbd h
        refine r_invV (as := [zP (z_p M l0 2)]) C 1 (S_Codes_next c5) (z_d dd_Lit_takeStream 29 rfl) ok_Codes_next iv_Codes_next se_Codes_next ml_Lit_131 rfl rfl h3 rfl rfl rfl (Nat.le_of_ble_eq_true rfl) ⟨(Nat.le_of_ble_eq_true rfl), (Nat.le_of_ble_eq_true rfl)⟩ ⟨(Nat.le_of_ble_eq_true rfl), (Nat.le_of_ble_eq_true rfl)⟩ ?_
        obtain ⟨h6, h⟩ := zif h
        obtain ⟨q7, c8, h⟩ := zbd h
        refine r_invV (as := [zI q4.1]) C 8 (S_Row_put c8) (z_d dd_Lit_takeStream 30 rfl) ok_Row_put iv_Row_put se_Row_put ml_Lit_135 rfl rfl h6 rfl rfl rfl (Nat.le_of_ble_eq_true rfl) ⟨(Nat.le_of_ble_eq_true rfl), (Nat.le_of_ble_eq_true rfl)⟩ ⟨(Nat.le_of_ble_eq_true rfl), (Nat.le_of_ble_eq_true rfl)⟩ ?_
        obtain ⟨v9, e10, h⟩ := zlet_ex h
        refine r_iinc (v := v9) (lv' := [some (zP l0), some (zI l1), none, some (zI l3), some (zI v9)]) C (z_d dd_Lit_takeStream 31 rfl) rfl (Nat.le_of_ble_eq_true rfl) (by rw [e10]; rfl) rfl ?_
        refine r_goto C 30 (z_d dd_Lit_takeStream 32 rfl) (by decide) ?_
        exact ih l0 l1 l3 v9 q7.2 h
def f_Lit_takeStream_0 (O : zO) (n : Nat) (l0 : Nat) (l1 : Int32) (l2 : Int32) (l3 : Int32) (M : zM) : Option (Int32 × zM) :=
  if z_k M l0 = 7 then
  if z_k M (z_p M l0 2) = 12 then
  (F_Stream_open O n (z_p M l0 2) (z_p M l0 0) l1 l2 M).bind fun q3 =>
  if q3.1 = 0 then
  if z_k q3.2 l0 = 7 then
  if z_k q3.2 (z_p q3.2 l0 1) = 8 then
  (F_Rep_fail O n (z_p q3.2 l0 1) (14 : Int32) l1 q3.2).bind fun q7 =>
  if q7.1 = 0 ∨ q7.1 = 1 then
  some (q7.1, q7.2)
  else none
  else none
  else none
  else
  f_Lit_takeStream_30 O n l0 l1 l3 (0 : Int32) q3.2
  else none
  else none
set_option maxRecDepth 100000 in
set_option maxHeartbeats 4000000 in
theorem s_Lit_takeStream_0 {X : zX} {q : Int32 × zM} (C : zC X zR6 prog_7_method_11_code 5 { frames := 2, cells := 0, slots := 0, locals := 49 }) (hr : zRt X (some .boolean)) (E : zE X (some (zI q.1)) q.2 0 0) : ∀ (n : Nat) (l0 : Nat) (l1 : Int32) (l2 : Int32) (l3 : Int32) (M : zM), f_Lit_takeStream_0 (zOD X) n l0 l1 l2 l3 M = some q → zW X 0 0 0 [some (zP l0), some (zI l1), some (zI l2), some (zI l3), none] [] M := by
  intro n l0 l1 l2 l3 M h
  rw [f_Lit_takeStream_0] at h
  refine r_aload_n C (z_d dd_Lit_takeStream 0 rfl) rfl ?_
  obtain ⟨h1, h⟩ := zif h
  refine r_getP C (z_d dd_Lit_takeStream 1 rfl) lk_Lit_22 rfl h1 rfl ?_
  refine r_aload_n C (z_d dd_Lit_takeStream 2 rfl) rfl ?_
  refine r_getP C (z_d dd_Lit_takeStream 3 rfl) lk_Lit_9 rfl h1 rfl ?_
  refine r_iload_n C (z_d dd_Lit_takeStream 4 rfl) rfl ?_
  refine r_iload_n C (z_d dd_Lit_takeStream 5 rfl) rfl ?_
  obtain ⟨h2, h⟩ := zif h
  obtain ⟨q3, c4, h⟩ := zbd h
  refine r_invV (as := [zP (z_p M l0 0), zI l1, zI l2]) C 11 (S_Stream_open c4) (z_d dd_Lit_takeStream 6 rfl) ok_Stream_open iv_Stream_open se_Stream_open ml_Lit_124 rfl rfl h2 rfl rfl rfl (Nat.le_of_ble_eq_true rfl) ⟨(Nat.le_of_ble_eq_true rfl), (Nat.le_of_ble_eq_true rfl)⟩ ⟨(Nat.le_of_ble_eq_true rfl), (Nat.le_of_ble_eq_true rfl)⟩ ?_
  refine r_if_ne C 27 (z_d dd_Lit_takeStream 7 rfl) (by decide) (fun c10 => ?_) (fun c10 => ?_)
  · have h := ziff h c10
    refine r_iconst (v := (0 : Int32)) C (z_d dd_Lit_takeStream 14 rfl) (by decide) ?_
    refine r_istore (lv' := [some (zP l0), some (zI l1), some (zI l2), some (zI l3), some (zI (0 : Int32))]) C (z_d dd_Lit_takeStream 15 rfl) (Nat.le_of_ble_eq_true rfl) rfl ?_
    refine r_mk [true, true, false, true, true] ?_
    exact s_Lit_takeStream_30 C hr E n l0 l1 l3 (0 : Int32) q3.2 h
  · have h := zift h c10
    refine r_aload_n C (z_d dd_Lit_takeStream 8 rfl) rfl ?_
    obtain ⟨h5, h⟩ := zif h
    refine r_getP C (z_d dd_Lit_takeStream 9 rfl) lk_Lit_15 rfl h5 rfl ?_
    refine r_bipush (v := (14 : Int32)) C (z_d dd_Lit_takeStream 10 rfl) (by decide) ?_
    refine r_iload_n C (z_d dd_Lit_takeStream 11 rfl) rfl ?_
    obtain ⟨h6, h⟩ := zif h
    obtain ⟨q7, c8, h⟩ := zbd h
    refine r_invV (as := [zI (14 : Int32), zI l1]) C 7 (S_Rep_fail c8) (z_d dd_Lit_takeStream 12 rfl) ok_Rep_fail iv_Rep_fail se_Rep_fail ml_Lit_81 rfl rfl h6 rfl rfl rfl (Nat.le_of_ble_eq_true rfl) ⟨(Nat.le_of_ble_eq_true rfl), (Nat.le_of_ble_eq_true rfl)⟩ ⟨(Nat.le_of_ble_eq_true rfl), (Nat.le_of_ble_eq_true rfl)⟩ ?_
    obtain ⟨h9, h⟩ := zif h
    obtain rfl := z_res h
    exact r_iretZ C E hr (z_d dd_Lit_takeStream 13 rfl) h9 (Nat.le_of_ble_eq_true rfl) (Nat.le_of_ble_eq_true rfl)
def F_Lit_takeStream (O : zO) (n : Nat) (l0 : Nat) (l1 : Int32) (l2 : Int32) (l3 : Int32) (M : zM) : Option (Int32 × zM) := f_Lit_takeStream_0 O n l0 l1 l2 l3 M
theorem S_Lit_takeStream {l : Launch} {D : zD} {n : Nat} {l0 : Nat} {l1 : Int32} {l2 : Int32} {l3 : Int32} {M : zM} {q : Int32 × zM} (h : F_Lit_takeStream D.2.2.2.2 n l0 l1 l2 l3 M = some q) : zMet l D mi_Lit_takeStream [zP l0, zI l1, zI l2, zI l3] M (some (zI q.1)) q.2 :=
  z_met (by decide) (Nat.le_of_ble_eq_true rfl) (fun X C E hr hin hD hl => by
    subst hD
    exact s_Lit_takeStream_0 C hr E n l0 l1 l2 l3 M h)

def f_Lit_takeFour_173 (O : zO) (n : Nat) (s0 : Int32) (M : zM) : Option (Int32 × zM) :=
  if s0 = 0 ∨ s0 = 1 then
  some (s0, M)
  else none
set_option maxRecDepth 100000 in
set_option maxHeartbeats 4000000 in
theorem s_Lit_takeFour_173 {X : zX} {q : Int32 × zM} (C : zC X zR6 prog_7_method_10_code 6 { frames := 3, cells := 0, slots := 0, locals := 73 }) (hr : zRt X (some .boolean)) (E : zE X (some (zI q.1)) q.2 0 0) : ∀ (n : Nat) (s0 : Int32) (M : zM), f_Lit_takeFour_173 (zOD X) n s0 M = some q → zW X 0 0 173 [none, none, none, none, none, none] [zI s0] M := by
  intro n s0 M h
  rw [f_Lit_takeFour_173] at h
  obtain ⟨h1, h⟩ := zif h
  obtain rfl := z_res h
  exact r_iretZ C E hr (z_d dd_Lit_takeFour 97 rfl) h1 (Nat.le_of_ble_eq_true rfl) (Nat.le_of_ble_eq_true rfl)
def f_Lit_takeFour_172 (O : zO) (n : Nat) (M : zM) : Option (Int32 × zM) :=
  f_Lit_takeFour_173 O n (0 : Int32) M
set_option maxRecDepth 100000 in
set_option maxHeartbeats 4000000 in
theorem s_Lit_takeFour_172 {X : zX} {q : Int32 × zM} (C : zC X zR6 prog_7_method_10_code 6 { frames := 3, cells := 0, slots := 0, locals := 73 }) (hr : zRt X (some .boolean)) (E : zE X (some (zI q.1)) q.2 0 0) : ∀ (n : Nat) (M : zM), f_Lit_takeFour_172 (zOD X) n M = some q → zW X 0 0 172 [none, none, none, none, none, none] [] M := by
  intro n M h
  rw [f_Lit_takeFour_172] at h
  refine r_iconst (v := (0 : Int32)) C (z_d dd_Lit_takeFour 96 rfl) (by decide) ?_
  exact s_Lit_takeFour_173 C hr E n (0 : Int32) M h
def f_Lit_takeFour_0 (O : zO) (n : Nat) (l0 : Nat) (M : zM) : Option (Int32 × zM) :=
  if z_k M l0 = 7 then
  zlet ((z_i M l0 12) + (6 : Int32)) fun v2 =>
  if v2 ≤ (z_i M l0 9) then
  if z_k M (z_p M l0 0) = 9 then
  (F_Row_number O n (z_p M l0 0) (z_i M l0 12) (2 : Int32) M).bind fun q5 =>
  zlet (v2 + q5.1.toInt32) fun v7 =>
  if z_k q5.2 l0 = 7 then
  if z_k q5.2 (z_p q5.2 l0 0) = 9 then
  (F_Row_number O n (z_p q5.2 l0 0) ((z_i q5.2 l0 12) + (2 : Int32)) (2 : Int32) q5.2).bind fun q11 =>
  zlet (v7 + q11.1.toInt32) fun v13 =>
  if z_k q11.2 l0 = 7 then
  if z_k q11.2 (z_p q11.2 l0 0) = 9 then
  (F_Row_number O n (z_p q11.2 l0 0) ((z_i q11.2 l0 12) + (4 : Int32)) (2 : Int32) q11.2).bind fun q17 =>
  zlet (v13 + q17.1.toInt32) fun v19 =>
  if z_k q17.2 l0 = 7 then
  if v19 ≤ (z_i q17.2 l0 9) then
  (F_Lit_quarter O n l0 q17.2).bind fun q22 =>
  if z_k q22.2 l0 = 7 then
  (F_Lit_takeStream O n l0 v2 v7 q22.1 q22.2).bind fun q25 =>
  if q25.1 = 0 then
  f_Lit_takeFour_172 O n q25.2
  else
  if z_k q25.2 l0 = 7 then
  (F_Lit_takeStream O n l0 v7 v13 q22.1 q25.2).bind fun q28 =>
  if q28.1 = 0 then
  f_Lit_takeFour_172 O n q28.2
  else
  if z_k q28.2 l0 = 7 then
  (F_Lit_takeStream O n l0 v13 v19 q22.1 q28.2).bind fun q31 =>
  if q31.1 = 0 then
  f_Lit_takeFour_172 O n q31.2
  else
  if z_k q31.2 l0 = 7 then
  (F_Lit_takeStream O n l0 v19 (z_i q31.2 l0 9) ((z_i q31.2 l0 7) - ((3 : Int32) * q22.1)) q31.2).bind fun q34 =>
  if q34.1 = 0 then
  f_Lit_takeFour_172 O n q34.2
  else
  f_Lit_takeFour_173 O n (1 : Int32) q34.2
  else none
  else none
  else none
  else none
  else
  if z_k q17.2 (z_p q17.2 l0 1) = 8 then
  (F_Rep_fail O n (z_p q17.2 l0 1) (14 : Int32) (z_i q17.2 l0 12) q17.2).bind fun q41 =>
  if q41.1 = 0 ∨ q41.1 = 1 then
  some (q41.1, q41.2)
  else none
  else none
  else none
  else none
  else none
  else none
  else none
  else none
  else
  if z_k M (z_p M l0 1) = 8 then
  (F_Rep_fail O n (z_p M l0 1) (14 : Int32) (z_i M l0 12) M).bind fun q46 =>
  if q46.1 = 0 ∨ q46.1 = 1 then
  some (q46.1, q46.2)
  else none
  else none
  else none
set_option maxRecDepth 100000 in
set_option maxHeartbeats 4000000 in
theorem s_Lit_takeFour_0 {X : zX} {q : Int32 × zM} (C : zC X zR6 prog_7_method_10_code 6 { frames := 3, cells := 0, slots := 0, locals := 73 }) (hr : zRt X (some .boolean)) (E : zE X (some (zI q.1)) q.2 0 0) : ∀ (n : Nat) (l0 : Nat) (M : zM), f_Lit_takeFour_0 (zOD X) n l0 M = some q → zW X 0 0 0 [some (zP l0), none, none, none, none, none] [] M := by
  intro n l0 M h
  rw [f_Lit_takeFour_0] at h
  refine r_aload_n C (z_d dd_Lit_takeFour 0 rfl) rfl ?_
  obtain ⟨h1, h⟩ := zif h
  refine r_getI C (z_d dd_Lit_takeFour 1 rfl) lk_Lit_65 rfl h1 rfl ?_
  refine r_bipush (v := (6 : Int32)) C (z_d dd_Lit_takeFour 2 rfl) (by decide) ?_
  refine r_iadd C (z_d dd_Lit_takeFour 3 rfl) ?_
  obtain ⟨v2, e3, h⟩ := zlet_ex h
  refine r_nmI e3 ?_
  refine r_istore_n (lv' := [some (zP l0), some (zI v2), none, none, none, none]) C (z_d dd_Lit_takeFour 4 rfl) (Nat.le_of_ble_eq_true rfl) rfl ?_
  refine r_iload_n C (z_d dd_Lit_takeFour 5 rfl) rfl ?_
  refine r_aload_n C (z_d dd_Lit_takeFour 6 rfl) rfl ?_
  refine r_getI C (z_d dd_Lit_takeFour 7 rfl) lk_Lit_56 rfl h1 rfl ?_
  refine r_icmp_le C 30 (z_d dd_Lit_takeFour 8 rfl) (by decide) (fun c49 => ?_) (fun c49 => ?_)
  · have h := zift h c49
    refine r_iload_n C (z_d dd_Lit_takeFour 16 rfl) rfl ?_
    refine r_aload_n C (z_d dd_Lit_takeFour 17 rfl) rfl ?_
    refine r_getP C (z_d dd_Lit_takeFour 18 rfl) lk_Lit_9 rfl h1 rfl ?_
    refine r_aload_n C (z_d dd_Lit_takeFour 19 rfl) rfl ?_
    refine r_getI C (z_d dd_Lit_takeFour 20 rfl) lk_Lit_65 rfl h1 rfl ?_
    refine r_iconst (v := (2 : Int32)) C (z_d dd_Lit_takeFour 21 rfl) (by decide) ?_
    obtain ⟨h4, h⟩ := zif h
    obtain ⟨q5, c6, h⟩ := zbd h
    refine r_invV (as := [zI (z_i M l0 12), zI (2 : Int32)]) C 8 (S_Row_number c6) (z_d dd_Lit_takeFour 22 rfl) ok_Row_number iv_Row_number se_Row_number ml_Lit_116 rfl rfl h4 rfl rfl rfl (Nat.le_of_ble_eq_true rfl) ⟨(Nat.le_of_ble_eq_true rfl), (Nat.le_of_ble_eq_true rfl)⟩ ⟨(Nat.le_of_ble_eq_true rfl), (Nat.le_of_ble_eq_true rfl)⟩ ?_
    refine r_l2i C (z_d dd_Lit_takeFour 23 rfl) ?_
    refine r_iadd C (z_d dd_Lit_takeFour 24 rfl) ?_
    obtain ⟨v7, e8, h⟩ := zlet_ex h
    refine r_nmI e8 ?_
    refine r_istore_n (lv' := [some (zP l0), some (zI v2), some (zI v7), none, none, none]) C (z_d dd_Lit_takeFour 25 rfl) (Nat.le_of_ble_eq_true rfl) rfl ?_
    refine r_iload_n C (z_d dd_Lit_takeFour 26 rfl) rfl ?_
    refine r_aload_n C (z_d dd_Lit_takeFour 27 rfl) rfl ?_
    obtain ⟨h9, h⟩ := zif h
    refine r_getP C (z_d dd_Lit_takeFour 28 rfl) lk_Lit_9 rfl h9 rfl ?_
    refine r_aload_n C (z_d dd_Lit_takeFour 29 rfl) rfl ?_
    refine r_getI C (z_d dd_Lit_takeFour 30 rfl) lk_Lit_65 rfl h9 rfl ?_
    refine r_iconst (v := (2 : Int32)) C (z_d dd_Lit_takeFour 31 rfl) (by decide) ?_
    refine r_iadd C (z_d dd_Lit_takeFour 32 rfl) ?_
    refine r_iconst (v := (2 : Int32)) C (z_d dd_Lit_takeFour 33 rfl) (by decide) ?_
    obtain ⟨h10, h⟩ := zif h
    obtain ⟨q11, c12, h⟩ := zbd h
    refine r_invV (as := [zI ((z_i q5.2 l0 12) + (2 : Int32)), zI (2 : Int32)]) C 8 (S_Row_number c12) (z_d dd_Lit_takeFour 34 rfl) ok_Row_number iv_Row_number se_Row_number ml_Lit_116 rfl rfl h10 rfl rfl rfl (Nat.le_of_ble_eq_true rfl) ⟨(Nat.le_of_ble_eq_true rfl), (Nat.le_of_ble_eq_true rfl)⟩ ⟨(Nat.le_of_ble_eq_true rfl), (Nat.le_of_ble_eq_true rfl)⟩ ?_
    refine r_l2i C (z_d dd_Lit_takeFour 35 rfl) ?_
    refine r_iadd C (z_d dd_Lit_takeFour 36 rfl) ?_
    obtain ⟨v13, e14, h⟩ := zlet_ex h
    refine r_nmI e14 ?_
    refine r_istore_n (lv' := [some (zP l0), some (zI v2), some (zI v7), some (zI v13), none, none]) C (z_d dd_Lit_takeFour 37 rfl) (Nat.le_of_ble_eq_true rfl) rfl ?_
    refine r_iload_n C (z_d dd_Lit_takeFour 38 rfl) rfl ?_
    refine r_aload_n C (z_d dd_Lit_takeFour 39 rfl) rfl ?_
    obtain ⟨h15, h⟩ := zif h
    refine r_getP C (z_d dd_Lit_takeFour 40 rfl) lk_Lit_9 rfl h15 rfl ?_
    refine r_aload_n C (z_d dd_Lit_takeFour 41 rfl) rfl ?_
    refine r_getI C (z_d dd_Lit_takeFour 42 rfl) lk_Lit_65 rfl h15 rfl ?_
    refine r_iconst (v := (4 : Int32)) C (z_d dd_Lit_takeFour 43 rfl) (by decide) ?_
    refine r_iadd C (z_d dd_Lit_takeFour 44 rfl) ?_
    refine r_iconst (v := (2 : Int32)) C (z_d dd_Lit_takeFour 45 rfl) (by decide) ?_
    obtain ⟨h16, h⟩ := zif h
    obtain ⟨q17, c18, h⟩ := zbd h
    refine r_invV (as := [zI ((z_i q11.2 l0 12) + (4 : Int32)), zI (2 : Int32)]) C 8 (S_Row_number c18) (z_d dd_Lit_takeFour 46 rfl) ok_Row_number iv_Row_number se_Row_number ml_Lit_116 rfl rfl h16 rfl rfl rfl (Nat.le_of_ble_eq_true rfl) ⟨(Nat.le_of_ble_eq_true rfl), (Nat.le_of_ble_eq_true rfl)⟩ ⟨(Nat.le_of_ble_eq_true rfl), (Nat.le_of_ble_eq_true rfl)⟩ ?_
    refine r_l2i C (z_d dd_Lit_takeFour 47 rfl) ?_
    refine r_iadd C (z_d dd_Lit_takeFour 48 rfl) ?_
    obtain ⟨v19, e20, h⟩ := zlet_ex h
    refine r_nmI e20 ?_
    refine r_istore (lv' := [some (zP l0), some (zI v2), some (zI v7), some (zI v13), some (zI v19), none]) C (z_d dd_Lit_takeFour 49 rfl) (Nat.le_of_ble_eq_true rfl) rfl ?_
    refine r_iload C (z_d dd_Lit_takeFour 50 rfl) rfl ?_
    refine r_aload_n C (z_d dd_Lit_takeFour 51 rfl) rfl ?_
    obtain ⟨h21, h⟩ := zif h
    refine r_getI C (z_d dd_Lit_takeFour 52 rfl) lk_Lit_56 rfl h21 rfl ?_
    refine r_icmp_le C 106 (z_d dd_Lit_takeFour 53 rfl) (by decide) (fun c44 => ?_) (fun c44 => ?_)
    · have h := zift h c44
      refine r_aload_n C (z_d dd_Lit_takeFour 61 rfl) rfl ?_
      obtain ⟨q22, c23, h⟩ := zbd h
      refine r_invV (as := []) C 6 (S_Lit_quarter c23) (z_d dd_Lit_takeFour 62 rfl) ok_Lit_quarter iv_Lit_quarter se_Lit_quarter ml_Lit_97 rfl rfl h21 rfl rfl rfl (Nat.le_of_ble_eq_true rfl) ⟨(Nat.le_of_ble_eq_true rfl), (Nat.le_of_ble_eq_true rfl)⟩ ⟨(Nat.le_of_ble_eq_true rfl), (Nat.le_of_ble_eq_true rfl)⟩ ?_
      refine r_istore (lv' := [some (zP l0), some (zI v2), some (zI v7), some (zI v13), some (zI v19), some (zI q22.1)]) C (z_d dd_Lit_takeFour 63 rfl) (Nat.le_of_ble_eq_true rfl) rfl ?_
      refine r_aload_n C (z_d dd_Lit_takeFour 64 rfl) rfl ?_
      refine r_iload_n C (z_d dd_Lit_takeFour 65 rfl) rfl ?_
      refine r_iload_n C (z_d dd_Lit_takeFour 66 rfl) rfl ?_
      refine r_iload C (z_d dd_Lit_takeFour 67 rfl) rfl ?_
      obtain ⟨h24, h⟩ := zif h
      obtain ⟨q25, c26, h⟩ := zbd h
      refine r_invV (as := [zI v2, zI v7, zI q22.1]) C 6 (S_Lit_takeStream c26) (z_d dd_Lit_takeFour 68 rfl) ok_Lit_takeStream iv_Lit_takeStream se_Lit_takeStream ml_Lit_108 rfl rfl h24 rfl rfl rfl (Nat.le_of_ble_eq_true rfl) ⟨(Nat.le_of_ble_eq_true rfl), (Nat.le_of_ble_eq_true rfl)⟩ ⟨(Nat.le_of_ble_eq_true rfl), (Nat.le_of_ble_eq_true rfl)⟩ ?_
      refine r_if_eq C 172 (z_d dd_Lit_takeFour 69 rfl) (by decide) (fun c39 => ?_) (fun c39 => ?_)
      · have h := zift h c39
        refine r_mk [false, false, false, false, false, false] ?_
        exact s_Lit_takeFour_172 C hr E n q25.2 h
      · have h := ziff h c39
        refine r_aload_n C (z_d dd_Lit_takeFour 70 rfl) rfl ?_
        refine r_iload_n C (z_d dd_Lit_takeFour 71 rfl) rfl ?_
        refine r_iload_n C (z_d dd_Lit_takeFour 72 rfl) rfl ?_
        refine r_iload C (z_d dd_Lit_takeFour 73 rfl) rfl ?_
        obtain ⟨h27, h⟩ := zif h
        obtain ⟨q28, c29, h⟩ := zbd h
        refine r_invV (as := [zI v7, zI v13, zI q22.1]) C 6 (S_Lit_takeStream c29) (z_d dd_Lit_takeFour 74 rfl) ok_Lit_takeStream iv_Lit_takeStream se_Lit_takeStream ml_Lit_108 rfl rfl h27 rfl rfl rfl (Nat.le_of_ble_eq_true rfl) ⟨(Nat.le_of_ble_eq_true rfl), (Nat.le_of_ble_eq_true rfl)⟩ ⟨(Nat.le_of_ble_eq_true rfl), (Nat.le_of_ble_eq_true rfl)⟩ ?_
        refine r_if_eq C 172 (z_d dd_Lit_takeFour 75 rfl) (by decide) (fun c38 => ?_) (fun c38 => ?_)
        · have h := zift h c38
          refine r_mk [false, false, false, false, false, false] ?_
          exact s_Lit_takeFour_172 C hr E n q28.2 h
        · have h := ziff h c38
          refine r_aload_n C (z_d dd_Lit_takeFour 76 rfl) rfl ?_
          refine r_iload_n C (z_d dd_Lit_takeFour 77 rfl) rfl ?_
          refine r_iload C (z_d dd_Lit_takeFour 78 rfl) rfl ?_
          refine r_iload C (z_d dd_Lit_takeFour 79 rfl) rfl ?_
          obtain ⟨h30, h⟩ := zif h
          obtain ⟨q31, c32, h⟩ := zbd h
          refine r_invV (as := [zI v13, zI v19, zI q22.1]) C 6 (S_Lit_takeStream c32) (z_d dd_Lit_takeFour 80 rfl) ok_Lit_takeStream iv_Lit_takeStream se_Lit_takeStream ml_Lit_108 rfl rfl h30 rfl rfl rfl (Nat.le_of_ble_eq_true rfl) ⟨(Nat.le_of_ble_eq_true rfl), (Nat.le_of_ble_eq_true rfl)⟩ ⟨(Nat.le_of_ble_eq_true rfl), (Nat.le_of_ble_eq_true rfl)⟩ ?_
          refine r_if_eq C 172 (z_d dd_Lit_takeFour 81 rfl) (by decide) (fun c37 => ?_) (fun c37 => ?_)
          · have h := zift h c37
            refine r_mk [false, false, false, false, false, false] ?_
            exact s_Lit_takeFour_172 C hr E n q31.2 h
          · have h := ziff h c37
            refine r_aload_n C (z_d dd_Lit_takeFour 82 rfl) rfl ?_
            refine r_iload C (z_d dd_Lit_takeFour 83 rfl) rfl ?_
            refine r_aload_n C (z_d dd_Lit_takeFour 84 rfl) rfl ?_
            obtain ⟨h33, h⟩ := zif h
            refine r_getI C (z_d dd_Lit_takeFour 85 rfl) lk_Lit_56 rfl h33 rfl ?_
            refine r_aload_n C (z_d dd_Lit_takeFour 86 rfl) rfl ?_
            refine r_getI C (z_d dd_Lit_takeFour 87 rfl) lk_Lit_49 rfl h33 rfl ?_
            refine r_iconst (v := (3 : Int32)) C (z_d dd_Lit_takeFour 88 rfl) (by decide) ?_
            refine r_iload C (z_d dd_Lit_takeFour 89 rfl) rfl ?_
            refine r_imul C (z_d dd_Lit_takeFour 90 rfl) ?_
            refine r_isub C (z_d dd_Lit_takeFour 91 rfl) ?_
            obtain ⟨q34, c35, h⟩ := zbd h
            refine r_invV (as := [zI v19, zI (z_i q31.2 l0 9), zI ((z_i q31.2 l0 7) - ((3 : Int32) * q22.1))]) C 6 (S_Lit_takeStream c35) (z_d dd_Lit_takeFour 92 rfl) ok_Lit_takeStream iv_Lit_takeStream se_Lit_takeStream ml_Lit_108 rfl rfl h33 rfl rfl rfl (Nat.le_of_ble_eq_true rfl) ⟨(Nat.le_of_ble_eq_true rfl), (Nat.le_of_ble_eq_true rfl)⟩ ⟨(Nat.le_of_ble_eq_true rfl), (Nat.le_of_ble_eq_true rfl)⟩ ?_
            refine r_if_eq C 172 (z_d dd_Lit_takeFour 93 rfl) (by decide) (fun c36 => ?_) (fun c36 => ?_)
            · have h := zift h c36
              refine r_mk [false, false, false, false, false, false] ?_
              exact s_Lit_takeFour_172 C hr E n q34.2 h
            · have h := ziff h c36
              refine r_iconst (v := (1 : Int32)) C (z_d dd_Lit_takeFour 94 rfl) (by decide) ?_
              refine r_goto C 173 (z_d dd_Lit_takeFour 95 rfl) (by decide) ?_
              refine r_mk [false, false, false, false, false, false] ?_
              exact s_Lit_takeFour_173 C hr E n (1 : Int32) q34.2 h
    · have h := ziff h c44
      refine r_aload_n C (z_d dd_Lit_takeFour 54 rfl) rfl ?_
      refine r_getP C (z_d dd_Lit_takeFour 55 rfl) lk_Lit_15 rfl h21 rfl ?_
      refine r_bipush (v := (14 : Int32)) C (z_d dd_Lit_takeFour 56 rfl) (by decide) ?_
      refine r_aload_n C (z_d dd_Lit_takeFour 57 rfl) rfl ?_
      refine r_getI C (z_d dd_Lit_takeFour 58 rfl) lk_Lit_65 rfl h21 rfl ?_
      obtain ⟨h40, h⟩ := zif h
      obtain ⟨q41, c42, h⟩ := zbd h
      refine r_invV (as := [zI (14 : Int32), zI (z_i q17.2 l0 12)]) C 7 (S_Rep_fail c42) (z_d dd_Lit_takeFour 59 rfl) ok_Rep_fail iv_Rep_fail se_Rep_fail ml_Lit_81 rfl rfl h40 rfl rfl rfl (Nat.le_of_ble_eq_true rfl) ⟨(Nat.le_of_ble_eq_true rfl), (Nat.le_of_ble_eq_true rfl)⟩ ⟨(Nat.le_of_ble_eq_true rfl), (Nat.le_of_ble_eq_true rfl)⟩ ?_
      obtain ⟨h43, h⟩ := zif h
      obtain rfl := z_res h
      exact r_iretZ C E hr (z_d dd_Lit_takeFour 60 rfl) h43 (Nat.le_of_ble_eq_true rfl) (Nat.le_of_ble_eq_true rfl)
  · have h := ziff h c49
    refine r_aload_n C (z_d dd_Lit_takeFour 9 rfl) rfl ?_
    refine r_getP C (z_d dd_Lit_takeFour 10 rfl) lk_Lit_15 rfl h1 rfl ?_
    refine r_bipush (v := (14 : Int32)) C (z_d dd_Lit_takeFour 11 rfl) (by decide) ?_
    refine r_aload_n C (z_d dd_Lit_takeFour 12 rfl) rfl ?_
    refine r_getI C (z_d dd_Lit_takeFour 13 rfl) lk_Lit_65 rfl h1 rfl ?_
    obtain ⟨h45, h⟩ := zif h
    obtain ⟨q46, c47, h⟩ := zbd h
    refine r_invV (as := [zI (14 : Int32), zI (z_i M l0 12)]) C 7 (S_Rep_fail c47) (z_d dd_Lit_takeFour 14 rfl) ok_Rep_fail iv_Rep_fail se_Rep_fail ml_Lit_81 rfl rfl h45 rfl rfl rfl (Nat.le_of_ble_eq_true rfl) ⟨(Nat.le_of_ble_eq_true rfl), (Nat.le_of_ble_eq_true rfl)⟩ ⟨(Nat.le_of_ble_eq_true rfl), (Nat.le_of_ble_eq_true rfl)⟩ ?_
    obtain ⟨h48, h⟩ := zif h
    obtain rfl := z_res h
    exact r_iretZ C E hr (z_d dd_Lit_takeFour 15 rfl) h48 (Nat.le_of_ble_eq_true rfl) (Nat.le_of_ble_eq_true rfl)
def F_Lit_takeFour (O : zO) (n : Nat) (l0 : Nat) (M : zM) : Option (Int32 × zM) := f_Lit_takeFour_0 O n l0 M
theorem S_Lit_takeFour {l : Launch} {D : zD} {n : Nat} {l0 : Nat} {M : zM} {q : Int32 × zM} (h : F_Lit_takeFour D.2.2.2.2 n l0 M = some q) : zMet l D mi_Lit_takeFour [zP l0] M (some (zI q.1)) q.2 :=
  z_met (by decide) (Nat.le_of_ble_eq_true rfl) (fun X C E hr hin hD hl => by
    subst hD
    exact s_Lit_takeFour_0 C hr E n l0 M h)
