def f_SF_again_35 (O : zO) (n : Nat) (M : zM) : Option (Int32 × zM) :=
  some ((0 : Int32), M)
set_option maxRecDepth 100000 in
set_option maxHeartbeats 4000000 in
theorem s_SF_again_35 {X : zX} {q : Int32 × zM} (C : zC X zR0 prog_1_method_3_code 3 { frames := 2, cells := 0, slots := 0, locals := 44 }) (hr : zRt X (some .boolean)) (E : zE X (some (zI q.1)) q.2 0 0) : ∀ (n : Nat) (M : zM), f_SF_again_35 (zOD X) n M = some q → zW X 0 0 35 [none, none, none] [] M := by
  intro n M h
  rw [f_SF_again_35] at h
  refine r_iconst (v := (0 : Int32)) C (z_d dd_SF_again 19 rfl) (by decide) ?_
  obtain rfl := z_res h
  exact r_iretZ C E hr (z_d dd_SF_again 20 rfl) (by decide) (Nat.le_of_ble_eq_true rfl) (Nat.le_of_ble_eq_true rfl)
def f_SF_again_0 (O : zO) (n : Nat) (l0 : Nat) (l1 : Int32) (l2 : Int32) (M : zM) : Option (Int32 × zM) :=
  if l1 < (1 : Int32) then
  f_SF_again_35 O n M
  else
  if z_k M l0 = 1 then
  if z_k M (z_p M l0 0) = 9 then
  if (z_i M (z_p M l0 0) 1) < l1 then
  f_SF_again_35 O n M
  else
  if l2 < 0 then
  f_SF_again_35 O n M
  else
  (F_Row_hasRoom O n (z_p M l0 0) (l1.toInt64 * l2.toInt64) M).bind fun q3 =>
  if q3.1 = 0 then
  f_SF_again_35 O n q3.2
  else
  if z_k q3.2 l0 = 1 then
  if z_k q3.2 (z_p q3.2 l0 0) = 9 then
  (F_Row_putBack O n (z_p q3.2 l0 0) l1 (l1 * l2) q3.2).bind fun q7 =>
  some ((1 : Int32), q7.2)
  else none
  else none
  else none
  else none
set_option maxRecDepth 100000 in
set_option maxHeartbeats 4000000 in
theorem s_SF_again_0 {X : zX} {q : Int32 × zM} (C : zC X zR0 prog_1_method_3_code 3 { frames := 2, cells := 0, slots := 0, locals := 44 }) (hr : zRt X (some .boolean)) (E : zE X (some (zI q.1)) q.2 0 0) : ∀ (n : Nat) (l0 : Nat) (l1 : Int32) (l2 : Int32) (M : zM), f_SF_again_0 (zOD X) n l0 l1 l2 M = some q → zW X 0 0 0 [some (zP l0), some (zI l1), some (zI l2)] [] M := by
  intro n l0 l1 l2 M h
  rw [f_SF_again_0] at h
  refine r_iload_n C (z_d dd_SF_again 0 rfl) rfl ?_
  refine r_iconst (v := (1 : Int32)) C (z_d dd_SF_again 1 rfl) (by decide) ?_
  refine r_icmp_lt C 35 (z_d dd_SF_again 2 rfl) (by decide) (fun c12 => ?_) (fun c12 => ?_)
  · have h := zift h c12
    refine r_mk [false, false, false] ?_
    exact s_SF_again_35 C hr E n M h
  · have h := ziff h c12
    refine r_iload_n C (z_d dd_SF_again 3 rfl) rfl ?_
    refine r_aload_n C (z_d dd_SF_again 4 rfl) rfl ?_
    obtain ⟨h1, h⟩ := zif h
    refine r_getP C (z_d dd_SF_again 5 rfl) lk_SF_14 rfl h1 rfl ?_
    obtain ⟨h2, h⟩ := zif h
    refine r_getI C (z_d dd_SF_again 6 rfl) lk_SF_63 rfl h2 rfl ?_
    refine r_icmp_gt C 35 (z_d dd_SF_again 7 rfl) (by decide) (fun c11 => ?_) (fun c11 => ?_)
    · have h := zift h c11
      refine r_mk [false, false, false] ?_
      exact s_SF_again_35 C hr E n M h
    · have h := ziff h c11
      refine r_iload_n C (z_d dd_SF_again 8 rfl) rfl ?_
      refine r_if_lt C 35 (z_d dd_SF_again 9 rfl) (by decide) (fun c10 => ?_) (fun c10 => ?_)
      · have h := zift h c10
        refine r_mk [false, false, false] ?_
        exact s_SF_again_35 C hr E n M h
      · have h := ziff h c10
        refine r_aload_n C (z_d dd_SF_again 10 rfl) rfl ?_
        refine r_getP C (z_d dd_SF_again 11 rfl) lk_SF_14 rfl h1 rfl ?_
        refine r_iload_n C (z_d dd_SF_again 12 rfl) rfl ?_
        refine r_i2l C (z_d dd_SF_again 13 rfl) ?_
        refine r_iload_n C (z_d dd_SF_again 14 rfl) rfl ?_
        refine r_i2l C (z_d dd_SF_again 15 rfl) ?_
        refine r_lmul C (z_d dd_SF_again 16 rfl) ?_
        obtain ⟨q3, c4, h⟩ := zbd h
        refine r_invV (as := [zL (l1.toInt64 * l2.toInt64)]) C 8 (S_Row_hasRoom c4) (z_d dd_SF_again 17 rfl) ok_Row_hasRoom iv_Row_hasRoom se_Row_hasRoom ml_SF_56 rfl rfl h2 rfl rfl rfl (Nat.le_of_ble_eq_true rfl) ⟨(Nat.le_of_ble_eq_true rfl), (Nat.le_of_ble_eq_true rfl)⟩ ⟨(Nat.le_of_ble_eq_true rfl), (Nat.le_of_ble_eq_true rfl)⟩ ?_
        refine r_if_ne C 37 (z_d dd_SF_again 18 rfl) (by decide) (fun c9 => ?_) (fun c9 => ?_)
        · have h := ziff h c9
          refine r_aload_n C (z_d dd_SF_again 21 rfl) rfl ?_
          obtain ⟨h5, h⟩ := zif h
          refine r_getP C (z_d dd_SF_again 22 rfl) lk_SF_14 rfl h5 rfl ?_
          refine r_iload_n C (z_d dd_SF_again 23 rfl) rfl ?_
          refine r_iload_n C (z_d dd_SF_again 24 rfl) rfl ?_
          refine r_iload_n C (z_d dd_SF_again 25 rfl) rfl ?_
          refine r_imul C (z_d dd_SF_again 26 rfl) ?_
          obtain ⟨h6, h⟩ := zif h
          obtain ⟨q7, c8, h⟩ := zbd h
          refine r_invV (as := [zI l1, zI (l1 * l2)]) C 8 (S_Row_putBack c8) (z_d dd_SF_again 27 rfl) ok_Row_putBack iv_Row_putBack se_Row_putBack ml_SF_67 rfl rfl h6 rfl rfl rfl (Nat.le_of_ble_eq_true rfl) ⟨(Nat.le_of_ble_eq_true rfl), (Nat.le_of_ble_eq_true rfl)⟩ ⟨(Nat.le_of_ble_eq_true rfl), (Nat.le_of_ble_eq_true rfl)⟩ ?_
          refine r_iconst (v := (1 : Int32)) C (z_d dd_SF_again 28 rfl) (by decide) ?_
          obtain rfl := z_res h
          exact r_iretZ C E hr (z_d dd_SF_again 29 rfl) (by decide) (Nat.le_of_ble_eq_true rfl) (Nat.le_of_ble_eq_true rfl)
        · have h := zift h c9
          refine r_mk [false, false, false] ?_
          exact s_SF_again_35 C hr E n q3.2 h
def F_SF_again (O : zO) (n : Nat) (l0 : Nat) (l1 : Int32) (l2 : Int32) (M : zM) : Option (Int32 × zM) := f_SF_again_0 O n l0 l1 l2 M
theorem S_SF_again {l : Launch} {D : zD} {n : Nat} {l0 : Nat} {l1 : Int32} {l2 : Int32} {M : zM} {q : Int32 × zM} (h : F_SF_again D.2.2.2.2 n l0 l1 l2 M = some q) : zMet l D mi_SF_again [zP l0, zI l1, zI l2] M (some (zI q.1)) q.2 :=
  z_met (by decide) (Nat.le_of_ble_eq_true rfl) (fun X C E hr hin hD hl => by
    subst hD
    exact s_SF_again_0 C hr E n l0 l1 l2 M h)

def f_Row_empty_0 (O : zO) (n : Nat) (l0 : Nat) (M : zM) : Option (Unit × zM) :=
  if z_k M l0 = 9 then
  zlet (w_i M l0 1 (0 : Int32)) fun M2 =>
  some ((), M2)
  else none
set_option maxRecDepth 100000 in
set_option maxHeartbeats 4000000 in
theorem s_Row_empty_0 {X : zX} {q : Unit × zM} (C : zC X zR8 prog_9_method_2_code 1 { frames := 0, cells := 0, slots := 0, locals := 0 }) (hr : zRt X none) (E : zE X none q.2 0 0) : ∀ (n : Nat) (l0 : Nat) (M : zM), f_Row_empty_0 (zOD X) n l0 M = some q → zW X 0 0 0 [some (zP l0)] [] M := by
  intro n l0 M h
  rw [f_Row_empty_0] at h
  refine r_aload_n C (z_d dd_Row_empty 0 rfl) rfl ?_
  refine r_iconst (v := (0 : Int32)) C (z_d dd_Row_empty 1 rfl) (by decide) ?_
  obtain ⟨h1, h⟩ := zif h
  obtain ⟨M2, e3, h⟩ := zlet_ex h
  have h4 := k_i e3 h1
  refine r_putI C (z_d dd_Row_empty 2 rfl) lp_Row_13 rfl h1 e3 ?_
  obtain rfl := z_res h
  exact r_vret C E hr (z_d dd_Row_empty 3 rfl) (Nat.le_of_ble_eq_true rfl) (Nat.le_of_ble_eq_true rfl)
def F_Row_empty (O : zO) (n : Nat) (l0 : Nat) (M : zM) : Option (Unit × zM) := f_Row_empty_0 O n l0 M
theorem S_Row_empty {l : Launch} {D : zD} {n : Nat} {l0 : Nat} {M : zM} {q : Unit × zM} (h : F_Row_empty D.2.2.2.2 n l0 M = some q) : zMet l D mi_Row_empty [zP l0] M none q.2 :=
  z_met (by decide) (Nat.le_of_ble_eq_true rfl) (fun X C E hr hin hD hl => by
    subst hD
    exact s_Row_empty_0 C hr E n l0 M h)

def f_SF_clear_0 (O : zO) (n : Nat) (l0 : Nat) (M : zM) : Option (Unit × zM) :=
  if z_k M l0 = 1 then
  if z_k M (z_p M l0 0) = 9 then
  (F_Row_empty O n (z_p M l0 0) M).bind fun q3 =>
  some ((), q3.2)
  else none
  else none
set_option maxRecDepth 100000 in
set_option maxHeartbeats 4000000 in
theorem s_SF_clear_0 {X : zX} {q : Unit × zM} (C : zC X zR0 prog_1_method_4_code 1 { frames := 1, cells := 0, slots := 0, locals := 20 }) (hr : zRt X none) (E : zE X none q.2 0 0) : ∀ (n : Nat) (l0 : Nat) (M : zM), f_SF_clear_0 (zOD X) n l0 M = some q → zW X 0 0 0 [some (zP l0)] [] M := by
  intro n l0 M h
  rw [f_SF_clear_0] at h
  refine r_aload_n C (z_d dd_SF_clear 0 rfl) rfl ?_
  obtain ⟨h1, h⟩ := zif h
  refine r_getP C (z_d dd_SF_clear 1 rfl) lk_SF_14 rfl h1 rfl ?_
  obtain ⟨h2, h⟩ := zif h
  obtain ⟨q3, c4, h⟩ := zbd h
  refine r_invV (as := []) C 8 (S_Row_empty c4) (z_d dd_SF_clear 2 rfl) ok_Row_empty iv_Row_empty se_Row_empty ml_SF_71 rfl rfl h2 rfl rfl rfl (Nat.le_of_ble_eq_true rfl) ⟨(Nat.le_of_ble_eq_true rfl), (Nat.le_of_ble_eq_true rfl)⟩ ⟨(Nat.le_of_ble_eq_true rfl), (Nat.le_of_ble_eq_true rfl)⟩ ?_
  obtain rfl := z_res h
  exact r_vret C E hr (z_d dd_SF_clear 3 rfl) (Nat.le_of_ble_eq_true rfl) (Nat.le_of_ble_eq_true rfl)
def F_SF_clear (O : zO) (n : Nat) (l0 : Nat) (M : zM) : Option (Unit × zM) := f_SF_clear_0 O n l0 M
theorem S_SF_clear {l : Launch} {D : zD} {n : Nat} {l0 : Nat} {M : zM} {q : Unit × zM} (h : F_SF_clear D.2.2.2.2 n l0 M = some q) : zMet l D mi_SF_clear [zP l0] M none q.2 :=
  z_met (by decide) (Nat.le_of_ble_eq_true rfl) (fun X C E hr hin hD hl => by
    subst hD
    exact s_SF_clear_0 C hr E n l0 M h)

def f_Row_number_53 (O : zO) (n : Nat) (l3 : Int64) (M : zM) : Option (Int64 × zM) :=
  some (l3, M)
set_option maxRecDepth 100000 in
set_option maxHeartbeats 4000000 in
theorem s_Row_number_53 {X : zX} {q : Int64 × zM} (C : zC X zR8 prog_9_method_4_code 6 { frames := 0, cells := 0, slots := 0, locals := 0 }) (hr : zRt X (some .long)) (E : zE X (some (zL q.1)) q.2 0 0) : ∀ (n : Nat) (l3 : Int64) (M : zM), f_Row_number_53 (zOD X) n l3 M = some q → zW X 0 0 53 [none, none, none, some (zL l3), none, none] [] M := by
  intro n l3 M h
  rw [f_Row_number_53] at h
  refine r_lload_n C (z_d dd_Row_number 33 rfl) rfl ?_
  obtain rfl := z_res h
  exact r_lret C E hr (z_d dd_Row_number 34 rfl) (Nat.le_of_ble_eq_true rfl) (Nat.le_of_ble_eq_true rfl)
def f_Row_number_23 (O : zO) : Nat → Nat → Int32 → Int64 → Int32 → zM → Option (Int64 × zM)
  | 0, _, _, _, _, _ => none
  | n + 1, l0, l1, l3, l5, M =>
    if l5 < l1 then
    f_Row_number_53 O n l3 M
    else
    if z_k M l0 = 9 then
    if z_k M (z_p M l0 0) = 101 then
    if zin l5 (z_n M (z_p M l0 0)) = true then
    zlet ((l3 <<< ((8 : Int32).toInt64 &&& 63)) ||| ((z_i M (z_p M l0 0) l5.toNatClampNeg) &&& (255 : Int32)).toInt64) fun v4 =>
    zlet (l5 + (-1 : Int32)) fun v6 =>
    f_Row_number_23 O n l0 l1 v4 v6 M
    else none
    else none
    else none
set_option maxRecDepth 100000 in
set_option maxHeartbeats 4000000 in
theorem s_Row_number_23 {X : zX} {q : Int64 × zM} (C : zC X zR8 prog_9_method_4_code 6 { frames := 0, cells := 0, slots := 0, locals := 0 }) (hr : zRt X (some .long)) (E : zE X (some (zL q.1)) q.2 0 0) : ∀ (n : Nat) (l0 : Nat) (l1 : Int32) (l3 : Int64) (l5 : Int32) (M : zM), f_Row_number_23 (zOD X) n l0 l1 l3 l5 M = some q → zW X 0 0 23 [some (zP l0), some (zI l1), none, some (zL l3), none, some (zI l5)] [] M := by
  intro n
  induction n with
  | zero => intro l0 l1 l3 l5 M h; rw [f_Row_number_23] at h; cases h
  | succ n ih =>
    intro l0 l1 l3 l5 M h
    rw [f_Row_number_23] at h
    refine r_iload C (z_d dd_Row_number 16 rfl) rfl ?_
    refine r_iload_n C (z_d dd_Row_number 17 rfl) rfl ?_
    refine r_icmp_lt C 53 (z_d dd_Row_number 18 rfl) (by decide) (fun c8 => ?_) (fun c8 => ?_)
    · have h := zift h c8
      refine r_mk [false, false, false, true, false, false] ?_
      exact s_Row_number_53 C hr E n l3 M h
    · have h := ziff h c8
      refine r_lload_n C (z_d dd_Row_number 19 rfl) rfl ?_
      refine r_bipush (v := (8 : Int32)) C (z_d dd_Row_number 20 rfl) (by decide) ?_
      refine r_lshl C (z_d dd_Row_number 21 rfl) ?_
      refine r_aload_n C (z_d dd_Row_number 22 rfl) rfl ?_
      obtain ⟨h1, h⟩ := zif h
      refine r_getP C (z_d dd_Row_number 23 rfl) lk_Row_7 rfl h1 rfl ?_
      refine r_iload C (z_d dd_Row_number 24 rfl) rfl ?_
      obtain ⟨h2, h⟩ := zif h
      obtain ⟨h3, h⟩ := zif h
      refine r_bald C (z_d dd_Row_number 25 rfl) h2 h3 rfl ?_
      refine r_sipush (v := (255 : Int32)) C (z_d dd_Row_number 26 rfl) (by decide) ?_
      refine r_iand C (z_d dd_Row_number 27 rfl) ?_
      refine r_i2l C (z_d dd_Row_number 28 rfl) ?_
      refine r_lor C (z_d dd_Row_number 29 rfl) ?_
      obtain ⟨v4, e5, h⟩ := zlet_ex h
      refine r_nmL e5 ?_
      refine r_lstore_n (lv' := [some (zP l0), some (zI l1), none, some (zL v4), none, some (zI l5)]) C (z_d dd_Row_number 30 rfl) (Nat.le_of_ble_eq_true rfl) rfl ?_
      obtain ⟨v6, e7, h⟩ := zlet_ex h
      refine r_iinc (v := v6) (lv' := [some (zP l0), some (zI l1), none, some (zL v4), none, some (zI v6)]) C (z_d dd_Row_number 31 rfl) rfl (Nat.le_of_ble_eq_true rfl) (by rw [e7]; rfl) rfl ?_
      refine r_goto C 23 (z_d dd_Row_number 32 rfl) (by decide) ?_
      exact ih l0 l1 v4 v6 M h
def f_Row_number_0 (O : zO) (n : Nat) (l0 : Nat) (l1 : Int32) (l2 : Int32) (M : zM) : Option (Int64 × zM) :=
  if l1 < 0 then
  f_Row_number_53 O n (0 : Int64) M
  else
  if z_k M l0 = 9 then
  if ((z_i M l0 1) - l2) < l1 then
  f_Row_number_53 O n (0 : Int64) M
  else
  zlet ((l1 + l2) - (1 : Int32)) fun v2 =>
  f_Row_number_23 O n l0 l1 (0 : Int64) v2 M
  else none
set_option maxRecDepth 100000 in
set_option maxHeartbeats 4000000 in
theorem s_Row_number_0 {X : zX} {q : Int64 × zM} (C : zC X zR8 prog_9_method_4_code 6 { frames := 0, cells := 0, slots := 0, locals := 0 }) (hr : zRt X (some .long)) (E : zE X (some (zL q.1)) q.2 0 0) : ∀ (n : Nat) (l0 : Nat) (l1 : Int32) (l2 : Int32) (M : zM), f_Row_number_0 (zOD X) n l0 l1 l2 M = some q → zW X 0 0 0 [some (zP l0), some (zI l1), some (zI l2), none, none, none] [] M := by
  intro n l0 l1 l2 M h
  rw [f_Row_number_0] at h
  refine r_lconst (v := (0 : Int64)) C (z_d dd_Row_number 0 rfl) (by decide) ?_
  refine r_lstore_n (lv' := [some (zP l0), some (zI l1), some (zI l2), some (zL (0 : Int64)), none, none]) C (z_d dd_Row_number 1 rfl) (Nat.le_of_ble_eq_true rfl) rfl ?_
  refine r_iload_n C (z_d dd_Row_number 2 rfl) rfl ?_
  refine r_if_lt C 53 (z_d dd_Row_number 3 rfl) (by decide) (fun c5 => ?_) (fun c5 => ?_)
  · have h := zift h c5
    refine r_mk [false, false, false, true, false, false] ?_
    exact s_Row_number_53 C hr E n (0 : Int64) M h
  · have h := ziff h c5
    refine r_iload_n C (z_d dd_Row_number 4 rfl) rfl ?_
    refine r_aload_n C (z_d dd_Row_number 5 rfl) rfl ?_
    obtain ⟨h1, h⟩ := zif h
    refine r_getI C (z_d dd_Row_number 6 rfl) lk_Row_13 rfl h1 rfl ?_
    refine r_iload_n C (z_d dd_Row_number 7 rfl) rfl ?_
    refine r_isub C (z_d dd_Row_number 8 rfl) ?_
    refine r_icmp_gt C 53 (z_d dd_Row_number 9 rfl) (by decide) (fun c4 => ?_) (fun c4 => ?_)
    · have h := zift h c4
      refine r_mk [false, false, false, true, false, false] ?_
      exact s_Row_number_53 C hr E n (0 : Int64) M h
    · have h := ziff h c4
      refine r_iload_n C (z_d dd_Row_number 10 rfl) rfl ?_
      refine r_iload_n C (z_d dd_Row_number 11 rfl) rfl ?_
      refine r_iadd C (z_d dd_Row_number 12 rfl) ?_
      refine r_iconst (v := (1 : Int32)) C (z_d dd_Row_number 13 rfl) (by decide) ?_
      refine r_isub C (z_d dd_Row_number 14 rfl) ?_
      obtain ⟨v2, e3, h⟩ := zlet_ex h
      refine r_nmI e3 ?_
      refine r_istore (lv' := [some (zP l0), some (zI l1), some (zI l2), some (zL (0 : Int64)), none, some (zI v2)]) C (z_d dd_Row_number 15 rfl) (Nat.le_of_ble_eq_true rfl) rfl ?_
      refine r_mk [true, true, false, true, false, true] ?_
      exact s_Row_number_23 C hr E n l0 l1 (0 : Int64) v2 M h
def F_Row_number (O : zO) (n : Nat) (l0 : Nat) (l1 : Int32) (l2 : Int32) (M : zM) : Option (Int64 × zM) := f_Row_number_0 O n l0 l1 l2 M
theorem S_Row_number {l : Launch} {D : zD} {n : Nat} {l0 : Nat} {l1 : Int32} {l2 : Int32} {M : zM} {q : Int64 × zM} (h : F_Row_number D.2.2.2.2 n l0 l1 l2 M = some q) : zMet l D mi_Row_number [zP l0, zI l1, zI l2] M (some (zL q.1)) q.2 :=
  z_met (by decide) (Nat.le_of_ble_eq_true rfl) (fun X C E hr hin hD hl => by
    subst hD
    exact s_Row_number_0 C hr E n l0 l1 l2 M h)

def f_Row_at_26 (O : zO) (n : Nat) (s0 : Int32) (M : zM) : Option (Int32 × zM) :=
  some (s0, M)
set_option maxRecDepth 100000 in
set_option maxHeartbeats 4000000 in
theorem s_Row_at_26 {X : zX} {q : Int32 × zM} (C : zC X zR8 prog_9_method_3_code 2 { frames := 0, cells := 0, slots := 0, locals := 0 }) (hr : zRt X (some .int)) (E : zE X (some (zI q.1)) q.2 0 0) : ∀ (n : Nat) (s0 : Int32) (M : zM), f_Row_at_26 (zOD X) n s0 M = some q → zW X 0 0 26 [none, none] [zI s0] M := by
  intro n s0 M h
  rw [f_Row_at_26] at h
  obtain rfl := z_res h
  exact r_iretI C E hr (z_d dd_Row_at 14 rfl) (Nat.le_of_ble_eq_true rfl) (Nat.le_of_ble_eq_true rfl)
def f_Row_at_25 (O : zO) (n : Nat) (M : zM) : Option (Int32 × zM) :=
  f_Row_at_26 O n (0 : Int32) M
set_option maxRecDepth 100000 in
set_option maxHeartbeats 4000000 in
theorem s_Row_at_25 {X : zX} {q : Int32 × zM} (C : zC X zR8 prog_9_method_3_code 2 { frames := 0, cells := 0, slots := 0, locals := 0 }) (hr : zRt X (some .int)) (E : zE X (some (zI q.1)) q.2 0 0) : ∀ (n : Nat) (M : zM), f_Row_at_25 (zOD X) n M = some q → zW X 0 0 25 [none, none] [] M := by
  intro n M h
  rw [f_Row_at_25] at h
  refine r_iconst (v := (0 : Int32)) C (z_d dd_Row_at 13 rfl) (by decide) ?_
  exact s_Row_at_26 C hr E n (0 : Int32) M h
def f_Row_at_0 (O : zO) (n : Nat) (l0 : Nat) (l1 : Int32) (M : zM) : Option (Int32 × zM) :=
  if l1 < 0 then
  f_Row_at_25 O n M
  else
  if z_k M l0 = 9 then
  if (z_i M l0 1) ≤ l1 then
  f_Row_at_25 O n M
  else
  if z_k M (z_p M l0 0) = 101 then
  if zin l1 (z_n M (z_p M l0 0)) = true then
  f_Row_at_26 O n ((z_i M (z_p M l0 0) l1.toNatClampNeg) &&& (255 : Int32)) M
  else none
  else none
  else none
set_option maxRecDepth 100000 in
set_option maxHeartbeats 4000000 in
theorem s_Row_at_0 {X : zX} {q : Int32 × zM} (C : zC X zR8 prog_9_method_3_code 2 { frames := 0, cells := 0, slots := 0, locals := 0 }) (hr : zRt X (some .int)) (E : zE X (some (zI q.1)) q.2 0 0) : ∀ (n : Nat) (l0 : Nat) (l1 : Int32) (M : zM), f_Row_at_0 (zOD X) n l0 l1 M = some q → zW X 0 0 0 [some (zP l0), some (zI l1)] [] M := by
  intro n l0 l1 M h
  rw [f_Row_at_0] at h
  refine r_iload_n C (z_d dd_Row_at 0 rfl) rfl ?_
  refine r_if_lt C 25 (z_d dd_Row_at 1 rfl) (by decide) (fun c5 => ?_) (fun c5 => ?_)
  · have h := zift h c5
    refine r_mk [false, false] ?_
    exact s_Row_at_25 C hr E n M h
  · have h := ziff h c5
    refine r_iload_n C (z_d dd_Row_at 2 rfl) rfl ?_
    refine r_aload_n C (z_d dd_Row_at 3 rfl) rfl ?_
    obtain ⟨h1, h⟩ := zif h
    refine r_getI C (z_d dd_Row_at 4 rfl) lk_Row_13 rfl h1 rfl ?_
    refine r_icmp_ge C 25 (z_d dd_Row_at 5 rfl) (by decide) (fun c4 => ?_) (fun c4 => ?_)
    · have h := zift h c4
      refine r_mk [false, false] ?_
      exact s_Row_at_25 C hr E n M h
    · have h := ziff h c4
      refine r_aload_n C (z_d dd_Row_at 6 rfl) rfl ?_
      refine r_getP C (z_d dd_Row_at 7 rfl) lk_Row_7 rfl h1 rfl ?_
      refine r_iload_n C (z_d dd_Row_at 8 rfl) rfl ?_
      obtain ⟨h2, h⟩ := zif h
      obtain ⟨h3, h⟩ := zif h
      refine r_bald C (z_d dd_Row_at 9 rfl) h2 h3 rfl ?_
      refine r_sipush (v := (255 : Int32)) C (z_d dd_Row_at 10 rfl) (by decide) ?_
      refine r_iand C (z_d dd_Row_at 11 rfl) ?_
      refine r_goto C 26 (z_d dd_Row_at 12 rfl) (by decide) ?_
      refine r_mk [false, false] ?_
      exact s_Row_at_26 C hr E n ((z_i M (z_p M l0 0) l1.toNatClampNeg) &&& (255 : Int32)) M h
def F_Row_at (O : zO) (n : Nat) (l0 : Nat) (l1 : Int32) (M : zM) : Option (Int32 × zM) := f_Row_at_0 O n l0 l1 M
theorem S_Row_at {l : Launch} {D : zD} {n : Nat} {l0 : Nat} {l1 : Int32} {M : zM} {q : Int32 × zM} (h : F_Row_at D.2.2.2.2 n l0 l1 M = some q) : zMet l D mi_Row_at [zP l0, zI l1] M (some (zI q.1)) q.2 :=
  z_met (by decide) (Nat.le_of_ble_eq_true rfl) (fun X C E hr hin hD hl => by
    subst hD
    exact s_Row_at_0 C hr E n l0 l1 M h)

def f_Codes_addWeight_0 (O : zO) (n : Nat) (l0 : Nat) (l1 : Int32) (M : zM) : Option (Int32 × zM) :=
  if z_k M l0 = 2 then
  if (z_i M l0 6) < (255 : Int32) then
  if z_k M (z_p M l0 0) = 100 then
  if zin (z_i M l0 6) (z_n M (z_p M l0 0)) = true then
  zlet (w_i M (z_p M l0 0) (z_i M l0 6).toNatClampNeg l1) fun M4 =>
  zlet (w_i M4 l0 6 ((z_i M4 l0 6) + (1 : Int32))) fun M8 =>
  some ((1 : Int32), M8)
  else none
  else none
  else
  some ((0 : Int32), M)
  else none
set_option maxRecDepth 100000 in
set_option maxHeartbeats 4000000 in
theorem s_Codes_addWeight_0 {X : zX} {q : Int32 × zM} (C : zC X zR1 prog_2_method_6_code 2 { frames := 0, cells := 0, slots := 0, locals := 0 }) (hr : zRt X (some .boolean)) (E : zE X (some (zI q.1)) q.2 0 0) : ∀ (n : Nat) (l0 : Nat) (l1 : Int32) (M : zM), f_Codes_addWeight_0 (zOD X) n l0 l1 M = some q → zW X 0 0 0 [some (zP l0), some (zI l1)] [] M := by
  intro n l0 l1 M h
  rw [f_Codes_addWeight_0] at h
  refine r_aload_n C (z_d dd_Codes_addWeight 0 rfl) rfl ?_
  obtain ⟨h1, h⟩ := zif h
  refine r_getI C (z_d dd_Codes_addWeight 1 rfl) lk_Codes_41 rfl h1 rfl ?_
  refine r_sipush (v := (255 : Int32)) C (z_d dd_Codes_addWeight 2 rfl) (by decide) ?_
  refine r_icmp_lt C 12 (z_d dd_Codes_addWeight 3 rfl) (by decide) (fun c12 => ?_) (fun c12 => ?_)
  · have h := zift h c12
    refine r_aload_n C (z_d dd_Codes_addWeight 6 rfl) rfl ?_
    refine r_getP C (z_d dd_Codes_addWeight 7 rfl) lk_Codes_9 rfl h1 rfl ?_
    refine r_aload_n C (z_d dd_Codes_addWeight 8 rfl) rfl ?_
    refine r_getI C (z_d dd_Codes_addWeight 9 rfl) lk_Codes_41 rfl h1 rfl ?_
    refine r_iload_n C (z_d dd_Codes_addWeight 10 rfl) rfl ?_
    obtain ⟨h2, h⟩ := zif h
    obtain ⟨h3, h⟩ := zif h
    obtain ⟨M4, e5, h⟩ := zlet_ex h
    have h6 := k_i e5 h1
    have h7 := k_i e5 h2
    refine r_iast C (z_d dd_Codes_addWeight 11 rfl) h2 h3 e5 ?_
    refine r_aload_n C (z_d dd_Codes_addWeight 12 rfl) rfl ?_
    refine r_dupP C (z_d dd_Codes_addWeight 13 rfl) ?_
    refine r_getI C (z_d dd_Codes_addWeight 14 rfl) lk_Codes_41 rfl h6 rfl ?_
    refine r_iconst (v := (1 : Int32)) C (z_d dd_Codes_addWeight 15 rfl) (by decide) ?_
    refine r_iadd C (z_d dd_Codes_addWeight 16 rfl) ?_
    obtain ⟨M8, e9, h⟩ := zlet_ex h
    have h10 := k_i e9 h6
    have h11 := k_i e9 h7
    refine r_putI C (z_d dd_Codes_addWeight 17 rfl) lp_Codes_41 rfl h6 e9 ?_
    refine r_iconst (v := (1 : Int32)) C (z_d dd_Codes_addWeight 18 rfl) (by decide) ?_
    obtain rfl := z_res h
    exact r_iretZ C E hr (z_d dd_Codes_addWeight 19 rfl) (by decide) (Nat.le_of_ble_eq_true rfl) (Nat.le_of_ble_eq_true rfl)
  · have h := ziff h c12
    refine r_iconst (v := (0 : Int32)) C (z_d dd_Codes_addWeight 4 rfl) (by decide) ?_
    obtain rfl := z_res h
    exact r_iretZ C E hr (z_d dd_Codes_addWeight 5 rfl) (by decide) (Nat.le_of_ble_eq_true rfl) (Nat.le_of_ble_eq_true rfl)
def F_Codes_addWeight (O : zO) (n : Nat) (l0 : Nat) (l1 : Int32) (M : zM) : Option (Int32 × zM) := f_Codes_addWeight_0 O n l0 l1 M
theorem S_Codes_addWeight {l : Launch} {D : zD} {n : Nat} {l0 : Nat} {l1 : Int32} {M : zM} {q : Int32 × zM} (h : F_Codes_addWeight D.2.2.2.2 n l0 l1 M = some q) : zMet l D mi_Codes_addWeight [zP l0, zI l1] M (some (zI q.1)) q.2 :=
  z_met (by decide) (Nat.le_of_ble_eq_true rfl) (fun X C E hr hin hD hl => by
    subst hD
    exact s_Codes_addWeight_0 C hr E n l0 l1 M h)

def f_Codes_takePlain_46 (O : zO) (k8 : Nat → Nat → Int32 → Int32 → Int32 → zM → Option (Unit × zM)) (n : Nat) (l0 : Nat) (l1 : Nat) (l2 : Int32) (l3 : Int32) (l4 : Int32) (s0 : Nat) (s1 : Int32) (M : zM) : Option (Unit × zM) :=
  if z_k M s0 = 2 then
  (F_Codes_addWeight O n s0 s1 M).bind fun q2 =>
  zlet (l4 + (1 : Int32)) fun v4 =>
  k8 l0 l1 l2 l3 v4 q2.2
  else none
set_option maxRecDepth 100000 in
set_option maxHeartbeats 4000000 in
theorem s_Codes_takePlain_46 {X : zX} {q : Unit × zM} (C : zC X zR1 prog_2_method_4_code 6 { frames := 1, cells := 0, slots := 0, locals := 21 }) (hr : zRt X none) (E : zE X none q.2 0 0) {k8 : Nat → Nat → Int32 → Int32 → Int32 → zM → Option (Unit × zM)} (hk8 : ∀ (l0 : Nat) (l1 : Nat) (l2 : Int32) (l3 : Int32) (l4 : Int32) (M : zM), k8 l0 l1 l2 l3 l4 M = some q → zW X 0 0 8 [some (zP l0), some (zP l1), some (zI l2), some (zI l3), some (zI l4), none] [] M) : ∀ (n : Nat) (l0 : Nat) (l1 : Nat) (l2 : Int32) (l3 : Int32) (l4 : Int32) (s0 : Nat) (s1 : Int32) (M : zM), f_Codes_takePlain_46 (zOD X) k8 n l0 l1 l2 l3 l4 s0 s1 M = some q → zW X 0 0 46 [some (zP l0), some (zP l1), some (zI l2), some (zI l3), some (zI l4), none] [zI s1, zP s0] M := by
  intro n l0 l1 l2 l3 l4 s0 s1 M h
  rw [f_Codes_takePlain_46] at h
  obtain ⟨h1, h⟩ := zif h
  obtain ⟨q2, c3, h⟩ := zbd h
  refine r_invV (as := [zI s1]) C 1 (S_Codes_addWeight c3) (z_d dd_Codes_takePlain 28 rfl) ok_Codes_addWeight iv_Codes_addWeight se_Codes_addWeight ml_Codes_79 rfl rfl h1 rfl rfl rfl (Nat.le_of_ble_eq_true rfl) ⟨(Nat.le_of_ble_eq_true rfl), (Nat.le_of_ble_eq_true rfl)⟩ ⟨(Nat.le_of_ble_eq_true rfl), (Nat.le_of_ble_eq_true rfl)⟩ ?_
  refine r_popI C (z_d dd_Codes_takePlain 29 rfl) ?_
  obtain ⟨v4, e5, h⟩ := zlet_ex h
  refine r_iinc (v := v4) (lv' := [some (zP l0), some (zP l1), some (zI l2), some (zI l3), some (zI v4), none]) C (z_d dd_Codes_takePlain 30 rfl) rfl (Nat.le_of_ble_eq_true rfl) (by rw [e5]; rfl) rfl ?_
  refine r_goto C 8 (z_d dd_Codes_takePlain 31 rfl) (by decide) ?_
  exact hk8 l0 l1 l2 l3 v4 q2.2 h
def f_Codes_takePlain_8 (O : zO) : Nat → Nat → Nat → Int32 → Int32 → Int32 → zM → Option (Unit × zM)
  | 0, _, _, _, _, _, _ => none
  | n + 1, l0, l1, l2, l3, l4, M =>
    if l3 ≤ l4 then
    some ((), M)
    else
    if z_k M l1 = 9 then
    (F_Row_at O n l1 (l2 + (l4 / (2 : Int32))) M).bind fun q2 =>
    if (l4 - l4 / (2 : Int32) * (2 : Int32)) = 0 then
    f_Codes_takePlain_46 O (f_Codes_takePlain_8 O n) n l0 l1 l2 l3 l4 l0 (q2.1 >>> ((4 : Int32) &&& 31)) q2.2
    else
    f_Codes_takePlain_46 O (f_Codes_takePlain_8 O n) n l0 l1 l2 l3 l4 l0 (q2.1 &&& (15 : Int32)) q2.2
    else none
set_option maxRecDepth 100000 in
set_option maxHeartbeats 4000000 in
theorem s_Codes_takePlain_8 {X : zX} {q : Unit × zM} (C : zC X zR1 prog_2_method_4_code 6 { frames := 1, cells := 0, slots := 0, locals := 21 }) (hr : zRt X none) (E : zE X none q.2 0 0) : ∀ (n : Nat) (l0 : Nat) (l1 : Nat) (l2 : Int32) (l3 : Int32) (l4 : Int32) (M : zM), f_Codes_takePlain_8 (zOD X) n l0 l1 l2 l3 l4 M = some q → zW X 0 0 8 [some (zP l0), some (zP l1), some (zI l2), some (zI l3), some (zI l4), none] [] M := by
  intro n
  induction n with
  | zero => intro l0 l1 l2 l3 l4 M h; rw [f_Codes_takePlain_8] at h; cases h
  | succ n ih =>
    intro l0 l1 l2 l3 l4 M h
    rw [f_Codes_takePlain_8] at h
    refine r_iload C (z_d dd_Codes_takePlain 5 rfl) rfl ?_
    refine r_iload_n C (z_d dd_Codes_takePlain 6 rfl) rfl ?_
    refine r_icmp_ge C 56 (z_d dd_Codes_takePlain 7 rfl) (by decide) (fun c5 => ?_) (fun c5 => ?_)
    · have h := zift h c5
      obtain rfl := z_res h
      exact r_vret C E hr (z_d dd_Codes_takePlain 32 rfl) (Nat.le_of_ble_eq_true rfl) (Nat.le_of_ble_eq_true rfl)
    · have h := ziff h c5
      refine r_aload_n C (z_d dd_Codes_takePlain 8 rfl) rfl ?_
      refine r_iload_n C (z_d dd_Codes_takePlain 9 rfl) rfl ?_
      refine r_iload C (z_d dd_Codes_takePlain 10 rfl) rfl ?_
      refine r_iconst (v := (2 : Int32)) C (z_d dd_Codes_takePlain 11 rfl) (by decide) ?_
      refine r_idiv C (z_d dd_Codes_takePlain 12 rfl) (by decide) ?_
      refine r_iadd C (z_d dd_Codes_takePlain 13 rfl) ?_
      obtain ⟨h1, h⟩ := zif h
      obtain ⟨q2, c3, h⟩ := zbd h
      refine r_invV (as := [zI (l2 + (l4 / (2 : Int32)))]) C 8 (S_Row_at c3) (z_d dd_Codes_takePlain 14 rfl) ok_Row_at iv_Row_at se_Row_at ml_Codes_51 rfl rfl h1 rfl rfl rfl (Nat.le_of_ble_eq_true rfl) ⟨(Nat.le_of_ble_eq_true rfl), (Nat.le_of_ble_eq_true rfl)⟩ ⟨(Nat.le_of_ble_eq_true rfl), (Nat.le_of_ble_eq_true rfl)⟩ ?_
      refine r_istore (lv' := [some (zP l0), some (zP l1), some (zI l2), some (zI l3), some (zI l4), some (zI q2.1)]) C (z_d dd_Codes_takePlain 15 rfl) (Nat.le_of_ble_eq_true rfl) rfl ?_
      refine r_aload_n C (z_d dd_Codes_takePlain 16 rfl) rfl ?_
      refine r_iload C (z_d dd_Codes_takePlain 17 rfl) rfl ?_
      refine r_iconst (v := (2 : Int32)) C (z_d dd_Codes_takePlain 18 rfl) (by decide) ?_
      refine r_irem C (z_d dd_Codes_takePlain 19 rfl) (by decide) ?_
      refine r_if_ne C 41 (z_d dd_Codes_takePlain 20 rfl) (by decide) (fun c4 => ?_) (fun c4 => ?_)
      · have h := ziff h c4
        refine r_iload C (z_d dd_Codes_takePlain 25 rfl) rfl ?_
        refine r_bipush (v := (15 : Int32)) C (z_d dd_Codes_takePlain 26 rfl) (by decide) ?_
        refine r_iand C (z_d dd_Codes_takePlain 27 rfl) ?_
        refine r_mk [true, true, true, true, true, false] ?_
        exact s_Codes_takePlain_46 C hr E ih n l0 l1 l2 l3 l4 l0 (q2.1 &&& (15 : Int32)) q2.2 h
      · have h := zift h c4
        refine r_iload C (z_d dd_Codes_takePlain 21 rfl) rfl ?_
        refine r_iconst (v := (4 : Int32)) C (z_d dd_Codes_takePlain 22 rfl) (by decide) ?_
        refine r_ishr C (z_d dd_Codes_takePlain 23 rfl) ?_
        refine r_goto C 46 (z_d dd_Codes_takePlain 24 rfl) (by decide) ?_
        refine r_mk [true, true, true, true, true, false] ?_
        exact s_Codes_takePlain_46 C hr E ih n l0 l1 l2 l3 l4 l0 (q2.1 >>> ((4 : Int32) &&& 31)) q2.2 h
def f_Codes_takePlain_0 (O : zO) (n : Nat) (l0 : Nat) (l1 : Nat) (l2 : Int32) (l3 : Int32) (M : zM) : Option (Unit × zM) :=
  if z_k M l0 = 2 then
  zlet (w_i M l0 6 (0 : Int32)) fun M2 =>
  f_Codes_takePlain_8 O n l0 l1 l2 l3 (0 : Int32) M2
  else none
set_option maxRecDepth 100000 in
set_option maxHeartbeats 4000000 in
theorem s_Codes_takePlain_0 {X : zX} {q : Unit × zM} (C : zC X zR1 prog_2_method_4_code 6 { frames := 1, cells := 0, slots := 0, locals := 21 }) (hr : zRt X none) (E : zE X none q.2 0 0) : ∀ (n : Nat) (l0 : Nat) (l1 : Nat) (l2 : Int32) (l3 : Int32) (M : zM), f_Codes_takePlain_0 (zOD X) n l0 l1 l2 l3 M = some q → zW X 0 0 0 [some (zP l0), some (zP l1), some (zI l2), some (zI l3), none, none] [] M := by
  intro n l0 l1 l2 l3 M h
  rw [f_Codes_takePlain_0] at h
  refine r_aload_n C (z_d dd_Codes_takePlain 0 rfl) rfl ?_
  refine r_iconst (v := (0 : Int32)) C (z_d dd_Codes_takePlain 1 rfl) (by decide) ?_
  obtain ⟨h1, h⟩ := zif h
  obtain ⟨M2, e3, h⟩ := zlet_ex h
  have h4 := k_i e3 h1
  refine r_putI C (z_d dd_Codes_takePlain 2 rfl) lp_Codes_41 rfl h1 e3 ?_
  refine r_iconst (v := (0 : Int32)) C (z_d dd_Codes_takePlain 3 rfl) (by decide) ?_
  refine r_istore (lv' := [some (zP l0), some (zP l1), some (zI l2), some (zI l3), some (zI (0 : Int32)), none]) C (z_d dd_Codes_takePlain 4 rfl) (Nat.le_of_ble_eq_true rfl) rfl ?_
  exact s_Codes_takePlain_8 C hr E n l0 l1 l2 l3 (0 : Int32) M2 h
def F_Codes_takePlain (O : zO) (n : Nat) (l0 : Nat) (l1 : Nat) (l2 : Int32) (l3 : Int32) (M : zM) : Option (Unit × zM) := f_Codes_takePlain_0 O n l0 l1 l2 l3 M
theorem S_Codes_takePlain {l : Launch} {D : zD} {n : Nat} {l0 : Nat} {l1 : Nat} {l2 : Int32} {l3 : Int32} {M : zM} {q : Unit × zM} (h : F_Codes_takePlain D.2.2.2.2 n l0 l1 l2 l3 M = some q) : zMet l D mi_Codes_takePlain [zP l0, zP l1, zI l2, zI l3] M none q.2 :=
  z_met (by decide) (Nat.le_of_ble_eq_true rfl) (fun X C E hr hin hD hl => by
    subst hD
    exact s_Codes_takePlain_0 C hr E n l0 l1 l2 l3 M h)

def f_Share_nextBits_20 (O : zO) (n : Nat) (M : zM) : Option (Int32 × zM) :=
  some ((-1 : Int32), M)
set_option maxRecDepth 100000 in
set_option maxHeartbeats 4000000 in
theorem s_Share_nextBits_20 {X : zX} {q : Int32 × zM} (C : zC X zR10 prog_11_method_10_code 6 { frames := 0, cells := 0, slots := 0, locals := 0 }) (hr : zRt X (some .int)) (E : zE X (some (zI q.1)) q.2 0 0) : ∀ (n : Nat) (M : zM), f_Share_nextBits_20 (zOD X) n M = some q → zW X 0 0 20 [none, none, none, none, none, none] [] M := by
  intro n M h
  rw [f_Share_nextBits_20] at h
  refine r_iconst (v := (-1 : Int32)) C (z_d dd_Share_nextBits 10 rfl) (by decide) ?_
  obtain rfl := z_res h
  exact r_iretI C E hr (z_d dd_Share_nextBits 11 rfl) (Nat.le_of_ble_eq_true rfl) (Nat.le_of_ble_eq_true rfl)
def f_Share_nextBits_70 (O : zO) (k26 : Nat → Int32 → Int32 → Int32 → zM → Option (Int32 × zM)) (n : Nat) (l0 : Nat) (l1 : Int32) (l2 : Int32) (l3 : Int32) (s0 : Int32) (M : zM) : Option (Int32 × zM) :=
  if z_k M l0 = 11 then
  zlet (l2 ||| (((s0 >>> (((z_i M l0 9) &&& (7 : Int32)) &&& 31)) &&& (1 : Int32)) <<< (l3 &&& 31))) fun v2 =>
  zlet (w_i M l0 9 ((z_i M l0 9) + (1 : Int32))) fun M4 =>
  zlet (l3 + (1 : Int32)) fun v7 =>
  k26 l0 l1 v2 v7 M4
  else none
set_option maxRecDepth 100000 in
set_option maxHeartbeats 4000000 in
theorem s_Share_nextBits_70 {X : zX} {q : Int32 × zM} (C : zC X zR10 prog_11_method_10_code 6 { frames := 0, cells := 0, slots := 0, locals := 0 }) (hr : zRt X (some .int)) (E : zE X (some (zI q.1)) q.2 0 0) {k26 : Nat → Int32 → Int32 → Int32 → zM → Option (Int32 × zM)} (hk26 : ∀ (l0 : Nat) (l1 : Int32) (l2 : Int32) (l3 : Int32) (M : zM), k26 l0 l1 l2 l3 M = some q → zW X 0 0 26 [some (zP l0), some (zI l1), some (zI l2), some (zI l3), none, none] [] M) : ∀ (n : Nat) (l0 : Nat) (l1 : Int32) (l2 : Int32) (l3 : Int32) (s0 : Int32) (M : zM), f_Share_nextBits_70 (zOD X) k26 n l0 l1 l2 l3 s0 M = some q → zW X 0 0 70 [some (zP l0), some (zI l1), some (zI l2), some (zI l3), none, none] [zI s0] M := by
  intro n l0 l1 l2 l3 s0 M h
  rw [f_Share_nextBits_70] at h
  refine r_istore (lv' := [some (zP l0), some (zI l1), some (zI l2), some (zI l3), none, some (zI s0)]) C (z_d dd_Share_nextBits 38 rfl) (Nat.le_of_ble_eq_true rfl) rfl ?_
  refine r_iload_n C (z_d dd_Share_nextBits 39 rfl) rfl ?_
  refine r_iload C (z_d dd_Share_nextBits 40 rfl) rfl ?_
  refine r_aload_n C (z_d dd_Share_nextBits 41 rfl) rfl ?_
  obtain ⟨h1, h⟩ := zif h
  refine r_getI C (z_d dd_Share_nextBits 42 rfl) lk_Share_41 rfl h1 rfl ?_
  refine r_bipush (v := (7 : Int32)) C (z_d dd_Share_nextBits 43 rfl) (by decide) ?_
  refine r_iand C (z_d dd_Share_nextBits 44 rfl) ?_
  refine r_ishr C (z_d dd_Share_nextBits 45 rfl) ?_
  refine r_iconst (v := (1 : Int32)) C (z_d dd_Share_nextBits 46 rfl) (by decide) ?_
  refine r_iand C (z_d dd_Share_nextBits 47 rfl) ?_
  refine r_iload_n C (z_d dd_Share_nextBits 48 rfl) rfl ?_
  refine r_ishl C (z_d dd_Share_nextBits 49 rfl) ?_
  refine r_ior C (z_d dd_Share_nextBits 50 rfl) ?_
  obtain ⟨v2, e3, h⟩ := zlet_ex h
  refine r_nmI e3 ?_
  refine r_istore_n (lv' := [some (zP l0), some (zI l1), some (zI v2), some (zI l3), none, some (zI s0)]) C (z_d dd_Share_nextBits 51 rfl) (Nat.le_of_ble_eq_true rfl) rfl ?_
  refine r_aload_n C (z_d dd_Share_nextBits 52 rfl) rfl ?_
  refine r_dupP C (z_d dd_Share_nextBits 53 rfl) ?_
  refine r_getI C (z_d dd_Share_nextBits 54 rfl) lk_Share_41 rfl h1 rfl ?_
  refine r_iconst (v := (1 : Int32)) C (z_d dd_Share_nextBits 55 rfl) (by decide) ?_
  refine r_iadd C (z_d dd_Share_nextBits 56 rfl) ?_
  obtain ⟨M4, e5, h⟩ := zlet_ex h
  have h6 := k_i e5 h1
  refine r_putI C (z_d dd_Share_nextBits 57 rfl) lp_Share_41 rfl h1 e5 ?_
  obtain ⟨v7, e8, h⟩ := zlet_ex h
  refine r_iinc (v := v7) (lv' := [some (zP l0), some (zI l1), some (zI v2), some (zI v7), none, some (zI s0)]) C (z_d dd_Share_nextBits 58 rfl) rfl (Nat.le_of_ble_eq_true rfl) (by rw [e8]; rfl) rfl ?_
  refine r_goto C 26 (z_d dd_Share_nextBits 59 rfl) (by decide) ?_
  refine r_mk [true, true, true, true, false, false] ?_
  exact hk26 l0 l1 v2 v7 M4 h
def f_Share_nextBits_69 (O : zO) (k26 : Nat → Int32 → Int32 → Int32 → zM → Option (Int32 × zM)) (n : Nat) (l0 : Nat) (l1 : Int32) (l2 : Int32) (l3 : Int32) (M : zM) : Option (Int32 × zM) :=
  f_Share_nextBits_70 O k26 n l0 l1 l2 l3 (0 : Int32) M
set_option maxRecDepth 100000 in
set_option maxHeartbeats 4000000 in
theorem s_Share_nextBits_69 {X : zX} {q : Int32 × zM} (C : zC X zR10 prog_11_method_10_code 6 { frames := 0, cells := 0, slots := 0, locals := 0 }) (hr : zRt X (some .int)) (E : zE X (some (zI q.1)) q.2 0 0) {k26 : Nat → Int32 → Int32 → Int32 → zM → Option (Int32 × zM)} (hk26 : ∀ (l0 : Nat) (l1 : Int32) (l2 : Int32) (l3 : Int32) (M : zM), k26 l0 l1 l2 l3 M = some q → zW X 0 0 26 [some (zP l0), some (zI l1), some (zI l2), some (zI l3), none, none] [] M) : ∀ (n : Nat) (l0 : Nat) (l1 : Int32) (l2 : Int32) (l3 : Int32) (M : zM), f_Share_nextBits_69 (zOD X) k26 n l0 l1 l2 l3 M = some q → zW X 0 0 69 [some (zP l0), some (zI l1), some (zI l2), some (zI l3), none, none] [] M := by
  intro n l0 l1 l2 l3 M h
  rw [f_Share_nextBits_69] at h
  refine r_iconst (v := (0 : Int32)) C (z_d dd_Share_nextBits 37 rfl) (by decide) ?_
  exact s_Share_nextBits_70 C hr E hk26 n l0 l1 l2 l3 (0 : Int32) M h
def f_Share_nextBits_26 (O : zO) : Nat → Nat → Int32 → Int32 → Int32 → zM → Option (Int32 × zM)
  | 0, _, _, _, _, _ => none
  | n + 1, l0, l1, l2, l3, M =>
    if l1 ≤ l3 then
    some (l2, M)
    else
    if z_k M l0 = 11 then
    zlet ((z_i M l0 9) >>> ((3 : Int32) &&& 31)) fun v2 =>
    if v2 < 0 then
    f_Share_nextBits_69 O (f_Share_nextBits_26 O n) n l0 l1 l2 l3 M
    else
    if z_k M (z_p M l0 8) = 9 then
    if (z_i M (z_p M l0 8) 1) ≤ v2 then
    f_Share_nextBits_69 O (f_Share_nextBits_26 O n) n l0 l1 l2 l3 M
    else
    if z_k M (z_p M (z_p M l0 8) 0) = 101 then
    if zin v2 (z_n M (z_p M (z_p M l0 8) 0)) = true then
    f_Share_nextBits_70 O (f_Share_nextBits_26 O n) n l0 l1 l2 l3 (z_i M (z_p M (z_p M l0 8) 0) v2.toNatClampNeg) M
    else none
    else none
    else none
    else none
set_option maxRecDepth 100000 in
set_option maxHeartbeats 4000000 in
theorem s_Share_nextBits_26 {X : zX} {q : Int32 × zM} (C : zC X zR10 prog_11_method_10_code 6 { frames := 0, cells := 0, slots := 0, locals := 0 }) (hr : zRt X (some .int)) (E : zE X (some (zI q.1)) q.2 0 0) : ∀ (n : Nat) (l0 : Nat) (l1 : Int32) (l2 : Int32) (l3 : Int32) (M : zM), f_Share_nextBits_26 (zOD X) n l0 l1 l2 l3 M = some q → zW X 0 0 26 [some (zP l0), some (zI l1), some (zI l2), some (zI l3), none, none] [] M := by
  intro n
  induction n with
  | zero => intro l0 l1 l2 l3 M h; rw [f_Share_nextBits_26] at h; cases h
  | succ n ih =>
    intro l0 l1 l2 l3 M h
    rw [f_Share_nextBits_26] at h
    refine r_iload_n C (z_d dd_Share_nextBits 16 rfl) rfl ?_
    refine r_iload_n C (z_d dd_Share_nextBits 17 rfl) rfl ?_
    refine r_icmp_ge C 105 (z_d dd_Share_nextBits 18 rfl) (by decide) (fun c9 => ?_) (fun c9 => ?_)
    · have h := zift h c9
      refine r_iload_n C (z_d dd_Share_nextBits 60 rfl) rfl ?_
      obtain rfl := z_res h
      exact r_iretI C E hr (z_d dd_Share_nextBits 61 rfl) (Nat.le_of_ble_eq_true rfl) (Nat.le_of_ble_eq_true rfl)
    · have h := ziff h c9
      refine r_aload_n C (z_d dd_Share_nextBits 19 rfl) rfl ?_
      obtain ⟨h1, h⟩ := zif h
      refine r_getI C (z_d dd_Share_nextBits 20 rfl) lk_Share_41 rfl h1 rfl ?_
      refine r_iconst (v := (3 : Int32)) C (z_d dd_Share_nextBits 21 rfl) (by decide) ?_
      refine r_ishr C (z_d dd_Share_nextBits 22 rfl) ?_
      obtain ⟨v2, e3, h⟩ := zlet_ex h
      refine r_nmI e3 ?_
      refine r_istore (lv' := [some (zP l0), some (zI l1), some (zI l2), some (zI l3), some (zI v2), none]) C (z_d dd_Share_nextBits 23 rfl) (Nat.le_of_ble_eq_true rfl) rfl ?_
      refine r_iload C (z_d dd_Share_nextBits 24 rfl) rfl ?_
      refine r_if_lt C 69 (z_d dd_Share_nextBits 25 rfl) (by decide) (fun c8 => ?_) (fun c8 => ?_)
      · have h := zift h c8
        refine r_mk [true, true, true, true, false, false] ?_
        exact s_Share_nextBits_69 C hr E ih n l0 l1 l2 l3 M h
      · have h := ziff h c8
        refine r_iload C (z_d dd_Share_nextBits 26 rfl) rfl ?_
        refine r_aload_n C (z_d dd_Share_nextBits 27 rfl) rfl ?_
        refine r_getP C (z_d dd_Share_nextBits 28 rfl) lk_Share_37 rfl h1 rfl ?_
        obtain ⟨h4, h⟩ := zif h
        refine r_getI C (z_d dd_Share_nextBits 29 rfl) lk_Share_78 rfl h4 rfl ?_
        refine r_icmp_ge C 69 (z_d dd_Share_nextBits 30 rfl) (by decide) (fun c7 => ?_) (fun c7 => ?_)
        · have h := zift h c7
          refine r_mk [true, true, true, true, false, false] ?_
          exact s_Share_nextBits_69 C hr E ih n l0 l1 l2 l3 M h
        · have h := ziff h c7
          refine r_aload_n C (z_d dd_Share_nextBits 31 rfl) rfl ?_
          refine r_getP C (z_d dd_Share_nextBits 32 rfl) lk_Share_37 rfl h1 rfl ?_
          refine r_getP C (z_d dd_Share_nextBits 33 rfl) lk_Share_83 rfl h4 rfl ?_
          refine r_iload C (z_d dd_Share_nextBits 34 rfl) rfl ?_
          obtain ⟨h5, h⟩ := zif h
          obtain ⟨h6, h⟩ := zif h
          refine r_bald C (z_d dd_Share_nextBits 35 rfl) h5 h6 rfl ?_
          refine r_goto C 70 (z_d dd_Share_nextBits 36 rfl) (by decide) ?_
          refine r_mk [true, true, true, true, false, false] ?_
          exact s_Share_nextBits_70 C hr E ih n l0 l1 l2 l3 (z_i M (z_p M (z_p M l0 8) 0) v2.toNatClampNeg) M h
def f_Share_nextBits_0 (O : zO) (n : Nat) (l0 : Nat) (l1 : Int32) (M : zM) : Option (Int32 × zM) :=
  if z_k M l0 = 11 then
  if (z_p M l0 8) = 0 then
  f_Share_nextBits_20 O n M
  else
  if l1 ≤ ((z_i M l0 10) - (z_i M l0 9)) then
  f_Share_nextBits_26 O n l0 l1 (0 : Int32) (0 : Int32) M
  else
  f_Share_nextBits_20 O n M
  else none
set_option maxRecDepth 100000 in
set_option maxHeartbeats 4000000 in
theorem s_Share_nextBits_0 {X : zX} {q : Int32 × zM} (C : zC X zR10 prog_11_method_10_code 6 { frames := 0, cells := 0, slots := 0, locals := 0 }) (hr : zRt X (some .int)) (E : zE X (some (zI q.1)) q.2 0 0) : ∀ (n : Nat) (l0 : Nat) (l1 : Int32) (M : zM), f_Share_nextBits_0 (zOD X) n l0 l1 M = some q → zW X 0 0 0 [some (zP l0), some (zI l1), none, none, none, none] [] M := by
  intro n l0 l1 M h
  rw [f_Share_nextBits_0] at h
  refine r_aload_n C (z_d dd_Share_nextBits 0 rfl) rfl ?_
  obtain ⟨h1, h⟩ := zif h
  refine r_getP C (z_d dd_Share_nextBits 1 rfl) lk_Share_37 rfl h1 rfl ?_
  refine r_ifnull C 20 (z_d dd_Share_nextBits 2 rfl) (by decide) (fun c3 => ?_) (fun c3 => ?_)
  · have h := zift h c3
    refine r_mk [false, false, false, false, false, false] ?_
    exact s_Share_nextBits_20 C hr E n M h
  · have h := ziff h c3
    refine r_iload_n C (z_d dd_Share_nextBits 3 rfl) rfl ?_
    refine r_aload_n C (z_d dd_Share_nextBits 4 rfl) rfl ?_
    refine r_getI C (z_d dd_Share_nextBits 5 rfl) lk_Share_44 rfl h1 rfl ?_
    refine r_aload_n C (z_d dd_Share_nextBits 6 rfl) rfl ?_
    refine r_getI C (z_d dd_Share_nextBits 7 rfl) lk_Share_41 rfl h1 rfl ?_
    refine r_isub C (z_d dd_Share_nextBits 8 rfl) ?_
    refine r_icmp_le C 22 (z_d dd_Share_nextBits 9 rfl) (by decide) (fun c2 => ?_) (fun c2 => ?_)
    · have h := zift h c2
      refine r_iconst (v := (0 : Int32)) C (z_d dd_Share_nextBits 12 rfl) (by decide) ?_
      refine r_istore_n (lv' := [some (zP l0), some (zI l1), some (zI (0 : Int32)), none, none, none]) C (z_d dd_Share_nextBits 13 rfl) (Nat.le_of_ble_eq_true rfl) rfl ?_
      refine r_iconst (v := (0 : Int32)) C (z_d dd_Share_nextBits 14 rfl) (by decide) ?_
      refine r_istore_n (lv' := [some (zP l0), some (zI l1), some (zI (0 : Int32)), some (zI (0 : Int32)), none, none]) C (z_d dd_Share_nextBits 15 rfl) (Nat.le_of_ble_eq_true rfl) rfl ?_
      exact s_Share_nextBits_26 C hr E n l0 l1 (0 : Int32) (0 : Int32) M h
    · have h := ziff h c2
      refine r_mk [false, false, false, false, false, false] ?_
      exact s_Share_nextBits_20 C hr E n M h
def F_Share_nextBits (O : zO) (n : Nat) (l0 : Nat) (l1 : Int32) (M : zM) : Option (Int32 × zM) := f_Share_nextBits_0 O n l0 l1 M
theorem S_Share_nextBits {l : Launch} {D : zD} {n : Nat} {l0 : Nat} {l1 : Int32} {M : zM} {q : Int32 × zM} (h : F_Share_nextBits D.2.2.2.2 n l0 l1 M = some q) : zMet l D mi_Share_nextBits [zP l0, zI l1] M (some (zI q.1)) q.2 :=
  z_met (by decide) (Nat.le_of_ble_eq_true rfl) (fun X C E hr hin hD hl => by
    subst hD
    exact s_Share_nextBits_0 C hr E n l0 l1 M h)

def f_JArr_fill_II_5 (O : zO) : Nat → Nat → Int32 → Int32 → Int32 → zM → Option (Unit × zM)
  | 0, _, _, _, _, _ => none
  | n + 1, l0, l1, l2, l3, M =>
    if l3 ≤ l2 then
    some ((), M)
    else
    if z_k M l0 = 100 then
    if zin l2 (z_n M l0) = true then
    zlet (w_i M l0 l2.toNatClampNeg l1) fun M3 =>
    zlet (l2 + (1 : Int32)) fun v6 =>
    f_JArr_fill_II_5 O n l0 l1 v6 l3 M3
    else none
    else none
set_option maxRecDepth 100000 in
set_option maxHeartbeats 4000000 in
theorem s_JArr_fill_II_5 {X : zX} {q : Unit × zM} (C : zC X zJArr prog_19_method_103_code 4 { frames := 0, cells := 0, slots := 0, locals := 0 }) (hr : zRt X none) (E : zE X none q.2 0 0) : ∀ (n : Nat) (l0 : Nat) (l1 : Int32) (l2 : Int32) (l3 : Int32) (M : zM), f_JArr_fill_II_5 (zOD X) n l0 l1 l2 l3 M = some q → zW X 0 0 5 [some (zP l0), some (zI l1), some (zI l2), some (zI l3)] [] M := by
  intro n
  induction n with
  | zero => intro l0 l1 l2 l3 M h; rw [f_JArr_fill_II_5] at h; cases h
  | succ n ih =>
    intro l0 l1 l2 l3 M h
    rw [f_JArr_fill_II_5] at h
    refine r_iload_n C (z_d dd_JArr_fill_II 5 rfl) rfl ?_
    refine r_iload_n C (z_d dd_JArr_fill_II 6 rfl) rfl ?_
    refine r_icmp_ge C 20 (z_d dd_JArr_fill_II 7 rfl) (by decide) (fun c8 => ?_) (fun c8 => ?_)
    · have h := zift h c8
      obtain rfl := z_res h
      exact r_vret C E hr (z_d dd_JArr_fill_II 14 rfl) (Nat.le_of_ble_eq_true rfl) (Nat.le_of_ble_eq_true rfl)
    · have h := ziff h c8
      refine r_aload_n C (z_d dd_JArr_fill_II 8 rfl) rfl ?_
      refine r_iload_n C (z_d dd_JArr_fill_II 9 rfl) rfl ?_
      refine r_iload_n C (z_d dd_JArr_fill_II 10 rfl) rfl ?_
      obtain ⟨h1, h⟩ := zif h
      obtain ⟨h2, h⟩ := zif h
      obtain ⟨M3, e4, h⟩ := zlet_ex h
      have h5 := k_i e4 h1
      refine r_iast C (z_d dd_JArr_fill_II 11 rfl) h1 h2 e4 ?_
      obtain ⟨v6, e7, h⟩ := zlet_ex h
      refine r_iinc (v := v6) (lv' := [some (zP l0), some (zI l1), some (zI v6), some (zI l3)]) C (z_d dd_JArr_fill_II 12 rfl) rfl (Nat.le_of_ble_eq_true rfl) (by rw [e7]; rfl) rfl ?_
      refine r_goto C 5 (z_d dd_JArr_fill_II 13 rfl) (by decide) ?_
      exact ih l0 l1 v6 l3 M3 h
def f_JArr_fill_II_0 (O : zO) (n : Nat) (l0 : Nat) (l1 : Int32) (M : zM) : Option (Unit × zM) :=
  if z_k M l0 = 100 then
  zlet (Int32.ofNat (z_n M l0)) fun v2 =>
  f_JArr_fill_II_5 O n l0 l1 (0 : Int32) v2 M
  else none
set_option maxRecDepth 100000 in
set_option maxHeartbeats 4000000 in
theorem s_JArr_fill_II_0 {X : zX} {q : Unit × zM} (C : zC X zJArr prog_19_method_103_code 4 { frames := 0, cells := 0, slots := 0, locals := 0 }) (hr : zRt X none) (E : zE X none q.2 0 0) : ∀ (n : Nat) (l0 : Nat) (l1 : Int32) (M : zM), f_JArr_fill_II_0 (zOD X) n l0 l1 M = some q → zW X 0 0 0 [some (zP l0), some (zI l1), none, none] [] M := by
  intro n l0 l1 M h
  rw [f_JArr_fill_II_0] at h
  refine r_iconst (v := (0 : Int32)) C (z_d dd_JArr_fill_II 0 rfl) (by decide) ?_
  refine r_istore_n (lv' := [some (zP l0), some (zI l1), some (zI (0 : Int32)), none]) C (z_d dd_JArr_fill_II 1 rfl) (Nat.le_of_ble_eq_true rfl) rfl ?_
  refine r_aload_n C (z_d dd_JArr_fill_II 2 rfl) rfl ?_
  obtain ⟨h1, h⟩ := zif h
  refine r_alen C 0 (z_d dd_JArr_fill_II 3 rfl) h1 (Nat.le_of_ble_eq_true rfl) rfl ?_
  obtain ⟨v2, e3, h⟩ := zlet_ex h
  refine r_nmI e3 ?_
  refine r_istore_n (lv' := [some (zP l0), some (zI l1), some (zI (0 : Int32)), some (zI v2)]) C (z_d dd_JArr_fill_II 4 rfl) (Nat.le_of_ble_eq_true rfl) rfl ?_
  exact s_JArr_fill_II_5 C hr E n l0 l1 (0 : Int32) v2 M h
def F_JArr_fill_II (O : zO) (n : Nat) (l0 : Nat) (l1 : Int32) (M : zM) : Option (Unit × zM) := f_JArr_fill_II_0 O n l0 l1 M
theorem S_JArr_fill_II {l : Launch} {D : zD} {n : Nat} {l0 : Nat} {l1 : Int32} {M : zM} {q : Unit × zM} (h : F_JArr_fill_II D.2.2.2.2 n l0 l1 M = some q) : zMet l D mi_JArr_fill_II [zP l0, zI l1] M none q.2 :=
  z_metF (by decide +kernel) (Nat.le_of_ble_eq_true rfl) (fun X C E hr hin hD hl => by
    subst hD
    exact s_JArr_fill_II_0 C hr E n l0 l1 M h)

def f_Share_nextPoints_56 (O : zO) (n : Nat) (s0 : Int32) (M : zM) : Option (Int32 × zM) :=
  some (s0, M)
set_option maxRecDepth 100000 in
set_option maxHeartbeats 4000000 in
theorem s_Share_nextPoints_56 {X : zX} {q : Int32 × zM} (C : zC X zR10 prog_11_method_8_code 7 { frames := 1, cells := 0, slots := 0, locals := 25 }) (hr : zRt X (some .int)) (E : zE X (some (zI q.1)) q.2 0 0) : ∀ (n : Nat) (s0 : Int32) (M : zM), f_Share_nextPoints_56 (zOD X) n s0 M = some q → zW X 0 0 56 [none, none, none, none, none, none, none] [zI s0] M := by
  intro n s0 M h
  rw [f_Share_nextPoints_56] at h
  obtain rfl := z_res h
  exact r_iretI C E hr (z_d dd_Share_nextPoints 35 rfl) (Nat.le_of_ble_eq_true rfl) (Nat.le_of_ble_eq_true rfl)
def f_Share_nextPoints_42 (O : zO) (n : Nat) (l5 : Int32) (M : zM) : Option (Int32 × zM) :=
  if 0 ≤ l5 then
  f_Share_nextPoints_56 O n (l5 - (1 : Int32)) M
  else
  f_Share_nextPoints_56 O n (-2 : Int32) M
set_option maxRecDepth 100000 in
set_option maxHeartbeats 4000000 in
theorem s_Share_nextPoints_42 {X : zX} {q : Int32 × zM} (C : zC X zR10 prog_11_method_8_code 7 { frames := 1, cells := 0, slots := 0, locals := 25 }) (hr : zRt X (some .int)) (E : zE X (some (zI q.1)) q.2 0 0) : ∀ (n : Nat) (l5 : Int32) (M : zM), f_Share_nextPoints_42 (zOD X) n l5 M = some q → zW X 0 0 42 [none, none, none, none, none, some (zI l5), none] [] M := by
  intro n l5 M h
  rw [f_Share_nextPoints_42] at h
  refine r_iload C (z_d dd_Share_nextPoints 28 rfl) rfl ?_
  refine r_if_ge C 52 (z_d dd_Share_nextPoints 29 rfl) (by decide) (fun c1 => ?_) (fun c1 => ?_)
  · have h := zift h c1
    refine r_iload C (z_d dd_Share_nextPoints 32 rfl) rfl ?_
    refine r_iconst (v := (1 : Int32)) C (z_d dd_Share_nextPoints 33 rfl) (by decide) ?_
    refine r_isub C (z_d dd_Share_nextPoints 34 rfl) ?_
    refine r_mk [false, false, false, false, false, false, false] ?_
    exact s_Share_nextPoints_56 C hr E n (l5 - (1 : Int32)) M h
  · have h := ziff h c1
    refine r_bipush (v := (-2 : Int32)) C (z_d dd_Share_nextPoints 30 rfl) (by decide) ?_
    refine r_goto C 56 (z_d dd_Share_nextPoints 31 rfl) (by decide) ?_
    refine r_mk [false, false, false, false, false, false, false] ?_
    exact s_Share_nextPoints_56 C hr E n (-2 : Int32) M h
def f_Share_nextPoints_101 (O : zO) (n : Nat) (s0 : Int32) (M : zM) : Option (Int32 × zM) :=
  some (s0, M)
set_option maxRecDepth 100000 in
set_option maxHeartbeats 4000000 in
theorem s_Share_nextPoints_101 {X : zX} {q : Int32 × zM} (C : zC X zR10 prog_11_method_8_code 7 { frames := 1, cells := 0, slots := 0, locals := 25 }) (hr : zRt X (some .int)) (E : zE X (some (zI q.1)) q.2 0 0) : ∀ (n : Nat) (s0 : Int32) (M : zM), f_Share_nextPoints_101 (zOD X) n s0 M = some q → zW X 0 0 101 [none, none, none, none, none, none, none] [zI s0] M := by
  intro n s0 M h
  rw [f_Share_nextPoints_101] at h
  obtain rfl := z_res h
  exact r_iretI C E hr (z_d dd_Share_nextPoints 62 rfl) (Nat.le_of_ble_eq_true rfl) (Nat.le_of_ble_eq_true rfl)
def f_Share_nextPoints_0 (O : zO) (n : Nat) (l0 : Nat) (l1 : Int32) (M : zM) : Option (Int32 × zM) :=
  (F_JInt_numberOfLeadingZeros O n (l1 + (1 : Int32)) M).bind fun q1 =>
  zlet ((31 : Int32) - q1.1) fun v3 =>
  zlet ((1 : Int32) <<< (v3 &&& 31)) fun v5 =>
  zlet ((((2 : Int32) * v5) - (2 : Int32)) - l1) fun v7 =>
  if z_k q1.2 l0 = 11 then
  (F_Share_nextBits O n l0 v3 q1.2).bind fun q10 =>
  if q10.1 < 0 then
  f_Share_nextPoints_42 O n q10.1 q10.2
  else
  if v7 ≤ q10.1 then
  if z_k q10.2 l0 = 11 then
  (F_Share_nextBits O n l0 (1 : Int32) q10.2).bind fun q13 =>
  if 0 ≤ q13.1 then
  zlet (q10.1 + (q13.1 * v5)) fun v15 =>
  if v15 < v5 then
  f_Share_nextPoints_101 O n (v15 - (1 : Int32)) q13.2
  else
  f_Share_nextPoints_101 O n ((v15 - v7) - (1 : Int32)) q13.2
  else
  some ((-2 : Int32), q13.2)
  else none
  else
  f_Share_nextPoints_42 O n q10.1 q10.2
  else none
set_option maxRecDepth 100000 in
set_option maxHeartbeats 4000000 in
theorem s_Share_nextPoints_0 {X : zX} {q : Int32 × zM} (C : zC X zR10 prog_11_method_8_code 7 { frames := 1, cells := 0, slots := 0, locals := 25 }) (hr : zRt X (some .int)) (E : zE X (some (zI q.1)) q.2 0 0) : ∀ (n : Nat) (l0 : Nat) (l1 : Int32) (M : zM), f_Share_nextPoints_0 (zOD X) n l0 l1 M = some q → zW X 0 0 0 [some (zP l0), some (zI l1), none, none, none, none, none] [] M := by
  intro n l0 l1 M h
  rw [f_Share_nextPoints_0] at h
  refine r_bipush (v := (31 : Int32)) C (z_d dd_Share_nextPoints 0 rfl) (by decide) ?_
  refine r_iload_n C (z_d dd_Share_nextPoints 1 rfl) rfl ?_
  refine r_iconst (v := (1 : Int32)) C (z_d dd_Share_nextPoints 2 rfl) (by decide) ?_
  refine r_iadd C (z_d dd_Share_nextPoints 3 rfl) ?_
  obtain ⟨q1, c2, h⟩ := zbd h
  refine r_invS (as := [zI (l1 + (1 : Int32))]) C (S_JInt_numberOfLeadingZeros c2) (z_d dd_Share_nextPoints 4 rfl) ok_JInt_numberOfLeadingZeros sv_JInt_numberOfLeadingZeros ml_Share_73 rfl rfl rfl (Nat.le_of_ble_eq_true rfl) ⟨(Nat.le_of_ble_eq_true rfl), (Nat.le_of_ble_eq_true rfl)⟩ ⟨(Nat.le_of_ble_eq_true rfl), (Nat.le_of_ble_eq_true rfl)⟩ ?_
  refine r_isub C (z_d dd_Share_nextPoints 5 rfl) ?_
  obtain ⟨v3, e4, h⟩ := zlet_ex h
  refine r_nmI e4 ?_
  refine r_istore_n (lv' := [some (zP l0), some (zI l1), some (zI v3), none, none, none, none]) C (z_d dd_Share_nextPoints 6 rfl) (Nat.le_of_ble_eq_true rfl) rfl ?_
  refine r_iconst (v := (1 : Int32)) C (z_d dd_Share_nextPoints 7 rfl) (by decide) ?_
  refine r_iload_n C (z_d dd_Share_nextPoints 8 rfl) rfl ?_
  refine r_ishl C (z_d dd_Share_nextPoints 9 rfl) ?_
  obtain ⟨v5, e6, h⟩ := zlet_ex h
  refine r_nmI e6 ?_
  refine r_istore_n (lv' := [some (zP l0), some (zI l1), some (zI v3), some (zI v5), none, none, none]) C (z_d dd_Share_nextPoints 10 rfl) (Nat.le_of_ble_eq_true rfl) rfl ?_
  refine r_iconst (v := (2 : Int32)) C (z_d dd_Share_nextPoints 11 rfl) (by decide) ?_
  refine r_iload_n C (z_d dd_Share_nextPoints 12 rfl) rfl ?_
  refine r_imul C (z_d dd_Share_nextPoints 13 rfl) ?_
  refine r_iconst (v := (2 : Int32)) C (z_d dd_Share_nextPoints 14 rfl) (by decide) ?_
  refine r_isub C (z_d dd_Share_nextPoints 15 rfl) ?_
  refine r_iload_n C (z_d dd_Share_nextPoints 16 rfl) rfl ?_
  refine r_isub C (z_d dd_Share_nextPoints 17 rfl) ?_
  obtain ⟨v7, e8, h⟩ := zlet_ex h
  refine r_nmI e8 ?_
  refine r_istore (lv' := [some (zP l0), some (zI l1), some (zI v3), some (zI v5), some (zI v7), none, none]) C (z_d dd_Share_nextPoints 18 rfl) (Nat.le_of_ble_eq_true rfl) rfl ?_
  refine r_aload_n C (z_d dd_Share_nextPoints 19 rfl) rfl ?_
  refine r_iload_n C (z_d dd_Share_nextPoints 20 rfl) rfl ?_
  obtain ⟨h9, h⟩ := zif h
  obtain ⟨q10, c11, h⟩ := zbd h
  refine r_invV (as := [zI v3]) C 10 (S_Share_nextBits c11) (z_d dd_Share_nextPoints 21 rfl) ok_Share_nextBits iv_Share_nextBits se_Share_nextBits ml_Share_56 rfl rfl h9 rfl rfl rfl (Nat.le_of_ble_eq_true rfl) ⟨(Nat.le_of_ble_eq_true rfl), (Nat.le_of_ble_eq_true rfl)⟩ ⟨(Nat.le_of_ble_eq_true rfl), (Nat.le_of_ble_eq_true rfl)⟩ ?_
  refine r_istore (lv' := [some (zP l0), some (zI l1), some (zI v3), some (zI v5), some (zI v7), some (zI q10.1), none]) C (z_d dd_Share_nextPoints 22 rfl) (Nat.le_of_ble_eq_true rfl) rfl ?_
  refine r_iload C (z_d dd_Share_nextPoints 23 rfl) rfl ?_
  refine r_if_lt C 42 (z_d dd_Share_nextPoints 24 rfl) (by decide) (fun c20 => ?_) (fun c20 => ?_)
  · have h := zift h c20
    refine r_mk [false, false, false, false, false, true, false] ?_
    exact s_Share_nextPoints_42 C hr E n q10.1 q10.2 h
  · have h := ziff h c20
    refine r_iload C (z_d dd_Share_nextPoints 25 rfl) rfl ?_
    refine r_iload C (z_d dd_Share_nextPoints 26 rfl) rfl ?_
    refine r_icmp_ge C 57 (z_d dd_Share_nextPoints 27 rfl) (by decide) (fun c19 => ?_) (fun c19 => ?_)
    · have h := zift h c19
      refine r_aload_n C (z_d dd_Share_nextPoints 36 rfl) rfl ?_
      refine r_iconst (v := (1 : Int32)) C (z_d dd_Share_nextPoints 37 rfl) (by decide) ?_
      obtain ⟨h12, h⟩ := zif h
      obtain ⟨q13, c14, h⟩ := zbd h
      refine r_invV (as := [zI (1 : Int32)]) C 10 (S_Share_nextBits c14) (z_d dd_Share_nextPoints 38 rfl) ok_Share_nextBits iv_Share_nextBits se_Share_nextBits ml_Share_56 rfl rfl h12 rfl rfl rfl (Nat.le_of_ble_eq_true rfl) ⟨(Nat.le_of_ble_eq_true rfl), (Nat.le_of_ble_eq_true rfl)⟩ ⟨(Nat.le_of_ble_eq_true rfl), (Nat.le_of_ble_eq_true rfl)⟩ ?_
      refine r_istore (lv' := [some (zP l0), some (zI l1), some (zI v3), some (zI v5), some (zI v7), some (zI q10.1), some (zI q13.1)]) C (z_d dd_Share_nextPoints 39 rfl) (Nat.le_of_ble_eq_true rfl) rfl ?_
      refine r_iload C (z_d dd_Share_nextPoints 40 rfl) rfl ?_
      refine r_if_ge C 72 (z_d dd_Share_nextPoints 41 rfl) (by decide) (fun c18 => ?_) (fun c18 => ?_)
      · have h := zift h c18
        refine r_iload C (z_d dd_Share_nextPoints 44 rfl) rfl ?_
        refine r_iload C (z_d dd_Share_nextPoints 45 rfl) rfl ?_
        refine r_iload_n C (z_d dd_Share_nextPoints 46 rfl) rfl ?_
        refine r_imul C (z_d dd_Share_nextPoints 47 rfl) ?_
        refine r_iadd C (z_d dd_Share_nextPoints 48 rfl) ?_
        obtain ⟨v15, e16, h⟩ := zlet_ex h
        refine r_nmI e16 ?_
        refine r_istore (lv' := [some (zP l0), some (zI l1), some (zI v3), some (zI v5), some (zI v7), some (zI v15), some (zI q13.1)]) C (z_d dd_Share_nextPoints 49 rfl) (Nat.le_of_ble_eq_true rfl) rfl ?_
        refine r_iload C (z_d dd_Share_nextPoints 50 rfl) rfl ?_
        refine r_iload_n C (z_d dd_Share_nextPoints 51 rfl) rfl ?_
        refine r_icmp_lt C 97 (z_d dd_Share_nextPoints 52 rfl) (by decide) (fun c17 => ?_) (fun c17 => ?_)
        · have h := zift h c17
          refine r_iload C (z_d dd_Share_nextPoints 59 rfl) rfl ?_
          refine r_iconst (v := (1 : Int32)) C (z_d dd_Share_nextPoints 60 rfl) (by decide) ?_
          refine r_isub C (z_d dd_Share_nextPoints 61 rfl) ?_
          refine r_mk [false, false, false, false, false, false, false] ?_
          exact s_Share_nextPoints_101 C hr E n (v15 - (1 : Int32)) q13.2 h
        · have h := ziff h c17
          refine r_iload C (z_d dd_Share_nextPoints 53 rfl) rfl ?_
          refine r_iload C (z_d dd_Share_nextPoints 54 rfl) rfl ?_
          refine r_isub C (z_d dd_Share_nextPoints 55 rfl) ?_
          refine r_iconst (v := (1 : Int32)) C (z_d dd_Share_nextPoints 56 rfl) (by decide) ?_
          refine r_isub C (z_d dd_Share_nextPoints 57 rfl) ?_
          refine r_goto C 101 (z_d dd_Share_nextPoints 58 rfl) (by decide) ?_
          refine r_mk [false, false, false, false, false, false, false] ?_
          exact s_Share_nextPoints_101 C hr E n ((v15 - v7) - (1 : Int32)) q13.2 h
      · have h := ziff h c18
        refine r_bipush (v := (-2 : Int32)) C (z_d dd_Share_nextPoints 42 rfl) (by decide) ?_
        obtain rfl := z_res h
        exact r_iretI C E hr (z_d dd_Share_nextPoints 43 rfl) (Nat.le_of_ble_eq_true rfl) (Nat.le_of_ble_eq_true rfl)
    · have h := ziff h c19
      refine r_mk [false, false, false, false, false, true, false] ?_
      exact s_Share_nextPoints_42 C hr E n q10.1 q10.2 h
def F_Share_nextPoints (O : zO) (n : Nat) (l0 : Nat) (l1 : Int32) (M : zM) : Option (Int32 × zM) := f_Share_nextPoints_0 O n l0 l1 M
theorem S_Share_nextPoints {l : Launch} {D : zD} {n : Nat} {l0 : Nat} {l1 : Int32} {M : zM} {q : Int32 × zM} (h : F_Share_nextPoints D.2.2.2.2 n l0 l1 M = some q) : zMet l D mi_Share_nextPoints [zP l0, zI l1] M (some (zI q.1)) q.2 :=
  z_met (by decide) (Nat.le_of_ble_eq_true rfl) (fun X C E hr hin hD hl => by
    subst hD
    exact s_Share_nextPoints_0 C hr E n l0 l1 M h)

def f_Share_nextNones_4 (O : zO) : Nat → Nat → Int32 → Int32 → zM → Option (Int32 × zM)
  | 0, _, _, _, _ => none
  | n + 1, l0, l1, l2, M =>
    if z_k M l0 = 11 then
    if (z_i M l0 1) < l2 then
    some (l1, M)
    else
    (F_Share_nextBits O n l0 (2 : Int32) M).bind fun q2 =>
    if 0 ≤ q2.1 then
    zlet (l1 + q2.1) fun v4 =>
    if (3 : Int32) ≤ q2.1 then
    zlet (l2 + (1 : Int32)) fun v6 =>
    f_Share_nextNones_4 O n l0 v4 v6 q2.2
    else
    some (v4, q2.2)
    else
    if z_k q2.2 l0 = 11 then
    some (((z_i q2.2 l0 1) + (1 : Int32)), q2.2)
    else none
    else none
set_option maxRecDepth 100000 in
set_option maxHeartbeats 4000000 in
theorem s_Share_nextNones_4 {X : zX} {q : Int32 × zM} (C : zC X zR10 prog_11_method_9_code 4 { frames := 1, cells := 0, slots := 0, locals := 25 }) (hr : zRt X (some .int)) (E : zE X (some (zI q.1)) q.2 0 0) : ∀ (n : Nat) (l0 : Nat) (l1 : Int32) (l2 : Int32) (M : zM), f_Share_nextNones_4 (zOD X) n l0 l1 l2 M = some q → zW X 0 0 4 [some (zP l0), some (zI l1), some (zI l2), none] [] M := by
  intro n
  induction n with
  | zero => intro l0 l1 l2 M h; rw [f_Share_nextNones_4] at h; cases h
  | succ n ih =>
    intro l0 l1 l2 M h
    rw [f_Share_nextNones_4] at h
    refine r_iload_n C (z_d dd_Share_nextNones 4 rfl) rfl ?_
    refine r_aload_n C (z_d dd_Share_nextNones 5 rfl) rfl ?_
    obtain ⟨h1, h⟩ := zif h
    refine r_getI C (z_d dd_Share_nextNones 6 rfl) lk_Share_15 rfl h1 rfl ?_
    refine r_icmp_gt C 46 (z_d dd_Share_nextNones 7 rfl) (by decide) (fun c11 => ?_) (fun c11 => ?_)
    · have h := zift h c11
      refine r_iload_n C (z_d dd_Share_nextNones 30 rfl) rfl ?_
      obtain rfl := z_res h
      exact r_iretI C E hr (z_d dd_Share_nextNones 31 rfl) (Nat.le_of_ble_eq_true rfl) (Nat.le_of_ble_eq_true rfl)
    · have h := ziff h c11
      refine r_aload_n C (z_d dd_Share_nextNones 8 rfl) rfl ?_
      refine r_iconst (v := (2 : Int32)) C (z_d dd_Share_nextNones 9 rfl) (by decide) ?_
      obtain ⟨q2, c3, h⟩ := zbd h
      refine r_invV (as := [zI (2 : Int32)]) C 10 (S_Share_nextBits c3) (z_d dd_Share_nextNones 10 rfl) ok_Share_nextBits iv_Share_nextBits se_Share_nextBits ml_Share_56 rfl rfl h1 rfl rfl rfl (Nat.le_of_ble_eq_true rfl) ⟨(Nat.le_of_ble_eq_true rfl), (Nat.le_of_ble_eq_true rfl)⟩ ⟨(Nat.le_of_ble_eq_true rfl), (Nat.le_of_ble_eq_true rfl)⟩ ?_
      refine r_istore_n (lv' := [some (zP l0), some (zI l1), some (zI l2), some (zI q2.1)]) C (z_d dd_Share_nextNones 11 rfl) (Nat.le_of_ble_eq_true rfl) rfl ?_
      refine r_iload_n C (z_d dd_Share_nextNones 12 rfl) rfl ?_
      refine r_if_ge C 29 (z_d dd_Share_nextNones 13 rfl) (by decide) (fun c10 => ?_) (fun c10 => ?_)
      · have h := zift h c10
        refine r_iload_n C (z_d dd_Share_nextNones 19 rfl) rfl ?_
        refine r_iload_n C (z_d dd_Share_nextNones 20 rfl) rfl ?_
        refine r_iadd C (z_d dd_Share_nextNones 21 rfl) ?_
        obtain ⟨v4, e5, h⟩ := zlet_ex h
        refine r_nmI e5 ?_
        refine r_istore_n (lv' := [some (zP l0), some (zI v4), some (zI l2), some (zI q2.1)]) C (z_d dd_Share_nextNones 22 rfl) (Nat.le_of_ble_eq_true rfl) rfl ?_
        refine r_iload_n C (z_d dd_Share_nextNones 23 rfl) rfl ?_
        refine r_iconst (v := (3 : Int32)) C (z_d dd_Share_nextNones 24 rfl) (by decide) ?_
        refine r_icmp_ge C 40 (z_d dd_Share_nextNones 25 rfl) (by decide) (fun c8 => ?_) (fun c8 => ?_)
        · have h := zift h c8
          obtain ⟨v6, e7, h⟩ := zlet_ex h
          refine r_iinc (v := v6) (lv' := [some (zP l0), some (zI v4), some (zI v6), some (zI q2.1)]) C (z_d dd_Share_nextNones 28 rfl) rfl (Nat.le_of_ble_eq_true rfl) (by rw [e7]; rfl) rfl ?_
          refine r_goto C 4 (z_d dd_Share_nextNones 29 rfl) (by decide) ?_
          refine r_mk [true, true, true, false] ?_
          exact ih l0 v4 v6 q2.2 h
        · have h := ziff h c8
          refine r_iload_n C (z_d dd_Share_nextNones 26 rfl) rfl ?_
          obtain rfl := z_res h
          exact r_iretI C E hr (z_d dd_Share_nextNones 27 rfl) (Nat.le_of_ble_eq_true rfl) (Nat.le_of_ble_eq_true rfl)
      · have h := ziff h c10
        refine r_aload_n C (z_d dd_Share_nextNones 14 rfl) rfl ?_
        obtain ⟨h9, h⟩ := zif h
        refine r_getI C (z_d dd_Share_nextNones 15 rfl) lk_Share_15 rfl h9 rfl ?_
        refine r_iconst (v := (1 : Int32)) C (z_d dd_Share_nextNones 16 rfl) (by decide) ?_
        refine r_iadd C (z_d dd_Share_nextNones 17 rfl) ?_
        obtain rfl := z_res h
        exact r_iretI C E hr (z_d dd_Share_nextNones 18 rfl) (Nat.le_of_ble_eq_true rfl) (Nat.le_of_ble_eq_true rfl)
def f_Share_nextNones_0 (O : zO) (n : Nat) (l0 : Nat) (M : zM) : Option (Int32 × zM) :=
  f_Share_nextNones_4 O n l0 (0 : Int32) (0 : Int32) M
set_option maxRecDepth 100000 in
set_option maxHeartbeats 4000000 in
theorem s_Share_nextNones_0 {X : zX} {q : Int32 × zM} (C : zC X zR10 prog_11_method_9_code 4 { frames := 1, cells := 0, slots := 0, locals := 25 }) (hr : zRt X (some .int)) (E : zE X (some (zI q.1)) q.2 0 0) : ∀ (n : Nat) (l0 : Nat) (M : zM), f_Share_nextNones_0 (zOD X) n l0 M = some q → zW X 0 0 0 [some (zP l0), none, none, none] [] M := by
  intro n l0 M h
  rw [f_Share_nextNones_0] at h
  refine r_iconst (v := (0 : Int32)) C (z_d dd_Share_nextNones 0 rfl) (by decide) ?_
  refine r_istore_n (lv' := [some (zP l0), some (zI (0 : Int32)), none, none]) C (z_d dd_Share_nextNones 1 rfl) (Nat.le_of_ble_eq_true rfl) rfl ?_
  refine r_iconst (v := (0 : Int32)) C (z_d dd_Share_nextNones 2 rfl) (by decide) ?_
  refine r_istore_n (lv' := [some (zP l0), some (zI (0 : Int32)), some (zI (0 : Int32)), none]) C (z_d dd_Share_nextNones 3 rfl) (Nat.le_of_ble_eq_true rfl) rfl ?_
  exact s_Share_nextNones_4 C hr E n l0 (0 : Int32) (0 : Int32) M h
def F_Share_nextNones (O : zO) (n : Nat) (l0 : Nat) (M : zM) : Option (Int32 × zM) := f_Share_nextNones_0 O n l0 M
theorem S_Share_nextNones {l : Launch} {D : zD} {n : Nat} {l0 : Nat} {M : zM} {q : Int32 × zM} (h : F_Share_nextNones D.2.2.2.2 n l0 M = some q) : zMet l D mi_Share_nextNones [zP l0] M (some (zI q.1)) q.2 :=
  z_met (by decide) (Nat.le_of_ble_eq_true rfl) (fun X C E hr hin hD hl => by
    subst hD
    exact s_Share_nextNones_0 C hr E n l0 M h)

def f_Share_tell_44 (O : zO) (n : Nat) (M : zM) : Option (Int32 × zM) :=
  some ((-1 : Int32), M)
set_option maxRecDepth 100000 in
set_option maxHeartbeats 4000000 in
theorem s_Share_tell_44 {X : zX} {q : Int32 × zM} (C : zC X zR10 prog_11_method_7_code 8 { frames := 3, cells := 0, slots := 0, locals := 70 }) (hr : zRt X (some .int)) (E : zE X (some (zI q.1)) q.2 0 0) : ∀ (n : Nat) (M : zM), f_Share_tell_44 (zOD X) n M = some q → zW X 0 0 44 [none, none, none, none, none, none, none, none] [] M := by
  intro n M h
  rw [f_Share_tell_44] at h
  refine r_iconst (v := (-1 : Int32)) C (z_d dd_Share_tell 25 rfl) (by decide) ?_
  obtain rfl := z_res h
  exact r_iretI C E hr (z_d dd_Share_tell 26 rfl) (Nat.le_of_ble_eq_true rfl) (Nat.le_of_ble_eq_true rfl)
def f_Share_tell_148 (O : zO) (n : Nat) (l0 : Nat) (l5 : Int32) (M : zM) : Option (Int32 × zM) :=
  if l5 ≤ 0 then
  if z_k M l0 = 11 then
  (F_Share_lay O n l0 M).bind fun q2 =>
  if z_k q2.2 l0 = 11 then
  some ((((z_i q2.2 l0 9) + (7 : Int32)) / (8 : Int32)), q2.2)
  else none
  else none
  else
  some ((-1 : Int32), M)
set_option maxRecDepth 100000 in
set_option maxHeartbeats 4000000 in
theorem s_Share_tell_148 {X : zX} {q : Int32 × zM} (C : zC X zR10 prog_11_method_7_code 8 { frames := 3, cells := 0, slots := 0, locals := 70 }) (hr : zRt X (some .int)) (E : zE X (some (zI q.1)) q.2 0 0) : ∀ (n : Nat) (l0 : Nat) (l5 : Int32) (M : zM), f_Share_tell_148 (zOD X) n l0 l5 M = some q → zW X 0 0 148 [some (zP l0), none, none, none, none, some (zI l5), none, none] [] M := by
  intro n l0 l5 M h
  rw [f_Share_tell_148] at h
  refine r_iload C (z_d dd_Share_tell 80 rfl) rfl ?_
  refine r_if_le C 155 (z_d dd_Share_tell 81 rfl) (by decide) (fun c5 => ?_) (fun c5 => ?_)
  · have h := zift h c5
    refine r_aload_n C (z_d dd_Share_tell 84 rfl) rfl ?_
    obtain ⟨h1, h⟩ := zif h
    obtain ⟨q2, c3, h⟩ := zbd h
    refine r_invV (as := []) C 10 (S_Share_lay c3) (z_d dd_Share_tell 85 rfl) ok_Share_lay iv_Share_lay se_Share_lay ml_Share_53 rfl rfl h1 rfl rfl rfl (Nat.le_of_ble_eq_true rfl) ⟨(Nat.le_of_ble_eq_true rfl), (Nat.le_of_ble_eq_true rfl)⟩ ⟨(Nat.le_of_ble_eq_true rfl), (Nat.le_of_ble_eq_true rfl)⟩ ?_
    refine r_aload_n C (z_d dd_Share_tell 86 rfl) rfl ?_
    obtain ⟨h4, h⟩ := zif h
    refine r_getI C (z_d dd_Share_tell 87 rfl) lk_Share_41 rfl h4 rfl ?_
    refine r_bipush (v := (7 : Int32)) C (z_d dd_Share_tell 88 rfl) (by decide) ?_
    refine r_iadd C (z_d dd_Share_tell 89 rfl) ?_
    refine r_bipush (v := (8 : Int32)) C (z_d dd_Share_tell 90 rfl) (by decide) ?_
    refine r_idiv C (z_d dd_Share_tell 91 rfl) (by decide) ?_
    obtain rfl := z_res h
    exact r_iretI C E hr (z_d dd_Share_tell 92 rfl) (Nat.le_of_ble_eq_true rfl) (Nat.le_of_ble_eq_true rfl)
  · have h := ziff h c5
    refine r_iconst (v := (-1 : Int32)) C (z_d dd_Share_tell 82 rfl) (by decide) ?_
    obtain rfl := z_res h
    exact r_iretI C E hr (z_d dd_Share_tell 83 rfl) (Nat.le_of_ble_eq_true rfl) (Nat.le_of_ble_eq_true rfl)
def f_Share_tell_142 (O : zO) (k73 : Nat → Int32 → Int32 → zM → Option (Int32 × zM)) (n : Nat) (l0 : Nat) (l5 : Int32) (l6 : Int32) (M : zM) : Option (Int32 × zM) :=
  zlet (l6 + (1 : Int32)) fun v1 =>
  k73 l0 l5 v1 M
set_option maxRecDepth 100000 in
set_option maxHeartbeats 4000000 in
theorem s_Share_tell_142 {X : zX} {q : Int32 × zM} (C : zC X zR10 prog_11_method_7_code 8 { frames := 3, cells := 0, slots := 0, locals := 70 }) (hr : zRt X (some .int)) (E : zE X (some (zI q.1)) q.2 0 0) {k73 : Nat → Int32 → Int32 → zM → Option (Int32 × zM)} (hk73 : ∀ (l0 : Nat) (l5 : Int32) (l6 : Int32) (M : zM), k73 l0 l5 l6 M = some q → zW X 0 0 73 [some (zP l0), none, none, none, none, some (zI l5), some (zI l6), none] [] M) : ∀ (n : Nat) (l0 : Nat) (l5 : Int32) (l6 : Int32) (M : zM), f_Share_tell_142 (zOD X) k73 n l0 l5 l6 M = some q → zW X 0 0 142 [some (zP l0), none, none, none, none, some (zI l5), some (zI l6), none] [] M := by
  intro n l0 l5 l6 M h
  rw [f_Share_tell_142] at h
  obtain ⟨v1, e2, h⟩ := zlet_ex h
  refine r_iinc (v := v1) (lv' := [some (zP l0), none, none, none, none, some (zI l5), some (zI v1), none]) C (z_d dd_Share_tell 78 rfl) rfl (Nat.le_of_ble_eq_true rfl) (by rw [e2]; rfl) rfl ?_
  refine r_goto C 73 (z_d dd_Share_tell 79 rfl) (by decide) ?_
  exact hk73 l0 l5 v1 M h
def f_Share_tell_125 (O : zO) (k73 : Nat → Int32 → Int32 → zM → Option (Int32 × zM)) (n : Nat) (l0 : Nat) (l6 : Int32) (l7 : Int32) (s0 : Int32) (s1 : Int32) (M : zM) : Option (Int32 × zM) :=
  zlet (s0 - s1) fun v1 =>
  if l7 = 0 then
  if z_k M l0 = 11 then
  (F_Share_nextNones O n l0 M).bind fun q4 =>
  zlet (l6 + q4.1) fun v6 =>
  f_Share_tell_142 O k73 n l0 v1 v6 q4.2
  else none
  else
  f_Share_tell_142 O k73 n l0 v1 l6 M
set_option maxRecDepth 100000 in
set_option maxHeartbeats 4000000 in
theorem s_Share_tell_125 {X : zX} {q : Int32 × zM} (C : zC X zR10 prog_11_method_7_code 8 { frames := 3, cells := 0, slots := 0, locals := 70 }) (hr : zRt X (some .int)) (E : zE X (some (zI q.1)) q.2 0 0) {k73 : Nat → Int32 → Int32 → zM → Option (Int32 × zM)} (hk73 : ∀ (l0 : Nat) (l5 : Int32) (l6 : Int32) (M : zM), k73 l0 l5 l6 M = some q → zW X 0 0 73 [some (zP l0), none, none, none, none, some (zI l5), some (zI l6), none] [] M) : ∀ (n : Nat) (l0 : Nat) (l6 : Int32) (l7 : Int32) (s0 : Int32) (s1 : Int32) (M : zM), f_Share_tell_125 (zOD X) k73 n l0 l6 l7 s0 s1 M = some q → zW X 0 0 125 [some (zP l0), none, none, none, none, none, some (zI l6), some (zI l7)] [zI s1, zI s0] M := by
  intro n l0 l6 l7 s0 s1 M h
  rw [f_Share_tell_125] at h
  refine r_isub C (z_d dd_Share_tell 69 rfl) ?_
  obtain ⟨v1, e2, h⟩ := zlet_ex h
  refine r_nmI e2 ?_
  refine r_istore (lv' := [some (zP l0), none, none, none, none, some (zI v1), some (zI l6), some (zI l7)]) C (z_d dd_Share_tell 70 rfl) (Nat.le_of_ble_eq_true rfl) rfl ?_
  refine r_iload C (z_d dd_Share_tell 71 rfl) rfl ?_
  refine r_if_ne C 142 (z_d dd_Share_tell 72 rfl) (by decide) (fun c8 => ?_) (fun c8 => ?_)
  · have h := ziff h c8
    refine r_mk [true, false, false, false, false, true, true, false] ?_
    exact s_Share_tell_142 C hr E hk73 n l0 v1 l6 M h
  · have h := zift h c8
    refine r_iload C (z_d dd_Share_tell 73 rfl) rfl ?_
    refine r_aload_n C (z_d dd_Share_tell 74 rfl) rfl ?_
    obtain ⟨h3, h⟩ := zif h
    obtain ⟨q4, c5, h⟩ := zbd h
    refine r_invV (as := []) C 10 (S_Share_nextNones c5) (z_d dd_Share_tell 75 rfl) ok_Share_nextNones iv_Share_nextNones se_Share_nextNones ml_Share_69 rfl rfl h3 rfl rfl rfl (Nat.le_of_ble_eq_true rfl) ⟨(Nat.le_of_ble_eq_true rfl), (Nat.le_of_ble_eq_true rfl)⟩ ⟨(Nat.le_of_ble_eq_true rfl), (Nat.le_of_ble_eq_true rfl)⟩ ?_
    refine r_iadd C (z_d dd_Share_tell 76 rfl) ?_
    obtain ⟨v6, e7, h⟩ := zlet_ex h
    refine r_nmI e7 ?_
    refine r_istore (lv' := [some (zP l0), none, none, none, none, some (zI v1), some (zI v6), some (zI l7)]) C (z_d dd_Share_tell 77 rfl) (Nat.le_of_ble_eq_true rfl) rfl ?_
    refine r_mk [true, false, false, false, false, true, true, false] ?_
    exact s_Share_tell_142 C hr E hk73 n l0 v1 v6 q4.2 h
def f_Share_tell_73 (O : zO) : Nat → Nat → Int32 → Int32 → zM → Option (Int32 × zM)
  | 0, _, _, _, _ => none
  | n + 1, l0, l5, l6, M =>
    if z_k M l0 = 11 then
    if (z_i M l0 1) < l6 then
    f_Share_tell_148 O n l0 l5 M
    else
    if l5 ≤ 0 then
    f_Share_tell_148 O n l0 l5 M
    else
    (F_Share_nextPoints O n l0 l5 M).bind fun q2 =>
    if (-1 : Int32) ≤ q2.1 then
    if z_k q2.2 l0 = 11 then
    if z_k q2.2 (z_p q2.2 l0 2) = 100 then
    if zin l6 (z_n q2.2 (z_p q2.2 l0 2)) = true then
    zlet (w_i q2.2 (z_p q2.2 l0 2) l6.toNatClampNeg q2.1) fun M7 =>
    if 0 ≤ q2.1 then
    f_Share_tell_125 O (f_Share_tell_73 O n) n l0 l6 q2.1 l5 q2.1 M7
    else
    f_Share_tell_125 O (f_Share_tell_73 O n) n l0 l6 q2.1 l5 (1 : Int32) M7
    else none
    else none
    else none
    else
    some ((-1 : Int32), q2.2)
    else none
set_option maxRecDepth 100000 in
set_option maxHeartbeats 4000000 in
theorem s_Share_tell_73 {X : zX} {q : Int32 × zM} (C : zC X zR10 prog_11_method_7_code 8 { frames := 3, cells := 0, slots := 0, locals := 70 }) (hr : zRt X (some .int)) (E : zE X (some (zI q.1)) q.2 0 0) : ∀ (n : Nat) (l0 : Nat) (l5 : Int32) (l6 : Int32) (M : zM), f_Share_tell_73 (zOD X) n l0 l5 l6 M = some q → zW X 0 0 73 [some (zP l0), none, none, none, none, some (zI l5), some (zI l6), none] [] M := by
  intro n
  induction n with
  | zero => intro l0 l5 l6 M h; rw [f_Share_tell_73] at h; cases h
  | succ n ih =>
    intro l0 l5 l6 M h
    rw [f_Share_tell_73] at h
    refine r_iload C (z_d dd_Share_tell 43 rfl) rfl ?_
    refine r_aload_n C (z_d dd_Share_tell 44 rfl) rfl ?_
    obtain ⟨h1, h⟩ := zif h
    refine r_getI C (z_d dd_Share_tell 45 rfl) lk_Share_15 rfl h1 rfl ?_
    refine r_icmp_gt C 148 (z_d dd_Share_tell 46 rfl) (by decide) (fun c14 => ?_) (fun c14 => ?_)
    · have h := zift h c14
      refine r_mk [true, false, false, false, false, true, false, false] ?_
      exact s_Share_tell_148 C hr E n l0 l5 M h
    · have h := ziff h c14
      refine r_iload C (z_d dd_Share_tell 47 rfl) rfl ?_
      refine r_if_le C 148 (z_d dd_Share_tell 48 rfl) (by decide) (fun c13 => ?_) (fun c13 => ?_)
      · have h := zift h c13
        refine r_mk [true, false, false, false, false, true, false, false] ?_
        exact s_Share_tell_148 C hr E n l0 l5 M h
      · have h := ziff h c13
        refine r_aload_n C (z_d dd_Share_tell 49 rfl) rfl ?_
        refine r_iload C (z_d dd_Share_tell 50 rfl) rfl ?_
        obtain ⟨q2, c3, h⟩ := zbd h
        refine r_invV (as := [zI l5]) C 10 (S_Share_nextPoints c3) (z_d dd_Share_tell 51 rfl) ok_Share_nextPoints iv_Share_nextPoints se_Share_nextPoints ml_Share_66 rfl rfl h1 rfl rfl rfl (Nat.le_of_ble_eq_true rfl) ⟨(Nat.le_of_ble_eq_true rfl), (Nat.le_of_ble_eq_true rfl)⟩ ⟨(Nat.le_of_ble_eq_true rfl), (Nat.le_of_ble_eq_true rfl)⟩ ?_
        refine r_istore (lv' := [some (zP l0), none, none, none, none, some (zI l5), some (zI l6), some (zI q2.1)]) C (z_d dd_Share_tell 52 rfl) (Nat.le_of_ble_eq_true rfl) rfl ?_
        refine r_iload C (z_d dd_Share_tell 53 rfl) rfl ?_
        refine r_iconst (v := (-1 : Int32)) C (z_d dd_Share_tell 54 rfl) (by decide) ?_
        refine r_icmp_ge C 103 (z_d dd_Share_tell 55 rfl) (by decide) (fun c12 => ?_) (fun c12 => ?_)
        · have h := zift h c12
          refine r_aload_n C (z_d dd_Share_tell 58 rfl) rfl ?_
          obtain ⟨h4, h⟩ := zif h
          refine r_getP C (z_d dd_Share_tell 59 rfl) lk_Share_18 rfl h4 rfl ?_
          refine r_iload C (z_d dd_Share_tell 60 rfl) rfl ?_
          refine r_iload C (z_d dd_Share_tell 61 rfl) rfl ?_
          obtain ⟨h5, h⟩ := zif h
          obtain ⟨h6, h⟩ := zif h
          obtain ⟨M7, e8, h⟩ := zlet_ex h
          have h9 := k_i e8 h4
          have h10 := k_i e8 h5
          refine r_iast C (z_d dd_Share_tell 62 rfl) h5 h6 e8 ?_
          refine r_iload C (z_d dd_Share_tell 63 rfl) rfl ?_
          refine r_iload C (z_d dd_Share_tell 64 rfl) rfl ?_
          refine r_if_ge C 123 (z_d dd_Share_tell 65 rfl) (by decide) (fun c11 => ?_) (fun c11 => ?_)
          · have h := zift h c11
            refine r_iload C (z_d dd_Share_tell 68 rfl) rfl ?_
            refine r_mk [true, false, false, false, false, false, true, true] ?_
            exact s_Share_tell_125 C hr E ih n l0 l6 q2.1 l5 q2.1 M7 h
          · have h := ziff h c11
            refine r_iconst (v := (1 : Int32)) C (z_d dd_Share_tell 66 rfl) (by decide) ?_
            refine r_goto C 125 (z_d dd_Share_tell 67 rfl) (by decide) ?_
            refine r_mk [true, false, false, false, false, false, true, true] ?_
            exact s_Share_tell_125 C hr E ih n l0 l6 q2.1 l5 (1 : Int32) M7 h
        · have h := ziff h c12
          refine r_iconst (v := (-1 : Int32)) C (z_d dd_Share_tell 56 rfl) (by decide) ?_
          obtain rfl := z_res h
          exact r_iretI C E hr (z_d dd_Share_tell 57 rfl) (Nat.le_of_ble_eq_true rfl) (Nat.le_of_ble_eq_true rfl)
def f_Share_tell_0 (O : zO) (n : Nat) (l0 : Nat) (l1 : Nat) (l2 : Int32) (l3 : Int32) (M : zM) : Option (Int32 × zM) :=
  if z_k M l0 = 11 then
  zlet (w_p M l0 8 l1) fun M2 =>
  zlet (w_i M2 l0 9 ((8 : Int32) * l2)) fun M5 =>
  zlet (w_i M5 l0 10 ((8 : Int32) * l3)) fun M8 =>
  (F_Share_nextBits O n l0 (4 : Int32) M8).bind fun q11 =>
  if q11.1 < 0 then
  f_Share_tell_44 O n q11.2
  else
  if z_k q11.2 l0 = 11 then
  if (q11.1 + (5 : Int32)) ≤ (z_i q11.2 l0 0) then
  zlet (w_i q11.2 l0 7 (q11.1 + (5 : Int32))) fun M14 =>
  (F_JArr_fill_II O n (z_p M14 l0 2) (0 : Int32) M14).bind fun q17 =>
  if z_k q17.2 l0 = 11 then
  zlet ((1 : Int32) <<< ((z_i q17.2 l0 7) &&& 31)) fun v20 =>
  f_Share_tell_73 O n l0 v20 (0 : Int32) q17.2
  else none
  else
  f_Share_tell_44 O n q11.2
  else none
  else none
set_option maxRecDepth 100000 in
set_option maxHeartbeats 4000000 in
theorem s_Share_tell_0 {X : zX} {q : Int32 × zM} (C : zC X zR10 prog_11_method_7_code 8 { frames := 3, cells := 0, slots := 0, locals := 70 }) (hr : zRt X (some .int)) (E : zE X (some (zI q.1)) q.2 0 0) : ∀ (n : Nat) (l0 : Nat) (l1 : Nat) (l2 : Int32) (l3 : Int32) (M : zM), f_Share_tell_0 (zOD X) n l0 l1 l2 l3 M = some q → zW X 0 0 0 [some (zP l0), some (zP l1), some (zI l2), some (zI l3), none, none, none, none] [] M := by
  intro n l0 l1 l2 l3 M h
  rw [f_Share_tell_0] at h
  refine r_aload_n C (z_d dd_Share_tell 0 rfl) rfl ?_
  refine r_aload_n C (z_d dd_Share_tell 1 rfl) rfl ?_
  obtain ⟨h1, h⟩ := zif h
  obtain ⟨M2, e3, h⟩ := zlet_ex h
  have h4 := k_p e3 h1
  refine r_putP C (z_d dd_Share_tell 2 rfl) lp_Share_37 rfl h1 e3 ?_
  refine r_aload_n C (z_d dd_Share_tell 3 rfl) rfl ?_
  refine r_bipush (v := (8 : Int32)) C (z_d dd_Share_tell 4 rfl) (by decide) ?_
  refine r_iload_n C (z_d dd_Share_tell 5 rfl) rfl ?_
  refine r_imul C (z_d dd_Share_tell 6 rfl) ?_
  obtain ⟨M5, e6, h⟩ := zlet_ex h
  have h7 := k_i e6 h4
  refine r_putI C (z_d dd_Share_tell 7 rfl) lp_Share_41 rfl h4 e6 ?_
  refine r_aload_n C (z_d dd_Share_tell 8 rfl) rfl ?_
  refine r_bipush (v := (8 : Int32)) C (z_d dd_Share_tell 9 rfl) (by decide) ?_
  refine r_iload_n C (z_d dd_Share_tell 10 rfl) rfl ?_
  refine r_imul C (z_d dd_Share_tell 11 rfl) ?_
  obtain ⟨M8, e9, h⟩ := zlet_ex h
  have h10 := k_i e9 h7
  refine r_putI C (z_d dd_Share_tell 12 rfl) lp_Share_44 rfl h7 e9 ?_
  refine r_aload_n C (z_d dd_Share_tell 13 rfl) rfl ?_
  refine r_iconst (v := (4 : Int32)) C (z_d dd_Share_tell 14 rfl) (by decide) ?_
  obtain ⟨q11, c12, h⟩ := zbd h
  refine r_invV (as := [zI (4 : Int32)]) C 10 (S_Share_nextBits c12) (z_d dd_Share_tell 15 rfl) ok_Share_nextBits iv_Share_nextBits se_Share_nextBits ml_Share_56 rfl rfl h10 rfl rfl rfl (Nat.le_of_ble_eq_true rfl) ⟨(Nat.le_of_ble_eq_true rfl), (Nat.le_of_ble_eq_true rfl)⟩ ⟨(Nat.le_of_ble_eq_true rfl), (Nat.le_of_ble_eq_true rfl)⟩ ?_
  refine r_istore (lv' := [some (zP l0), some (zP l1), some (zI l2), some (zI l3), some (zI q11.1), none, none, none]) C (z_d dd_Share_tell 16 rfl) (Nat.le_of_ble_eq_true rfl) rfl ?_
  refine r_iload C (z_d dd_Share_tell 17 rfl) rfl ?_
  refine r_if_lt C 44 (z_d dd_Share_tell 18 rfl) (by decide) (fun c23 => ?_) (fun c23 => ?_)
  · have h := zift h c23
    refine r_mk [false, false, false, false, false, false, false, false] ?_
    exact s_Share_tell_44 C hr E n q11.2 h
  · have h := ziff h c23
    refine r_iload C (z_d dd_Share_tell 19 rfl) rfl ?_
    refine r_iconst (v := (5 : Int32)) C (z_d dd_Share_tell 20 rfl) (by decide) ?_
    refine r_iadd C (z_d dd_Share_tell 21 rfl) ?_
    refine r_aload_n C (z_d dd_Share_tell 22 rfl) rfl ?_
    obtain ⟨h13, h⟩ := zif h
    refine r_getI C (z_d dd_Share_tell 23 rfl) lk_Share_9 rfl h13 rfl ?_
    refine r_icmp_le C 46 (z_d dd_Share_tell 24 rfl) (by decide) (fun c22 => ?_) (fun c22 => ?_)
    · have h := zift h c22
      refine r_aload_n C (z_d dd_Share_tell 27 rfl) rfl ?_
      refine r_iload C (z_d dd_Share_tell 28 rfl) rfl ?_
      refine r_iconst (v := (5 : Int32)) C (z_d dd_Share_tell 29 rfl) (by decide) ?_
      refine r_iadd C (z_d dd_Share_tell 30 rfl) ?_
      obtain ⟨M14, e15, h⟩ := zlet_ex h
      have h16 := k_i e15 h13
      refine r_putI C (z_d dd_Share_tell 31 rfl) lp_Share_34 rfl h13 e15 ?_
      refine r_aload_n C (z_d dd_Share_tell 32 rfl) rfl ?_
      refine r_getP C (z_d dd_Share_tell 33 rfl) lk_Share_18 rfl h16 rfl ?_
      refine r_iconst (v := (0 : Int32)) C (z_d dd_Share_tell 34 rfl) (by decide) ?_
      obtain ⟨q17, c18, h⟩ := zbd h
      refine r_invS (as := [zP (z_p M14 l0 2), zI (0 : Int32)]) C (S_JArr_fill_II c18) (z_d dd_Share_tell 35 rfl) ok_JArr_fill_II sv_JArr_fill_II ml_Share_60 rfl rfl rfl (Nat.le_of_ble_eq_true rfl) ⟨(Nat.le_of_ble_eq_true rfl), (Nat.le_of_ble_eq_true rfl)⟩ ⟨(Nat.le_of_ble_eq_true rfl), (Nat.le_of_ble_eq_true rfl)⟩ ?_
      refine r_iconst (v := (1 : Int32)) C (z_d dd_Share_tell 36 rfl) (by decide) ?_
      refine r_aload_n C (z_d dd_Share_tell 37 rfl) rfl ?_
      obtain ⟨h19, h⟩ := zif h
      refine r_getI C (z_d dd_Share_tell 38 rfl) lk_Share_34 rfl h19 rfl ?_
      refine r_ishl C (z_d dd_Share_tell 39 rfl) ?_
      obtain ⟨v20, e21, h⟩ := zlet_ex h
      refine r_nmI e21 ?_
      refine r_istore (lv' := [some (zP l0), some (zP l1), some (zI l2), some (zI l3), some (zI q11.1), some (zI v20), none, none]) C (z_d dd_Share_tell 40 rfl) (Nat.le_of_ble_eq_true rfl) rfl ?_
      refine r_iconst (v := (0 : Int32)) C (z_d dd_Share_tell 41 rfl) (by decide) ?_
      refine r_istore (lv' := [some (zP l0), some (zP l1), some (zI l2), some (zI l3), some (zI q11.1), some (zI v20), some (zI (0 : Int32)), none]) C (z_d dd_Share_tell 42 rfl) (Nat.le_of_ble_eq_true rfl) rfl ?_
      refine r_mk [true, false, false, false, false, true, true, false] ?_
      exact s_Share_tell_73 C hr E n l0 v20 (0 : Int32) q17.2 h
    · have h := ziff h c22
      refine r_mk [false, false, false, false, false, false, false, false] ?_
      exact s_Share_tell_44 C hr E n q11.2 h
def F_Share_tell (O : zO) (n : Nat) (l0 : Nat) (l1 : Nat) (l2 : Int32) (l3 : Int32) (M : zM) : Option (Int32 × zM) := f_Share_tell_0 O n l0 l1 l2 l3 M
theorem S_Share_tell {l : Launch} {D : zD} {n : Nat} {l0 : Nat} {l1 : Nat} {l2 : Int32} {l3 : Int32} {M : zM} {q : Int32 × zM} (h : F_Share_tell D.2.2.2.2 n l0 l1 l2 l3 M = some q) : zMet l D mi_Share_tell [zP l0, zP l1, zI l2, zI l3] M (some (zI q.1)) q.2 :=
  z_met (by decide) (Nat.le_of_ble_eq_true rfl) (fun X C E hr hin hD hl => by
    subst hD
    exact s_Share_tell_0 C hr E n l0 l1 l2 l3 M h)

def f_Stream_open_35 (O : zO) (n : Nat) (M : zM) : Option (Int32 × zM) :=
  some ((0 : Int32), M)
set_option maxRecDepth 100000 in
set_option maxHeartbeats 4000000 in
theorem s_Stream_open_35 {X : zX} {q : Int32 × zM} (C : zC X zR11 prog_12_method_2_code 5 { frames := 1, cells := 0, slots := 0, locals := 21 }) (hr : zRt X (some .boolean)) (E : zE X (some (zI q.1)) q.2 0 0) : ∀ (n : Nat) (M : zM), f_Stream_open_35 (zOD X) n M = some q → zW X 0 0 35 [none, none, none, none, none] [] M := by
  intro n M h
  rw [f_Stream_open_35] at h
  refine r_iconst (v := (0 : Int32)) C (z_d dd_Stream_open 19 rfl) (by decide) ?_
  obtain rfl := z_res h
  exact r_iretZ C E hr (z_d dd_Stream_open 20 rfl) (by decide) (Nat.le_of_ble_eq_true rfl) (Nat.le_of_ble_eq_true rfl)
def f_Stream_open_0 (O : zO) (n : Nat) (l0 : Nat) (l1 : Nat) (l2 : Int32) (l3 : Int32) (M : zM) : Option (Int32 × zM) :=
  if z_k M l1 = 9 then
  if z_k M l0 = 12 then
  zlet (w_p M l0 0 (z_p M l1 0)) fun M3 =>
  zlet (w_i M3 l0 1 l2) fun M7 =>
  zlet (w_i M7 l0 2 (0 : Int32)) fun M11 =>
  if l2 < 0 then
  f_Stream_open_35 O n M11
  else
  if l3 ≤ l2 then
  f_Stream_open_35 O n M11
  else
  if l3 ≤ (z_i M11 l1 1) then
  (F_Row_at O n l1 (l3 - (1 : Int32)) M11).bind fun q15 =>
  if q15.1 = 0 then
  some ((0 : Int32), q15.2)
  else
  (F_JInt_numberOfLeadingZeros O n q15.1 q15.2).bind fun q17 =>
  if z_k q17.2 l0 = 12 then
  zlet (w_i q17.2 l0 2 ((((8 : Int32) * ((l3 - (1 : Int32)) - l2)) + (31 : Int32)) - q17.1)) fun M20 =>
  some ((1 : Int32), M20)
  else none
  else
  f_Stream_open_35 O n M11
  else none
  else none
set_option maxRecDepth 100000 in
set_option maxHeartbeats 4000000 in
theorem s_Stream_open_0 {X : zX} {q : Int32 × zM} (C : zC X zR11 prog_12_method_2_code 5 { frames := 1, cells := 0, slots := 0, locals := 21 }) (hr : zRt X (some .boolean)) (E : zE X (some (zI q.1)) q.2 0 0) : ∀ (n : Nat) (l0 : Nat) (l1 : Nat) (l2 : Int32) (l3 : Int32) (M : zM), f_Stream_open_0 (zOD X) n l0 l1 l2 l3 M = some q → zW X 0 0 0 [some (zP l0), some (zP l1), some (zI l2), some (zI l3), none] [] M := by
  intro n l0 l1 l2 l3 M h
  rw [f_Stream_open_0] at h
  refine r_aload_n C (z_d dd_Stream_open 0 rfl) rfl ?_
  refine r_aload_n C (z_d dd_Stream_open 1 rfl) rfl ?_
  obtain ⟨h1, h⟩ := zif h
  refine r_getP C (z_d dd_Stream_open 2 rfl) lk_Stream_20 rfl h1 rfl ?_
  obtain ⟨h2, h⟩ := zif h
  obtain ⟨M3, e4, h⟩ := zlet_ex h
  have h5 := k_p e4 h1
  have h6 := k_p e4 h2
  refine r_putP C (z_d dd_Stream_open 3 rfl) lp_Stream_7 rfl h2 e4 ?_
  refine r_aload_n C (z_d dd_Stream_open 4 rfl) rfl ?_
  refine r_iload_n C (z_d dd_Stream_open 5 rfl) rfl ?_
  obtain ⟨M7, e8, h⟩ := zlet_ex h
  have h9 := k_i e8 h5
  have h10 := k_i e8 h6
  refine r_putI C (z_d dd_Stream_open 6 rfl) lp_Stream_13 rfl h6 e8 ?_
  refine r_aload_n C (z_d dd_Stream_open 7 rfl) rfl ?_
  refine r_iconst (v := (0 : Int32)) C (z_d dd_Stream_open 8 rfl) (by decide) ?_
  obtain ⟨M11, e12, h⟩ := zlet_ex h
  have h13 := k_i e12 h9
  have h14 := k_i e12 h10
  refine r_putI C (z_d dd_Stream_open 9 rfl) lp_Stream_17 rfl h10 e12 ?_
  refine r_iload_n C (z_d dd_Stream_open 10 rfl) rfl ?_
  refine r_if_lt C 35 (z_d dd_Stream_open 11 rfl) (by decide) (fun c26 => ?_) (fun c26 => ?_)
  · have h := zift h c26
    refine r_mk [false, false, false, false, false] ?_
    exact s_Stream_open_35 C hr E n M11 h
  · have h := ziff h c26
    refine r_iload_n C (z_d dd_Stream_open 12 rfl) rfl ?_
    refine r_iload_n C (z_d dd_Stream_open 13 rfl) rfl ?_
    refine r_icmp_ge C 35 (z_d dd_Stream_open 14 rfl) (by decide) (fun c25 => ?_) (fun c25 => ?_)
    · have h := zift h c25
      refine r_mk [false, false, false, false, false] ?_
      exact s_Stream_open_35 C hr E n M11 h
    · have h := ziff h c25
      refine r_iload_n C (z_d dd_Stream_open 15 rfl) rfl ?_
      refine r_aload_n C (z_d dd_Stream_open 16 rfl) rfl ?_
      refine r_getI C (z_d dd_Stream_open 17 rfl) lk_Stream_23 rfl h13 rfl ?_
      refine r_icmp_le C 37 (z_d dd_Stream_open 18 rfl) (by decide) (fun c24 => ?_) (fun c24 => ?_)
      · have h := zift h c24
        refine r_aload_n C (z_d dd_Stream_open 21 rfl) rfl ?_
        refine r_iload_n C (z_d dd_Stream_open 22 rfl) rfl ?_
        refine r_iconst (v := (1 : Int32)) C (z_d dd_Stream_open 23 rfl) (by decide) ?_
        refine r_isub C (z_d dd_Stream_open 24 rfl) ?_
        obtain ⟨q15, c16, h⟩ := zbd h
        refine r_invV (as := [zI (l3 - (1 : Int32))]) C 8 (S_Row_at c16) (z_d dd_Stream_open 25 rfl) ok_Row_at iv_Row_at se_Row_at ml_Stream_26 rfl rfl h13 rfl rfl rfl (Nat.le_of_ble_eq_true rfl) ⟨(Nat.le_of_ble_eq_true rfl), (Nat.le_of_ble_eq_true rfl)⟩ ⟨(Nat.le_of_ble_eq_true rfl), (Nat.le_of_ble_eq_true rfl)⟩ ?_
        refine r_istore (lv' := [some (zP l0), some (zP l1), some (zI l2), some (zI l3), some (zI q15.1)]) C (z_d dd_Stream_open 26 rfl) (Nat.le_of_ble_eq_true rfl) rfl ?_
        refine r_iload C (z_d dd_Stream_open 27 rfl) rfl ?_
        refine r_if_ne C 53 (z_d dd_Stream_open 28 rfl) (by decide) (fun c23 => ?_) (fun c23 => ?_)
        · have h := ziff h c23
          refine r_aload_n C (z_d dd_Stream_open 31 rfl) rfl ?_
          refine r_bipush (v := (8 : Int32)) C (z_d dd_Stream_open 32 rfl) (by decide) ?_
          refine r_iload_n C (z_d dd_Stream_open 33 rfl) rfl ?_
          refine r_iconst (v := (1 : Int32)) C (z_d dd_Stream_open 34 rfl) (by decide) ?_
          refine r_isub C (z_d dd_Stream_open 35 rfl) ?_
          refine r_iload_n C (z_d dd_Stream_open 36 rfl) rfl ?_
          refine r_isub C (z_d dd_Stream_open 37 rfl) ?_
          refine r_imul C (z_d dd_Stream_open 38 rfl) ?_
          refine r_bipush (v := (31 : Int32)) C (z_d dd_Stream_open 39 rfl) (by decide) ?_
          refine r_iadd C (z_d dd_Stream_open 40 rfl) ?_
          refine r_iload C (z_d dd_Stream_open 41 rfl) rfl ?_
          obtain ⟨q17, c18, h⟩ := zbd h
          refine r_invS (as := [zI q15.1]) C (S_JInt_numberOfLeadingZeros c18) (z_d dd_Stream_open 42 rfl) ok_JInt_numberOfLeadingZeros sv_JInt_numberOfLeadingZeros ml_Stream_30 rfl rfl rfl (Nat.le_of_ble_eq_true rfl) ⟨(Nat.le_of_ble_eq_true rfl), (Nat.le_of_ble_eq_true rfl)⟩ ⟨(Nat.le_of_ble_eq_true rfl), (Nat.le_of_ble_eq_true rfl)⟩ ?_
          refine r_isub C (z_d dd_Stream_open 43 rfl) ?_
          obtain ⟨h19, h⟩ := zif h
          obtain ⟨M20, e21, h⟩ := zlet_ex h
          have h22 := k_i e21 h19
          refine r_putI C (z_d dd_Stream_open 44 rfl) lp_Stream_17 rfl h19 e21 ?_
          refine r_iconst (v := (1 : Int32)) C (z_d dd_Stream_open 45 rfl) (by decide) ?_
          obtain rfl := z_res h
          exact r_iretZ C E hr (z_d dd_Stream_open 46 rfl) (by decide) (Nat.le_of_ble_eq_true rfl) (Nat.le_of_ble_eq_true rfl)
        · have h := zift h c23
          refine r_iconst (v := (0 : Int32)) C (z_d dd_Stream_open 29 rfl) (by decide) ?_
          obtain rfl := z_res h
          exact r_iretZ C E hr (z_d dd_Stream_open 30 rfl) (by decide) (Nat.le_of_ble_eq_true rfl) (Nat.le_of_ble_eq_true rfl)
      · have h := ziff h c24
        refine r_mk [false, false, false, false, false] ?_
        exact s_Stream_open_35 C hr E n M11 h
def F_Stream_open (O : zO) (n : Nat) (l0 : Nat) (l1 : Nat) (l2 : Int32) (l3 : Int32) (M : zM) : Option (Int32 × zM) := f_Stream_open_0 O n l0 l1 l2 l3 M
theorem S_Stream_open {l : Launch} {D : zD} {n : Nat} {l0 : Nat} {l1 : Nat} {l2 : Int32} {l3 : Int32} {M : zM} {q : Int32 × zM} (h : F_Stream_open D.2.2.2.2 n l0 l1 l2 l3 M = some q) : zMet l D mi_Stream_open [zP l0, zP l1, zI l2, zI l3] M (some (zI q.1)) q.2 :=
  z_met (by decide) (Nat.le_of_ble_eq_true rfl) (fun X C E hr hin hD hl => by
    subst hD
    exact s_Stream_open_0 C hr E n l0 l1 l2 l3 M h)

def f_Stream_take_30 (O : zO) (n : Nat) (M : zM) : Option (Int64 × zM) :=
  some ((0 : Int64), M)
set_option maxRecDepth 100000 in
set_option maxHeartbeats 4000000 in
theorem s_Stream_take_30 {X : zX} {q : Int64 × zM} (C : zC X zR11 prog_12_method_3_code 7 { frames := 0, cells := 0, slots := 0, locals := 0 }) (hr : zRt X (some .long)) (E : zE X (some (zL q.1)) q.2 0 0) : ∀ (n : Nat) (M : zM), f_Stream_take_30 (zOD X) n M = some q → zW X 0 0 30 [none, none, none, none, none, none, none] [] M := by
  intro n M h
  rw [f_Stream_take_30] at h
  refine r_lconst (v := (0 : Int64)) C (z_d dd_Stream_take 16 rfl) (by decide) ?_
  obtain rfl := z_res h
  exact r_lret C E hr (z_d dd_Stream_take 17 rfl) (Nat.le_of_ble_eq_true rfl) (Nat.le_of_ble_eq_true rfl)
def f_Stream_take_158 (O : zO) (n : Nat) (s0 : Int64) (M : zM) : Option (Int64 × zM) :=
  some (s0, M)
set_option maxRecDepth 100000 in
set_option maxHeartbeats 4000000 in
theorem s_Stream_take_158 {X : zX} {q : Int64 × zM} (C : zC X zR11 prog_12_method_3_code 7 { frames := 0, cells := 0, slots := 0, locals := 0 }) (hr : zRt X (some .long)) (E : zE X (some (zL q.1)) q.2 0 0) : ∀ (n : Nat) (s0 : Int64) (M : zM), f_Stream_take_158 (zOD X) n s0 M = some q → zW X 0 0 158 [none, none, none, none, none, none, none] [zL s0] M := by
  intro n s0 M h
  rw [f_Stream_take_158] at h
  obtain rfl := z_res h
  exact r_lret C E hr (z_d dd_Stream_take 92 rfl) (Nat.le_of_ble_eq_true rfl) (Nat.le_of_ble_eq_true rfl)
def f_Stream_take_111 (O : zO) (k63 : Nat → Int32 → Int32 → Int64 → Int32 → zM → Option (Int64 × zM)) (n : Nat) (l0 : Nat) (l2 : Int32) (l3 : Int32) (l6 : Int32) (s0 : Int64) (s1 : Int32) (M : zM) : Option (Int64 × zM) :=
  zlet (s0 ||| s1.toInt64) fun v1 =>
  zlet (l6 + (-1 : Int32)) fun v3 =>
  k63 l0 l2 l3 v1 v3 M
set_option maxRecDepth 100000 in
set_option maxHeartbeats 4000000 in
theorem s_Stream_take_111 {X : zX} {q : Int64 × zM} (C : zC X zR11 prog_12_method_3_code 7 { frames := 0, cells := 0, slots := 0, locals := 0 }) (hr : zRt X (some .long)) (E : zE X (some (zL q.1)) q.2 0 0) {k63 : Nat → Int32 → Int32 → Int64 → Int32 → zM → Option (Int64 × zM)} (hk63 : ∀ (l0 : Nat) (l2 : Int32) (l3 : Int32) (l4 : Int64) (l6 : Int32) (M : zM), k63 l0 l2 l3 l4 l6 M = some q → zW X 0 0 63 [some (zP l0), none, some (zI l2), some (zI l3), some (zL l4), none, some (zI l6)] [] M) : ∀ (n : Nat) (l0 : Nat) (l2 : Int32) (l3 : Int32) (l6 : Int32) (s0 : Int64) (s1 : Int32) (M : zM), f_Stream_take_111 (zOD X) k63 n l0 l2 l3 l6 s0 s1 M = some q → zW X 0 0 111 [some (zP l0), none, some (zI l2), some (zI l3), none, none, some (zI l6)] [zI s1, zL s0] M := by
  intro n l0 l2 l3 l6 s0 s1 M h
  rw [f_Stream_take_111] at h
  refine r_i2l C (z_d dd_Stream_take 63 rfl) ?_
  refine r_lor C (z_d dd_Stream_take 64 rfl) ?_
  obtain ⟨v1, e2, h⟩ := zlet_ex h
  refine r_nmL e2 ?_
  refine r_lstore (lv' := [some (zP l0), none, some (zI l2), some (zI l3), some (zL v1), none, some (zI l6)]) C (z_d dd_Stream_take 65 rfl) (Nat.le_of_ble_eq_true rfl) rfl ?_
  obtain ⟨v3, e4, h⟩ := zlet_ex h
  refine r_iinc (v := v3) (lv' := [some (zP l0), none, some (zI l2), some (zI l3), some (zL v1), none, some (zI v3)]) C (z_d dd_Stream_take 66 rfl) rfl (Nat.le_of_ble_eq_true rfl) (by rw [e4]; rfl) rfl ?_
  refine r_goto C 63 (z_d dd_Stream_take 67 rfl) (by decide) ?_
  exact hk63 l0 l2 l3 v1 v3 M h
def f_Stream_take_110 (O : zO) (k63 : Nat → Int32 → Int32 → Int64 → Int32 → zM → Option (Int64 × zM)) (n : Nat) (l0 : Nat) (l2 : Int32) (l3 : Int32) (l6 : Int32) (s0 : Int64) (M : zM) : Option (Int64 × zM) :=
  f_Stream_take_111 O k63 n l0 l2 l3 l6 s0 (0 : Int32) M
set_option maxRecDepth 100000 in
set_option maxHeartbeats 4000000 in
theorem s_Stream_take_110 {X : zX} {q : Int64 × zM} (C : zC X zR11 prog_12_method_3_code 7 { frames := 0, cells := 0, slots := 0, locals := 0 }) (hr : zRt X (some .long)) (E : zE X (some (zL q.1)) q.2 0 0) {k63 : Nat → Int32 → Int32 → Int64 → Int32 → zM → Option (Int64 × zM)} (hk63 : ∀ (l0 : Nat) (l2 : Int32) (l3 : Int32) (l4 : Int64) (l6 : Int32) (M : zM), k63 l0 l2 l3 l4 l6 M = some q → zW X 0 0 63 [some (zP l0), none, some (zI l2), some (zI l3), some (zL l4), none, some (zI l6)] [] M) : ∀ (n : Nat) (l0 : Nat) (l2 : Int32) (l3 : Int32) (l6 : Int32) (s0 : Int64) (M : zM), f_Stream_take_110 (zOD X) k63 n l0 l2 l3 l6 s0 M = some q → zW X 0 0 110 [some (zP l0), none, some (zI l2), some (zI l3), none, none, some (zI l6)] [zL s0] M := by
  intro n l0 l2 l3 l6 s0 M h
  rw [f_Stream_take_110] at h
  refine r_iconst (v := (0 : Int32)) C (z_d dd_Stream_take 62 rfl) (by decide) ?_
  exact s_Stream_take_111 C hr E hk63 n l0 l2 l3 l6 s0 (0 : Int32) M h
def f_Stream_take_63 (O : zO) : Nat → Nat → Int32 → Int32 → Int64 → Int32 → zM → Option (Int64 × zM)
  | 0, _, _, _, _, _, _ => none
  | n + 1, l0, l2, l3, l4, l6, M =>
    if z_k M l0 = 12 then
    if l6 < ((z_i M l0 1) + (l3 >>> ((3 : Int32) &&& 31))) then
    zlet ((l4.toUInt64 >>> ((l3 &&& (7 : Int32)).toInt64.toUInt64 &&& Int64.toUInt64 63)).toInt64 &&& (((1 : Int64) <<< ((l2 - l3).toInt64 &&& 63)) - (1 : Int64))) fun v2 =>
    if 0 ≤ (z_i M l0 2) then
    f_Stream_take_158 O n v2 M
    else
    f_Stream_take_158 O n (v2 <<< ((-(z_i M l0 2)).toInt64 &&& 63)) M
    else
    if l6 < 0 then
    f_Stream_take_110 O (f_Stream_take_63 O n) n l0 l2 l3 l6 (l4 <<< ((8 : Int32).toInt64 &&& 63)) M
    else
    if z_k M (z_p M l0 0) = 101 then
    if (Int32.ofNat (z_n M (z_p M l0 0))) ≤ l6 then
    f_Stream_take_110 O (f_Stream_take_63 O n) n l0 l2 l3 l6 (l4 <<< ((8 : Int32).toInt64 &&& 63)) M
    else
    if zin l6 (z_n M (z_p M l0 0)) = true then
    f_Stream_take_111 O (f_Stream_take_63 O n) n l0 l2 l3 l6 (l4 <<< ((8 : Int32).toInt64 &&& 63)) ((z_i M (z_p M l0 0) l6.toNatClampNeg) &&& (255 : Int32)) M
    else none
    else none
    else none
set_option maxRecDepth 100000 in
set_option maxHeartbeats 4000000 in
theorem s_Stream_take_63 {X : zX} {q : Int64 × zM} (C : zC X zR11 prog_12_method_3_code 7 { frames := 0, cells := 0, slots := 0, locals := 0 }) (hr : zRt X (some .long)) (E : zE X (some (zL q.1)) q.2 0 0) : ∀ (n : Nat) (l0 : Nat) (l2 : Int32) (l3 : Int32) (l4 : Int64) (l6 : Int32) (M : zM), f_Stream_take_63 (zOD X) n l0 l2 l3 l4 l6 M = some q → zW X 0 0 63 [some (zP l0), none, some (zI l2), some (zI l3), some (zL l4), none, some (zI l6)] [] M := by
  intro n
  induction n with
  | zero => intro l0 l2 l3 l4 l6 M h; rw [f_Stream_take_63] at h; cases h
  | succ n ih =>
    intro l0 l2 l3 l4 l6 M h
    rw [f_Stream_take_63] at h
    refine r_iload C (z_d dd_Stream_take 37 rfl) rfl ?_
    refine r_aload_n C (z_d dd_Stream_take 38 rfl) rfl ?_
    obtain ⟨h1, h⟩ := zif h
    refine r_getI C (z_d dd_Stream_take 39 rfl) lk_Stream_13 rfl h1 rfl ?_
    refine r_iload_n C (z_d dd_Stream_take 40 rfl) rfl ?_
    refine r_iconst (v := (3 : Int32)) C (z_d dd_Stream_take 41 rfl) (by decide) ?_
    refine r_ishr C (z_d dd_Stream_take 42 rfl) ?_
    refine r_iadd C (z_d dd_Stream_take 43 rfl) ?_
    refine r_icmp_lt C 121 (z_d dd_Stream_take 44 rfl) (by decide) (fun c9 => ?_) (fun c9 => ?_)
    · have h := zift h c9
      refine r_lload C (z_d dd_Stream_take 68 rfl) rfl ?_
      refine r_iload_n C (z_d dd_Stream_take 69 rfl) rfl ?_
      refine r_bipush (v := (7 : Int32)) C (z_d dd_Stream_take 70 rfl) (by decide) ?_
      refine r_iand C (z_d dd_Stream_take 71 rfl) ?_
      refine r_lushr C (z_d dd_Stream_take 72 rfl) ?_
      refine r_lconst (v := (1 : Int64)) C (z_d dd_Stream_take 73 rfl) (by decide) ?_
      refine r_iload_n C (z_d dd_Stream_take 74 rfl) rfl ?_
      refine r_iload_n C (z_d dd_Stream_take 75 rfl) rfl ?_
      refine r_isub C (z_d dd_Stream_take 76 rfl) ?_
      refine r_lshl C (z_d dd_Stream_take 77 rfl) ?_
      refine r_lconst (v := (1 : Int64)) C (z_d dd_Stream_take 78 rfl) (by decide) ?_
      refine r_lsub C (z_d dd_Stream_take 79 rfl) ?_
      refine r_land C (z_d dd_Stream_take 80 rfl) ?_
      obtain ⟨v2, e3, h⟩ := zlet_ex h
      refine r_nmL e3 ?_
      refine r_lstore (lv' := [some (zP l0), none, some (zI l2), some (zI l3), some (zL v2), none, some (zI l6)]) C (z_d dd_Stream_take 81 rfl) (Nat.le_of_ble_eq_true rfl) rfl ?_
      refine r_aload_n C (z_d dd_Stream_take 82 rfl) rfl ?_
      refine r_getI C (z_d dd_Stream_take 83 rfl) lk_Stream_17 rfl h1 rfl ?_
      refine r_if_ge C 156 (z_d dd_Stream_take 84 rfl) (by decide) (fun c4 => ?_) (fun c4 => ?_)
      · have h := zift h c4
        refine r_lload C (z_d dd_Stream_take 91 rfl) rfl ?_
        refine r_mk [false, false, false, false, false, false, false] ?_
        exact s_Stream_take_158 C hr E n v2 M h
      · have h := ziff h c4
        refine r_lload C (z_d dd_Stream_take 85 rfl) rfl ?_
        refine r_aload_n C (z_d dd_Stream_take 86 rfl) rfl ?_
        refine r_getI C (z_d dd_Stream_take 87 rfl) lk_Stream_17 rfl h1 rfl ?_
        refine r_ineg C (z_d dd_Stream_take 88 rfl) ?_
        refine r_lshl C (z_d dd_Stream_take 89 rfl) ?_
        refine r_goto C 158 (z_d dd_Stream_take 90 rfl) (by decide) ?_
        refine r_mk [false, false, false, false, false, false, false] ?_
        exact s_Stream_take_158 C hr E n (v2 <<< ((-(z_i M l0 2)).toInt64 &&& 63)) M h
    · have h := ziff h c9
      refine r_lload C (z_d dd_Stream_take 45 rfl) rfl ?_
      refine r_bipush (v := (8 : Int32)) C (z_d dd_Stream_take 46 rfl) (by decide) ?_
      refine r_lshl C (z_d dd_Stream_take 47 rfl) ?_
      refine r_iload C (z_d dd_Stream_take 48 rfl) rfl ?_
      refine r_if_lt C 110 (z_d dd_Stream_take 49 rfl) (by decide) (fun c8 => ?_) (fun c8 => ?_)
      · have h := zift h c8
        refine r_mk [true, false, true, true, false, false, true] ?_
        exact s_Stream_take_110 C hr E ih n l0 l2 l3 l6 (l4 <<< ((8 : Int32).toInt64 &&& 63)) M h
      · have h := ziff h c8
        refine r_iload C (z_d dd_Stream_take 50 rfl) rfl ?_
        refine r_aload_n C (z_d dd_Stream_take 51 rfl) rfl ?_
        refine r_getP C (z_d dd_Stream_take 52 rfl) lk_Stream_7 rfl h1 rfl ?_
        obtain ⟨h5, h⟩ := zif h
        refine r_alen C 1 (z_d dd_Stream_take 53 rfl) h5 (Nat.le_of_ble_eq_true rfl) rfl ?_
        refine r_icmp_ge C 110 (z_d dd_Stream_take 54 rfl) (by decide) (fun c7 => ?_) (fun c7 => ?_)
        · have h := zift h c7
          refine r_mk [true, false, true, true, false, false, true] ?_
          exact s_Stream_take_110 C hr E ih n l0 l2 l3 l6 (l4 <<< ((8 : Int32).toInt64 &&& 63)) M h
        · have h := ziff h c7
          refine r_aload_n C (z_d dd_Stream_take 55 rfl) rfl ?_
          refine r_getP C (z_d dd_Stream_take 56 rfl) lk_Stream_7 rfl h1 rfl ?_
          refine r_iload C (z_d dd_Stream_take 57 rfl) rfl ?_
          obtain ⟨h6, h⟩ := zif h
          refine r_bald C (z_d dd_Stream_take 58 rfl) h5 h6 rfl ?_
          refine r_sipush (v := (255 : Int32)) C (z_d dd_Stream_take 59 rfl) (by decide) ?_
          refine r_iand C (z_d dd_Stream_take 60 rfl) ?_
          refine r_goto C 111 (z_d dd_Stream_take 61 rfl) (by decide) ?_
          refine r_mk [true, false, true, true, false, false, true] ?_
          exact s_Stream_take_111 C hr E ih n l0 l2 l3 l6 (l4 <<< ((8 : Int32).toInt64 &&& 63)) ((z_i M (z_p M l0 0) l6.toNatClampNeg) &&& (255 : Int32)) M h
def f_Stream_take_47 (O : zO) (n : Nat) (l0 : Nat) (l2 : Int32) (s0 : Int32) (M : zM) : Option (Int64 × zM) :=
  if z_k M l0 = 12 then
  zlet ((z_i M l0 1) + ((l2 - (1 : Int32)) >>> ((3 : Int32) &&& 31))) fun v2 =>
  f_Stream_take_63 O n l0 l2 s0 (0 : Int64) v2 M
  else none
set_option maxRecDepth 100000 in
set_option maxHeartbeats 4000000 in
theorem s_Stream_take_47 {X : zX} {q : Int64 × zM} (C : zC X zR11 prog_12_method_3_code 7 { frames := 0, cells := 0, slots := 0, locals := 0 }) (hr : zRt X (some .long)) (E : zE X (some (zL q.1)) q.2 0 0) : ∀ (n : Nat) (l0 : Nat) (l2 : Int32) (s0 : Int32) (M : zM), f_Stream_take_47 (zOD X) n l0 l2 s0 M = some q → zW X 0 0 47 [some (zP l0), none, some (zI l2), none, none, none, none] [zI s0] M := by
  intro n l0 l2 s0 M h
  rw [f_Stream_take_47] at h
  refine r_istore_n (lv' := [some (zP l0), none, some (zI l2), some (zI s0), none, none, none]) C (z_d dd_Stream_take 25 rfl) (Nat.le_of_ble_eq_true rfl) rfl ?_
  refine r_lconst (v := (0 : Int64)) C (z_d dd_Stream_take 26 rfl) (by decide) ?_
  refine r_lstore (lv' := [some (zP l0), none, some (zI l2), some (zI s0), some (zL (0 : Int64)), none, none]) C (z_d dd_Stream_take 27 rfl) (Nat.le_of_ble_eq_true rfl) rfl ?_
  refine r_aload_n C (z_d dd_Stream_take 28 rfl) rfl ?_
  obtain ⟨h1, h⟩ := zif h
  refine r_getI C (z_d dd_Stream_take 29 rfl) lk_Stream_13 rfl h1 rfl ?_
  refine r_iload_n C (z_d dd_Stream_take 30 rfl) rfl ?_
  refine r_iconst (v := (1 : Int32)) C (z_d dd_Stream_take 31 rfl) (by decide) ?_
  refine r_isub C (z_d dd_Stream_take 32 rfl) ?_
  refine r_iconst (v := (3 : Int32)) C (z_d dd_Stream_take 33 rfl) (by decide) ?_
  refine r_ishr C (z_d dd_Stream_take 34 rfl) ?_
  refine r_iadd C (z_d dd_Stream_take 35 rfl) ?_
  obtain ⟨v2, e3, h⟩ := zlet_ex h
  refine r_nmI e3 ?_
  refine r_istore (lv' := [some (zP l0), none, some (zI l2), some (zI s0), some (zL (0 : Int64)), none, some (zI v2)]) C (z_d dd_Stream_take 36 rfl) (Nat.le_of_ble_eq_true rfl) rfl ?_
  exact s_Stream_take_63 C hr E n l0 l2 s0 (0 : Int64) v2 M h
def f_Stream_take_0 (O : zO) (n : Nat) (l0 : Nat) (l1 : Int32) (M : zM) : Option (Int64 × zM) :=
  if z_k M l0 = 12 then
  zlet (z_i M l0 2) fun v2 =>
  zlet (w_i M l0 2 ((z_i M l0 2) - l1)) fun M4 =>
  if v2 ≤ 0 then
  f_Stream_take_30 O n M4
  else
  if l1 ≤ 0 then
  f_Stream_take_30 O n M4
  else
  if (z_p M4 l0 0) = 0 then
  f_Stream_take_30 O n M4
  else
  if (z_i M4 l0 2) ≤ 0 then
  f_Stream_take_47 O n l0 v2 (0 : Int32) M4
  else
  f_Stream_take_47 O n l0 v2 (z_i M4 l0 2) M4
  else none
set_option maxRecDepth 100000 in
set_option maxHeartbeats 4000000 in
theorem s_Stream_take_0 {X : zX} {q : Int64 × zM} (C : zC X zR11 prog_12_method_3_code 7 { frames := 0, cells := 0, slots := 0, locals := 0 }) (hr : zRt X (some .long)) (E : zE X (some (zL q.1)) q.2 0 0) : ∀ (n : Nat) (l0 : Nat) (l1 : Int32) (M : zM), f_Stream_take_0 (zOD X) n l0 l1 M = some q → zW X 0 0 0 [some (zP l0), some (zI l1), none, none, none, none, none] [] M := by
  intro n l0 l1 M h
  rw [f_Stream_take_0] at h
  refine r_aload_n C (z_d dd_Stream_take 0 rfl) rfl ?_
  obtain ⟨h1, h⟩ := zif h
  refine r_getI C (z_d dd_Stream_take 1 rfl) lk_Stream_17 rfl h1 rfl ?_
  obtain ⟨v2, e3, h⟩ := zlet_ex h
  refine r_nmI e3 ?_
  refine r_istore_n (lv' := [some (zP l0), some (zI l1), some (zI v2), none, none, none, none]) C (z_d dd_Stream_take 2 rfl) (Nat.le_of_ble_eq_true rfl) rfl ?_
  refine r_aload_n C (z_d dd_Stream_take 3 rfl) rfl ?_
  refine r_dupP C (z_d dd_Stream_take 4 rfl) ?_
  refine r_getI C (z_d dd_Stream_take 5 rfl) lk_Stream_17 rfl h1 rfl ?_
  refine r_iload_n C (z_d dd_Stream_take 6 rfl) rfl ?_
  refine r_isub C (z_d dd_Stream_take 7 rfl) ?_
  obtain ⟨M4, e5, h⟩ := zlet_ex h
  have h6 := k_i e5 h1
  refine r_putI C (z_d dd_Stream_take 8 rfl) lp_Stream_17 rfl h1 e5 ?_
  refine r_iload_n C (z_d dd_Stream_take 9 rfl) rfl ?_
  refine r_if_le C 30 (z_d dd_Stream_take 10 rfl) (by decide) (fun c10 => ?_) (fun c10 => ?_)
  · have h := zift h c10
    refine r_mk [false, false, false, false, false, false, false] ?_
    exact s_Stream_take_30 C hr E n M4 h
  · have h := ziff h c10
    refine r_iload_n C (z_d dd_Stream_take 11 rfl) rfl ?_
    refine r_if_le C 30 (z_d dd_Stream_take 12 rfl) (by decide) (fun c9 => ?_) (fun c9 => ?_)
    · have h := zift h c9
      refine r_mk [false, false, false, false, false, false, false] ?_
      exact s_Stream_take_30 C hr E n M4 h
    · have h := ziff h c9
      refine r_aload_n C (z_d dd_Stream_take 13 rfl) rfl ?_
      refine r_getP C (z_d dd_Stream_take 14 rfl) lk_Stream_7 rfl h6 rfl ?_
      refine r_ifnonnull C 32 (z_d dd_Stream_take 15 rfl) (by decide) (fun c8 => ?_) (fun c8 => ?_)
      · have h := ziff h c8
        refine r_aload_n C (z_d dd_Stream_take 18 rfl) rfl ?_
        refine r_getI C (z_d dd_Stream_take 19 rfl) lk_Stream_17 rfl h6 rfl ?_
        refine r_if_le C 46 (z_d dd_Stream_take 20 rfl) (by decide) (fun c7 => ?_) (fun c7 => ?_)
        · have h := zift h c7
          refine r_iconst (v := (0 : Int32)) C (z_d dd_Stream_take 24 rfl) (by decide) ?_
          refine r_mk [true, false, true, false, false, false, false] ?_
          exact s_Stream_take_47 C hr E n l0 v2 (0 : Int32) M4 h
        · have h := ziff h c7
          refine r_aload_n C (z_d dd_Stream_take 21 rfl) rfl ?_
          refine r_getI C (z_d dd_Stream_take 22 rfl) lk_Stream_17 rfl h6 rfl ?_
          refine r_goto C 47 (z_d dd_Stream_take 23 rfl) (by decide) ?_
          refine r_mk [true, false, true, false, false, false, false] ?_
          exact s_Stream_take_47 C hr E n l0 v2 (z_i M4 l0 2) M4 h
      · have h := zift h c8
        refine r_mk [false, false, false, false, false, false, false] ?_
        exact s_Stream_take_30 C hr E n M4 h
def F_Stream_take (O : zO) (n : Nat) (l0 : Nat) (l1 : Int32) (M : zM) : Option (Int64 × zM) := f_Stream_take_0 O n l0 l1 M
theorem S_Stream_take {l : Launch} {D : zD} {n : Nat} {l0 : Nat} {l1 : Int32} {M : zM} {q : Int64 × zM} (h : F_Stream_take D.2.2.2.2 n l0 l1 M = some q) : zMet l D mi_Stream_take [zP l0, zI l1] M (some (zL q.1)) q.2 :=
  z_met (by decide) (Nat.le_of_ble_eq_true rfl) (fun X C E hr hin hD hl => by
    subst hD
    exact s_Stream_take_0 C hr E n l0 l1 M h)
