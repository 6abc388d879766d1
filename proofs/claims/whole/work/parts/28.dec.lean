def f_FR_spare_0 (O : zO) (n : Nat) (l0 : Nat) (M : zM) : Option (Int32 × zM) :=
  if z_k M l0 = 5 then
  (F_FR_lacks O n l0 (4 : Int64) M).bind fun q2 =>
  if q2.1 = 0 then
  if z_k q2.2 l0 = 5 then
  if z_k q2.2 (z_p q2.2 l0 0) = 9 then
  (F_Row_number O n (z_p q2.2 l0 0) (z_i q2.2 l0 6) (4 : Int32) q2.2).bind fun q6 =>
  if z_k q6.2 l0 = 5 then
  zlet (w_i q6.2 l0 6 ((z_i q6.2 l0 6) + (4 : Int32))) fun M9 =>
  (F_FR_lacks O n l0 q6.1 M9).bind fun q12 =>
  if q12.1 = 0 then
  if z_k q12.2 l0 = 5 then
  zlet (w_i q12.2 l0 6 ((z_i q12.2 l0 6) + q6.1.toInt32)) fun M15 =>
  some ((1 : Int32), M15)
  else none
  else
  if z_k q12.2 l0 = 5 then
  (F_FR_endsWithin O n l0 q12.2).bind fun q19 =>
  if q19.1 = 0 ∨ q19.1 = 1 then
  some (q19.1, q19.2)
  else none
  else none
  else none
  else none
  else none
  else
  if z_k q2.2 l0 = 5 then
  (F_FR_endsWithin O n l0 q2.2).bind fun q24 =>
  if q24.1 = 0 ∨ q24.1 = 1 then
  some (q24.1, q24.2)
  else none
  else none
  else none
set_option maxRecDepth 100000 in
set_option maxHeartbeats 4000000 in
theorem s_FR_spare_0 {X : zX} {q : Int32 × zM} (C : zC X zR4 prog_5_method_7_code 3 { frames := 2, cells := 0, slots := 0, locals := 42 }) (hr : zRt X (some .boolean)) (E : zE X (some (zI q.1)) q.2 0 0) : ∀ (n : Nat) (l0 : Nat) (M : zM), f_FR_spare_0 (zOD X) n l0 M = some q → zW X 0 0 0 [some (zP l0), none, none] [] M := by
  intro n l0 M h
  rw [f_FR_spare_0] at h
  refine r_aload_n C (z_d dd_FR_spare 0 rfl) rfl ?_
  refine r_ldc2 (v := (4 : Int64)) C (z_d dd_FR_spare 1 rfl) kl_FR_84 ?_
  obtain ⟨h1, h⟩ := zif h
  obtain ⟨q2, c3, h⟩ := zbd h
  refine r_invV (as := [zL (4 : Int64)]) C 4 (S_FR_lacks c3) (z_d dd_FR_spare 2 rfl) ok_FR_lacks iv_FR_lacks se_FR_lacks ml_FR_86 rfl rfl h1 rfl rfl rfl (Nat.le_of_ble_eq_true rfl) ⟨(Nat.le_of_ble_eq_true rfl), (Nat.le_of_ble_eq_true rfl)⟩ ⟨(Nat.le_of_ble_eq_true rfl), (Nat.le_of_ble_eq_true rfl)⟩ ?_
  refine r_if_eq C 15 (z_d dd_FR_spare 3 rfl) (by decide) (fun c27 => ?_) (fun c27 => ?_)
  · have h := zift h c27
    refine r_aload_n C (z_d dd_FR_spare 7 rfl) rfl ?_
    obtain ⟨h4, h⟩ := zif h
    refine r_getP C (z_d dd_FR_spare 8 rfl) lk_FR_9 rfl h4 rfl ?_
    refine r_aload_n C (z_d dd_FR_spare 9 rfl) rfl ?_
    refine r_getI C (z_d dd_FR_spare 10 rfl) lk_FR_45 rfl h4 rfl ?_
    refine r_iconst (v := (4 : Int32)) C (z_d dd_FR_spare 11 rfl) (by decide) ?_
    obtain ⟨h5, h⟩ := zif h
    obtain ⟨q6, c7, h⟩ := zbd h
    refine r_invV (as := [zI (z_i q2.2 l0 6), zI (4 : Int32)]) C 8 (S_Row_number c7) (z_d dd_FR_spare 12 rfl) ok_Row_number iv_Row_number se_Row_number ml_FR_94 rfl rfl h5 rfl rfl rfl (Nat.le_of_ble_eq_true rfl) ⟨(Nat.le_of_ble_eq_true rfl), (Nat.le_of_ble_eq_true rfl)⟩ ⟨(Nat.le_of_ble_eq_true rfl), (Nat.le_of_ble_eq_true rfl)⟩ ?_
    refine r_lstore_n (lv' := [some (zP l0), some (zL q6.1), none]) C (z_d dd_FR_spare 13 rfl) (Nat.le_of_ble_eq_true rfl) rfl ?_
    refine r_aload_n C (z_d dd_FR_spare 14 rfl) rfl ?_
    refine r_dupP C (z_d dd_FR_spare 15 rfl) ?_
    obtain ⟨h8, h⟩ := zif h
    refine r_getI C (z_d dd_FR_spare 16 rfl) lk_FR_45 rfl h8 rfl ?_
    refine r_iconst (v := (4 : Int32)) C (z_d dd_FR_spare 17 rfl) (by decide) ?_
    refine r_iadd C (z_d dd_FR_spare 18 rfl) ?_
    obtain ⟨M9, e10, h⟩ := zlet_ex h
    have h11 := k_i e10 h8
    refine r_putI C (z_d dd_FR_spare 19 rfl) lp_FR_45 rfl h8 e10 ?_
    refine r_aload_n C (z_d dd_FR_spare 20 rfl) rfl ?_
    refine r_lload_n C (z_d dd_FR_spare 21 rfl) rfl ?_
    obtain ⟨q12, c13, h⟩ := zbd h
    refine r_invV (as := [zL q6.1]) C 4 (S_FR_lacks c13) (z_d dd_FR_spare 22 rfl) ok_FR_lacks iv_FR_lacks se_FR_lacks ml_FR_86 rfl rfl h11 rfl rfl rfl (Nat.le_of_ble_eq_true rfl) ⟨(Nat.le_of_ble_eq_true rfl), (Nat.le_of_ble_eq_true rfl)⟩ ⟨(Nat.le_of_ble_eq_true rfl), (Nat.le_of_ble_eq_true rfl)⟩ ?_
    refine r_if_eq C 51 (z_d dd_FR_spare 23 rfl) (by decide) (fun c22 => ?_) (fun c22 => ?_)
    · have h := zift h c22
      refine r_aload_n C (z_d dd_FR_spare 27 rfl) rfl ?_
      refine r_dupP C (z_d dd_FR_spare 28 rfl) ?_
      obtain ⟨h14, h⟩ := zif h
      refine r_getI C (z_d dd_FR_spare 29 rfl) lk_FR_45 rfl h14 rfl ?_
      refine r_lload_n C (z_d dd_FR_spare 30 rfl) rfl ?_
      refine r_l2i C (z_d dd_FR_spare 31 rfl) ?_
      refine r_iadd C (z_d dd_FR_spare 32 rfl) ?_
      obtain ⟨M15, e16, h⟩ := zlet_ex h
      have h17 := k_i e16 h14
      refine r_putI C (z_d dd_FR_spare 33 rfl) lp_FR_45 rfl h14 e16 ?_
      refine r_iconst (v := (1 : Int32)) C (z_d dd_FR_spare 34 rfl) (by decide) ?_
      obtain rfl := z_res h
      exact r_iretZ C E hr (z_d dd_FR_spare 35 rfl) (by decide) (Nat.le_of_ble_eq_true rfl) (Nat.le_of_ble_eq_true rfl)
    · have h := ziff h c22
      refine r_aload_n C (z_d dd_FR_spare 24 rfl) rfl ?_
      obtain ⟨h18, h⟩ := zif h
      obtain ⟨q19, c20, h⟩ := zbd h
      refine r_invV (as := []) C 4 (S_FR_endsWithin c20) (z_d dd_FR_spare 25 rfl) ok_FR_endsWithin iv_FR_endsWithin se_FR_endsWithin ml_FR_90 rfl rfl h18 rfl rfl rfl (Nat.le_of_ble_eq_true rfl) ⟨(Nat.le_of_ble_eq_true rfl), (Nat.le_of_ble_eq_true rfl)⟩ ⟨(Nat.le_of_ble_eq_true rfl), (Nat.le_of_ble_eq_true rfl)⟩ ?_
      obtain ⟨h21, h⟩ := zif h
      obtain rfl := z_res h
      exact r_iretZ C E hr (z_d dd_FR_spare 26 rfl) h21 (Nat.le_of_ble_eq_true rfl) (Nat.le_of_ble_eq_true rfl)
  · have h := ziff h c27
    refine r_aload_n C (z_d dd_FR_spare 4 rfl) rfl ?_
    obtain ⟨h23, h⟩ := zif h
    obtain ⟨q24, c25, h⟩ := zbd h
    refine r_invV (as := []) C 4 (S_FR_endsWithin c25) (z_d dd_FR_spare 5 rfl) ok_FR_endsWithin iv_FR_endsWithin se_FR_endsWithin ml_FR_90 rfl rfl h23 rfl rfl rfl (Nat.le_of_ble_eq_true rfl) ⟨(Nat.le_of_ble_eq_true rfl), (Nat.le_of_ble_eq_true rfl)⟩ ⟨(Nat.le_of_ble_eq_true rfl), (Nat.le_of_ble_eq_true rfl)⟩ ?_
    obtain ⟨h26, h⟩ := zif h
    obtain rfl := z_res h
    exact r_iretZ C E hr (z_d dd_FR_spare 6 rfl) h26 (Nat.le_of_ble_eq_true rfl) (Nat.le_of_ble_eq_true rfl)
def F_FR_spare (O : zO) (n : Nat) (l0 : Nat) (M : zM) : Option (Int32 × zM) := f_FR_spare_0 O n l0 M
theorem S_FR_spare {l : Launch} {D : zD} {n : Nat} {l0 : Nat} {M : zM} {q : Int32 × zM} (h : F_FR_spare D.2.2.2.2 n l0 M = some q) : zMet l D mi_FR_spare [zP l0] M (some (zI q.1)) q.2 :=
  z_met (by decide) (Nat.le_of_ble_eq_true rfl) (fun X C E hr hin hD hl => by
    subst hD
    exact s_FR_spare_0 C hr E n l0 M h)

def f_FR_beginning_0 (O : zO) (n : Nat) (l0 : Nat) (M : zM) : Option (Int32 × zM) :=
  if z_k M l0 = 5 then
  (F_FR_lacks O n l0 (4 : Int64) M).bind fun q2 =>
  if q2.1 = 0 then
  if z_k q2.2 l0 = 5 then
  if z_k q2.2 (z_p q2.2 l0 0) = 9 then
  (F_Row_number O n (z_p q2.2 l0 0) (z_i q2.2 l0 6) (4 : Int32) q2.2).bind fun q6 =>
  if (lg_cmp q6.1 (4247762216 : Int64)) = 0 then
  if z_k q6.2 l0 = 5 then
  zlet (w_i q6.2 l0 6 ((z_i q6.2 l0 6) + (4 : Int32))) fun M22 =>
  (F_FR_head O n l0 M22).bind fun q25 =>
  if q25.1 = 0 ∨ q25.1 = 1 then
  some (q25.1, q25.2)
  else none
  else none
  else
  if (lg_cmp (q6.1 &&& (4294967280 : Int64)) (407710288 : Int64)) = 0 then
  if z_k q6.2 l0 = 5 then
  zlet (w_i q6.2 l0 6 ((z_i q6.2 l0 6) + (4 : Int32))) fun M14 =>
  (F_FR_spare O n l0 M14).bind fun q17 =>
  if q17.1 = 0 ∨ q17.1 = 1 then
  some (q17.1, q17.2)
  else none
  else none
  else
  if z_k q6.2 l0 = 5 then
  if z_k q6.2 (z_p q6.2 l0 2) = 8 then
  (F_Rep_fail O n (z_p q6.2 l0 2) (2 : Int32) (z_i q6.2 l0 6) q6.2).bind fun q10 =>
  if q10.1 = 0 ∨ q10.1 = 1 then
  some (q10.1, q10.2)
  else none
  else none
  else none
  else none
  else none
  else
  if z_k q2.2 l0 = 5 then
  (F_FR_endsWithin O n l0 q2.2).bind fun q30 =>
  if q30.1 = 0 ∨ q30.1 = 1 then
  some (q30.1, q30.2)
  else none
  else none
  else none
set_option maxRecDepth 100000 in
set_option maxHeartbeats 4000000 in
theorem s_FR_beginning_0 {X : zX} {q : Int32 × zM} (C : zC X zR4 prog_5_method_4_code 3 { frames := 4, cells := 0, slots := 0, locals := 88 }) (hr : zRt X (some .boolean)) (E : zE X (some (zI q.1)) q.2 0 0) : ∀ (n : Nat) (l0 : Nat) (M : zM), f_FR_beginning_0 (zOD X) n l0 M = some q → zW X 0 0 0 [some (zP l0), none, none] [] M := by
  intro n l0 M h
  rw [f_FR_beginning_0] at h
  refine r_aload_n C (z_d dd_FR_beginning 0 rfl) rfl ?_
  refine r_ldc2 (v := (4 : Int64)) C (z_d dd_FR_beginning 1 rfl) kl_FR_84 ?_
  obtain ⟨h1, h⟩ := zif h
  obtain ⟨q2, c3, h⟩ := zbd h
  refine r_invV (as := [zL (4 : Int64)]) C 4 (S_FR_lacks c3) (z_d dd_FR_beginning 2 rfl) ok_FR_lacks iv_FR_lacks se_FR_lacks ml_FR_86 rfl rfl h1 rfl rfl rfl (Nat.le_of_ble_eq_true rfl) ⟨(Nat.le_of_ble_eq_true rfl), (Nat.le_of_ble_eq_true rfl)⟩ ⟨(Nat.le_of_ble_eq_true rfl), (Nat.le_of_ble_eq_true rfl)⟩ ?_
  refine r_if_eq C 15 (z_d dd_FR_beginning 3 rfl) (by decide) (fun c33 => ?_) (fun c33 => ?_)
  · have h := zift h c33
    refine r_aload_n C (z_d dd_FR_beginning 7 rfl) rfl ?_
    obtain ⟨h4, h⟩ := zif h
    refine r_getP C (z_d dd_FR_beginning 8 rfl) lk_FR_9 rfl h4 rfl ?_
    refine r_aload_n C (z_d dd_FR_beginning 9 rfl) rfl ?_
    refine r_getI C (z_d dd_FR_beginning 10 rfl) lk_FR_45 rfl h4 rfl ?_
    refine r_iconst (v := (4 : Int32)) C (z_d dd_FR_beginning 11 rfl) (by decide) ?_
    obtain ⟨h5, h⟩ := zif h
    obtain ⟨q6, c7, h⟩ := zbd h
    refine r_invV (as := [zI (z_i q2.2 l0 6), zI (4 : Int32)]) C 8 (S_Row_number c7) (z_d dd_FR_beginning 12 rfl) ok_Row_number iv_Row_number se_Row_number ml_FR_94 rfl rfl h5 rfl rfl rfl (Nat.le_of_ble_eq_true rfl) ⟨(Nat.le_of_ble_eq_true rfl), (Nat.le_of_ble_eq_true rfl)⟩ ⟨(Nat.le_of_ble_eq_true rfl), (Nat.le_of_ble_eq_true rfl)⟩ ?_
    refine r_lstore_n (lv' := [some (zP l0), some (zL q6.1), none]) C (z_d dd_FR_beginning 13 rfl) (Nat.le_of_ble_eq_true rfl) rfl ?_
    refine r_lload_n C (z_d dd_FR_beginning 14 rfl) rfl ?_
    refine r_ldc2 (v := (4247762216 : Int64)) C (z_d dd_FR_beginning 15 rfl) kl_FR_98 ?_
    refine r_lcmp C (z_d dd_FR_beginning 16 rfl) ?_
    refine r_if_ne C 51 (z_d dd_FR_beginning 17 rfl) (by decide) (fun c28 => ?_) (fun c28 => ?_)
    · have h := ziff h c28
      refine r_lload_n C (z_d dd_FR_beginning 27 rfl) rfl ?_
      refine r_ldc2 (v := (4294967280 : Int64)) C (z_d dd_FR_beginning 28 rfl) kl_FR_103 ?_
      refine r_land C (z_d dd_FR_beginning 29 rfl) ?_
      refine r_ldc2 (v := (407710288 : Int64)) C (z_d dd_FR_beginning 30 rfl) kl_FR_105 ?_
      refine r_lcmp C (z_d dd_FR_beginning 31 rfl) ?_
      refine r_if_ne C 78 (z_d dd_FR_beginning 32 rfl) (by decide) (fun c20 => ?_) (fun c20 => ?_)
      · have h := ziff h c20
        refine r_aload_n C (z_d dd_FR_beginning 42 rfl) rfl ?_
        obtain ⟨h8, h⟩ := zif h
        refine r_getP C (z_d dd_FR_beginning 43 rfl) lk_FR_19 rfl h8 rfl ?_
        refine r_iconst (v := (2 : Int32)) C (z_d dd_FR_beginning 44 rfl) (by decide) ?_
        refine r_aload_n C (z_d dd_FR_beginning 45 rfl) rfl ?_
        refine r_getI C (z_d dd_FR_beginning 46 rfl) lk_FR_45 rfl h8 rfl ?_
        obtain ⟨h9, h⟩ := zif h
        obtain ⟨q10, c11, h⟩ := zbd h
        refine r_invV (as := [zI (2 : Int32), zI (z_i q6.2 l0 6)]) C 7 (S_Rep_fail c11) (z_d dd_FR_beginning 47 rfl) ok_Rep_fail iv_Rep_fail se_Rep_fail ml_FR_110 rfl rfl h9 rfl rfl rfl (Nat.le_of_ble_eq_true rfl) ⟨(Nat.le_of_ble_eq_true rfl), (Nat.le_of_ble_eq_true rfl)⟩ ⟨(Nat.le_of_ble_eq_true rfl), (Nat.le_of_ble_eq_true rfl)⟩ ?_
        obtain ⟨h12, h⟩ := zif h
        obtain rfl := z_res h
        exact r_iretZ C E hr (z_d dd_FR_beginning 48 rfl) h12 (Nat.le_of_ble_eq_true rfl) (Nat.le_of_ble_eq_true rfl)
      · have h := zift h c20
        refine r_aload_n C (z_d dd_FR_beginning 33 rfl) rfl ?_
        refine r_dupP C (z_d dd_FR_beginning 34 rfl) ?_
        obtain ⟨h13, h⟩ := zif h
        refine r_getI C (z_d dd_FR_beginning 35 rfl) lk_FR_45 rfl h13 rfl ?_
        refine r_iconst (v := (4 : Int32)) C (z_d dd_FR_beginning 36 rfl) (by decide) ?_
        refine r_iadd C (z_d dd_FR_beginning 37 rfl) ?_
        obtain ⟨M14, e15, h⟩ := zlet_ex h
        have h16 := k_i e15 h13
        refine r_putI C (z_d dd_FR_beginning 38 rfl) lp_FR_45 rfl h13 e15 ?_
        refine r_aload_n C (z_d dd_FR_beginning 39 rfl) rfl ?_
        obtain ⟨q17, c18, h⟩ := zbd h
        refine r_invV (as := []) C 4 (S_FR_spare c18) (z_d dd_FR_beginning 40 rfl) ok_FR_spare iv_FR_spare se_FR_spare ml_FR_107 rfl rfl h16 rfl rfl rfl (Nat.le_of_ble_eq_true rfl) ⟨(Nat.le_of_ble_eq_true rfl), (Nat.le_of_ble_eq_true rfl)⟩ ⟨(Nat.le_of_ble_eq_true rfl), (Nat.le_of_ble_eq_true rfl)⟩ ?_
        obtain ⟨h19, h⟩ := zif h
        obtain rfl := z_res h
        exact r_iretZ C E hr (z_d dd_FR_beginning 41 rfl) h19 (Nat.le_of_ble_eq_true rfl) (Nat.le_of_ble_eq_true rfl)
    · have h := zift h c28
      refine r_aload_n C (z_d dd_FR_beginning 18 rfl) rfl ?_
      refine r_dupP C (z_d dd_FR_beginning 19 rfl) ?_
      obtain ⟨h21, h⟩ := zif h
      refine r_getI C (z_d dd_FR_beginning 20 rfl) lk_FR_45 rfl h21 rfl ?_
      refine r_iconst (v := (4 : Int32)) C (z_d dd_FR_beginning 21 rfl) (by decide) ?_
      refine r_iadd C (z_d dd_FR_beginning 22 rfl) ?_
      obtain ⟨M22, e23, h⟩ := zlet_ex h
      have h24 := k_i e23 h21
      refine r_putI C (z_d dd_FR_beginning 23 rfl) lp_FR_45 rfl h21 e23 ?_
      refine r_aload_n C (z_d dd_FR_beginning 24 rfl) rfl ?_
      obtain ⟨q25, c26, h⟩ := zbd h
      refine r_invV (as := []) C 4 (S_FR_head c26) (z_d dd_FR_beginning 25 rfl) ok_FR_head iv_FR_head se_FR_head ml_FR_100 rfl rfl h24 rfl rfl rfl (Nat.le_of_ble_eq_true rfl) ⟨(Nat.le_of_ble_eq_true rfl), (Nat.le_of_ble_eq_true rfl)⟩ ⟨(Nat.le_of_ble_eq_true rfl), (Nat.le_of_ble_eq_true rfl)⟩ ?_
      obtain ⟨h27, h⟩ := zif h
      obtain rfl := z_res h
      exact r_iretZ C E hr (z_d dd_FR_beginning 26 rfl) h27 (Nat.le_of_ble_eq_true rfl) (Nat.le_of_ble_eq_true rfl)
  · have h := ziff h c33
    refine r_aload_n C (z_d dd_FR_beginning 4 rfl) rfl ?_
    obtain ⟨h29, h⟩ := zif h
    obtain ⟨q30, c31, h⟩ := zbd h
    refine r_invV (as := []) C 4 (S_FR_endsWithin c31) (z_d dd_FR_beginning 5 rfl) ok_FR_endsWithin iv_FR_endsWithin se_FR_endsWithin ml_FR_90 rfl rfl h29 rfl rfl rfl (Nat.le_of_ble_eq_true rfl) ⟨(Nat.le_of_ble_eq_true rfl), (Nat.le_of_ble_eq_true rfl)⟩ ⟨(Nat.le_of_ble_eq_true rfl), (Nat.le_of_ble_eq_true rfl)⟩ ?_
    obtain ⟨h32, h⟩ := zif h
    obtain rfl := z_res h
    exact r_iretZ C E hr (z_d dd_FR_beginning 6 rfl) h32 (Nat.le_of_ble_eq_true rfl) (Nat.le_of_ble_eq_true rfl)
def F_FR_beginning (O : zO) (n : Nat) (l0 : Nat) (M : zM) : Option (Int32 × zM) := f_FR_beginning_0 O n l0 M
theorem S_FR_beginning {l : Launch} {D : zD} {n : Nat} {l0 : Nat} {M : zM} {q : Int32 × zM} (h : F_FR_beginning D.2.2.2.2 n l0 M = some q) : zMet l D mi_FR_beginning [zP l0] M (some (zI q.1)) q.2 :=
  z_met (by decide) (Nat.le_of_ble_eq_true rfl) (fun X C E hr hin hD hl => by
    subst hD
    exact s_FR_beginning_0 C hr E n l0 M h)

def f_SF_read_10 (O : zO) (n : Nat) (M : zM) : Option (Int32 × zM) :=
  some ((-40 : Int32), M)
set_option maxRecDepth 100000 in
set_option maxHeartbeats 4000000 in
theorem s_SF_read_10 {X : zX} {q : Int32 × zM} (C : zC X zR0 prog_1_method_7_code 3 { frames := 7, cells := 0, slots := 0, locals := 218 }) (hr : zRt X (some .int)) (E : zE X (some (zI q.1)) q.2 0 0) : ∀ (n : Nat) (M : zM), f_SF_read_10 (zOD X) n M = some q → zW X 0 0 10 [none, none, none] [] M := by
  intro n M h
  rw [f_SF_read_10] at h
  refine r_bipush (v := (-40 : Int32)) C (z_d dd_SF_read 5 rfl) (by decide) ?_
  obtain rfl := z_res h
  exact r_iretI C E hr (z_d dd_SF_read 6 rfl) (Nat.le_of_ble_eq_true rfl) (Nat.le_of_ble_eq_true rfl)
def f_SF_read_75 (O : zO) (n : Nat) (l0 : Nat) (M : zM) : Option (Int32 × zM) :=
  if z_k M l0 = 1 then
  if z_k M (z_p M l0 3) = 8 then
  if (z_i M (z_p M l0 3) 0) = 0 then
  if z_k M (z_p M l0 0) = 9 then
  zlet (w_i M (z_p M l0 3) 1 (z_i M (z_p M l0 0) 1)) fun M4 =>
  if z_k M4 (z_p M4 l0 1) = 9 then
  (F_Row_empty O n (z_p M4 l0 1) M4).bind fun q10 =>
  if z_k q10.2 l0 = 1 then
  if z_k q10.2 (z_p q10.2 l0 4) = 3 then
  if z_k q10.2 (z_p q10.2 (z_p q10.2 l0 4) 0) = 9 then
  if z_k q10.2 (z_p q10.2 l0 1) = 9 then
  (F_Row_putPart O n (z_p q10.2 l0 1) (z_p q10.2 (z_p q10.2 l0 4) 0) (0 : Int32) (z_i q10.2 (z_p q10.2 (z_p q10.2 l0 4) 0) 1) q10.2).bind fun q16 =>
  if z_k q16.2 l0 = 1 then
  if z_k q16.2 (z_p q16.2 l0 1) = 9 then
  some ((z_i q16.2 (z_p q16.2 l0 1) 1), q16.2)
  else none
  else none
  else none
  else none
  else none
  else none
  else none
  else none
  else
  some ((-(z_i M (z_p M l0 3) 0)), M)
  else none
  else none
set_option maxRecDepth 100000 in
set_option maxHeartbeats 4000000 in
theorem s_SF_read_75 {X : zX} {q : Int32 × zM} (C : zC X zR0 prog_1_method_7_code 3 { frames := 7, cells := 0, slots := 0, locals := 218 }) (hr : zRt X (some .int)) (E : zE X (some (zI q.1)) q.2 0 0) : ∀ (n : Nat) (l0 : Nat) (M : zM), f_SF_read_75 (zOD X) n l0 M = some q → zW X 0 0 75 [some (zP l0), none, none] [] M := by
  intro n l0 M h
  rw [f_SF_read_75] at h
  refine r_aload_n C (z_d dd_SF_read 35 rfl) rfl ?_
  obtain ⟨h1, h⟩ := zif h
  refine r_getP C (z_d dd_SF_read 36 rfl) lk_SF_32 rfl h1 rfl ?_
  obtain ⟨h2, h⟩ := zif h
  refine r_getI C (z_d dd_SF_read 37 rfl) lk_SF_98 rfl h2 rfl ?_
  refine r_if_eq C 94 (z_d dd_SF_read 38 rfl) (by decide) (fun c20 => ?_) (fun c20 => ?_)
  · have h := zift h c20
    refine r_aload_n C (z_d dd_SF_read 44 rfl) rfl ?_
    refine r_getP C (z_d dd_SF_read 45 rfl) lk_SF_32 rfl h1 rfl ?_
    refine r_aload_n C (z_d dd_SF_read 46 rfl) rfl ?_
    refine r_getP C (z_d dd_SF_read 47 rfl) lk_SF_14 rfl h1 rfl ?_
    obtain ⟨h3, h⟩ := zif h
    refine r_getI C (z_d dd_SF_read 48 rfl) lk_SF_63 rfl h3 rfl ?_
    obtain ⟨M4, e5, h⟩ := zlet_ex h
    have h6 := k_i e5 h1
    have h7 := k_i e5 h2
    have h8 := k_i e5 h3
    refine r_putI C (z_d dd_SF_read 49 rfl) lp_SF_101 rfl h2 e5 ?_
    refine r_aload_n C (z_d dd_SF_read 50 rfl) rfl ?_
    refine r_getP C (z_d dd_SF_read 51 rfl) lk_SF_19 rfl h6 rfl ?_
    obtain ⟨h9, h⟩ := zif h
    obtain ⟨q10, c11, h⟩ := zbd h
    refine r_invV (as := []) C 8 (S_Row_empty c11) (z_d dd_SF_read 52 rfl) ok_Row_empty iv_Row_empty se_Row_empty ml_SF_71 rfl rfl h9 rfl rfl rfl (Nat.le_of_ble_eq_true rfl) ⟨(Nat.le_of_ble_eq_true rfl), (Nat.le_of_ble_eq_true rfl)⟩ ⟨(Nat.le_of_ble_eq_true rfl), (Nat.le_of_ble_eq_true rfl)⟩ ?_
    refine r_aload_n C (z_d dd_SF_read 53 rfl) rfl ?_
    obtain ⟨h12, h⟩ := zif h
    refine r_getP C (z_d dd_SF_read 54 rfl) lk_SF_19 rfl h12 rfl ?_
    refine r_aload_n C (z_d dd_SF_read 55 rfl) rfl ?_
    refine r_getP C (z_d dd_SF_read 56 rfl) lk_SF_44 rfl h12 rfl ?_
    obtain ⟨h13, h⟩ := zif h
    refine r_getP C (z_d dd_SF_read 57 rfl) lk_SF_104 rfl h13 rfl ?_
    refine r_iconst (v := (0 : Int32)) C (z_d dd_SF_read 58 rfl) (by decide) ?_
    refine r_aload_n C (z_d dd_SF_read 59 rfl) rfl ?_
    refine r_getP C (z_d dd_SF_read 60 rfl) lk_SF_44 rfl h12 rfl ?_
    refine r_getP C (z_d dd_SF_read 61 rfl) lk_SF_104 rfl h13 rfl ?_
    obtain ⟨h14, h⟩ := zif h
    refine r_getI C (z_d dd_SF_read 62 rfl) lk_SF_63 rfl h14 rfl ?_
    obtain ⟨h15, h⟩ := zif h
    obtain ⟨q16, c17, h⟩ := zbd h
    refine r_invV (as := [zP (z_p q10.2 (z_p q10.2 l0 4) 0), zI (0 : Int32), zI (z_i q10.2 (z_p q10.2 (z_p q10.2 l0 4) 0) 1)]) C 8 (S_Row_putPart c17) (z_d dd_SF_read 63 rfl) ok_Row_putPart iv_Row_putPart se_Row_putPart ml_SF_107 rfl rfl h15 rfl rfl rfl (Nat.le_of_ble_eq_true rfl) ⟨(Nat.le_of_ble_eq_true rfl), (Nat.le_of_ble_eq_true rfl)⟩ ⟨(Nat.le_of_ble_eq_true rfl), (Nat.le_of_ble_eq_true rfl)⟩ ?_
    refine r_aload_n C (z_d dd_SF_read 64 rfl) rfl ?_
    obtain ⟨h18, h⟩ := zif h
    refine r_getP C (z_d dd_SF_read 65 rfl) lk_SF_19 rfl h18 rfl ?_
    obtain ⟨h19, h⟩ := zif h
    refine r_getI C (z_d dd_SF_read 66 rfl) lk_SF_63 rfl h19 rfl ?_
    obtain rfl := z_res h
    exact r_iretI C E hr (z_d dd_SF_read 67 rfl) (Nat.le_of_ble_eq_true rfl) (Nat.le_of_ble_eq_true rfl)
  · have h := ziff h c20
    refine r_aload_n C (z_d dd_SF_read 39 rfl) rfl ?_
    refine r_getP C (z_d dd_SF_read 40 rfl) lk_SF_32 rfl h1 rfl ?_
    refine r_getI C (z_d dd_SF_read 41 rfl) lk_SF_98 rfl h2 rfl ?_
    refine r_ineg C (z_d dd_SF_read 42 rfl) ?_
    obtain rfl := z_res h
    exact r_iretI C E hr (z_d dd_SF_read 43 rfl) (Nat.le_of_ble_eq_true rfl) (Nat.le_of_ble_eq_true rfl)
def f_SF_read_69 (O : zO) (k23 : Nat → Int32 → zM → Option (Int32 × zM)) (n : Nat) (l0 : Nat) (l2 : Int32) (M : zM) : Option (Int32 × zM) :=
  zlet (l2 + (1 : Int32)) fun v1 =>
  k23 l0 v1 M
set_option maxRecDepth 100000 in
set_option maxHeartbeats 4000000 in
theorem s_SF_read_69 {X : zX} {q : Int32 × zM} (C : zC X zR0 prog_1_method_7_code 3 { frames := 7, cells := 0, slots := 0, locals := 218 }) (hr : zRt X (some .int)) (E : zE X (some (zI q.1)) q.2 0 0) {k23 : Nat → Int32 → zM → Option (Int32 × zM)} (hk23 : ∀ (l0 : Nat) (l2 : Int32) (M : zM), k23 l0 l2 M = some q → zW X 0 0 23 [some (zP l0), none, some (zI l2)] [] M) : ∀ (n : Nat) (l0 : Nat) (l2 : Int32) (M : zM), f_SF_read_69 (zOD X) k23 n l0 l2 M = some q → zW X 0 0 69 [some (zP l0), none, some (zI l2)] [] M := by
  intro n l0 l2 M h
  rw [f_SF_read_69] at h
  obtain ⟨v1, e2, h⟩ := zlet_ex h
  refine r_iinc (v := v1) (lv' := [some (zP l0), none, some (zI v1)]) C (z_d dd_SF_read 33 rfl) rfl (Nat.le_of_ble_eq_true rfl) (by rw [e2]; rfl) rfl ?_
  refine r_goto C 23 (z_d dd_SF_read 34 rfl) (by decide) ?_
  exact hk23 l0 v1 M h
def f_SF_read_23 (O : zO) : Nat → Nat → Int32 → zM → Option (Int32 × zM)
  | 0, _, _, _ => none
  | n + 1, l0, l2, M =>
    if (12000 : Int32) < l2 then
    f_SF_read_75 O n l0 M
    else
    if z_k M l0 = 1 then
    if z_k M (z_p M l0 5) = 5 then
    (F_FR_goesOn O n (z_p M l0 5) M).bind fun q3 =>
    if q3.1 = 0 then
    f_SF_read_75 O n l0 q3.2
    else
    if z_k q3.2 l0 = 1 then
    if z_k q3.2 (z_p q3.2 l0 5) = 5 then
    if (z_i q3.2 (z_p q3.2 l0 5) 7) = 0 then
    (F_FR_beginning O n (z_p q3.2 l0 5) q3.2).bind fun q7 =>
    f_SF_read_69 O (f_SF_read_23 O n) n l0 l2 q7.2
    else
    (F_FR_block O n (z_p q3.2 l0 5) q3.2).bind fun q9 =>
    f_SF_read_69 O (f_SF_read_23 O n) n l0 l2 q9.2
    else none
    else none
    else none
    else none
set_option maxRecDepth 100000 in
set_option maxHeartbeats 4000000 in
theorem s_SF_read_23 {X : zX} {q : Int32 × zM} (C : zC X zR0 prog_1_method_7_code 3 { frames := 7, cells := 0, slots := 0, locals := 218 }) (hr : zRt X (some .int)) (E : zE X (some (zI q.1)) q.2 0 0) : ∀ (n : Nat) (l0 : Nat) (l2 : Int32) (M : zM), f_SF_read_23 (zOD X) n l0 l2 M = some q → zW X 0 0 23 [some (zP l0), none, some (zI l2)] [] M := by
  intro n
  induction n with
  | zero => intro l0 l2 M h; rw [f_SF_read_23] at h; cases h
  | succ n ih =>
    intro l0 l2 M h
    rw [f_SF_read_23] at h
    refine r_iload_n C (z_d dd_SF_read 13 rfl) rfl ?_
    refine r_sipush (v := (12000 : Int32)) C (z_d dd_SF_read 14 rfl) (by decide) ?_
    refine r_icmp_gt C 75 (z_d dd_SF_read 15 rfl) (by decide) (fun c13 => ?_) (fun c13 => ?_)
    · have h := zift h c13
      refine r_mk [true, false, false] ?_
      exact s_SF_read_75 C hr E n l0 M h
    · have h := ziff h c13
      refine r_aload_n C (z_d dd_SF_read 16 rfl) rfl ?_
      obtain ⟨h1, h⟩ := zif h
      refine r_getP C (z_d dd_SF_read 17 rfl) lk_SF_52 rfl h1 rfl ?_
      obtain ⟨h2, h⟩ := zif h
      obtain ⟨q3, c4, h⟩ := zbd h
      refine r_invV (as := []) C 4 (S_FR_goesOn c4) (z_d dd_SF_read 18 rfl) ok_FR_goesOn iv_FR_goesOn se_FR_goesOn ml_SF_84 rfl rfl h2 rfl rfl rfl (Nat.le_of_ble_eq_true rfl) ⟨(Nat.le_of_ble_eq_true rfl), (Nat.le_of_ble_eq_true rfl)⟩ ⟨(Nat.le_of_ble_eq_true rfl), (Nat.le_of_ble_eq_true rfl)⟩ ?_
      refine r_if_eq C 75 (z_d dd_SF_read 19 rfl) (by decide) (fun c12 => ?_) (fun c12 => ?_)
      · have h := zift h c12
        refine r_mk [true, false, false] ?_
        exact s_SF_read_75 C hr E n l0 q3.2 h
      · have h := ziff h c12
        refine r_aload_n C (z_d dd_SF_read 20 rfl) rfl ?_
        obtain ⟨h5, h⟩ := zif h
        refine r_getP C (z_d dd_SF_read 21 rfl) lk_SF_52 rfl h5 rfl ?_
        obtain ⟨h6, h⟩ := zif h
        refine r_getI C (z_d dd_SF_read 22 rfl) lk_SF_88 rfl h6 rfl ?_
        refine r_if_eq C 61 (z_d dd_SF_read 23 rfl) (by decide) (fun c11 => ?_) (fun c11 => ?_)
        · have h := zift h c11
          refine r_aload_n C (z_d dd_SF_read 29 rfl) rfl ?_
          refine r_getP C (z_d dd_SF_read 30 rfl) lk_SF_52 rfl h5 rfl ?_
          obtain ⟨q7, c8, h⟩ := zbd h
          refine r_invV (as := []) C 4 (S_FR_beginning c8) (z_d dd_SF_read 31 rfl) ok_FR_beginning iv_FR_beginning se_FR_beginning ml_SF_95 rfl rfl h6 rfl rfl rfl (Nat.le_of_ble_eq_true rfl) ⟨(Nat.le_of_ble_eq_true rfl), (Nat.le_of_ble_eq_true rfl)⟩ ⟨(Nat.le_of_ble_eq_true rfl), (Nat.le_of_ble_eq_true rfl)⟩ ?_
          refine r_popI C (z_d dd_SF_read 32 rfl) ?_
          exact s_SF_read_69 C hr E ih n l0 l2 q7.2 h
        · have h := ziff h c11
          refine r_aload_n C (z_d dd_SF_read 24 rfl) rfl ?_
          refine r_getP C (z_d dd_SF_read 25 rfl) lk_SF_52 rfl h5 rfl ?_
          obtain ⟨q9, c10, h⟩ := zbd h
          refine r_invV (as := []) C 4 (S_FR_block c10) (z_d dd_SF_read 26 rfl) ok_FR_block iv_FR_block se_FR_block ml_SF_92 rfl rfl h6 rfl rfl rfl (Nat.le_of_ble_eq_true rfl) ⟨(Nat.le_of_ble_eq_true rfl), (Nat.le_of_ble_eq_true rfl)⟩ ⟨(Nat.le_of_ble_eq_true rfl), (Nat.le_of_ble_eq_true rfl)⟩ ?_
          refine r_popI C (z_d dd_SF_read 27 rfl) ?_
          refine r_goto C 69 (z_d dd_SF_read 28 rfl) (by decide) ?_
          exact s_SF_read_69 C hr E ih n l0 l2 q9.2 h
def f_SF_read_0 (O : zO) (n : Nat) (l0 : Nat) (l1 : Int32) (M : zM) : Option (Int32 × zM) :=
  if l1 < 0 then
  f_SF_read_10 O n M
  else
  if l1 ≤ (32768 : Int32) then
  if z_k M l0 = 1 then
  if z_k M (z_p M l0 5) = 5 then
  (F_FR_start O n (z_p M l0 5) l1 M).bind fun q3 =>
  f_SF_read_23 O n l0 (0 : Int32) q3.2
  else none
  else none
  else
  f_SF_read_10 O n M
set_option maxRecDepth 100000 in
set_option maxHeartbeats 4000000 in
theorem s_SF_read_0 {X : zX} {q : Int32 × zM} (C : zC X zR0 prog_1_method_7_code 3 { frames := 7, cells := 0, slots := 0, locals := 218 }) (hr : zRt X (some .int)) (E : zE X (some (zI q.1)) q.2 0 0) : ∀ (n : Nat) (l0 : Nat) (l1 : Int32) (M : zM), f_SF_read_0 (zOD X) n l0 l1 M = some q → zW X 0 0 0 [some (zP l0), some (zI l1), none] [] M := by
  intro n l0 l1 M h
  rw [f_SF_read_0] at h
  refine r_iload_n C (z_d dd_SF_read 0 rfl) rfl ?_
  refine r_if_lt C 10 (z_d dd_SF_read 1 rfl) (by decide) (fun c6 => ?_) (fun c6 => ?_)
  · have h := zift h c6
    refine r_mk [false, false, false] ?_
    exact s_SF_read_10 C hr E n M h
  · have h := ziff h c6
    refine r_iload_n C (z_d dd_SF_read 2 rfl) rfl ?_
    refine r_ldc (v := (32768 : Int32)) C (z_d dd_SF_read 3 rfl) ki_SF_18 ?_
    refine r_icmp_le C 13 (z_d dd_SF_read 4 rfl) (by decide) (fun c5 => ?_) (fun c5 => ?_)
    · have h := zift h c5
      refine r_aload_n C (z_d dd_SF_read 7 rfl) rfl ?_
      obtain ⟨h1, h⟩ := zif h
      refine r_getP C (z_d dd_SF_read 8 rfl) lk_SF_52 rfl h1 rfl ?_
      refine r_iload_n C (z_d dd_SF_read 9 rfl) rfl ?_
      obtain ⟨h2, h⟩ := zif h
      obtain ⟨q3, c4, h⟩ := zbd h
      refine r_invV (as := [zI l1]) C 4 (S_FR_start c4) (z_d dd_SF_read 10 rfl) ok_FR_start iv_FR_start se_FR_start ml_SF_81 rfl rfl h2 rfl rfl rfl (Nat.le_of_ble_eq_true rfl) ⟨(Nat.le_of_ble_eq_true rfl), (Nat.le_of_ble_eq_true rfl)⟩ ⟨(Nat.le_of_ble_eq_true rfl), (Nat.le_of_ble_eq_true rfl)⟩ ?_
      refine r_iconst (v := (0 : Int32)) C (z_d dd_SF_read 11 rfl) (by decide) ?_
      refine r_istore_n (lv' := [some (zP l0), some (zI l1), some (zI (0 : Int32))]) C (z_d dd_SF_read 12 rfl) (Nat.le_of_ble_eq_true rfl) rfl ?_
      refine r_mk [true, false, true] ?_
      exact s_SF_read_23 C hr E n l0 (0 : Int32) q3.2 h
    · have h := ziff h c5
      refine r_mk [false, false, false] ?_
      exact s_SF_read_10 C hr E n M h
def F_SF_read (O : zO) (n : Nat) (l0 : Nat) (l1 : Int32) (M : zM) : Option (Int32 × zM) := f_SF_read_0 O n l0 l1 M
theorem S_SF_read {l : Launch} {D : zD} {n : Nat} {l0 : Nat} {l1 : Int32} {M : zM} {q : Int32 × zM} (h : F_SF_read D.2.2.2.2 n l0 l1 M = some q) : zMet l D mi_SF_read [zP l0, zI l1] M (some (zI q.1)) q.2 :=
  z_met (by decide) (Nat.le_of_ble_eq_true rfl) (fun X C E hr hin hD hl => by
    subst hD
    exact s_SF_read_0 C hr E n l0 l1 M h)

def f_SF_about_0 (O : zO) (n : Nat) (l0 : Nat) (l1 : Int32) (M : zM) : Option (Int32 × zM) :=
  if l1 = (0 : Int32) then
  if z_k M l0 = 1 then
  if z_k M (z_p M l0 3) = 8 then
  some ((z_i M (z_p M l0 3) 1), M)
  else none
  else none
  else
  if l1 = (1 : Int32) then
  if z_k M l0 = 1 then
  if z_k M (z_p M l0 3) = 8 then
  some ((z_i M (z_p M l0 3) 2), M)
  else none
  else none
  else
  if l1 = (2 : Int32) then
  if z_k M l0 = 1 then
  if z_k M (z_p M l0 3) = 8 then
  some ((z_i M (z_p M l0 3) 3), M)
  else none
  else none
  else
  if l1 = (3 : Int32) then
  if z_k M l0 = 1 then
  if z_k M (z_p M l0 3) = 8 then
  some ((z_i M (z_p M l0 3) 4), M)
  else none
  else none
  else
  if l1 = (4 : Int32) then
  if z_k M l0 = 1 then
  if z_k M (z_p M l0 4) = 3 then
  if z_k M (z_p M (z_p M l0 4) 0) = 9 then
  some ((z_i M (z_p M (z_p M l0 4) 0) 1), M)
  else none
  else none
  else none
  else
  if l1 = (5 : Int32) then
  if z_k M l0 = 1 then
  if z_k M (z_p M l0 3) = 8 then
  some ((z_i M (z_p M l0 3) 5), M)
  else none
  else none
  else
  if l1 = (6 : Int32) then
  if z_k M l0 = 1 then
  if z_k M (z_p M l0 2) = 4 then
  if z_k M (z_p M (z_p M l0 2) 0) = 9 then
  some ((z_i M (z_p M (z_p M l0 2) 0) 1), M)
  else none
  else none
  else none
  else
  if l1 = (7 : Int32) then
  if z_k M l0 = 1 then
  if z_k M (z_p M l0 2) = 4 then
  some ((z_j M (z_p M l0 2) 2).toInt32, M)
  else none
  else none
  else
  some ((-1 : Int32), M)
set_option maxRecDepth 100000 in
set_option maxHeartbeats 4000000 in
theorem s_SF_about_0 {X : zX} {q : Int32 × zM} (C : zC X zR0 prog_1_method_8_code 2 { frames := 0, cells := 0, slots := 0, locals := 0 }) (hr : zRt X (some .int)) (E : zE X (some (zI q.1)) q.2 0 0) : ∀ (n : Nat) (l0 : Nat) (l1 : Int32) (M : zM), f_SF_about_0 (zOD X) n l0 l1 M = some q → zW X 0 0 0 [some (zP l0), some (zI l1)] [] M := by
  intro n l0 l1 M h
  rw [f_SF_about_0] at h
  refine r_iload_n C (z_d dd_SF_about 0 rfl) rfl ?_
  by_cases c3 : l1 = (0 : Int32)
  · have h := zift h c3
    refine r_tabIn C 48 (z_d dd_SF_about 1 rfl) (by rw [c3]; decide) (by rw [c3]; decide) (by rw [c3]; rfl) (by decide) ?_
    refine r_aload_n C (z_d dd_SF_about 2 rfl) rfl ?_
    obtain ⟨h1, h⟩ := zif h
    refine r_getP C (z_d dd_SF_about 3 rfl) lk_SF_32 rfl h1 rfl ?_
    obtain ⟨h2, h⟩ := zif h
    refine r_getI C (z_d dd_SF_about 4 rfl) lk_SF_101 rfl h2 rfl ?_
    obtain rfl := z_res h
    exact r_iretI C E hr (z_d dd_SF_about 5 rfl) (Nat.le_of_ble_eq_true rfl) (Nat.le_of_ble_eq_true rfl)
  have h := ziff h c3
  by_cases c6 : l1 = (1 : Int32)
  · have h := zift h c6
    refine r_tabIn C 56 (z_d dd_SF_about 1 rfl) (by rw [c6]; decide) (by rw [c6]; decide) (by rw [c6]; rfl) (by decide) ?_
    refine r_aload_n C (z_d dd_SF_about 6 rfl) rfl ?_
    obtain ⟨h4, h⟩ := zif h
    refine r_getP C (z_d dd_SF_about 7 rfl) lk_SF_32 rfl h4 rfl ?_
    obtain ⟨h5, h⟩ := zif h
    refine r_getI C (z_d dd_SF_about 8 rfl) lk_SF_111 rfl h5 rfl ?_
    obtain rfl := z_res h
    exact r_iretI C E hr (z_d dd_SF_about 9 rfl) (Nat.le_of_ble_eq_true rfl) (Nat.le_of_ble_eq_true rfl)
  have h := ziff h c6
  by_cases c9 : l1 = (2 : Int32)
  · have h := zift h c9
    refine r_tabIn C 64 (z_d dd_SF_about 1 rfl) (by rw [c9]; decide) (by rw [c9]; decide) (by rw [c9]; rfl) (by decide) ?_
    refine r_aload_n C (z_d dd_SF_about 10 rfl) rfl ?_
    obtain ⟨h7, h⟩ := zif h
    refine r_getP C (z_d dd_SF_about 11 rfl) lk_SF_32 rfl h7 rfl ?_
    obtain ⟨h8, h⟩ := zif h
    refine r_getI C (z_d dd_SF_about 12 rfl) lk_SF_114 rfl h8 rfl ?_
    obtain rfl := z_res h
    exact r_iretI C E hr (z_d dd_SF_about 13 rfl) (Nat.le_of_ble_eq_true rfl) (Nat.le_of_ble_eq_true rfl)
  have h := ziff h c9
  by_cases c12 : l1 = (3 : Int32)
  · have h := zift h c12
    refine r_tabIn C 72 (z_d dd_SF_about 1 rfl) (by rw [c12]; decide) (by rw [c12]; decide) (by rw [c12]; rfl) (by decide) ?_
    refine r_aload_n C (z_d dd_SF_about 14 rfl) rfl ?_
    obtain ⟨h10, h⟩ := zif h
    refine r_getP C (z_d dd_SF_about 15 rfl) lk_SF_32 rfl h10 rfl ?_
    obtain ⟨h11, h⟩ := zif h
    refine r_getI C (z_d dd_SF_about 16 rfl) lk_SF_117 rfl h11 rfl ?_
    obtain rfl := z_res h
    exact r_iretI C E hr (z_d dd_SF_about 17 rfl) (Nat.le_of_ble_eq_true rfl) (Nat.le_of_ble_eq_true rfl)
  have h := ziff h c12
  by_cases c16 : l1 = (4 : Int32)
  · have h := zift h c16
    refine r_tabIn C 80 (z_d dd_SF_about 1 rfl) (by rw [c16]; decide) (by rw [c16]; decide) (by rw [c16]; rfl) (by decide) ?_
    refine r_aload_n C (z_d dd_SF_about 18 rfl) rfl ?_
    obtain ⟨h13, h⟩ := zif h
    refine r_getP C (z_d dd_SF_about 19 rfl) lk_SF_44 rfl h13 rfl ?_
    obtain ⟨h14, h⟩ := zif h
    refine r_getP C (z_d dd_SF_about 20 rfl) lk_SF_104 rfl h14 rfl ?_
    obtain ⟨h15, h⟩ := zif h
    refine r_getI C (z_d dd_SF_about 21 rfl) lk_SF_63 rfl h15 rfl ?_
    obtain rfl := z_res h
    exact r_iretI C E hr (z_d dd_SF_about 22 rfl) (Nat.le_of_ble_eq_true rfl) (Nat.le_of_ble_eq_true rfl)
  have h := ziff h c16
  by_cases c19 : l1 = (5 : Int32)
  · have h := zift h c19
    refine r_tabIn C 91 (z_d dd_SF_about 1 rfl) (by rw [c19]; decide) (by rw [c19]; decide) (by rw [c19]; rfl) (by decide) ?_
    refine r_aload_n C (z_d dd_SF_about 23 rfl) rfl ?_
    obtain ⟨h17, h⟩ := zif h
    refine r_getP C (z_d dd_SF_about 24 rfl) lk_SF_32 rfl h17 rfl ?_
    obtain ⟨h18, h⟩ := zif h
    refine r_getI C (z_d dd_SF_about 25 rfl) lk_SF_120 rfl h18 rfl ?_
    obtain rfl := z_res h
    exact r_iretI C E hr (z_d dd_SF_about 26 rfl) (Nat.le_of_ble_eq_true rfl) (Nat.le_of_ble_eq_true rfl)
  have h := ziff h c19
  by_cases c23 : l1 = (6 : Int32)
  · have h := zift h c23
    refine r_tabIn C 99 (z_d dd_SF_about 1 rfl) (by rw [c23]; decide) (by rw [c23]; decide) (by rw [c23]; rfl) (by decide) ?_
    refine r_aload_n C (z_d dd_SF_about 27 rfl) rfl ?_
    obtain ⟨h20, h⟩ := zif h
    refine r_getP C (z_d dd_SF_about 28 rfl) lk_SF_25 rfl h20 rfl ?_
    obtain ⟨h21, h⟩ := zif h
    refine r_getP C (z_d dd_SF_about 29 rfl) lk_SF_38 rfl h21 rfl ?_
    obtain ⟨h22, h⟩ := zif h
    refine r_getI C (z_d dd_SF_about 30 rfl) lk_SF_63 rfl h22 rfl ?_
    obtain rfl := z_res h
    exact r_iretI C E hr (z_d dd_SF_about 31 rfl) (Nat.le_of_ble_eq_true rfl) (Nat.le_of_ble_eq_true rfl)
  have h := ziff h c23
  by_cases c26 : l1 = (7 : Int32)
  · have h := zift h c26
    refine r_tabIn C 110 (z_d dd_SF_about 1 rfl) (by rw [c26]; decide) (by rw [c26]; decide) (by rw [c26]; rfl) (by decide) ?_
    refine r_aload_n C (z_d dd_SF_about 32 rfl) rfl ?_
    obtain ⟨h24, h⟩ := zif h
    refine r_getP C (z_d dd_SF_about 33 rfl) lk_SF_25 rfl h24 rfl ?_
    obtain ⟨h25, h⟩ := zif h
    refine r_getL C (z_d dd_SF_about 34 rfl) lk_SF_123 rfl h25 rfl ?_
    refine r_l2i C (z_d dd_SF_about 35 rfl) ?_
    obtain rfl := z_res h
    exact r_iretI C E hr (z_d dd_SF_about 36 rfl) (Nat.le_of_ble_eq_true rfl) (Nat.le_of_ble_eq_true rfl)
  have h := ziff h c26
  have nc3 : ¬ l1.toInt = 0 := lv_neT c3 rfl
  have nc6 : ¬ l1.toInt = 1 := lv_neT c6 rfl
  have nc9 : ¬ l1.toInt = 2 := lv_neT c9 rfl
  have nc12 : ¬ l1.toInt = 3 := lv_neT c12 rfl
  have nc16 : ¬ l1.toInt = 4 := lv_neT c16 rfl
  have nc19 : ¬ l1.toInt = 5 := lv_neT c19 rfl
  have nc23 : ¬ l1.toInt = 6 := lv_neT c23 rfl
  have nc26 : ¬ l1.toInt = 7 := lv_neT c26 rfl
  refine r_tabOut C 119 (z_d dd_SF_about 1 rfl) (by omega) (by decide) ?_
  refine r_iconst (v := (-1 : Int32)) C (z_d dd_SF_about 37 rfl) (by decide) ?_
  obtain rfl := z_res h
  exact r_iretI C E hr (z_d dd_SF_about 38 rfl) (Nat.le_of_ble_eq_true rfl) (Nat.le_of_ble_eq_true rfl)
def F_SF_about (O : zO) (n : Nat) (l0 : Nat) (l1 : Int32) (M : zM) : Option (Int32 × zM) := f_SF_about_0 O n l0 l1 M
theorem S_SF_about {l : Launch} {D : zD} {n : Nat} {l0 : Nat} {l1 : Int32} {M : zM} {q : Int32 × zM} (h : F_SF_about D.2.2.2.2 n l0 l1 M = some q) : zMet l D mi_SF_about [zP l0, zI l1] M (some (zI q.1)) q.2 :=
  z_met (by decide) (Nat.le_of_ble_eq_true rfl) (fun X C E hr hin hD hl => by
    subst hD
    exact s_SF_about_0 C hr E n l0 l1 M h)

def f_SF_size_0 (O : zO) (n : Nat) (l0 : Nat) (M : zM) : Option (Int32 × zM) :=
  if z_k M l0 = 1 then
  if z_k M (z_p M l0 1) = 9 then
  some ((z_i M (z_p M l0 1) 1), M)
  else none
  else none
set_option maxRecDepth 100000 in
set_option maxHeartbeats 4000000 in
theorem s_SF_size_0 {X : zX} {q : Int32 × zM} (C : zC X zR0 prog_1_method_9_code 1 { frames := 0, cells := 0, slots := 0, locals := 0 }) (hr : zRt X (some .int)) (E : zE X (some (zI q.1)) q.2 0 0) : ∀ (n : Nat) (l0 : Nat) (M : zM), f_SF_size_0 (zOD X) n l0 M = some q → zW X 0 0 0 [some (zP l0)] [] M := by
  intro n l0 M h
  rw [f_SF_size_0] at h
  refine r_aload_n C (z_d dd_SF_size 0 rfl) rfl ?_
  obtain ⟨h1, h⟩ := zif h
  refine r_getP C (z_d dd_SF_size 1 rfl) lk_SF_19 rfl h1 rfl ?_
  obtain ⟨h2, h⟩ := zif h
  refine r_getI C (z_d dd_SF_size 2 rfl) lk_SF_63 rfl h2 rfl ?_
  obtain rfl := z_res h
  exact r_iretI C E hr (z_d dd_SF_size 3 rfl) (Nat.le_of_ble_eq_true rfl) (Nat.le_of_ble_eq_true rfl)
def F_SF_size (O : zO) (n : Nat) (l0 : Nat) (M : zM) : Option (Int32 × zM) := f_SF_size_0 O n l0 M
theorem S_SF_size {l : Launch} {D : zD} {n : Nat} {l0 : Nat} {M : zM} {q : Int32 × zM} (h : F_SF_size D.2.2.2.2 n l0 M = some q) : zMet l D mi_SF_size [zP l0] M (some (zI q.1)) q.2 :=
  z_met (by decide) (Nat.le_of_ble_eq_true rfl) (fun X C E hr hin hD hl => by
    subst hD
    exact s_SF_size_0 C hr E n l0 M h)

def f_SF_byteAt_27 (O : zO) (n : Nat) (s0 : Int32) (M : zM) : Option (Int32 × zM) :=
  some (s0, M)
set_option maxRecDepth 100000 in
set_option maxHeartbeats 4000000 in
theorem s_SF_byteAt_27 {X : zX} {q : Int32 × zM} (C : zC X zR0 prog_1_method_10_code 2 { frames := 1, cells := 0, slots := 0, locals := 21 }) (hr : zRt X (some .int)) (E : zE X (some (zI q.1)) q.2 0 0) : ∀ (n : Nat) (s0 : Int32) (M : zM), f_SF_byteAt_27 (zOD X) n s0 M = some q → zW X 0 0 27 [none, none] [zI s0] M := by
  intro n s0 M h
  rw [f_SF_byteAt_27] at h
  obtain rfl := z_res h
  exact r_iretI C E hr (z_d dd_SF_byteAt 13 rfl) (Nat.le_of_ble_eq_true rfl) (Nat.le_of_ble_eq_true rfl)
def f_SF_byteAt_26 (O : zO) (n : Nat) (M : zM) : Option (Int32 × zM) :=
  f_SF_byteAt_27 O n (-1 : Int32) M
set_option maxRecDepth 100000 in
set_option maxHeartbeats 4000000 in
theorem s_SF_byteAt_26 {X : zX} {q : Int32 × zM} (C : zC X zR0 prog_1_method_10_code 2 { frames := 1, cells := 0, slots := 0, locals := 21 }) (hr : zRt X (some .int)) (E : zE X (some (zI q.1)) q.2 0 0) : ∀ (n : Nat) (M : zM), f_SF_byteAt_26 (zOD X) n M = some q → zW X 0 0 26 [none, none] [] M := by
  intro n M h
  rw [f_SF_byteAt_26] at h
  refine r_iconst (v := (-1 : Int32)) C (z_d dd_SF_byteAt 12 rfl) (by decide) ?_
  exact s_SF_byteAt_27 C hr E n (-1 : Int32) M h
def f_SF_byteAt_0 (O : zO) (n : Nat) (l0 : Nat) (l1 : Int32) (M : zM) : Option (Int32 × zM) :=
  if l1 < 0 then
  f_SF_byteAt_26 O n M
  else
  if z_k M l0 = 1 then
  if z_k M (z_p M l0 1) = 9 then
  if (z_i M (z_p M l0 1) 1) ≤ l1 then
  f_SF_byteAt_26 O n M
  else
  (F_Row_at O n (z_p M l0 1) l1 M).bind fun q3 =>
  f_SF_byteAt_27 O n q3.1 q3.2
  else none
  else none
set_option maxRecDepth 100000 in
set_option maxHeartbeats 4000000 in
theorem s_SF_byteAt_0 {X : zX} {q : Int32 × zM} (C : zC X zR0 prog_1_method_10_code 2 { frames := 1, cells := 0, slots := 0, locals := 21 }) (hr : zRt X (some .int)) (E : zE X (some (zI q.1)) q.2 0 0) : ∀ (n : Nat) (l0 : Nat) (l1 : Int32) (M : zM), f_SF_byteAt_0 (zOD X) n l0 l1 M = some q → zW X 0 0 0 [some (zP l0), some (zI l1)] [] M := by
  intro n l0 l1 M h
  rw [f_SF_byteAt_0] at h
  refine r_iload_n C (z_d dd_SF_byteAt 0 rfl) rfl ?_
  refine r_if_lt C 26 (z_d dd_SF_byteAt 1 rfl) (by decide) (fun c6 => ?_) (fun c6 => ?_)
  · have h := zift h c6
    refine r_mk [false, false] ?_
    exact s_SF_byteAt_26 C hr E n M h
  · have h := ziff h c6
    refine r_iload_n C (z_d dd_SF_byteAt 2 rfl) rfl ?_
    refine r_aload_n C (z_d dd_SF_byteAt 3 rfl) rfl ?_
    obtain ⟨h1, h⟩ := zif h
    refine r_getP C (z_d dd_SF_byteAt 4 rfl) lk_SF_19 rfl h1 rfl ?_
    obtain ⟨h2, h⟩ := zif h
    refine r_getI C (z_d dd_SF_byteAt 5 rfl) lk_SF_63 rfl h2 rfl ?_
    refine r_icmp_ge C 26 (z_d dd_SF_byteAt 6 rfl) (by decide) (fun c5 => ?_) (fun c5 => ?_)
    · have h := zift h c5
      refine r_mk [false, false] ?_
      exact s_SF_byteAt_26 C hr E n M h
    · have h := ziff h c5
      refine r_aload_n C (z_d dd_SF_byteAt 7 rfl) rfl ?_
      refine r_getP C (z_d dd_SF_byteAt 8 rfl) lk_SF_19 rfl h1 rfl ?_
      refine r_iload_n C (z_d dd_SF_byteAt 9 rfl) rfl ?_
      obtain ⟨q3, c4, h⟩ := zbd h
      refine r_invV (as := [zI l1]) C 8 (S_Row_at c4) (z_d dd_SF_byteAt 10 rfl) ok_Row_at iv_Row_at se_Row_at ml_SF_127 rfl rfl h2 rfl rfl rfl (Nat.le_of_ble_eq_true rfl) ⟨(Nat.le_of_ble_eq_true rfl), (Nat.le_of_ble_eq_true rfl)⟩ ⟨(Nat.le_of_ble_eq_true rfl), (Nat.le_of_ble_eq_true rfl)⟩ ?_
      refine r_goto C 27 (z_d dd_SF_byteAt 11 rfl) (by decide) ?_
      refine r_mk [false, false] ?_
      exact s_SF_byteAt_27 C hr E n q3.1 q3.2 h
def F_SF_byteAt (O : zO) (n : Nat) (l0 : Nat) (l1 : Int32) (M : zM) : Option (Int32 × zM) := f_SF_byteAt_0 O n l0 l1 M
theorem S_SF_byteAt {l : Launch} {D : zD} {n : Nat} {l0 : Nat} {l1 : Int32} {M : zM} {q : Int32 × zM} (h : F_SF_byteAt D.2.2.2.2 n l0 l1 M = some q) : zMet l D mi_SF_byteAt [zP l0, zI l1] M (some (zI q.1)) q.2 :=
  z_met (by decide) (Nat.le_of_ble_eq_true rfl) (fun X C E hr hin hD hl => by
    subst hD
    exact s_SF_byteAt_0 C hr E n l0 l1 M h)

def f_Mo_init_0 (O : zO) (n : Nat) (l0 : Nat) (M : zM) : Option (Unit × zM) :=
  if z_k M l0 = 13 then
  zlet (w_a M 100 (12000 : Int32).toNatClampNeg) fun M2 =>
  if z_k M2 l0 = 13 then
  zlet (w_p M2 l0 0 (z_s M + 1)) fun M6 =>
  zlet (w_a M6 100 (32768 : Int32).toNatClampNeg) fun M10 =>
  if z_k M10 l0 = 13 then
  zlet (w_p M10 l0 2 (z_s M6 + 1)) fun M14 =>
  zlet (w_a M14 100 (12000 : Int32).toNatClampNeg) fun M18 =>
  if z_k M18 l0 = 13 then
  zlet (w_p M18 l0 4 (z_s M14 + 1)) fun M22 =>
  zlet (w_a M22 100 (256 : Int32).toNatClampNeg) fun M26 =>
  if z_k M26 l0 = 13 then
  zlet (w_p M26 l0 8 (z_s M22 + 1)) fun M30 =>
  zlet (w_a M30 100 (192 : Int32).toNatClampNeg) fun M34 =>
  if z_k M34 l0 = 13 then
  zlet (w_p M34 l0 9 (z_s M30 + 1)) fun M38 =>
  zlet (w_a M38 100 (3 : Int32).toNatClampNeg) fun M42 =>
  if z_k M42 l0 = 13 then
  zlet (w_p M42 l0 10 (z_s M38 + 1)) fun M46 =>
  zlet (w_a M46 103 (3 : Int32).toNatClampNeg) fun M50 =>
  if z_k M50 l0 = 13 then
  zlet (w_p M50 l0 11 (z_s M46 + 1)) fun M54 =>
  zlet (w_a M54 100 (256 : Int32).toNatClampNeg) fun M58 =>
  if z_k M58 l0 = 13 then
  zlet (w_p M58 l0 12 (z_s M54 + 1)) fun M62 =>
  zlet (w_a M62 100 (2048 : Int32).toNatClampNeg) fun M66 =>
  if z_k M66 l0 = 13 then
  zlet (w_p M66 l0 14 (z_s M62 + 1)) fun M70 =>
  zlet (w_a M70 100 (192 : Int32).toNatClampNeg) fun M74 =>
  if z_k M74 l0 = 13 then
  zlet (w_p M74 l0 15 (z_s M70 + 1)) fun M78 =>
  zlet (w_a M78 100 (3 : Int32).toNatClampNeg) fun M82 =>
  if z_k M82 l0 = 13 then
  zlet (w_p M82 l0 16 (z_s M78 + 1)) fun M86 =>
  zlet (w_a M86 100 (1536 : Int32).toNatClampNeg) fun M90 =>
  if z_k M90 l0 = 13 then
  zlet (w_p M90 l0 17 (z_s M86 + 1)) fun M94 =>
  zlet (w_a M94 100 (1536 : Int32).toNatClampNeg) fun M98 =>
  if z_k M98 l0 = 13 then
  zlet (w_p M98 l0 18 (z_s M94 + 1)) fun M102 =>
  zlet (w_a M102 100 (1536 : Int32).toNatClampNeg) fun M106 =>
  if z_k M106 l0 = 13 then
  zlet (w_p M106 l0 19 (z_s M102 + 1)) fun M110 =>
  zlet (w_a M110 103 (3 : Int32).toNatClampNeg) fun M114 =>
  if z_k M114 l0 = 13 then
  zlet (w_p M114 l0 20 (z_s M110 + 1)) fun M118 =>
  zlet (w_a M118 100 (256 : Int32).toNatClampNeg) fun M122 =>
  if z_k M122 l0 = 13 then
  zlet (w_p M122 l0 21 (z_s M118 + 1)) fun M126 =>
  zlet (w_a M126 100 (256 : Int32).toNatClampNeg) fun M130 =>
  if z_k M130 l0 = 13 then
  zlet (w_p M130 l0 23 (z_s M126 + 1)) fun M134 =>
  zlet (w_a M134 100 (256 : Int32).toNatClampNeg) fun M138 =>
  if z_k M138 l0 = 13 then
  zlet (w_p M138 l0 24 (z_s M134 + 1)) fun M142 =>
  zlet (w_a M142 100 (64 : Int32).toNatClampNeg) fun M146 =>
  if z_k M146 l0 = 13 then
  zlet (w_p M146 l0 25 (z_s M142 + 1)) fun M150 =>
  zlet (w_a M150 100 (64 : Int32).toNatClampNeg) fun M154 =>
  if z_k M154 l0 = 13 then
  zlet (w_p M154 l0 26 (z_s M150 + 1)) fun M158 =>
  zlet (w_a M158 100 (64 : Int32).toNatClampNeg) fun M162 =>
  if z_k M162 l0 = 13 then
  zlet (w_p M162 l0 27 (z_s M158 + 1)) fun M166 =>
  zlet (w_a M166 100 (32768 : Int32).toNatClampNeg) fun M170 =>
  if z_k M170 l0 = 13 then
  zlet (w_p M170 l0 40 (z_s M166 + 1)) fun M174 =>
  zlet (w_a M174 100 (131072 : Int32).toNatClampNeg) fun M178 =>
  if z_k M178 l0 = 13 then
  zlet (w_p M178 l0 41 (z_s M174 + 1)) fun M182 =>
  zlet (w_a M182 103 (4 : Int32).toNatClampNeg) fun M186 =>
  if z_k M186 l0 = 13 then
  zlet (w_p M186 l0 49 (z_s M182 + 1)) fun M190 =>
  some ((), M190)
  else none
  else none
  else none
  else none
  else none
  else none
  else none
  else none
  else none
  else none
  else none
  else none
  else none
  else none
  else none
  else none
  else none
  else none
  else none
  else none
  else none
  else none
  else none
  else none
  else none
set_option maxRecDepth 100000 in
set_option maxHeartbeats 4000000 in
theorem s_Mo_init_0 {X : zX} {q : Unit × zM} (C : zC X zR12 prog_14_method_1_code 1 { frames := 1, cells := 24, slots := 229136, locals := 20 }) (hr : zRt X none) (hin : zIn X) (E : zE X none q.2 24 229136) : ∀ (n : Nat) (l0 : Nat) (M : zM), f_Mo_init_0 (zOD X) n l0 M = some q → zW X 0 0 0 [some (zP l0)] [] M := by
  intro n l0 M h
  rw [f_Mo_init_0] at h
  refine r_aload_n C (z_d dd_Mo_init 0 rfl) rfl ?_
  obtain ⟨h1, h⟩ := zif h
  refine r_objK C 12 rfl h1 (z_d dd_Mo_init 1 rfl) ml_Mo_1 oi_i oi_c rfl (Nat.le_of_ble_eq_true rfl) ⟨(Nat.le_of_ble_eq_true rfl), (Nat.le_of_ble_eq_true rfl)⟩ ?_
  refine r_aload_n C (z_d dd_Mo_init 2 rfl) rfl ?_
  refine r_sipush (v := (12000 : Int32)) C (z_d dd_Mo_init 3 rfl) (by decide) ?_
  obtain ⟨M2, e3, h⟩ := zlet_ex h
  have h4 := k_a e3
  refine r_newa C 0 12000 (z_d dd_Mo_init 4 rfl) rfl (Nat.le_of_ble_eq_true rfl) ac_0 (by decide) (by decide) (Nat.le_of_ble_eq_true rfl) (Nat.le_of_ble_eq_true rfl) (Nat.le_of_ble_eq_true rfl) e3 ?_
  obtain ⟨h5, h⟩ := zif h
  obtain ⟨M6, e7, h⟩ := zlet_ex h
  have h8 := k_p e7 h4
  have h9 := k_p e7 h5
  refine r_putFP C hin (z_d dd_Mo_init 5 rfl) lf_Mo_7 rfl h5 e7 ?_
  refine r_aload_n C (z_d dd_Mo_init 6 rfl) rfl ?_
  refine r_ldc (v := (32768 : Int32)) C (z_d dd_Mo_init 7 rfl) ki_Mo_13 ?_
  obtain ⟨M10, e11, h⟩ := zlet_ex h
  have h12 := k_a e11
  refine r_newa C 0 32768 (z_d dd_Mo_init 8 rfl) rfl (Nat.le_of_ble_eq_true rfl) ac_0 (by decide) (by decide) (Nat.le_of_ble_eq_true rfl) (Nat.le_of_ble_eq_true rfl) (Nat.le_of_ble_eq_true rfl) e11 ?_
  obtain ⟨h13, h⟩ := zif h
  obtain ⟨M14, e15, h⟩ := zlet_ex h
  have h16 := k_p e15 h12
  have h17 := k_p e15 h13
  refine r_putFP C hin (z_d dd_Mo_init 9 rfl) lf_Mo_14 rfl h13 e15 ?_
  refine r_aload_n C (z_d dd_Mo_init 10 rfl) rfl ?_
  refine r_sipush (v := (12000 : Int32)) C (z_d dd_Mo_init 11 rfl) (by decide) ?_
  obtain ⟨M18, e19, h⟩ := zlet_ex h
  have h20 := k_a e19
  refine r_newa C 0 12000 (z_d dd_Mo_init 12 rfl) rfl (Nat.le_of_ble_eq_true rfl) ac_0 (by decide) (by decide) (Nat.le_of_ble_eq_true rfl) (Nat.le_of_ble_eq_true rfl) (Nat.le_of_ble_eq_true rfl) e19 ?_
  obtain ⟨h21, h⟩ := zif h
  obtain ⟨M22, e23, h⟩ := zlet_ex h
  have h24 := k_p e23 h20
  have h25 := k_p e23 h21
  refine r_putFP C hin (z_d dd_Mo_init 13 rfl) lf_Mo_17 rfl h21 e23 ?_
  refine r_aload_n C (z_d dd_Mo_init 14 rfl) rfl ?_
  refine r_sipush (v := (256 : Int32)) C (z_d dd_Mo_init 15 rfl) (by decide) ?_
  obtain ⟨M26, e27, h⟩ := zlet_ex h
  have h28 := k_a e27
  refine r_newa C 0 256 (z_d dd_Mo_init 16 rfl) rfl (Nat.le_of_ble_eq_true rfl) ac_0 (by decide) (by decide) (Nat.le_of_ble_eq_true rfl) (Nat.le_of_ble_eq_true rfl) (Nat.le_of_ble_eq_true rfl) e27 ?_
  obtain ⟨h29, h⟩ := zif h
  obtain ⟨M30, e31, h⟩ := zlet_ex h
  have h32 := k_p e31 h28
  have h33 := k_p e31 h29
  refine r_putFP C hin (z_d dd_Mo_init 17 rfl) lf_Mo_20 rfl h29 e31 ?_
  refine r_aload_n C (z_d dd_Mo_init 18 rfl) rfl ?_
  refine r_sipush (v := (192 : Int32)) C (z_d dd_Mo_init 19 rfl) (by decide) ?_
  obtain ⟨M34, e35, h⟩ := zlet_ex h
  have h36 := k_a e35
  refine r_newa C 0 192 (z_d dd_Mo_init 20 rfl) rfl (Nat.le_of_ble_eq_true rfl) ac_0 (by decide) (by decide) (Nat.le_of_ble_eq_true rfl) (Nat.le_of_ble_eq_true rfl) (Nat.le_of_ble_eq_true rfl) e35 ?_
  obtain ⟨h37, h⟩ := zif h
  obtain ⟨M38, e39, h⟩ := zlet_ex h
  have h40 := k_p e39 h36
  have h41 := k_p e39 h37
  refine r_putFP C hin (z_d dd_Mo_init 21 rfl) lf_Mo_23 rfl h37 e39 ?_
  refine r_aload_n C (z_d dd_Mo_init 22 rfl) rfl ?_
  refine r_iconst (v := (3 : Int32)) C (z_d dd_Mo_init 23 rfl) (by decide) ?_
  obtain ⟨M42, e43, h⟩ := zlet_ex h
  have h44 := k_a e43
  refine r_newa C 0 3 (z_d dd_Mo_init 24 rfl) rfl (Nat.le_of_ble_eq_true rfl) ac_0 (by decide) (by decide) (Nat.le_of_ble_eq_true rfl) (Nat.le_of_ble_eq_true rfl) (Nat.le_of_ble_eq_true rfl) e43 ?_
  obtain ⟨h45, h⟩ := zif h
  obtain ⟨M46, e47, h⟩ := zlet_ex h
  have h48 := k_p e47 h44
  have h49 := k_p e47 h45
  refine r_putFP C hin (z_d dd_Mo_init 25 rfl) lf_Mo_26 rfl h45 e47 ?_
  refine r_aload_n C (z_d dd_Mo_init 26 rfl) rfl ?_
  refine r_iconst (v := (3 : Int32)) C (z_d dd_Mo_init 27 rfl) (by decide) ?_
  obtain ⟨M50, e51, h⟩ := zlet_ex h
  have h52 := k_a e51
  refine r_newa C 3 3 (z_d dd_Mo_init 28 rfl) rfl (Nat.le_of_ble_eq_true rfl) ac_3 (by decide) (by decide) (Nat.le_of_ble_eq_true rfl) (Nat.le_of_ble_eq_true rfl) (Nat.le_of_ble_eq_true rfl) e51 ?_
  obtain ⟨h53, h⟩ := zif h
  obtain ⟨M54, e55, h⟩ := zlet_ex h
  have h56 := k_p e55 h52
  have h57 := k_p e55 h53
  refine r_putFP C hin (z_d dd_Mo_init 29 rfl) lf_Mo_29 rfl h53 e55 ?_
  refine r_aload_n C (z_d dd_Mo_init 30 rfl) rfl ?_
  refine r_sipush (v := (256 : Int32)) C (z_d dd_Mo_init 31 rfl) (by decide) ?_
  obtain ⟨M58, e59, h⟩ := zlet_ex h
  have h60 := k_a e59
  refine r_newa C 0 256 (z_d dd_Mo_init 32 rfl) rfl (Nat.le_of_ble_eq_true rfl) ac_0 (by decide) (by decide) (Nat.le_of_ble_eq_true rfl) (Nat.le_of_ble_eq_true rfl) (Nat.le_of_ble_eq_true rfl) e59 ?_
  obtain ⟨h61, h⟩ := zif h
  obtain ⟨M62, e63, h⟩ := zlet_ex h
  have h64 := k_p e63 h60
  have h65 := k_p e63 h61
  refine r_putFP C hin (z_d dd_Mo_init 33 rfl) lf_Mo_33 rfl h61 e63 ?_
  refine r_aload_n C (z_d dd_Mo_init 34 rfl) rfl ?_
  refine r_sipush (v := (2048 : Int32)) C (z_d dd_Mo_init 35 rfl) (by decide) ?_
  obtain ⟨M66, e67, h⟩ := zlet_ex h
  have h68 := k_a e67
  refine r_newa C 0 2048 (z_d dd_Mo_init 36 rfl) rfl (Nat.le_of_ble_eq_true rfl) ac_0 (by decide) (by decide) (Nat.le_of_ble_eq_true rfl) (Nat.le_of_ble_eq_true rfl) (Nat.le_of_ble_eq_true rfl) e67 ?_
  obtain ⟨h69, h⟩ := zif h
  obtain ⟨M70, e71, h⟩ := zlet_ex h
  have h72 := k_p e71 h68
  have h73 := k_p e71 h69
  refine r_putFP C hin (z_d dd_Mo_init 37 rfl) lf_Mo_36 rfl h69 e71 ?_
  refine r_aload_n C (z_d dd_Mo_init 38 rfl) rfl ?_
  refine r_sipush (v := (192 : Int32)) C (z_d dd_Mo_init 39 rfl) (by decide) ?_
  obtain ⟨M74, e75, h⟩ := zlet_ex h
  have h76 := k_a e75
  refine r_newa C 0 192 (z_d dd_Mo_init 40 rfl) rfl (Nat.le_of_ble_eq_true rfl) ac_0 (by decide) (by decide) (Nat.le_of_ble_eq_true rfl) (Nat.le_of_ble_eq_true rfl) (Nat.le_of_ble_eq_true rfl) e75 ?_
  obtain ⟨h77, h⟩ := zif h
  obtain ⟨M78, e79, h⟩ := zlet_ex h
  have h80 := k_p e79 h76
  have h81 := k_p e79 h77
  refine r_putFP C hin (z_d dd_Mo_init 41 rfl) lf_Mo_39 rfl h77 e79 ?_
  refine r_aload_n C (z_d dd_Mo_init 42 rfl) rfl ?_
  refine r_iconst (v := (3 : Int32)) C (z_d dd_Mo_init 43 rfl) (by decide) ?_
  obtain ⟨M82, e83, h⟩ := zlet_ex h
  have h84 := k_a e83
  refine r_newa C 0 3 (z_d dd_Mo_init 44 rfl) rfl (Nat.le_of_ble_eq_true rfl) ac_0 (by decide) (by decide) (Nat.le_of_ble_eq_true rfl) (Nat.le_of_ble_eq_true rfl) (Nat.le_of_ble_eq_true rfl) e83 ?_
  obtain ⟨h85, h⟩ := zif h
  obtain ⟨M86, e87, h⟩ := zlet_ex h
  have h88 := k_p e87 h84
  have h89 := k_p e87 h85
  refine r_putFP C hin (z_d dd_Mo_init 45 rfl) lf_Mo_42 rfl h85 e87 ?_
  refine r_aload_n C (z_d dd_Mo_init 46 rfl) rfl ?_
  refine r_sipush (v := (1536 : Int32)) C (z_d dd_Mo_init 47 rfl) (by decide) ?_
  obtain ⟨M90, e91, h⟩ := zlet_ex h
  have h92 := k_a e91
  refine r_newa C 0 1536 (z_d dd_Mo_init 48 rfl) rfl (Nat.le_of_ble_eq_true rfl) ac_0 (by decide) (by decide) (Nat.le_of_ble_eq_true rfl) (Nat.le_of_ble_eq_true rfl) (Nat.le_of_ble_eq_true rfl) e91 ?_
  obtain ⟨h93, h⟩ := zif h
  obtain ⟨M94, e95, h⟩ := zlet_ex h
  have h96 := k_p e95 h92
  have h97 := k_p e95 h93
  refine r_putFP C hin (z_d dd_Mo_init 49 rfl) lf_Mo_45 rfl h93 e95 ?_
  refine r_aload_n C (z_d dd_Mo_init 50 rfl) rfl ?_
  refine r_sipush (v := (1536 : Int32)) C (z_d dd_Mo_init 51 rfl) (by decide) ?_
  obtain ⟨M98, e99, h⟩ := zlet_ex h
  have h100 := k_a e99
  refine r_newa C 0 1536 (z_d dd_Mo_init 52 rfl) rfl (Nat.le_of_ble_eq_true rfl) ac_0 (by decide) (by decide) (Nat.le_of_ble_eq_true rfl) (Nat.le_of_ble_eq_true rfl) (Nat.le_of_ble_eq_true rfl) e99 ?_
  obtain ⟨h101, h⟩ := zif h
  obtain ⟨M102, e103, h⟩ := zlet_ex h
  have h104 := k_p e103 h100
  have h105 := k_p e103 h101
  refine r_putFP C hin (z_d dd_Mo_init 53 rfl) lf_Mo_48 rfl h101 e103 ?_
  refine r_aload_n C (z_d dd_Mo_init 54 rfl) rfl ?_
  refine r_sipush (v := (1536 : Int32)) C (z_d dd_Mo_init 55 rfl) (by decide) ?_
  obtain ⟨M106, e107, h⟩ := zlet_ex h
  have h108 := k_a e107
  refine r_newa C 0 1536 (z_d dd_Mo_init 56 rfl) rfl (Nat.le_of_ble_eq_true rfl) ac_0 (by decide) (by decide) (Nat.le_of_ble_eq_true rfl) (Nat.le_of_ble_eq_true rfl) (Nat.le_of_ble_eq_true rfl) e107 ?_
  obtain ⟨h109, h⟩ := zif h
  obtain ⟨M110, e111, h⟩ := zlet_ex h
  have h112 := k_p e111 h108
  have h113 := k_p e111 h109
  refine r_putFP C hin (z_d dd_Mo_init 57 rfl) lf_Mo_51 rfl h109 e111 ?_
  refine r_aload_n C (z_d dd_Mo_init 58 rfl) rfl ?_
  refine r_iconst (v := (3 : Int32)) C (z_d dd_Mo_init 59 rfl) (by decide) ?_
  obtain ⟨M114, e115, h⟩ := zlet_ex h
  have h116 := k_a e115
  refine r_newa C 3 3 (z_d dd_Mo_init 60 rfl) rfl (Nat.le_of_ble_eq_true rfl) ac_3 (by decide) (by decide) (Nat.le_of_ble_eq_true rfl) (Nat.le_of_ble_eq_true rfl) (Nat.le_of_ble_eq_true rfl) e115 ?_
  obtain ⟨h117, h⟩ := zif h
  obtain ⟨M118, e119, h⟩ := zlet_ex h
  have h120 := k_p e119 h116
  have h121 := k_p e119 h117
  refine r_putFP C hin (z_d dd_Mo_init 61 rfl) lf_Mo_54 rfl h117 e119 ?_
  refine r_aload_n C (z_d dd_Mo_init 62 rfl) rfl ?_
  refine r_sipush (v := (256 : Int32)) C (z_d dd_Mo_init 63 rfl) (by decide) ?_
  obtain ⟨M122, e123, h⟩ := zlet_ex h
  have h124 := k_a e123
  refine r_newa C 0 256 (z_d dd_Mo_init 64 rfl) rfl (Nat.le_of_ble_eq_true rfl) ac_0 (by decide) (by decide) (Nat.le_of_ble_eq_true rfl) (Nat.le_of_ble_eq_true rfl) (Nat.le_of_ble_eq_true rfl) e123 ?_
  obtain ⟨h125, h⟩ := zif h
  obtain ⟨M126, e127, h⟩ := zlet_ex h
  have h128 := k_p e127 h124
  have h129 := k_p e127 h125
  refine r_putFP C hin (z_d dd_Mo_init 65 rfl) lf_Mo_57 rfl h125 e127 ?_
  refine r_aload_n C (z_d dd_Mo_init 66 rfl) rfl ?_
  refine r_sipush (v := (256 : Int32)) C (z_d dd_Mo_init 67 rfl) (by decide) ?_
  obtain ⟨M130, e131, h⟩ := zlet_ex h
  have h132 := k_a e131
  refine r_newa C 0 256 (z_d dd_Mo_init 68 rfl) rfl (Nat.le_of_ble_eq_true rfl) ac_0 (by decide) (by decide) (Nat.le_of_ble_eq_true rfl) (Nat.le_of_ble_eq_true rfl) (Nat.le_of_ble_eq_true rfl) e131 ?_
  obtain ⟨h133, h⟩ := zif h
  obtain ⟨M134, e135, h⟩ := zlet_ex h
  have h136 := k_p e135 h132
  have h137 := k_p e135 h133
  refine r_putFP C hin (z_d dd_Mo_init 69 rfl) lf_Mo_60 rfl h133 e135 ?_
  refine r_aload_n C (z_d dd_Mo_init 70 rfl) rfl ?_
  refine r_sipush (v := (256 : Int32)) C (z_d dd_Mo_init 71 rfl) (by decide) ?_
  obtain ⟨M138, e139, h⟩ := zlet_ex h
  have h140 := k_a e139
  refine r_newa C 0 256 (z_d dd_Mo_init 72 rfl) rfl (Nat.le_of_ble_eq_true rfl) ac_0 (by decide) (by decide) (Nat.le_of_ble_eq_true rfl) (Nat.le_of_ble_eq_true rfl) (Nat.le_of_ble_eq_true rfl) e139 ?_
  obtain ⟨h141, h⟩ := zif h
  obtain ⟨M142, e143, h⟩ := zlet_ex h
  have h144 := k_p e143 h140
  have h145 := k_p e143 h141
  refine r_putFP C hin (z_d dd_Mo_init 73 rfl) lf_Mo_63 rfl h141 e143 ?_
  refine r_aload_n C (z_d dd_Mo_init 74 rfl) rfl ?_
  refine r_bipush (v := (64 : Int32)) C (z_d dd_Mo_init 75 rfl) (by decide) ?_
  obtain ⟨M146, e147, h⟩ := zlet_ex h
  have h148 := k_a e147
  refine r_newa C 0 64 (z_d dd_Mo_init 76 rfl) rfl (Nat.le_of_ble_eq_true rfl) ac_0 (by decide) (by decide) (Nat.le_of_ble_eq_true rfl) (Nat.le_of_ble_eq_true rfl) (Nat.le_of_ble_eq_true rfl) e147 ?_
  obtain ⟨h149, h⟩ := zif h
  obtain ⟨M150, e151, h⟩ := zlet_ex h
  have h152 := k_p e151 h148
  have h153 := k_p e151 h149
  refine r_putFP C hin (z_d dd_Mo_init 77 rfl) lf_Mo_66 rfl h149 e151 ?_
  refine r_aload_n C (z_d dd_Mo_init 78 rfl) rfl ?_
  refine r_bipush (v := (64 : Int32)) C (z_d dd_Mo_init 79 rfl) (by decide) ?_
  obtain ⟨M154, e155, h⟩ := zlet_ex h
  have h156 := k_a e155
  refine r_newa C 0 64 (z_d dd_Mo_init 80 rfl) rfl (Nat.le_of_ble_eq_true rfl) ac_0 (by decide) (by decide) (Nat.le_of_ble_eq_true rfl) (Nat.le_of_ble_eq_true rfl) (Nat.le_of_ble_eq_true rfl) e155 ?_
  obtain ⟨h157, h⟩ := zif h
  obtain ⟨M158, e159, h⟩ := zlet_ex h
  have h160 := k_p e159 h156
  have h161 := k_p e159 h157
  refine r_putFP C hin (z_d dd_Mo_init 81 rfl) lf_Mo_69 rfl h157 e159 ?_
  refine r_aload_n C (z_d dd_Mo_init 82 rfl) rfl ?_
  refine r_bipush (v := (64 : Int32)) C (z_d dd_Mo_init 83 rfl) (by decide) ?_
  obtain ⟨M162, e163, h⟩ := zlet_ex h
  have h164 := k_a e163
  refine r_newa C 0 64 (z_d dd_Mo_init 84 rfl) rfl (Nat.le_of_ble_eq_true rfl) ac_0 (by decide) (by decide) (Nat.le_of_ble_eq_true rfl) (Nat.le_of_ble_eq_true rfl) (Nat.le_of_ble_eq_true rfl) e163 ?_
  obtain ⟨h165, h⟩ := zif h
  obtain ⟨M166, e167, h⟩ := zlet_ex h
  have h168 := k_p e167 h164
  have h169 := k_p e167 h165
  refine r_putFP C hin (z_d dd_Mo_init 85 rfl) lf_Mo_72 rfl h165 e167 ?_
  refine r_aload_n C (z_d dd_Mo_init 86 rfl) rfl ?_
  refine r_ldc (v := (32768 : Int32)) C (z_d dd_Mo_init 87 rfl) ki_Mo_13 ?_
  obtain ⟨M170, e171, h⟩ := zlet_ex h
  have h172 := k_a e171
  refine r_newa C 0 32768 (z_d dd_Mo_init 88 rfl) rfl (Nat.le_of_ble_eq_true rfl) ac_0 (by decide) (by decide) (Nat.le_of_ble_eq_true rfl) (Nat.le_of_ble_eq_true rfl) (Nat.le_of_ble_eq_true rfl) e171 ?_
  obtain ⟨h173, h⟩ := zif h
  obtain ⟨M174, e175, h⟩ := zlet_ex h
  have h176 := k_p e175 h172
  have h177 := k_p e175 h173
  refine r_putFP C hin (z_d dd_Mo_init 89 rfl) lf_Mo_75 rfl h173 e175 ?_
  refine r_aload_n C (z_d dd_Mo_init 90 rfl) rfl ?_
  refine r_ldc (v := (131072 : Int32)) C (z_d dd_Mo_init 91 rfl) ki_Mo_78 ?_
  obtain ⟨M178, e179, h⟩ := zlet_ex h
  have h180 := k_a e179
  refine r_newa C 0 131072 (z_d dd_Mo_init 92 rfl) rfl (Nat.le_of_ble_eq_true rfl) ac_0 (by decide) (by decide) (Nat.le_of_ble_eq_true rfl) (Nat.le_of_ble_eq_true rfl) (Nat.le_of_ble_eq_true rfl) e179 ?_
  obtain ⟨h181, h⟩ := zif h
  obtain ⟨M182, e183, h⟩ := zlet_ex h
  have h184 := k_p e183 h180
  have h185 := k_p e183 h181
  refine r_putFP C hin (z_d dd_Mo_init 93 rfl) lf_Mo_79 rfl h181 e183 ?_
  refine r_aload_n C (z_d dd_Mo_init 94 rfl) rfl ?_
  refine r_iconst (v := (4 : Int32)) C (z_d dd_Mo_init 95 rfl) (by decide) ?_
  obtain ⟨M186, e187, h⟩ := zlet_ex h
  have h188 := k_a e187
  refine r_newa C 3 4 (z_d dd_Mo_init 96 rfl) rfl (Nat.le_of_ble_eq_true rfl) ac_3 (by decide) (by decide) (Nat.le_of_ble_eq_true rfl) (Nat.le_of_ble_eq_true rfl) (Nat.le_of_ble_eq_true rfl) e187 ?_
  obtain ⟨h189, h⟩ := zif h
  obtain ⟨M190, e191, h⟩ := zlet_ex h
  have h192 := k_p e191 h188
  have h193 := k_p e191 h189
  refine r_putFP C hin (z_d dd_Mo_init 97 rfl) lf_Mo_82 rfl h189 e191 ?_
  obtain rfl := z_res h
  exact r_vret C E hr (z_d dd_Mo_init 98 rfl) (Nat.le_of_ble_eq_true rfl) (Nat.le_of_ble_eq_true rfl)
def F_Mo_init (O : zO) (n : Nat) (l0 : Nat) (M : zM) : Option (Unit × zM) := f_Mo_init_0 O n l0 M
theorem S_Mo_init {l : Launch} {D : zD} {n : Nat} {l0 : Nat} {M : zM} {q : Unit × zM} (h : F_Mo_init D.2.2.2.2 n l0 M = some q) : zMet l D mi_Mo_init [zP l0] M none q.2 :=
  z_met (by decide) (Nat.le_of_ble_eq_true rfl) (fun X C E hr hin hD hl => by
    subst hD
    exact s_Mo_init_0 C hr (hin rfl) E n l0 M h)

def f_Mo_write_23 (O : zO) (n : Nat) (M : zM) : Option (Int32 × zM) :=
  some ((0 : Int32), M)
set_option maxRecDepth 100000 in
set_option maxHeartbeats 4000000 in
theorem s_Mo_write_23 {X : zX} {q : Int32 × zM} (C : zC X zR12 prog_14_method_2_code 5 { frames := 0, cells := 0, slots := 0, locals := 0 }) (hr : zRt X (some .boolean)) (E : zE X (some (zI q.1)) q.2 0 0) : ∀ (n : Nat) (M : zM), f_Mo_write_23 (zOD X) n M = some q → zW X 0 0 23 [none, none, none, none, none] [] M := by
  intro n M h
  rw [f_Mo_write_23] at h
  refine r_iconst (v := (0 : Int32)) C (z_d dd_Mo_write 12 rfl) (by decide) ?_
  obtain rfl := z_res h
  exact r_iretZ C E hr (z_d dd_Mo_write 13 rfl) (by decide) (Nat.le_of_ble_eq_true rfl) (Nat.le_of_ble_eq_true rfl)
def f_Mo_write_28 (O : zO) : Nat → Nat → Int64 → Int32 → Int32 → zM → Option (Int32 × zM)
  | 0, _, _, _, _, _ => none
  | n + 1, l0, l1, l3, l4, M =>
    if l3 ≤ l4 then
    some ((1 : Int32), M)
    else
    if z_k M l0 = 13 then
    if z_k M (z_p M l0 0) = 100 then
    if zin (z_i M l0 1) (z_n M (z_p M l0 0)) = true then
    zlet (w_i M (z_p M l0 0) (z_i M l0 1).toNatClampNeg ((l1 >>> (((56 : Int32) - ((8 : Int32) * l4)).toInt64 &&& 63)) &&& (255 : Int64)).toInt32) fun M4 =>
    zlet (w_i M4 l0 1 ((z_i M4 l0 1) + (1 : Int32))) fun M8 =>
    zlet (l4 + (1 : Int32)) fun v12 =>
    f_Mo_write_28 O n l0 l1 l3 v12 M8
    else none
    else none
    else none
set_option maxRecDepth 100000 in
set_option maxHeartbeats 4000000 in
theorem s_Mo_write_28 {X : zX} {q : Int32 × zM} (C : zC X zR12 prog_14_method_2_code 5 { frames := 0, cells := 0, slots := 0, locals := 0 }) (hr : zRt X (some .boolean)) (E : zE X (some (zI q.1)) q.2 0 0) : ∀ (n : Nat) (l0 : Nat) (l1 : Int64) (l3 : Int32) (l4 : Int32) (M : zM), f_Mo_write_28 (zOD X) n l0 l1 l3 l4 M = some q → zW X 0 0 28 [some (zP l0), some (zL l1), none, some (zI l3), some (zI l4)] [] M := by
  intro n
  induction n with
  | zero => intro l0 l1 l3 l4 M h; rw [f_Mo_write_28] at h; cases h
  | succ n ih =>
    intro l0 l1 l3 l4 M h
    rw [f_Mo_write_28] at h
    refine r_iload C (z_d dd_Mo_write 16 rfl) rfl ?_
    refine r_iload_n C (z_d dd_Mo_write 17 rfl) rfl ?_
    refine r_icmp_ge C 74 (z_d dd_Mo_write 18 rfl) (by decide) (fun c14 => ?_) (fun c14 => ?_)
    · have h := zift h c14
      refine r_iconst (v := (1 : Int32)) C (z_d dd_Mo_write 42 rfl) (by decide) ?_
      obtain rfl := z_res h
      exact r_iretZ C E hr (z_d dd_Mo_write 43 rfl) (by decide) (Nat.le_of_ble_eq_true rfl) (Nat.le_of_ble_eq_true rfl)
    · have h := ziff h c14
      refine r_aload_n C (z_d dd_Mo_write 19 rfl) rfl ?_
      obtain ⟨h1, h⟩ := zif h
      refine r_getP C (z_d dd_Mo_write 20 rfl) lk_Mo_7 rfl h1 rfl ?_
      refine r_aload_n C (z_d dd_Mo_write 21 rfl) rfl ?_
      refine r_getI C (z_d dd_Mo_write 22 rfl) lk_Mo_85 rfl h1 rfl ?_
      refine r_lload_n C (z_d dd_Mo_write 23 rfl) rfl ?_
      refine r_bipush (v := (56 : Int32)) C (z_d dd_Mo_write 24 rfl) (by decide) ?_
      refine r_bipush (v := (8 : Int32)) C (z_d dd_Mo_write 25 rfl) (by decide) ?_
      refine r_iload C (z_d dd_Mo_write 26 rfl) rfl ?_
      refine r_imul C (z_d dd_Mo_write 27 rfl) ?_
      refine r_isub C (z_d dd_Mo_write 28 rfl) ?_
      refine r_lshr C (z_d dd_Mo_write 29 rfl) ?_
      refine r_ldc2 (v := (255 : Int64)) C (z_d dd_Mo_write 30 rfl) kl_Mo_89 ?_
      refine r_land C (z_d dd_Mo_write 31 rfl) ?_
      refine r_l2i C (z_d dd_Mo_write 32 rfl) ?_
      obtain ⟨h2, h⟩ := zif h
      obtain ⟨h3, h⟩ := zif h
      obtain ⟨M4, e5, h⟩ := zlet_ex h
      have h6 := k_i e5 h1
      have h7 := k_i e5 h2
      refine r_iast C (z_d dd_Mo_write 33 rfl) h2 h3 e5 ?_
      refine r_aload_n C (z_d dd_Mo_write 34 rfl) rfl ?_
      refine r_dupP C (z_d dd_Mo_write 35 rfl) ?_
      refine r_getI C (z_d dd_Mo_write 36 rfl) lk_Mo_85 rfl h6 rfl ?_
      refine r_iconst (v := (1 : Int32)) C (z_d dd_Mo_write 37 rfl) (by decide) ?_
      refine r_iadd C (z_d dd_Mo_write 38 rfl) ?_
      obtain ⟨M8, e9, h⟩ := zlet_ex h
      have h10 := k_i e9 h6
      have h11 := k_i e9 h7
      refine r_putI C (z_d dd_Mo_write 39 rfl) lp_Mo_85 rfl h6 e9 ?_
      obtain ⟨v12, e13, h⟩ := zlet_ex h
      refine r_iinc (v := v12) (lv' := [some (zP l0), some (zL l1), none, some (zI l3), some (zI v12)]) C (z_d dd_Mo_write 40 rfl) rfl (Nat.le_of_ble_eq_true rfl) (by rw [e13]; rfl) rfl ?_
      refine r_goto C 28 (z_d dd_Mo_write 41 rfl) (by decide) ?_
      exact ih l0 l1 l3 v12 M8 h
def f_Mo_write_0 (O : zO) (n : Nat) (l0 : Nat) (l1 : Int64) (l3 : Int32) (M : zM) : Option (Int32 × zM) :=
  if l3 < (1 : Int32) then
  f_Mo_write_23 O n M
  else
  if (8 : Int32) < l3 then
  f_Mo_write_23 O n M
  else
  if z_k M l0 = 13 then
  if ((z_i M l0 1) + l3) ≤ (12000 : Int32) then
  f_Mo_write_28 O n l0 l1 l3 (0 : Int32) M
  else
  f_Mo_write_23 O n M
  else none
set_option maxRecDepth 100000 in
set_option maxHeartbeats 4000000 in
theorem s_Mo_write_0 {X : zX} {q : Int32 × zM} (C : zC X zR12 prog_14_method_2_code 5 { frames := 0, cells := 0, slots := 0, locals := 0 }) (hr : zRt X (some .boolean)) (E : zE X (some (zI q.1)) q.2 0 0) : ∀ (n : Nat) (l0 : Nat) (l1 : Int64) (l3 : Int32) (M : zM), f_Mo_write_0 (zOD X) n l0 l1 l3 M = some q → zW X 0 0 0 [some (zP l0), some (zL l1), none, some (zI l3), none] [] M := by
  intro n l0 l1 l3 M h
  rw [f_Mo_write_0] at h
  refine r_iload_n C (z_d dd_Mo_write 0 rfl) rfl ?_
  refine r_iconst (v := (1 : Int32)) C (z_d dd_Mo_write 1 rfl) (by decide) ?_
  refine r_icmp_lt C 23 (z_d dd_Mo_write 2 rfl) (by decide) (fun c4 => ?_) (fun c4 => ?_)
  · have h := zift h c4
    refine r_mk [false, false, false, false, false] ?_
    exact s_Mo_write_23 C hr E n M h
  · have h := ziff h c4
    refine r_iload_n C (z_d dd_Mo_write 3 rfl) rfl ?_
    refine r_bipush (v := (8 : Int32)) C (z_d dd_Mo_write 4 rfl) (by decide) ?_
    refine r_icmp_gt C 23 (z_d dd_Mo_write 5 rfl) (by decide) (fun c3 => ?_) (fun c3 => ?_)
    · have h := zift h c3
      refine r_mk [false, false, false, false, false] ?_
      exact s_Mo_write_23 C hr E n M h
    · have h := ziff h c3
      refine r_aload_n C (z_d dd_Mo_write 6 rfl) rfl ?_
      obtain ⟨h1, h⟩ := zif h
      refine r_getI C (z_d dd_Mo_write 7 rfl) lk_Mo_85 rfl h1 rfl ?_
      refine r_iload_n C (z_d dd_Mo_write 8 rfl) rfl ?_
      refine r_iadd C (z_d dd_Mo_write 9 rfl) ?_
      refine r_sipush (v := (12000 : Int32)) C (z_d dd_Mo_write 10 rfl) (by decide) ?_
      refine r_icmp_le C 25 (z_d dd_Mo_write 11 rfl) (by decide) (fun c2 => ?_) (fun c2 => ?_)
      · have h := zift h c2
        refine r_iconst (v := (0 : Int32)) C (z_d dd_Mo_write 14 rfl) (by decide) ?_
        refine r_istore (lv' := [some (zP l0), some (zL l1), none, some (zI l3), some (zI (0 : Int32))]) C (z_d dd_Mo_write 15 rfl) (Nat.le_of_ble_eq_true rfl) rfl ?_
        exact s_Mo_write_28 C hr E n l0 l1 l3 (0 : Int32) M h
      · have h := ziff h c2
        refine r_mk [false, false, false, false, false] ?_
        exact s_Mo_write_23 C hr E n M h
def F_Mo_write (O : zO) (n : Nat) (l0 : Nat) (l1 : Int64) (l3 : Int32) (M : zM) : Option (Int32 × zM) := f_Mo_write_0 O n l0 l1 l3 M
theorem S_Mo_write {l : Launch} {D : zD} {n : Nat} {l0 : Nat} {l1 : Int64} {l3 : Int32} {M : zM} {q : Int32 × zM} (h : F_Mo_write D.2.2.2.2 n l0 l1 l3 M = some q) : zMet l D mi_Mo_write [zP l0, zL l1, zI l3] M (some (zI q.1)) q.2 :=
  z_met (by decide) (Nat.le_of_ble_eq_true rfl) (fun X C E hr hin hD hl => by
    subst hD
    exact s_Mo_write_0 C hr E n l0 l1 l3 M h)

def f_Mo_again_35 (O : zO) (n : Nat) (M : zM) : Option (Int32 × zM) :=
  some ((0 : Int32), M)
set_option maxRecDepth 100000 in
set_option maxHeartbeats 4000000 in
theorem s_Mo_again_35 {X : zX} {q : Int32 × zM} (C : zC X zR12 prog_14_method_3_code 4 { frames := 0, cells := 0, slots := 0, locals := 0 }) (hr : zRt X (some .boolean)) (E : zE X (some (zI q.1)) q.2 0 0) : ∀ (n : Nat) (M : zM), f_Mo_again_35 (zOD X) n M = some q → zW X 0 0 35 [none, none, none, none] [] M := by
  intro n M h
  rw [f_Mo_again_35] at h
  refine r_iconst (v := (0 : Int32)) C (z_d dd_Mo_again 21 rfl) (by decide) ?_
  obtain rfl := z_res h
  exact r_iretZ C E hr (z_d dd_Mo_again 22 rfl) (by decide) (Nat.le_of_ble_eq_true rfl) (Nat.le_of_ble_eq_true rfl)
def f_Mo_again_39 (O : zO) : Nat → Nat → Int32 → Int32 → Int32 → zM → Option (Int32 × zM)
  | 0, _, _, _, _, _ => none
  | n + 1, l0, l1, l2, l3, M =>
    if (l1 * l2) ≤ l3 then
    some ((1 : Int32), M)
    else
    if z_k M l0 = 13 then
    if z_k M (z_p M l0 0) = 100 then
    if zin ((z_i M l0 1) - l1) (z_n M (z_p M l0 0)) = true then
    if zin (z_i M l0 1) (z_n M (z_p M l0 0)) = true then
    zlet (w_i M (z_p M l0 0) (z_i M l0 1).toNatClampNeg (z_i M (z_p M l0 0) ((z_i M l0 1) - l1).toNatClampNeg)) fun M5 =>
    zlet (w_i M5 l0 1 ((z_i M5 l0 1) + (1 : Int32))) fun M9 =>
    zlet (l3 + (1 : Int32)) fun v13 =>
    f_Mo_again_39 O n l0 l1 l2 v13 M9
    else none
    else none
    else none
    else none
set_option maxRecDepth 100000 in
set_option maxHeartbeats 4000000 in
theorem s_Mo_again_39 {X : zX} {q : Int32 × zM} (C : zC X zR12 prog_14_method_3_code 4 { frames := 0, cells := 0, slots := 0, locals := 0 }) (hr : zRt X (some .boolean)) (E : zE X (some (zI q.1)) q.2 0 0) : ∀ (n : Nat) (l0 : Nat) (l1 : Int32) (l2 : Int32) (l3 : Int32) (M : zM), f_Mo_again_39 (zOD X) n l0 l1 l2 l3 M = some q → zW X 0 0 39 [some (zP l0), some (zI l1), some (zI l2), some (zI l3)] [] M := by
  intro n
  induction n with
  | zero => intro l0 l1 l2 l3 M h; rw [f_Mo_again_39] at h; cases h
  | succ n ih =>
    intro l0 l1 l2 l3 M h
    rw [f_Mo_again_39] at h
    refine r_iload_n C (z_d dd_Mo_again 25 rfl) rfl ?_
    refine r_iload_n C (z_d dd_Mo_again 26 rfl) rfl ?_
    refine r_iload_n C (z_d dd_Mo_again 27 rfl) rfl ?_
    refine r_imul C (z_d dd_Mo_again 28 rfl) ?_
    refine r_icmp_ge C 82 (z_d dd_Mo_again 29 rfl) (by decide) (fun c15 => ?_) (fun c15 => ?_)
    · have h := zift h c15
      refine r_iconst (v := (1 : Int32)) C (z_d dd_Mo_again 50 rfl) (by decide) ?_
      obtain rfl := z_res h
      exact r_iretZ C E hr (z_d dd_Mo_again 51 rfl) (by decide) (Nat.le_of_ble_eq_true rfl) (Nat.le_of_ble_eq_true rfl)
    · have h := ziff h c15
      refine r_aload_n C (z_d dd_Mo_again 30 rfl) rfl ?_
      obtain ⟨h1, h⟩ := zif h
      refine r_getP C (z_d dd_Mo_again 31 rfl) lk_Mo_7 rfl h1 rfl ?_
      refine r_aload_n C (z_d dd_Mo_again 32 rfl) rfl ?_
      refine r_getI C (z_d dd_Mo_again 33 rfl) lk_Mo_85 rfl h1 rfl ?_
      refine r_aload_n C (z_d dd_Mo_again 34 rfl) rfl ?_
      refine r_getP C (z_d dd_Mo_again 35 rfl) lk_Mo_7 rfl h1 rfl ?_
      refine r_aload_n C (z_d dd_Mo_again 36 rfl) rfl ?_
      refine r_getI C (z_d dd_Mo_again 37 rfl) lk_Mo_85 rfl h1 rfl ?_
      refine r_iload_n C (z_d dd_Mo_again 38 rfl) rfl ?_
      refine r_isub C (z_d dd_Mo_again 39 rfl) ?_
      obtain ⟨h2, h⟩ := zif h
      obtain ⟨h3, h⟩ := zif h
      refine r_iald C (z_d dd_Mo_again 40 rfl) h2 h3 rfl ?_
      obtain ⟨h4, h⟩ := zif h
      obtain ⟨M5, e6, h⟩ := zlet_ex h
      have h7 := k_i e6 h1
      have h8 := k_i e6 h2
      refine r_iast C (z_d dd_Mo_again 41 rfl) h2 h4 e6 ?_
      refine r_aload_n C (z_d dd_Mo_again 42 rfl) rfl ?_
      refine r_dupP C (z_d dd_Mo_again 43 rfl) ?_
      refine r_getI C (z_d dd_Mo_again 44 rfl) lk_Mo_85 rfl h7 rfl ?_
      refine r_iconst (v := (1 : Int32)) C (z_d dd_Mo_again 45 rfl) (by decide) ?_
      refine r_iadd C (z_d dd_Mo_again 46 rfl) ?_
      obtain ⟨M9, e10, h⟩ := zlet_ex h
      have h11 := k_i e10 h7
      have h12 := k_i e10 h8
      refine r_putI C (z_d dd_Mo_again 47 rfl) lp_Mo_85 rfl h7 e10 ?_
      obtain ⟨v13, e14, h⟩ := zlet_ex h
      refine r_iinc (v := v13) (lv' := [some (zP l0), some (zI l1), some (zI l2), some (zI v13)]) C (z_d dd_Mo_again 48 rfl) rfl (Nat.le_of_ble_eq_true rfl) (by rw [e14]; rfl) rfl ?_
      refine r_goto C 39 (z_d dd_Mo_again 49 rfl) (by decide) ?_
      exact ih l0 l1 l2 v13 M9 h
def f_Mo_again_0 (O : zO) (n : Nat) (l0 : Nat) (l1 : Int32) (l2 : Int32) (M : zM) : Option (Int32 × zM) :=
  if l1 < (1 : Int32) then
  f_Mo_again_35 O n M
  else
  if z_k M l0 = 13 then
  if (z_i M l0 1) < l1 then
  f_Mo_again_35 O n M
  else
  if l2 < 0 then
  f_Mo_again_35 O n M
  else
  if (lg_cmp (l1.toInt64 * l2.toInt64) ((12000 : Int32) - (z_i M l0 1)).toInt64) ≤ 0 then
  f_Mo_again_39 O n l0 l1 l2 (0 : Int32) M
  else
  f_Mo_again_35 O n M
  else none
set_option maxRecDepth 100000 in
set_option maxHeartbeats 4000000 in
theorem s_Mo_again_0 {X : zX} {q : Int32 × zM} (C : zC X zR12 prog_14_method_3_code 4 { frames := 0, cells := 0, slots := 0, locals := 0 }) (hr : zRt X (some .boolean)) (E : zE X (some (zI q.1)) q.2 0 0) : ∀ (n : Nat) (l0 : Nat) (l1 : Int32) (l2 : Int32) (M : zM), f_Mo_again_0 (zOD X) n l0 l1 l2 M = some q → zW X 0 0 0 [some (zP l0), some (zI l1), some (zI l2), none] [] M := by
  intro n l0 l1 l2 M h
  rw [f_Mo_again_0] at h
  refine r_iload_n C (z_d dd_Mo_again 0 rfl) rfl ?_
  refine r_iconst (v := (1 : Int32)) C (z_d dd_Mo_again 1 rfl) (by decide) ?_
  refine r_icmp_lt C 35 (z_d dd_Mo_again 2 rfl) (by decide) (fun c5 => ?_) (fun c5 => ?_)
  · have h := zift h c5
    refine r_mk [false, false, false, false] ?_
    exact s_Mo_again_35 C hr E n M h
  · have h := ziff h c5
    refine r_iload_n C (z_d dd_Mo_again 3 rfl) rfl ?_
    refine r_aload_n C (z_d dd_Mo_again 4 rfl) rfl ?_
    obtain ⟨h1, h⟩ := zif h
    refine r_getI C (z_d dd_Mo_again 5 rfl) lk_Mo_85 rfl h1 rfl ?_
    refine r_icmp_gt C 35 (z_d dd_Mo_again 6 rfl) (by decide) (fun c4 => ?_) (fun c4 => ?_)
    · have h := zift h c4
      refine r_mk [false, false, false, false] ?_
      exact s_Mo_again_35 C hr E n M h
    · have h := ziff h c4
      refine r_iload_n C (z_d dd_Mo_again 7 rfl) rfl ?_
      refine r_if_lt C 35 (z_d dd_Mo_again 8 rfl) (by decide) (fun c3 => ?_) (fun c3 => ?_)
      · have h := zift h c3
        refine r_mk [false, false, false, false] ?_
        exact s_Mo_again_35 C hr E n M h
      · have h := ziff h c3
        refine r_iload_n C (z_d dd_Mo_again 9 rfl) rfl ?_
        refine r_i2l C (z_d dd_Mo_again 10 rfl) ?_
        refine r_iload_n C (z_d dd_Mo_again 11 rfl) rfl ?_
        refine r_i2l C (z_d dd_Mo_again 12 rfl) ?_
        refine r_lmul C (z_d dd_Mo_again 13 rfl) ?_
        refine r_sipush (v := (12000 : Int32)) C (z_d dd_Mo_again 14 rfl) (by decide) ?_
        refine r_aload_n C (z_d dd_Mo_again 15 rfl) rfl ?_
        refine r_getI C (z_d dd_Mo_again 16 rfl) lk_Mo_85 rfl h1 rfl ?_
        refine r_isub C (z_d dd_Mo_again 17 rfl) ?_
        refine r_i2l C (z_d dd_Mo_again 18 rfl) ?_
        refine r_lcmp C (z_d dd_Mo_again 19 rfl) ?_
        refine r_if_le C 37 (z_d dd_Mo_again 20 rfl) (by decide) (fun c2 => ?_) (fun c2 => ?_)
        · have h := zift h c2
          refine r_iconst (v := (0 : Int32)) C (z_d dd_Mo_again 23 rfl) (by decide) ?_
          refine r_istore_n (lv' := [some (zP l0), some (zI l1), some (zI l2), some (zI (0 : Int32))]) C (z_d dd_Mo_again 24 rfl) (Nat.le_of_ble_eq_true rfl) rfl ?_
          exact s_Mo_again_39 C hr E n l0 l1 l2 (0 : Int32) M h
        · have h := ziff h c2
          refine r_mk [false, false, false, false] ?_
          exact s_Mo_again_35 C hr E n M h
def F_Mo_again (O : zO) (n : Nat) (l0 : Nat) (l1 : Int32) (l2 : Int32) (M : zM) : Option (Int32 × zM) := f_Mo_again_0 O n l0 l1 l2 M
theorem S_Mo_again {l : Launch} {D : zD} {n : Nat} {l0 : Nat} {l1 : Int32} {l2 : Int32} {M : zM} {q : Int32 × zM} (h : F_Mo_again D.2.2.2.2 n l0 l1 l2 M = some q) : zMet l D mi_Mo_again [zP l0, zI l1, zI l2] M (some (zI q.1)) q.2 :=
  z_met (by decide) (Nat.le_of_ble_eq_true rfl) (fun X C E hr hin hD hl => by
    subst hD
    exact s_Mo_again_0 C hr E n l0 l1 l2 M h)

def f_Mo_clear_0 (O : zO) (n : Nat) (l0 : Nat) (M : zM) : Option (Unit × zM) :=
  if z_k M l0 = 13 then
  zlet (w_i M l0 1 (0 : Int32)) fun M2 =>
  some ((), M2)
  else none
set_option maxRecDepth 100000 in
set_option maxHeartbeats 4000000 in
theorem s_Mo_clear_0 {X : zX} {q : Unit × zM} (C : zC X zR12 prog_14_method_4_code 1 { frames := 0, cells := 0, slots := 0, locals := 0 }) (hr : zRt X none) (E : zE X none q.2 0 0) : ∀ (n : Nat) (l0 : Nat) (M : zM), f_Mo_clear_0 (zOD X) n l0 M = some q → zW X 0 0 0 [some (zP l0)] [] M := by
  intro n l0 M h
  rw [f_Mo_clear_0] at h
  refine r_aload_n C (z_d dd_Mo_clear 0 rfl) rfl ?_
  refine r_iconst (v := (0 : Int32)) C (z_d dd_Mo_clear 1 rfl) (by decide) ?_
  obtain ⟨h1, h⟩ := zif h
  obtain ⟨M2, e3, h⟩ := zlet_ex h
  have h4 := k_i e3 h1
  refine r_putI C (z_d dd_Mo_clear 2 rfl) lp_Mo_85 rfl h1 e3 ?_
  obtain rfl := z_res h
  exact r_vret C E hr (z_d dd_Mo_clear 3 rfl) (Nat.le_of_ble_eq_true rfl) (Nat.le_of_ble_eq_true rfl)
def F_Mo_clear (O : zO) (n : Nat) (l0 : Nat) (M : zM) : Option (Unit × zM) := f_Mo_clear_0 O n l0 M
theorem S_Mo_clear {l : Launch} {D : zD} {n : Nat} {l0 : Nat} {M : zM} {q : Unit × zM} (h : F_Mo_clear D.2.2.2.2 n l0 M = some q) : zMet l D mi_Mo_clear [zP l0] M none q.2 :=
  z_met (by decide) (Nat.le_of_ble_eq_true rfl) (fun X C E hr hin hD hl => by
    subst hD
    exact s_Mo_clear_0 C hr E n l0 M h)

def f_Mo_forget_0 (O : zO) (n : Nat) (l0 : Nat) (M : zM) : Option (Unit × zM) :=
  if z_k M l0 = 13 then
  zlet (w_i M l0 5 (0 : Int32)) fun M2 =>
  zlet (w_i M2 l0 6 (0 : Int32)) fun M5 =>
  zlet (w_i M5 l0 7 (0 : Int32)) fun M8 =>
  some ((), M8)
  else none
set_option maxRecDepth 100000 in
set_option maxHeartbeats 4000000 in
theorem s_Mo_forget_0 {X : zX} {q : Unit × zM} (C : zC X zR12 prog_14_method_22_code 1 { frames := 0, cells := 0, slots := 0, locals := 0 }) (hr : zRt X none) (E : zE X none q.2 0 0) : ∀ (n : Nat) (l0 : Nat) (M : zM), f_Mo_forget_0 (zOD X) n l0 M = some q → zW X 0 0 0 [some (zP l0)] [] M := by
  intro n l0 M h
  rw [f_Mo_forget_0] at h
  refine r_aload_n C (z_d dd_Mo_forget 0 rfl) rfl ?_
  refine r_iconst (v := (0 : Int32)) C (z_d dd_Mo_forget 1 rfl) (by decide) ?_
  obtain ⟨h1, h⟩ := zif h
  obtain ⟨M2, e3, h⟩ := zlet_ex h
  have h4 := k_i e3 h1
  refine r_putI C (z_d dd_Mo_forget 2 rfl) lp_Mo_149 rfl h1 e3 ?_
  refine r_aload_n C (z_d dd_Mo_forget 3 rfl) rfl ?_
  refine r_iconst (v := (0 : Int32)) C (z_d dd_Mo_forget 4 rfl) (by decide) ?_
  obtain ⟨M5, e6, h⟩ := zlet_ex h
  have h7 := k_i e6 h4
  refine r_putI C (z_d dd_Mo_forget 5 rfl) lp_Mo_152 rfl h4 e6 ?_
  refine r_aload_n C (z_d dd_Mo_forget 6 rfl) rfl ?_
  refine r_iconst (v := (0 : Int32)) C (z_d dd_Mo_forget 7 rfl) (by decide) ?_
  obtain ⟨M8, e9, h⟩ := zlet_ex h
  have h10 := k_i e9 h7
  refine r_putZ C (z_d dd_Mo_forget 8 rfl) lp_Mo_155 rfl (by decide) h7 e9 ?_
  obtain rfl := z_res h
  exact r_vret C E hr (z_d dd_Mo_forget 9 rfl) (Nat.le_of_ble_eq_true rfl) (Nat.le_of_ble_eq_true rfl)
def F_Mo_forget (O : zO) (n : Nat) (l0 : Nat) (M : zM) : Option (Unit × zM) := f_Mo_forget_0 O n l0 M
theorem S_Mo_forget {l : Launch} {D : zD} {n : Nat} {l0 : Nat} {M : zM} {q : Unit × zM} (h : F_Mo_forget D.2.2.2.2 n l0 M = some q) : zMet l D mi_Mo_forget [zP l0] M none q.2 :=
  z_met (by decide) (Nat.le_of_ble_eq_true rfl) (fun X C E hr hin hD hl => by
    subst hD
    exact s_Mo_forget_0 C hr E n l0 M h)

def f_Mo_stands_53 (O : zO) (n : Nat) (s0 : Int32) (M : zM) : Option (Int32 × zM) :=
  if s0 = 0 ∨ s0 = 1 then
  some (s0, M)
  else none
set_option maxRecDepth 100000 in
set_option maxHeartbeats 4000000 in
theorem s_Mo_stands_53 {X : zX} {q : Int32 × zM} (C : zC X zR12 prog_14_method_6_code 6 { frames := 0, cells := 0, slots := 0, locals := 0 }) (hr : zRt X (some .boolean)) (E : zE X (some (zI q.1)) q.2 0 0) : ∀ (n : Nat) (s0 : Int32) (M : zM), f_Mo_stands_53 (zOD X) n s0 M = some q → zW X 0 0 53 [none, none, none, none, none, none] [zI s0] M := by
  intro n s0 M h
  rw [f_Mo_stands_53] at h
  obtain ⟨h1, h⟩ := zif h
  obtain rfl := z_res h
  exact r_iretZ C E hr (z_d dd_Mo_stands 33 rfl) h1 (Nat.le_of_ble_eq_true rfl) (Nat.le_of_ble_eq_true rfl)
def f_Mo_stands_52 (O : zO) (n : Nat) (M : zM) : Option (Int32 × zM) :=
  f_Mo_stands_53 O n (0 : Int32) M
set_option maxRecDepth 100000 in
set_option maxHeartbeats 4000000 in
theorem s_Mo_stands_52 {X : zX} {q : Int32 × zM} (C : zC X zR12 prog_14_method_6_code 6 { frames := 0, cells := 0, slots := 0, locals := 0 }) (hr : zRt X (some .boolean)) (E : zE X (some (zI q.1)) q.2 0 0) : ∀ (n : Nat) (M : zM), f_Mo_stands_52 (zOD X) n M = some q → zW X 0 0 52 [none, none, none, none, none, none] [] M := by
  intro n M h
  rw [f_Mo_stands_52] at h
  refine r_iconst (v := (0 : Int32)) C (z_d dd_Mo_stands 32 rfl) (by decide) ?_
  exact s_Mo_stands_53 C hr E n (0 : Int32) M h
def f_Mo_stands_0 (O : zO) (n : Nat) (l0 : Nat) (l1 : Int32) (l2 : Int32) (l3 : Int32) (l4 : Int32) (l5 : Int32) (M : zM) : Option (Int32 × zM) :=
  if z_k M l0 = 13 then
  if z_k M (z_p M l0 0) = 100 then
  if zin l1 (z_n M (z_p M l0 0)) = true then
  if (z_i M (z_p M l0 0) l1.toNatClampNeg) = l2 then
  if zin (l1 + (1 : Int32)) (z_n M (z_p M l0 0)) = true then
  if (z_i M (z_p M l0 0) (l1 + (1 : Int32)).toNatClampNeg) = l3 then
  if zin (l1 + (2 : Int32)) (z_n M (z_p M l0 0)) = true then
  if (z_i M (z_p M l0 0) (l1 + (2 : Int32)).toNatClampNeg) = l4 then
  if zin (l1 + (3 : Int32)) (z_n M (z_p M l0 0)) = true then
  if (z_i M (z_p M l0 0) (l1 + (3 : Int32)).toNatClampNeg) = l5 then
  f_Mo_stands_53 O n (1 : Int32) M
  else
  f_Mo_stands_52 O n M
  else none
  else
  f_Mo_stands_52 O n M
  else none
  else
  f_Mo_stands_52 O n M
  else none
  else
  f_Mo_stands_52 O n M
  else none
  else none
  else none
set_option maxRecDepth 100000 in
set_option maxHeartbeats 4000000 in
theorem s_Mo_stands_0 {X : zX} {q : Int32 × zM} (C : zC X zR12 prog_14_method_6_code 6 { frames := 0, cells := 0, slots := 0, locals := 0 }) (hr : zRt X (some .boolean)) (E : zE X (some (zI q.1)) q.2 0 0) : ∀ (n : Nat) (l0 : Nat) (l1 : Int32) (l2 : Int32) (l3 : Int32) (l4 : Int32) (l5 : Int32) (M : zM), f_Mo_stands_0 (zOD X) n l0 l1 l2 l3 l4 l5 M = some q → zW X 0 0 0 [some (zP l0), some (zI l1), some (zI l2), some (zI l3), some (zI l4), some (zI l5)] [] M := by
  intro n l0 l1 l2 l3 l4 l5 M h
  rw [f_Mo_stands_0] at h
  refine r_aload_n C (z_d dd_Mo_stands 0 rfl) rfl ?_
  obtain ⟨h1, h⟩ := zif h
  refine r_getP C (z_d dd_Mo_stands 1 rfl) lk_Mo_7 rfl h1 rfl ?_
  refine r_iload_n C (z_d dd_Mo_stands 2 rfl) rfl ?_
  obtain ⟨h2, h⟩ := zif h
  obtain ⟨h3, h⟩ := zif h
  refine r_iald C (z_d dd_Mo_stands 3 rfl) h2 h3 rfl ?_
  refine r_iload_n C (z_d dd_Mo_stands 4 rfl) rfl ?_
  refine r_icmp_ne C 52 (z_d dd_Mo_stands 5 rfl) (by decide) (fun c10 => ?_) (fun c10 => ?_)
  · have h := ziff h c10
    refine r_mk [false, false, false, false, false, false] ?_
    exact s_Mo_stands_52 C hr E n M h
  · have h := zift h c10
    refine r_aload_n C (z_d dd_Mo_stands 6 rfl) rfl ?_
    refine r_getP C (z_d dd_Mo_stands 7 rfl) lk_Mo_7 rfl h1 rfl ?_
    refine r_iload_n C (z_d dd_Mo_stands 8 rfl) rfl ?_
    refine r_iconst (v := (1 : Int32)) C (z_d dd_Mo_stands 9 rfl) (by decide) ?_
    refine r_iadd C (z_d dd_Mo_stands 10 rfl) ?_
    obtain ⟨h4, h⟩ := zif h
    refine r_iald C (z_d dd_Mo_stands 11 rfl) h2 h4 rfl ?_
    refine r_iload_n C (z_d dd_Mo_stands 12 rfl) rfl ?_
    refine r_icmp_ne C 52 (z_d dd_Mo_stands 13 rfl) (by decide) (fun c9 => ?_) (fun c9 => ?_)
    · have h := ziff h c9
      refine r_mk [false, false, false, false, false, false] ?_
      exact s_Mo_stands_52 C hr E n M h
    · have h := zift h c9
      refine r_aload_n C (z_d dd_Mo_stands 14 rfl) rfl ?_
      refine r_getP C (z_d dd_Mo_stands 15 rfl) lk_Mo_7 rfl h1 rfl ?_
      refine r_iload_n C (z_d dd_Mo_stands 16 rfl) rfl ?_
      refine r_iconst (v := (2 : Int32)) C (z_d dd_Mo_stands 17 rfl) (by decide) ?_
      refine r_iadd C (z_d dd_Mo_stands 18 rfl) ?_
      obtain ⟨h5, h⟩ := zif h
      refine r_iald C (z_d dd_Mo_stands 19 rfl) h2 h5 rfl ?_
      refine r_iload C (z_d dd_Mo_stands 20 rfl) rfl ?_
      refine r_icmp_ne C 52 (z_d dd_Mo_stands 21 rfl) (by decide) (fun c8 => ?_) (fun c8 => ?_)
      · have h := ziff h c8
        refine r_mk [false, false, false, false, false, false] ?_
        exact s_Mo_stands_52 C hr E n M h
      · have h := zift h c8
        refine r_aload_n C (z_d dd_Mo_stands 22 rfl) rfl ?_
        refine r_getP C (z_d dd_Mo_stands 23 rfl) lk_Mo_7 rfl h1 rfl ?_
        refine r_iload_n C (z_d dd_Mo_stands 24 rfl) rfl ?_
        refine r_iconst (v := (3 : Int32)) C (z_d dd_Mo_stands 25 rfl) (by decide) ?_
        refine r_iadd C (z_d dd_Mo_stands 26 rfl) ?_
        obtain ⟨h6, h⟩ := zif h
        refine r_iald C (z_d dd_Mo_stands 27 rfl) h2 h6 rfl ?_
        refine r_iload C (z_d dd_Mo_stands 28 rfl) rfl ?_
        refine r_icmp_ne C 52 (z_d dd_Mo_stands 29 rfl) (by decide) (fun c7 => ?_) (fun c7 => ?_)
        · have h := ziff h c7
          refine r_mk [false, false, false, false, false, false] ?_
          exact s_Mo_stands_52 C hr E n M h
        · have h := zift h c7
          refine r_iconst (v := (1 : Int32)) C (z_d dd_Mo_stands 30 rfl) (by decide) ?_
          refine r_goto C 53 (z_d dd_Mo_stands 31 rfl) (by decide) ?_
          refine r_mk [false, false, false, false, false, false] ?_
          exact s_Mo_stands_53 C hr E n (1 : Int32) M h
def F_Mo_stands (O : zO) (n : Nat) (l0 : Nat) (l1 : Int32) (l2 : Int32) (l3 : Int32) (l4 : Int32) (l5 : Int32) (M : zM) : Option (Int32 × zM) := f_Mo_stands_0 O n l0 l1 l2 l3 l4 l5 M
theorem S_Mo_stands {l : Launch} {D : zD} {n : Nat} {l0 : Nat} {l1 : Int32} {l2 : Int32} {l3 : Int32} {l4 : Int32} {l5 : Int32} {M : zM} {q : Int32 × zM} (h : F_Mo_stands D.2.2.2.2 n l0 l1 l2 l3 l4 l5 M = some q) : zMet l D mi_Mo_stands [zP l0, zI l1, zI l2, zI l3, zI l4, zI l5] M (some (zI q.1)) q.2 :=
  z_met (by decide) (Nat.le_of_ble_eq_true rfl) (fun X C E hr hin hD hl => by
    subst hD
    exact s_Mo_stands_0 C hr E n l0 l1 l2 l3 l4 l5 M h)

def f_Mo_bit_0 (O : zO) (n : Nat) (l0 : Nat) (l1 : Int32) (M : zM) : Option (Int32 × zM) :=
  if z_k M l0 = 13 then
  if z_k M (z_p M l0 0) = 100 then
  if zin (l1 / (8 : Int32)) (z_n M (z_p M l0 0)) = true then
  some ((((z_i M (z_p M l0 0) (l1 / (8 : Int32)).toNatClampNeg) >>> ((l1 - l1 / (8 : Int32) * (8 : Int32)) &&& 31)) &&& (1 : Int32)), M)
  else none
  else none
  else none
set_option maxRecDepth 100000 in
set_option maxHeartbeats 4000000 in
theorem s_Mo_bit_0 {X : zX} {q : Int32 × zM} (C : zC X zR12 prog_14_method_7_code 2 { frames := 0, cells := 0, slots := 0, locals := 0 }) (hr : zRt X (some .int)) (E : zE X (some (zI q.1)) q.2 0 0) : ∀ (n : Nat) (l0 : Nat) (l1 : Int32) (M : zM), f_Mo_bit_0 (zOD X) n l0 l1 M = some q → zW X 0 0 0 [some (zP l0), some (zI l1)] [] M := by
  intro n l0 l1 M h
  rw [f_Mo_bit_0] at h
  refine r_aload_n C (z_d dd_Mo_bit 0 rfl) rfl ?_
  obtain ⟨h1, h⟩ := zif h
  refine r_getP C (z_d dd_Mo_bit 1 rfl) lk_Mo_7 rfl h1 rfl ?_
  refine r_iload_n C (z_d dd_Mo_bit 2 rfl) rfl ?_
  refine r_bipush (v := (8 : Int32)) C (z_d dd_Mo_bit 3 rfl) (by decide) ?_
  refine r_idiv C (z_d dd_Mo_bit 4 rfl) (by decide) ?_
  obtain ⟨h2, h⟩ := zif h
  obtain ⟨h3, h⟩ := zif h
  refine r_iald C (z_d dd_Mo_bit 5 rfl) h2 h3 rfl ?_
  refine r_iload_n C (z_d dd_Mo_bit 6 rfl) rfl ?_
  refine r_bipush (v := (8 : Int32)) C (z_d dd_Mo_bit 7 rfl) (by decide) ?_
  refine r_irem C (z_d dd_Mo_bit 8 rfl) (by decide) ?_
  refine r_ishr C (z_d dd_Mo_bit 9 rfl) ?_
  refine r_iconst (v := (1 : Int32)) C (z_d dd_Mo_bit 10 rfl) (by decide) ?_
  refine r_iand C (z_d dd_Mo_bit 11 rfl) ?_
  obtain rfl := z_res h
  exact r_iretI C E hr (z_d dd_Mo_bit 12 rfl) (Nat.le_of_ble_eq_true rfl) (Nat.le_of_ble_eq_true rfl)
def F_Mo_bit (O : zO) (n : Nat) (l0 : Nat) (l1 : Int32) (M : zM) : Option (Int32 × zM) := f_Mo_bit_0 O n l0 l1 M
theorem S_Mo_bit {l : Launch} {D : zD} {n : Nat} {l0 : Nat} {l1 : Int32} {M : zM} {q : Int32 × zM} (h : F_Mo_bit D.2.2.2.2 n l0 l1 M = some q) : zMet l D mi_Mo_bit [zP l0, zI l1] M (some (zI q.1)) q.2 :=
  z_met (by decide) (Nat.le_of_ble_eq_true rfl) (fun X C E hr hin hD hl => by
    subst hD
    exact s_Mo_bit_0 C hr E n l0 l1 M h)
