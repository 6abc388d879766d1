def f_Mo_unit_90 (O : zO) (n : Nat) (l0 : Nat) (M : zM) : Option (Int32 × zM) :=
  if z_k M l0 = 13 then
  (F_Mo_wrong O n l0 (2 : Int32) (z_i M l0 28) M).bind fun q2 =>
  if q2.1 = 0 ∨ q2.1 = 1 then
  some (q2.1, q2.2)
  else none
  else none
set_option maxRecDepth 100000 in
set_option maxHeartbeats 4000000 in
theorem s_Mo_unit_90 {X : zX} {q : Int32 × zM} (C : zC X zR12 prog_14_method_33_code 3 { frames := 9, cells := 0, slots := 0, locals := 247 }) (hr : zRt X (some .boolean)) (E : zE X (some (zI q.1)) q.2 0 0) : ∀ (n : Nat) (l0 : Nat) (M : zM), f_Mo_unit_90 (zOD X) n l0 M = some q → zW X 0 0 90 [some (zP l0), none, none] [] M := by
  intro n l0 M h
  rw [f_Mo_unit_90] at h
  refine r_aload_n C (z_d dd_Mo_unit 45 rfl) rfl ?_
  refine r_iconst (v := (2 : Int32)) C (z_d dd_Mo_unit 46 rfl) (by decide) ?_
  refine r_aload_n C (z_d dd_Mo_unit 47 rfl) rfl ?_
  obtain ⟨h1, h⟩ := zif h
  refine r_getI C (z_d dd_Mo_unit 48 rfl) lk_Mo_204 rfl h1 rfl ?_
  obtain ⟨q2, c3, h⟩ := zbd h
  refine r_invV (as := [zI (2 : Int32), zI (z_i M l0 28)]) C 12 (S_Mo_wrong c3) (z_d dd_Mo_unit 49 rfl) ok_Mo_wrong iv_Mo_wrong se_Mo_wrong ml_Mo_207 rfl rfl h1 rfl rfl rfl (Nat.le_of_ble_eq_true rfl) ⟨(Nat.le_of_ble_eq_true rfl), (Nat.le_of_ble_eq_true rfl)⟩ ⟨(Nat.le_of_ble_eq_true rfl), (Nat.le_of_ble_eq_true rfl)⟩ ?_
  obtain ⟨h4, h⟩ := zif h
  obtain rfl := z_res h
  exact r_iretZ C E hr (z_d dd_Mo_unit 50 rfl) h4 (Nat.le_of_ble_eq_true rfl) (Nat.le_of_ble_eq_true rfl)
def f_Mo_unit_0 (O : zO) (n : Nat) (l0 : Nat) (M : zM) : Option (Int32 × zM) :=
  if z_k M l0 = 13 then
  (F_Mo_has O n l0 (4 : Int32) M).bind fun q2 =>
  if q2.1 = 0 then
  some ((0 : Int32), q2.2)
  else
  if z_k q2.2 l0 = 13 then
  (F_Mo_stands O n l0 (z_i q2.2 l0 28) (40 : Int32) (181 : Int32) (47 : Int32) (253 : Int32) q2.2).bind fun q5 =>
  if q5.1 = 0 then
  if z_k q5.2 l0 = 13 then
  if z_k q5.2 (z_p q5.2 l0 0) = 100 then
  if zin (z_i q5.2 l0 28) (z_n q5.2 (z_p q5.2 l0 0)) = true then
  if (z_i q5.2 (z_p q5.2 l0 0) (z_i q5.2 l0 28).toNatClampNeg) < (80 : Int32) then
  f_Mo_unit_90 O n l0 q5.2
  else
  if zin (z_i q5.2 l0 28) (z_n q5.2 (z_p q5.2 l0 0)) = true then
  if (95 : Int32) < (z_i q5.2 (z_p q5.2 l0 0) (z_i q5.2 l0 28).toNatClampNeg) then
  f_Mo_unit_90 O n l0 q5.2
  else
  if zin (z_i q5.2 l0 28) (z_n q5.2 (z_p q5.2 l0 0)) = true then
  (F_Mo_stands O n l0 (z_i q5.2 l0 28) (z_i q5.2 (z_p q5.2 l0 0) (z_i q5.2 l0 28).toNatClampNeg) (42 : Int32) (77 : Int32) (24 : Int32) q5.2).bind fun q12 =>
  if q12.1 = 0 then
  f_Mo_unit_90 O n l0 q12.2
  else
  if z_k q12.2 l0 = 13 then
  zlet (w_i q12.2 l0 28 ((z_i q12.2 l0 28) + (4 : Int32))) fun M15 =>
  (F_Mo_has O n l0 (4 : Int32) M15).bind fun q18 =>
  if q18.1 = 0 then
  some ((0 : Int32), q18.2)
  else
  if z_k q18.2 l0 = 13 then
  (F_Mo_number O n l0 (z_i q18.2 l0 28) (4 : Int32) q18.2).bind fun q21 =>
  if z_k q21.2 l0 = 13 then
  zlet (w_i q21.2 l0 28 ((z_i q21.2 l0 28) + (4 : Int32))) fun M24 =>
  if (lg_cmp q21.1 ((z_i M24 l0 1) - (z_i M24 l0 28)).toInt64) ≤ 0 then
  zlet (w_i M24 l0 28 ((z_i M24 l0 28) + q21.1.toInt32)) fun M27 =>
  some ((1 : Int32), M27)
  else
  (F_Mo_wrong O n l0 (1 : Int32) (z_i M24 l0 1) M24).bind fun q30 =>
  if q30.1 = 0 ∨ q30.1 = 1 then
  some (q30.1, q30.2)
  else none
  else none
  else none
  else none
  else none
  else none
  else none
  else none
  else none
  else
  if z_k q5.2 l0 = 13 then
  (F_Mo_frame O n l0 q5.2).bind fun q39 =>
  if q39.1 = 0 ∨ q39.1 = 1 then
  some (q39.1, q39.2)
  else none
  else none
  else none
  else none
set_option maxRecDepth 100000 in
set_option maxHeartbeats 4000000 in
theorem s_Mo_unit_0 {X : zX} {q : Int32 × zM} (C : zC X zR12 prog_14_method_33_code 3 { frames := 9, cells := 0, slots := 0, locals := 247 }) (hr : zRt X (some .boolean)) (E : zE X (some (zI q.1)) q.2 0 0) : ∀ (n : Nat) (l0 : Nat) (M : zM), f_Mo_unit_0 (zOD X) n l0 M = some q → zW X 0 0 0 [some (zP l0), none, none] [] M := by
  intro n l0 M h
  rw [f_Mo_unit_0] at h
  refine r_aload_n C (z_d dd_Mo_unit 0 rfl) rfl ?_
  refine r_iconst (v := (4 : Int32)) C (z_d dd_Mo_unit 1 rfl) (by decide) ?_
  obtain ⟨h1, h⟩ := zif h
  obtain ⟨q2, c3, h⟩ := zbd h
  refine r_invV (as := [zI (4 : Int32)]) C 12 (S_Mo_has c3) (z_d dd_Mo_unit 2 rfl) ok_Mo_has iv_Mo_has se_Mo_has ml_Mo_235 rfl rfl h1 rfl rfl rfl (Nat.le_of_ble_eq_true rfl) ⟨(Nat.le_of_ble_eq_true rfl), (Nat.le_of_ble_eq_true rfl)⟩ ⟨(Nat.le_of_ble_eq_true rfl), (Nat.le_of_ble_eq_true rfl)⟩ ?_
  refine r_if_ne C 10 (z_d dd_Mo_unit 3 rfl) (by decide) (fun c43 => ?_) (fun c43 => ?_)
  · have h := ziff h c43
    refine r_aload_n C (z_d dd_Mo_unit 6 rfl) rfl ?_
    refine r_aload_n C (z_d dd_Mo_unit 7 rfl) rfl ?_
    obtain ⟨h4, h⟩ := zif h
    refine r_getI C (z_d dd_Mo_unit 8 rfl) lk_Mo_204 rfl h4 rfl ?_
    refine r_bipush (v := (40 : Int32)) C (z_d dd_Mo_unit 9 rfl) (by decide) ?_
    refine r_sipush (v := (181 : Int32)) C (z_d dd_Mo_unit 10 rfl) (by decide) ?_
    refine r_bipush (v := (47 : Int32)) C (z_d dd_Mo_unit 11 rfl) (by decide) ?_
    refine r_sipush (v := (253 : Int32)) C (z_d dd_Mo_unit 12 rfl) (by decide) ?_
    obtain ⟨q5, c6, h⟩ := zbd h
    refine r_invV (as := [zI (z_i q2.2 l0 28), zI (40 : Int32), zI (181 : Int32), zI (47 : Int32), zI (253 : Int32)]) C 12 (S_Mo_stands c6) (z_d dd_Mo_unit 13 rfl) ok_Mo_stands iv_Mo_stands se_Mo_stands ml_Mo_159 rfl rfl h4 rfl rfl rfl (Nat.le_of_ble_eq_true rfl) ⟨(Nat.le_of_ble_eq_true rfl), (Nat.le_of_ble_eq_true rfl)⟩ ⟨(Nat.le_of_ble_eq_true rfl), (Nat.le_of_ble_eq_true rfl)⟩ ?_
    refine r_if_eq C 36 (z_d dd_Mo_unit 14 rfl) (by decide) (fun c42 => ?_) (fun c42 => ?_)
    · have h := zift h c42
      refine r_aload_n C (z_d dd_Mo_unit 18 rfl) rfl ?_
      obtain ⟨h7, h⟩ := zif h
      refine r_getP C (z_d dd_Mo_unit 19 rfl) lk_Mo_7 rfl h7 rfl ?_
      refine r_aload_n C (z_d dd_Mo_unit 20 rfl) rfl ?_
      refine r_getI C (z_d dd_Mo_unit 21 rfl) lk_Mo_204 rfl h7 rfl ?_
      obtain ⟨h8, h⟩ := zif h
      obtain ⟨h9, h⟩ := zif h
      refine r_iald C (z_d dd_Mo_unit 22 rfl) h8 h9 rfl ?_
      refine r_bipush (v := (80 : Int32)) C (z_d dd_Mo_unit 23 rfl) (by decide) ?_
      refine r_icmp_lt C 90 (z_d dd_Mo_unit 24 rfl) (by decide) (fun c37 => ?_) (fun c37 => ?_)
      · have h := zift h c37
        exact s_Mo_unit_90 C hr E n l0 q5.2 h
      · have h := ziff h c37
        refine r_aload_n C (z_d dd_Mo_unit 25 rfl) rfl ?_
        refine r_getP C (z_d dd_Mo_unit 26 rfl) lk_Mo_7 rfl h7 rfl ?_
        refine r_aload_n C (z_d dd_Mo_unit 27 rfl) rfl ?_
        refine r_getI C (z_d dd_Mo_unit 28 rfl) lk_Mo_204 rfl h7 rfl ?_
        obtain ⟨h10, h⟩ := zif h
        refine r_iald C (z_d dd_Mo_unit 29 rfl) h8 h10 rfl ?_
        refine r_bipush (v := (95 : Int32)) C (z_d dd_Mo_unit 30 rfl) (by decide) ?_
        refine r_icmp_gt C 90 (z_d dd_Mo_unit 31 rfl) (by decide) (fun c36 => ?_) (fun c36 => ?_)
        · have h := zift h c36
          exact s_Mo_unit_90 C hr E n l0 q5.2 h
        · have h := ziff h c36
          refine r_aload_n C (z_d dd_Mo_unit 32 rfl) rfl ?_
          refine r_aload_n C (z_d dd_Mo_unit 33 rfl) rfl ?_
          refine r_getI C (z_d dd_Mo_unit 34 rfl) lk_Mo_204 rfl h7 rfl ?_
          refine r_aload_n C (z_d dd_Mo_unit 35 rfl) rfl ?_
          refine r_getP C (z_d dd_Mo_unit 36 rfl) lk_Mo_7 rfl h7 rfl ?_
          refine r_aload_n C (z_d dd_Mo_unit 37 rfl) rfl ?_
          refine r_getI C (z_d dd_Mo_unit 38 rfl) lk_Mo_204 rfl h7 rfl ?_
          obtain ⟨h11, h⟩ := zif h
          refine r_iald C (z_d dd_Mo_unit 39 rfl) h8 h11 rfl ?_
          refine r_bipush (v := (42 : Int32)) C (z_d dd_Mo_unit 40 rfl) (by decide) ?_
          refine r_bipush (v := (77 : Int32)) C (z_d dd_Mo_unit 41 rfl) (by decide) ?_
          refine r_bipush (v := (24 : Int32)) C (z_d dd_Mo_unit 42 rfl) (by decide) ?_
          obtain ⟨q12, c13, h⟩ := zbd h
          refine r_invV (as := [zI (z_i q5.2 l0 28), zI (z_i q5.2 (z_p q5.2 l0 0) (z_i q5.2 l0 28).toNatClampNeg), zI (42 : Int32), zI (77 : Int32), zI (24 : Int32)]) C 12 (S_Mo_stands c13) (z_d dd_Mo_unit 43 rfl) ok_Mo_stands iv_Mo_stands se_Mo_stands ml_Mo_159 rfl rfl h7 rfl rfl rfl (Nat.le_of_ble_eq_true rfl) ⟨(Nat.le_of_ble_eq_true rfl), (Nat.le_of_ble_eq_true rfl)⟩ ⟨(Nat.le_of_ble_eq_true rfl), (Nat.le_of_ble_eq_true rfl)⟩ ?_
          refine r_if_ne C 100 (z_d dd_Mo_unit 44 rfl) (by decide) (fun c35 => ?_) (fun c35 => ?_)
          · have h := ziff h c35
            refine r_aload_n C (z_d dd_Mo_unit 51 rfl) rfl ?_
            refine r_dupP C (z_d dd_Mo_unit 52 rfl) ?_
            obtain ⟨h14, h⟩ := zif h
            refine r_getI C (z_d dd_Mo_unit 53 rfl) lk_Mo_204 rfl h14 rfl ?_
            refine r_iconst (v := (4 : Int32)) C (z_d dd_Mo_unit 54 rfl) (by decide) ?_
            refine r_iadd C (z_d dd_Mo_unit 55 rfl) ?_
            obtain ⟨M15, e16, h⟩ := zlet_ex h
            have h17 := k_i e16 h14
            refine r_putI C (z_d dd_Mo_unit 56 rfl) lp_Mo_204 rfl h14 e16 ?_
            refine r_aload_n C (z_d dd_Mo_unit 57 rfl) rfl ?_
            refine r_iconst (v := (4 : Int32)) C (z_d dd_Mo_unit 58 rfl) (by decide) ?_
            obtain ⟨q18, c19, h⟩ := zbd h
            refine r_invV (as := [zI (4 : Int32)]) C 12 (S_Mo_has c19) (z_d dd_Mo_unit 59 rfl) ok_Mo_has iv_Mo_has se_Mo_has ml_Mo_235 rfl rfl h17 rfl rfl rfl (Nat.le_of_ble_eq_true rfl) ⟨(Nat.le_of_ble_eq_true rfl), (Nat.le_of_ble_eq_true rfl)⟩ ⟨(Nat.le_of_ble_eq_true rfl), (Nat.le_of_ble_eq_true rfl)⟩ ?_
            refine r_if_ne C 120 (z_d dd_Mo_unit 60 rfl) (by decide) (fun c34 => ?_) (fun c34 => ?_)
            · have h := ziff h c34
              refine r_aload_n C (z_d dd_Mo_unit 63 rfl) rfl ?_
              refine r_aload_n C (z_d dd_Mo_unit 64 rfl) rfl ?_
              obtain ⟨h20, h⟩ := zif h
              refine r_getI C (z_d dd_Mo_unit 65 rfl) lk_Mo_204 rfl h20 rfl ?_
              refine r_iconst (v := (4 : Int32)) C (z_d dd_Mo_unit 66 rfl) (by decide) ?_
              obtain ⟨q21, c22, h⟩ := zbd h
              refine r_invV (as := [zI (z_i q18.2 l0 28), zI (4 : Int32)]) C 12 (S_Mo_number c22) (z_d dd_Mo_unit 67 rfl) ok_Mo_number iv_Mo_number se_Mo_number ml_Mo_172 rfl rfl h20 rfl rfl rfl (Nat.le_of_ble_eq_true rfl) ⟨(Nat.le_of_ble_eq_true rfl), (Nat.le_of_ble_eq_true rfl)⟩ ⟨(Nat.le_of_ble_eq_true rfl), (Nat.le_of_ble_eq_true rfl)⟩ ?_
              refine r_lstore_n (lv' := [some (zP l0), some (zL q21.1), none]) C (z_d dd_Mo_unit 68 rfl) (Nat.le_of_ble_eq_true rfl) rfl ?_
              refine r_aload_n C (z_d dd_Mo_unit 69 rfl) rfl ?_
              refine r_dupP C (z_d dd_Mo_unit 70 rfl) ?_
              obtain ⟨h23, h⟩ := zif h
              refine r_getI C (z_d dd_Mo_unit 71 rfl) lk_Mo_204 rfl h23 rfl ?_
              refine r_iconst (v := (4 : Int32)) C (z_d dd_Mo_unit 72 rfl) (by decide) ?_
              refine r_iadd C (z_d dd_Mo_unit 73 rfl) ?_
              obtain ⟨M24, e25, h⟩ := zlet_ex h
              have h26 := k_i e25 h23
              refine r_putI C (z_d dd_Mo_unit 74 rfl) lp_Mo_204 rfl h23 e25 ?_
              refine r_lload_n C (z_d dd_Mo_unit 75 rfl) rfl ?_
              refine r_aload_n C (z_d dd_Mo_unit 76 rfl) rfl ?_
              refine r_getI C (z_d dd_Mo_unit 77 rfl) lk_Mo_85 rfl h26 rfl ?_
              refine r_aload_n C (z_d dd_Mo_unit 78 rfl) rfl ?_
              refine r_getI C (z_d dd_Mo_unit 79 rfl) lk_Mo_204 rfl h26 rfl ?_
              refine r_isub C (z_d dd_Mo_unit 80 rfl) ?_
              refine r_i2l C (z_d dd_Mo_unit 81 rfl) ?_
              refine r_lcmp C (z_d dd_Mo_unit 82 rfl) ?_
              refine r_if_le C 165 (z_d dd_Mo_unit 83 rfl) (by decide) (fun c33 => ?_) (fun c33 => ?_)
              · have h := zift h c33
                refine r_aload_n C (z_d dd_Mo_unit 90 rfl) rfl ?_
                refine r_dupP C (z_d dd_Mo_unit 91 rfl) ?_
                refine r_getI C (z_d dd_Mo_unit 92 rfl) lk_Mo_204 rfl h26 rfl ?_
                refine r_lload_n C (z_d dd_Mo_unit 93 rfl) rfl ?_
                refine r_l2i C (z_d dd_Mo_unit 94 rfl) ?_
                refine r_iadd C (z_d dd_Mo_unit 95 rfl) ?_
                obtain ⟨M27, e28, h⟩ := zlet_ex h
                have h29 := k_i e28 h26
                refine r_putI C (z_d dd_Mo_unit 96 rfl) lp_Mo_204 rfl h26 e28 ?_
                refine r_iconst (v := (1 : Int32)) C (z_d dd_Mo_unit 97 rfl) (by decide) ?_
                obtain rfl := z_res h
                exact r_iretZ C E hr (z_d dd_Mo_unit 98 rfl) (by decide) (Nat.le_of_ble_eq_true rfl) (Nat.le_of_ble_eq_true rfl)
              · have h := ziff h c33
                refine r_aload_n C (z_d dd_Mo_unit 84 rfl) rfl ?_
                refine r_iconst (v := (1 : Int32)) C (z_d dd_Mo_unit 85 rfl) (by decide) ?_
                refine r_aload_n C (z_d dd_Mo_unit 86 rfl) rfl ?_
                refine r_getI C (z_d dd_Mo_unit 87 rfl) lk_Mo_85 rfl h26 rfl ?_
                obtain ⟨q30, c31, h⟩ := zbd h
                refine r_invV (as := [zI (1 : Int32), zI (z_i M24 l0 1)]) C 12 (S_Mo_wrong c31) (z_d dd_Mo_unit 88 rfl) ok_Mo_wrong iv_Mo_wrong se_Mo_wrong ml_Mo_207 rfl rfl h26 rfl rfl rfl (Nat.le_of_ble_eq_true rfl) ⟨(Nat.le_of_ble_eq_true rfl), (Nat.le_of_ble_eq_true rfl)⟩ ⟨(Nat.le_of_ble_eq_true rfl), (Nat.le_of_ble_eq_true rfl)⟩ ?_
                obtain ⟨h32, h⟩ := zif h
                obtain rfl := z_res h
                exact r_iretZ C E hr (z_d dd_Mo_unit 89 rfl) h32 (Nat.le_of_ble_eq_true rfl) (Nat.le_of_ble_eq_true rfl)
            · have h := zift h c34
              refine r_iconst (v := (0 : Int32)) C (z_d dd_Mo_unit 61 rfl) (by decide) ?_
              obtain rfl := z_res h
              exact r_iretZ C E hr (z_d dd_Mo_unit 62 rfl) (by decide) (Nat.le_of_ble_eq_true rfl) (Nat.le_of_ble_eq_true rfl)
          · have h := zift h c35
            exact s_Mo_unit_90 C hr E n l0 q12.2 h
    · have h := ziff h c42
      refine r_aload_n C (z_d dd_Mo_unit 15 rfl) rfl ?_
      obtain ⟨h38, h⟩ := zif h
      obtain ⟨q39, c40, h⟩ := zbd h
      refine r_invV (as := []) C 12 (S_Mo_frame c40) (z_d dd_Mo_unit 16 rfl) ok_Mo_frame iv_Mo_frame se_Mo_frame ml_Mo_238 rfl rfl h38 rfl rfl rfl (Nat.le_of_ble_eq_true rfl) ⟨(Nat.le_of_ble_eq_true rfl), (Nat.le_of_ble_eq_true rfl)⟩ ⟨(Nat.le_of_ble_eq_true rfl), (Nat.le_of_ble_eq_true rfl)⟩ ?_
      obtain ⟨h41, h⟩ := zif h
      obtain rfl := z_res h
      exact r_iretZ C E hr (z_d dd_Mo_unit 17 rfl) h41 (Nat.le_of_ble_eq_true rfl) (Nat.le_of_ble_eq_true rfl)
  · have h := zift h c43
    refine r_iconst (v := (0 : Int32)) C (z_d dd_Mo_unit 4 rfl) (by decide) ?_
    obtain rfl := z_res h
    exact r_iretZ C E hr (z_d dd_Mo_unit 5 rfl) (by decide) (Nat.le_of_ble_eq_true rfl) (Nat.le_of_ble_eq_true rfl)
def F_Mo_unit (O : zO) (n : Nat) (l0 : Nat) (M : zM) : Option (Int32 × zM) := f_Mo_unit_0 O n l0 M
theorem S_Mo_unit {l : Launch} {D : zD} {n : Nat} {l0 : Nat} {M : zM} {q : Int32 × zM} (h : F_Mo_unit D.2.2.2.2 n l0 M = some q) : zMet l D mi_Mo_unit [zP l0] M (some (zI q.1)) q.2 :=
  z_met (by decide) (Nat.le_of_ble_eq_true rfl) (fun X C E hr hin hD hl => by
    subst hD
    exact s_Mo_unit_0 C hr E n l0 M h)

def f_Mo_read_10 (O : zO) (n : Nat) (M : zM) : Option (Int32 × zM) :=
  some ((-40 : Int32), M)
set_option maxRecDepth 100000 in
set_option maxHeartbeats 4000000 in
theorem s_Mo_read_10 {X : zX} {q : Int32 × zM} (C : zC X zR12 prog_14_method_32_code 4 { frames := 10, cells := 0, slots := 0, locals := 269 }) (hr : zRt X (some .int)) (E : zE X (some (zI q.1)) q.2 0 0) : ∀ (n : Nat) (M : zM), f_Mo_read_10 (zOD X) n M = some q → zW X 0 0 10 [none, none, none, none] [] M := by
  intro n M h
  rw [f_Mo_read_10] at h
  refine r_bipush (v := (-40 : Int32)) C (z_d dd_Mo_read 5 rfl) (by decide) ?_
  obtain rfl := z_res h
  exact r_iretI C E hr (z_d dd_Mo_read 6 rfl) (Nat.le_of_ble_eq_true rfl) (Nat.le_of_ble_eq_true rfl)
def f_Mo_read_101 (O : zO) : Nat → Nat → Int32 → zM → Option (Int32 × zM)
  | 0, _, _, _ => none
  | n + 1, l0, l3, M =>
    if z_k M l0 = 13 then
    if (z_i M l0 30) ≤ l3 then
    some ((z_i M l0 3), M)
    else
    if z_k M (z_p M l0 40) = 100 then
    if zin l3 (z_n M (z_p M l0 40)) = true then
    if z_k M (z_p M l0 2) = 100 then
    if zin l3 (z_n M (z_p M l0 2)) = true then
    zlet (w_i M (z_p M l0 2) l3.toNatClampNeg (z_i M (z_p M l0 40) l3.toNatClampNeg)) fun M6 =>
    zlet (l3 + (1 : Int32)) fun v11 =>
    f_Mo_read_101 O n l0 v11 M6
    else none
    else none
    else none
    else none
    else none
set_option maxRecDepth 100000 in
set_option maxHeartbeats 4000000 in
theorem s_Mo_read_101 {X : zX} {q : Int32 × zM} (C : zC X zR12 prog_14_method_32_code 4 { frames := 10, cells := 0, slots := 0, locals := 269 }) (hr : zRt X (some .int)) (E : zE X (some (zI q.1)) q.2 0 0) : ∀ (n : Nat) (l0 : Nat) (l3 : Int32) (M : zM), f_Mo_read_101 (zOD X) n l0 l3 M = some q → zW X 0 0 101 [some (zP l0), none, none, some (zI l3)] [] M := by
  intro n
  induction n with
  | zero => intro l0 l3 M h; rw [f_Mo_read_101] at h; cases h
  | succ n ih =>
    intro l0 l3 M h
    rw [f_Mo_read_101] at h
    refine r_iload_n C (z_d dd_Mo_read 57 rfl) rfl ?_
    refine r_aload_n C (z_d dd_Mo_read 58 rfl) rfl ?_
    obtain ⟨h1, h⟩ := zif h
    refine r_getI C (z_d dd_Mo_read 59 rfl) lk_Mo_213 rfl h1 rfl ?_
    refine r_icmp_ge C 127 (z_d dd_Mo_read 60 rfl) (by decide) (fun c13 => ?_) (fun c13 => ?_)
    · have h := zift h c13
      refine r_aload_n C (z_d dd_Mo_read 71 rfl) rfl ?_
      refine r_getI C (z_d dd_Mo_read 72 rfl) lk_Mo_232 rfl h1 rfl ?_
      obtain rfl := z_res h
      exact r_iretI C E hr (z_d dd_Mo_read 73 rfl) (Nat.le_of_ble_eq_true rfl) (Nat.le_of_ble_eq_true rfl)
    · have h := ziff h c13
      refine r_aload_n C (z_d dd_Mo_read 61 rfl) rfl ?_
      refine r_getP C (z_d dd_Mo_read 62 rfl) lk_Mo_14 rfl h1 rfl ?_
      refine r_iload_n C (z_d dd_Mo_read 63 rfl) rfl ?_
      refine r_aload_n C (z_d dd_Mo_read 64 rfl) rfl ?_
      refine r_getP C (z_d dd_Mo_read 65 rfl) lk_Mo_75 rfl h1 rfl ?_
      refine r_iload_n C (z_d dd_Mo_read 66 rfl) rfl ?_
      obtain ⟨h2, h⟩ := zif h
      obtain ⟨h3, h⟩ := zif h
      refine r_iald C (z_d dd_Mo_read 67 rfl) h2 h3 rfl ?_
      obtain ⟨h4, h⟩ := zif h
      obtain ⟨h5, h⟩ := zif h
      obtain ⟨M6, e7, h⟩ := zlet_ex h
      have h8 := k_i e7 h1
      have h9 := k_i e7 h2
      have h10 := k_i e7 h4
      refine r_iast C (z_d dd_Mo_read 68 rfl) h4 h5 e7 ?_
      obtain ⟨v11, e12, h⟩ := zlet_ex h
      refine r_iinc (v := v11) (lv' := [some (zP l0), none, none, some (zI v11)]) C (z_d dd_Mo_read 69 rfl) rfl (Nat.le_of_ble_eq_true rfl) (by rw [e12]; rfl) rfl ?_
      refine r_goto C 101 (z_d dd_Mo_read 70 rfl) (by decide) ?_
      exact ih l0 v11 M6 h
def f_Mo_read_73 (O : zO) (n : Nat) (l0 : Nat) (l2 : Int32) (M : zM) : Option (Int32 × zM) :=
  if l2 = 0 then
  if z_k M l0 = 13 then
  some ((-(z_i M l0 33)), M)
  else none
  else
  if z_k M l0 = 13 then
  zlet (w_i M l0 34 (z_i M l0 1)) fun M2 =>
  zlet (w_i M2 l0 3 (z_i M2 l0 30)) fun M5 =>
  f_Mo_read_101 O n l0 (0 : Int32) M5
  else none
set_option maxRecDepth 100000 in
set_option maxHeartbeats 4000000 in
theorem s_Mo_read_73 {X : zX} {q : Int32 × zM} (C : zC X zR12 prog_14_method_32_code 4 { frames := 10, cells := 0, slots := 0, locals := 269 }) (hr : zRt X (some .int)) (E : zE X (some (zI q.1)) q.2 0 0) : ∀ (n : Nat) (l0 : Nat) (l2 : Int32) (M : zM), f_Mo_read_73 (zOD X) n l0 l2 M = some q → zW X 0 0 73 [some (zP l0), none, some (zI l2), none] [] M := by
  intro n l0 l2 M h
  rw [f_Mo_read_73] at h
  refine r_iload_n C (z_d dd_Mo_read 41 rfl) rfl ?_
  refine r_if_ne C 83 (z_d dd_Mo_read 42 rfl) (by decide) (fun c9 => ?_) (fun c9 => ?_)
  · have h := ziff h c9
    refine r_aload_n C (z_d dd_Mo_read 47 rfl) rfl ?_
    refine r_aload_n C (z_d dd_Mo_read 48 rfl) rfl ?_
    obtain ⟨h1, h⟩ := zif h
    refine r_getI C (z_d dd_Mo_read 49 rfl) lk_Mo_85 rfl h1 rfl ?_
    obtain ⟨M2, e3, h⟩ := zlet_ex h
    have h4 := k_i e3 h1
    refine r_putI C (z_d dd_Mo_read 50 rfl) lp_Mo_201 rfl h1 e3 ?_
    refine r_aload_n C (z_d dd_Mo_read 51 rfl) rfl ?_
    refine r_aload_n C (z_d dd_Mo_read 52 rfl) rfl ?_
    refine r_getI C (z_d dd_Mo_read 53 rfl) lk_Mo_213 rfl h4 rfl ?_
    obtain ⟨M5, e6, h⟩ := zlet_ex h
    have h7 := k_i e6 h4
    refine r_putI C (z_d dd_Mo_read 54 rfl) lp_Mo_232 rfl h4 e6 ?_
    refine r_iconst (v := (0 : Int32)) C (z_d dd_Mo_read 55 rfl) (by decide) ?_
    refine r_istore_n (lv' := [some (zP l0), none, some (zI l2), some (zI (0 : Int32))]) C (z_d dd_Mo_read 56 rfl) (Nat.le_of_ble_eq_true rfl) rfl ?_
    refine r_mk [true, false, false, true] ?_
    exact s_Mo_read_101 C hr E n l0 (0 : Int32) M5 h
  · have h := zift h c9
    refine r_aload_n C (z_d dd_Mo_read 43 rfl) rfl ?_
    obtain ⟨h8, h⟩ := zif h
    refine r_getI C (z_d dd_Mo_read 44 rfl) lk_Mo_198 rfl h8 rfl ?_
    refine r_ineg C (z_d dd_Mo_read 45 rfl) ?_
    obtain rfl := z_res h
    exact r_iretI C E hr (z_d dd_Mo_read 46 rfl) (Nat.le_of_ble_eq_true rfl) (Nat.le_of_ble_eq_true rfl)
def f_Mo_read_50 (O : zO) : Nat → Nat → Int32 → zM → Option (Int32 × zM)
  | 0, _, _, _ => none
  | n + 1, l0, l2, M =>
    if l2 = 0 then
    f_Mo_read_73 O n l0 l2 M
    else
    if z_k M l0 = 13 then
    if (z_i M l0 1) ≤ (z_i M l0 28) then
    f_Mo_read_73 O n l0 l2 M
    else
    (F_Mo_unit O n l0 M).bind fun q2 =>
    f_Mo_read_50 O n l0 q2.1 q2.2
    else none
set_option maxRecDepth 100000 in
set_option maxHeartbeats 4000000 in
theorem s_Mo_read_50 {X : zX} {q : Int32 × zM} (C : zC X zR12 prog_14_method_32_code 4 { frames := 10, cells := 0, slots := 0, locals := 269 }) (hr : zRt X (some .int)) (E : zE X (some (zI q.1)) q.2 0 0) : ∀ (n : Nat) (l0 : Nat) (l2 : Int32) (M : zM), f_Mo_read_50 (zOD X) n l0 l2 M = some q → zW X 0 0 50 [some (zP l0), none, some (zI l2), none] [] M := by
  intro n
  induction n with
  | zero => intro l0 l2 M h; rw [f_Mo_read_50] at h; cases h
  | succ n ih =>
    intro l0 l2 M h
    rw [f_Mo_read_50] at h
    refine r_iload_n C (z_d dd_Mo_read 30 rfl) rfl ?_
    refine r_if_eq C 73 (z_d dd_Mo_read 31 rfl) (by decide) (fun c5 => ?_) (fun c5 => ?_)
    · have h := zift h c5
      exact s_Mo_read_73 C hr E n l0 l2 M h
    · have h := ziff h c5
      refine r_aload_n C (z_d dd_Mo_read 32 rfl) rfl ?_
      obtain ⟨h1, h⟩ := zif h
      refine r_getI C (z_d dd_Mo_read 33 rfl) lk_Mo_204 rfl h1 rfl ?_
      refine r_aload_n C (z_d dd_Mo_read 34 rfl) rfl ?_
      refine r_getI C (z_d dd_Mo_read 35 rfl) lk_Mo_85 rfl h1 rfl ?_
      refine r_icmp_ge C 73 (z_d dd_Mo_read 36 rfl) (by decide) (fun c4 => ?_) (fun c4 => ?_)
      · have h := zift h c4
        exact s_Mo_read_73 C hr E n l0 l2 M h
      · have h := ziff h c4
        refine r_aload_n C (z_d dd_Mo_read 37 rfl) rfl ?_
        obtain ⟨q2, c3, h⟩ := zbd h
        refine r_invV (as := []) C 12 (S_Mo_unit c3) (z_d dd_Mo_read 38 rfl) ok_Mo_unit iv_Mo_unit se_Mo_unit ml_Mo_228 rfl rfl h1 rfl rfl rfl (Nat.le_of_ble_eq_true rfl) ⟨(Nat.le_of_ble_eq_true rfl), (Nat.le_of_ble_eq_true rfl)⟩ ⟨(Nat.le_of_ble_eq_true rfl), (Nat.le_of_ble_eq_true rfl)⟩ ?_
        refine r_istore_n (lv' := [some (zP l0), none, some (zI q2.1), none]) C (z_d dd_Mo_read 39 rfl) (Nat.le_of_ble_eq_true rfl) rfl ?_
        refine r_goto C 50 (z_d dd_Mo_read 40 rfl) (by decide) ?_
        exact ih l0 q2.1 q2.2 h
def f_Mo_read_0 (O : zO) (n : Nat) (l0 : Nat) (l1 : Int32) (M : zM) : Option (Int32 × zM) :=
  if l1 < 0 then
  f_Mo_read_10 O n M
  else
  if l1 ≤ (32768 : Int32) then
  if z_k M l0 = 13 then
  zlet (w_i M l0 28 (0 : Int32)) fun M2 =>
  zlet (w_i M2 l0 29 l1) fun M5 =>
  zlet (w_i M5 l0 30 (0 : Int32)) fun M8 =>
  zlet (w_i M8 l0 35 (0 : Int32)) fun M11 =>
  zlet (w_i M11 l0 36 (0 : Int32)) fun M14 =>
  zlet (w_i M14 l0 37 (0 : Int32)) fun M17 =>
  zlet (w_i M17 l0 39 (0 : Int32)) fun M20 =>
  f_Mo_read_50 O n l0 (1 : Int32) M20
  else none
  else
  f_Mo_read_10 O n M
set_option maxRecDepth 100000 in
set_option maxHeartbeats 4000000 in
theorem s_Mo_read_0 {X : zX} {q : Int32 × zM} (C : zC X zR12 prog_14_method_32_code 4 { frames := 10, cells := 0, slots := 0, locals := 269 }) (hr : zRt X (some .int)) (E : zE X (some (zI q.1)) q.2 0 0) : ∀ (n : Nat) (l0 : Nat) (l1 : Int32) (M : zM), f_Mo_read_0 (zOD X) n l0 l1 M = some q → zW X 0 0 0 [some (zP l0), some (zI l1), none, none] [] M := by
  intro n l0 l1 M h
  rw [f_Mo_read_0] at h
  refine r_iload_n C (z_d dd_Mo_read 0 rfl) rfl ?_
  refine r_if_lt C 10 (z_d dd_Mo_read 1 rfl) (by decide) (fun c24 => ?_) (fun c24 => ?_)
  · have h := zift h c24
    refine r_mk [false, false, false, false] ?_
    exact s_Mo_read_10 C hr E n M h
  · have h := ziff h c24
    refine r_iload_n C (z_d dd_Mo_read 2 rfl) rfl ?_
    refine r_ldc (v := (32768 : Int32)) C (z_d dd_Mo_read 3 rfl) ki_Mo_13 ?_
    refine r_icmp_le C 13 (z_d dd_Mo_read 4 rfl) (by decide) (fun c23 => ?_) (fun c23 => ?_)
    · have h := zift h c23
      refine r_aload_n C (z_d dd_Mo_read 7 rfl) rfl ?_
      refine r_iconst (v := (0 : Int32)) C (z_d dd_Mo_read 8 rfl) (by decide) ?_
      obtain ⟨h1, h⟩ := zif h
      obtain ⟨M2, e3, h⟩ := zlet_ex h
      have h4 := k_i e3 h1
      refine r_putI C (z_d dd_Mo_read 9 rfl) lp_Mo_204 rfl h1 e3 ?_
      refine r_aload_n C (z_d dd_Mo_read 10 rfl) rfl ?_
      refine r_iload_n C (z_d dd_Mo_read 11 rfl) rfl ?_
      obtain ⟨M5, e6, h⟩ := zlet_ex h
      have h7 := k_i e6 h4
      refine r_putI C (z_d dd_Mo_read 12 rfl) lp_Mo_210 rfl h4 e6 ?_
      refine r_aload_n C (z_d dd_Mo_read 13 rfl) rfl ?_
      refine r_iconst (v := (0 : Int32)) C (z_d dd_Mo_read 14 rfl) (by decide) ?_
      obtain ⟨M8, e9, h⟩ := zlet_ex h
      have h10 := k_i e9 h7
      refine r_putI C (z_d dd_Mo_read 15 rfl) lp_Mo_213 rfl h7 e9 ?_
      refine r_aload_n C (z_d dd_Mo_read 16 rfl) rfl ?_
      refine r_iconst (v := (0 : Int32)) C (z_d dd_Mo_read 17 rfl) (by decide) ?_
      obtain ⟨M11, e12, h⟩ := zlet_ex h
      have h13 := k_i e12 h10
      refine r_putI C (z_d dd_Mo_read 18 rfl) lp_Mo_216 rfl h10 e12 ?_
      refine r_aload_n C (z_d dd_Mo_read 19 rfl) rfl ?_
      refine r_iconst (v := (0 : Int32)) C (z_d dd_Mo_read 20 rfl) (by decide) ?_
      obtain ⟨M14, e15, h⟩ := zlet_ex h
      have h16 := k_i e15 h13
      refine r_putI C (z_d dd_Mo_read 21 rfl) lp_Mo_219 rfl h13 e15 ?_
      refine r_aload_n C (z_d dd_Mo_read 22 rfl) rfl ?_
      refine r_iconst (v := (0 : Int32)) C (z_d dd_Mo_read 23 rfl) (by decide) ?_
      obtain ⟨M17, e18, h⟩ := zlet_ex h
      have h19 := k_i e18 h16
      refine r_putI C (z_d dd_Mo_read 24 rfl) lp_Mo_222 rfl h16 e18 ?_
      refine r_aload_n C (z_d dd_Mo_read 25 rfl) rfl ?_
      refine r_iconst (v := (0 : Int32)) C (z_d dd_Mo_read 26 rfl) (by decide) ?_
      obtain ⟨M20, e21, h⟩ := zlet_ex h
      have h22 := k_i e21 h19
      refine r_putI C (z_d dd_Mo_read 27 rfl) lp_Mo_225 rfl h19 e21 ?_
      refine r_iconst (v := (1 : Int32)) C (z_d dd_Mo_read 28 rfl) (by decide) ?_
      refine r_istore_n (lv' := [some (zP l0), some (zI l1), some (zI (1 : Int32)), none]) C (z_d dd_Mo_read 29 rfl) (Nat.le_of_ble_eq_true rfl) rfl ?_
      refine r_mk [true, false, true, false] ?_
      exact s_Mo_read_50 C hr E n l0 (1 : Int32) M20 h
    · have h := ziff h c23
      refine r_mk [false, false, false, false] ?_
      exact s_Mo_read_10 C hr E n M h
def F_Mo_read (O : zO) (n : Nat) (l0 : Nat) (l1 : Int32) (M : zM) : Option (Int32 × zM) := f_Mo_read_0 O n l0 l1 M
theorem S_Mo_read {l : Launch} {D : zD} {n : Nat} {l0 : Nat} {l1 : Int32} {M : zM} {q : Int32 × zM} (h : F_Mo_read D.2.2.2.2 n l0 l1 M = some q) : zMet l D mi_Mo_read [zP l0, zI l1] M (some (zI q.1)) q.2 :=
  z_met (by decide) (Nat.le_of_ble_eq_true rfl) (fun X C E hr hin hD hl => by
    subst hD
    exact s_Mo_read_0 C hr E n l0 l1 M h)

def f_Mo_about_84 (O : zO) (n : Nat) (s0 : Int32) (M : zM) : Option (Int32 × zM) :=
  some (s0, M)
set_option maxRecDepth 100000 in
set_option maxHeartbeats 4000000 in
theorem s_Mo_about_84 {X : zX} {q : Int32 × zM} (C : zC X zR12 prog_14_method_51_code 2 { frames := 0, cells := 0, slots := 0, locals := 0 }) (hr : zRt X (some .int)) (E : zE X (some (zI q.1)) q.2 0 0) : ∀ (n : Nat) (s0 : Int32) (M : zM), f_Mo_about_84 (zOD X) n s0 M = some q → zW X 0 0 84 [none, none] [zI s0] M := by
  intro n s0 M h
  rw [f_Mo_about_84] at h
  obtain rfl := z_res h
  exact r_iretI C E hr (z_d dd_Mo_about 48 rfl) (Nat.le_of_ble_eq_true rfl) (Nat.le_of_ble_eq_true rfl)
def f_Mo_about_0 (O : zO) (n : Nat) (l0 : Nat) (l1 : Int32) (M : zM) : Option (Int32 × zM) :=
  if l1 = 0 then
  if z_k M l0 = 13 then
  some ((z_i M l0 34), M)
  else none
  else
  if l1 = (1 : Int32) then
  if z_k M l0 = 13 then
  some ((z_i M l0 35), M)
  else none
  else
  if l1 = (2 : Int32) then
  if z_k M l0 = 13 then
  some ((z_i M l0 36), M)
  else none
  else
  if l1 = (3 : Int32) then
  if z_k M l0 = 13 then
  some ((z_i M l0 37), M)
  else none
  else
  if l1 = (4 : Int32) then
  if z_k M l0 = 13 then
  some ((z_i M l0 30), M)
  else none
  else
  if l1 = (5 : Int32) then
  if z_k M l0 = 13 then
  some ((z_i M l0 39), M)
  else none
  else
  if l1 = (6 : Int32) then
  if z_k M l0 = 13 then
  some ((z_i M l0 5), M)
  else none
  else
  if l1 = (7 : Int32) then
  if z_k M l0 = 13 then
  f_Mo_about_84 O n (z_i M l0 6) M
  else none
  else
  f_Mo_about_84 O n (-1 : Int32) M
set_option maxRecDepth 100000 in
set_option maxHeartbeats 4000000 in
theorem s_Mo_about_0 {X : zX} {q : Int32 × zM} (C : zC X zR12 prog_14_method_51_code 2 { frames := 0, cells := 0, slots := 0, locals := 0 }) (hr : zRt X (some .int)) (E : zE X (some (zI q.1)) q.2 0 0) : ∀ (n : Nat) (l0 : Nat) (l1 : Int32) (M : zM), f_Mo_about_0 (zOD X) n l0 l1 M = some q → zW X 0 0 0 [some (zP l0), some (zI l1)] [] M := by
  intro n l0 l1 M h
  rw [f_Mo_about_0] at h
  refine r_iload_n C (z_d dd_Mo_about 0 rfl) rfl ?_
  refine r_if_ne C 9 (z_d dd_Mo_about 1 rfl) (by decide) (fun c16 => ?_) (fun c16 => ?_)
  · have h := ziff h c16
    refine r_iload_n C (z_d dd_Mo_about 5 rfl) rfl ?_
    refine r_iconst (v := (1 : Int32)) C (z_d dd_Mo_about 6 rfl) (by decide) ?_
    refine r_icmp_ne C 19 (z_d dd_Mo_about 7 rfl) (by decide) (fun c14 => ?_) (fun c14 => ?_)
    · have h := ziff h c14
      refine r_iload_n C (z_d dd_Mo_about 11 rfl) rfl ?_
      refine r_iconst (v := (2 : Int32)) C (z_d dd_Mo_about 12 rfl) (by decide) ?_
      refine r_icmp_ne C 29 (z_d dd_Mo_about 13 rfl) (by decide) (fun c12 => ?_) (fun c12 => ?_)
      · have h := ziff h c12
        refine r_iload_n C (z_d dd_Mo_about 17 rfl) rfl ?_
        refine r_iconst (v := (3 : Int32)) C (z_d dd_Mo_about 18 rfl) (by decide) ?_
        refine r_icmp_ne C 39 (z_d dd_Mo_about 19 rfl) (by decide) (fun c10 => ?_) (fun c10 => ?_)
        · have h := ziff h c10
          refine r_iload_n C (z_d dd_Mo_about 23 rfl) rfl ?_
          refine r_iconst (v := (4 : Int32)) C (z_d dd_Mo_about 24 rfl) (by decide) ?_
          refine r_icmp_ne C 49 (z_d dd_Mo_about 25 rfl) (by decide) (fun c8 => ?_) (fun c8 => ?_)
          · have h := ziff h c8
            refine r_iload_n C (z_d dd_Mo_about 29 rfl) rfl ?_
            refine r_iconst (v := (5 : Int32)) C (z_d dd_Mo_about 30 rfl) (by decide) ?_
            refine r_icmp_ne C 59 (z_d dd_Mo_about 31 rfl) (by decide) (fun c6 => ?_) (fun c6 => ?_)
            · have h := ziff h c6
              refine r_iload_n C (z_d dd_Mo_about 35 rfl) rfl ?_
              refine r_bipush (v := (6 : Int32)) C (z_d dd_Mo_about 36 rfl) (by decide) ?_
              refine r_icmp_ne C 70 (z_d dd_Mo_about 37 rfl) (by decide) (fun c4 => ?_) (fun c4 => ?_)
              · have h := ziff h c4
                refine r_iload_n C (z_d dd_Mo_about 41 rfl) rfl ?_
                refine r_bipush (v := (7 : Int32)) C (z_d dd_Mo_about 42 rfl) (by decide) ?_
                refine r_icmp_ne C 83 (z_d dd_Mo_about 43 rfl) (by decide) (fun c2 => ?_) (fun c2 => ?_)
                · have h := ziff h c2
                  refine r_iconst (v := (-1 : Int32)) C (z_d dd_Mo_about 47 rfl) (by decide) ?_
                  refine r_mk [false, false] ?_
                  exact s_Mo_about_84 C hr E n (-1 : Int32) M h
                · have h := zift h c2
                  refine r_aload_n C (z_d dd_Mo_about 44 rfl) rfl ?_
                  obtain ⟨h1, h⟩ := zif h
                  refine r_getI C (z_d dd_Mo_about 45 rfl) lk_Mo_152 rfl h1 rfl ?_
                  refine r_goto C 84 (z_d dd_Mo_about 46 rfl) (by decide) ?_
                  refine r_mk [false, false] ?_
                  exact s_Mo_about_84 C hr E n (z_i M l0 6) M h
              · have h := zift h c4
                refine r_aload_n C (z_d dd_Mo_about 38 rfl) rfl ?_
                obtain ⟨h3, h⟩ := zif h
                refine r_getI C (z_d dd_Mo_about 39 rfl) lk_Mo_149 rfl h3 rfl ?_
                obtain rfl := z_res h
                exact r_iretI C E hr (z_d dd_Mo_about 40 rfl) (Nat.le_of_ble_eq_true rfl) (Nat.le_of_ble_eq_true rfl)
            · have h := zift h c6
              refine r_aload_n C (z_d dd_Mo_about 32 rfl) rfl ?_
              obtain ⟨h5, h⟩ := zif h
              refine r_getI C (z_d dd_Mo_about 33 rfl) lk_Mo_225 rfl h5 rfl ?_
              obtain rfl := z_res h
              exact r_iretI C E hr (z_d dd_Mo_about 34 rfl) (Nat.le_of_ble_eq_true rfl) (Nat.le_of_ble_eq_true rfl)
          · have h := zift h c8
            refine r_aload_n C (z_d dd_Mo_about 26 rfl) rfl ?_
            obtain ⟨h7, h⟩ := zif h
            refine r_getI C (z_d dd_Mo_about 27 rfl) lk_Mo_213 rfl h7 rfl ?_
            obtain rfl := z_res h
            exact r_iretI C E hr (z_d dd_Mo_about 28 rfl) (Nat.le_of_ble_eq_true rfl) (Nat.le_of_ble_eq_true rfl)
        · have h := zift h c10
          refine r_aload_n C (z_d dd_Mo_about 20 rfl) rfl ?_
          obtain ⟨h9, h⟩ := zif h
          refine r_getI C (z_d dd_Mo_about 21 rfl) lk_Mo_222 rfl h9 rfl ?_
          obtain rfl := z_res h
          exact r_iretI C E hr (z_d dd_Mo_about 22 rfl) (Nat.le_of_ble_eq_true rfl) (Nat.le_of_ble_eq_true rfl)
      · have h := zift h c12
        refine r_aload_n C (z_d dd_Mo_about 14 rfl) rfl ?_
        obtain ⟨h11, h⟩ := zif h
        refine r_getI C (z_d dd_Mo_about 15 rfl) lk_Mo_219 rfl h11 rfl ?_
        obtain rfl := z_res h
        exact r_iretI C E hr (z_d dd_Mo_about 16 rfl) (Nat.le_of_ble_eq_true rfl) (Nat.le_of_ble_eq_true rfl)
    · have h := zift h c14
      refine r_aload_n C (z_d dd_Mo_about 8 rfl) rfl ?_
      obtain ⟨h13, h⟩ := zif h
      refine r_getI C (z_d dd_Mo_about 9 rfl) lk_Mo_216 rfl h13 rfl ?_
      obtain rfl := z_res h
      exact r_iretI C E hr (z_d dd_Mo_about 10 rfl) (Nat.le_of_ble_eq_true rfl) (Nat.le_of_ble_eq_true rfl)
  · have h := zift h c16
    refine r_aload_n C (z_d dd_Mo_about 2 rfl) rfl ?_
    obtain ⟨h15, h⟩ := zif h
    refine r_getI C (z_d dd_Mo_about 3 rfl) lk_Mo_201 rfl h15 rfl ?_
    obtain rfl := z_res h
    exact r_iretI C E hr (z_d dd_Mo_about 4 rfl) (Nat.le_of_ble_eq_true rfl) (Nat.le_of_ble_eq_true rfl)
def F_Mo_about (O : zO) (n : Nat) (l0 : Nat) (l1 : Int32) (M : zM) : Option (Int32 × zM) := f_Mo_about_0 O n l0 l1 M
theorem S_Mo_about {l : Launch} {D : zD} {n : Nat} {l0 : Nat} {l1 : Int32} {M : zM} {q : Int32 × zM} (h : F_Mo_about D.2.2.2.2 n l0 l1 M = some q) : zMet l D mi_Mo_about [zP l0, zI l1] M (some (zI q.1)) q.2 :=
  z_met (by decide) (Nat.le_of_ble_eq_true rfl) (fun X C E hr hin hD hl => by
    subst hD
    exact s_Mo_about_0 C hr E n l0 l1 M h)

def f_Mo_size_0 (O : zO) (n : Nat) (l0 : Nat) (M : zM) : Option (Int32 × zM) :=
  if z_k M l0 = 13 then
  some ((z_i M l0 3), M)
  else none
set_option maxRecDepth 100000 in
set_option maxHeartbeats 4000000 in
theorem s_Mo_size_0 {X : zX} {q : Int32 × zM} (C : zC X zR12 prog_14_method_52_code 1 { frames := 0, cells := 0, slots := 0, locals := 0 }) (hr : zRt X (some .int)) (E : zE X (some (zI q.1)) q.2 0 0) : ∀ (n : Nat) (l0 : Nat) (M : zM), f_Mo_size_0 (zOD X) n l0 M = some q → zW X 0 0 0 [some (zP l0)] [] M := by
  intro n l0 M h
  rw [f_Mo_size_0] at h
  refine r_aload_n C (z_d dd_Mo_size 0 rfl) rfl ?_
  obtain ⟨h1, h⟩ := zif h
  refine r_getI C (z_d dd_Mo_size 1 rfl) lk_Mo_232 rfl h1 rfl ?_
  obtain rfl := z_res h
  exact r_iretI C E hr (z_d dd_Mo_size 2 rfl) (Nat.le_of_ble_eq_true rfl) (Nat.le_of_ble_eq_true rfl)
def F_Mo_size (O : zO) (n : Nat) (l0 : Nat) (M : zM) : Option (Int32 × zM) := f_Mo_size_0 O n l0 M
theorem S_Mo_size {l : Launch} {D : zD} {n : Nat} {l0 : Nat} {M : zM} {q : Int32 × zM} (h : F_Mo_size D.2.2.2.2 n l0 M = some q) : zMet l D mi_Mo_size [zP l0] M (some (zI q.1)) q.2 :=
  z_met (by decide) (Nat.le_of_ble_eq_true rfl) (fun X C E hr hin hD hl => by
    subst hD
    exact s_Mo_size_0 C hr E n l0 M h)

def f_Mo_byteAt_22 (O : zO) (n : Nat) (s0 : Int32) (M : zM) : Option (Int32 × zM) :=
  some (s0, M)
set_option maxRecDepth 100000 in
set_option maxHeartbeats 4000000 in
theorem s_Mo_byteAt_22 {X : zX} {q : Int32 × zM} (C : zC X zR12 prog_14_method_53_code 2 { frames := 0, cells := 0, slots := 0, locals := 0 }) (hr : zRt X (some .int)) (E : zE X (some (zI q.1)) q.2 0 0) : ∀ (n : Nat) (s0 : Int32) (M : zM), f_Mo_byteAt_22 (zOD X) n s0 M = some q → zW X 0 0 22 [none, none] [zI s0] M := by
  intro n s0 M h
  rw [f_Mo_byteAt_22] at h
  obtain rfl := z_res h
  exact r_iretI C E hr (z_d dd_Mo_byteAt 12 rfl) (Nat.le_of_ble_eq_true rfl) (Nat.le_of_ble_eq_true rfl)
def f_Mo_byteAt_12 (O : zO) (n : Nat) (M : zM) : Option (Int32 × zM) :=
  f_Mo_byteAt_22 O n (-1 : Int32) M
set_option maxRecDepth 100000 in
set_option maxHeartbeats 4000000 in
theorem s_Mo_byteAt_12 {X : zX} {q : Int32 × zM} (C : zC X zR12 prog_14_method_53_code 2 { frames := 0, cells := 0, slots := 0, locals := 0 }) (hr : zRt X (some .int)) (E : zE X (some (zI q.1)) q.2 0 0) : ∀ (n : Nat) (M : zM), f_Mo_byteAt_12 (zOD X) n M = some q → zW X 0 0 12 [none, none] [] M := by
  intro n M h
  rw [f_Mo_byteAt_12] at h
  refine r_iconst (v := (-1 : Int32)) C (z_d dd_Mo_byteAt 6 rfl) (by decide) ?_
  refine r_goto C 22 (z_d dd_Mo_byteAt 7 rfl) (by decide) ?_
  exact s_Mo_byteAt_22 C hr E n (-1 : Int32) M h
def f_Mo_byteAt_0 (O : zO) (n : Nat) (l0 : Nat) (l1 : Int32) (M : zM) : Option (Int32 × zM) :=
  if l1 < 0 then
  f_Mo_byteAt_12 O n M
  else
  if z_k M l0 = 13 then
  if l1 < (z_i M l0 3) then
  if z_k M (z_p M l0 2) = 100 then
  if zin l1 (z_n M (z_p M l0 2)) = true then
  f_Mo_byteAt_22 O n (z_i M (z_p M l0 2) l1.toNatClampNeg) M
  else none
  else none
  else
  f_Mo_byteAt_12 O n M
  else none
set_option maxRecDepth 100000 in
set_option maxHeartbeats 4000000 in
theorem s_Mo_byteAt_0 {X : zX} {q : Int32 × zM} (C : zC X zR12 prog_14_method_53_code 2 { frames := 0, cells := 0, slots := 0, locals := 0 }) (hr : zRt X (some .int)) (E : zE X (some (zI q.1)) q.2 0 0) : ∀ (n : Nat) (l0 : Nat) (l1 : Int32) (M : zM), f_Mo_byteAt_0 (zOD X) n l0 l1 M = some q → zW X 0 0 0 [some (zP l0), some (zI l1)] [] M := by
  intro n l0 l1 M h
  rw [f_Mo_byteAt_0] at h
  refine r_iload_n C (z_d dd_Mo_byteAt 0 rfl) rfl ?_
  refine r_if_lt C 12 (z_d dd_Mo_byteAt 1 rfl) (by decide) (fun c5 => ?_) (fun c5 => ?_)
  · have h := zift h c5
    refine r_mk [false, false] ?_
    exact s_Mo_byteAt_12 C hr E n M h
  · have h := ziff h c5
    refine r_iload_n C (z_d dd_Mo_byteAt 2 rfl) rfl ?_
    refine r_aload_n C (z_d dd_Mo_byteAt 3 rfl) rfl ?_
    obtain ⟨h1, h⟩ := zif h
    refine r_getI C (z_d dd_Mo_byteAt 4 rfl) lk_Mo_232 rfl h1 rfl ?_
    refine r_icmp_lt C 16 (z_d dd_Mo_byteAt 5 rfl) (by decide) (fun c4 => ?_) (fun c4 => ?_)
    · have h := zift h c4
      refine r_aload_n C (z_d dd_Mo_byteAt 8 rfl) rfl ?_
      refine r_getP C (z_d dd_Mo_byteAt 9 rfl) lk_Mo_14 rfl h1 rfl ?_
      refine r_iload_n C (z_d dd_Mo_byteAt 10 rfl) rfl ?_
      obtain ⟨h2, h⟩ := zif h
      obtain ⟨h3, h⟩ := zif h
      refine r_iald C (z_d dd_Mo_byteAt 11 rfl) h2 h3 rfl ?_
      refine r_mk [false, false] ?_
      exact s_Mo_byteAt_22 C hr E n (z_i M (z_p M l0 2) l1.toNatClampNeg) M h
    · have h := ziff h c4
      refine r_mk [false, false] ?_
      exact s_Mo_byteAt_12 C hr E n M h
def F_Mo_byteAt (O : zO) (n : Nat) (l0 : Nat) (l1 : Int32) (M : zM) : Option (Int32 × zM) := f_Mo_byteAt_0 O n l0 l1 M
theorem S_Mo_byteAt {l : Launch} {D : zD} {n : Nat} {l0 : Nat} {l1 : Int32} {M : zM} {q : Int32 × zM} (h : F_Mo_byteAt D.2.2.2.2 n l0 l1 M = some q) : zMet l D mi_Mo_byteAt [zP l0, zI l1] M (some (zI q.1)) q.2 :=
  z_met (by decide) (Nat.le_of_ble_eq_true rfl) (fun X C E hr hin hD hl => by
    subst hD
    exact s_Mo_byteAt_0 C hr E n l0 l1 M h)
