def f_FR_endFrame_115 (O : zO) (n : Nat) (M : zM) : Option (Int32 × zM) :=
  some ((1 : Int32), M)
set_option maxRecDepth 100000 in
set_option maxHeartbeats 4000000 in
theorem s_FR_endFrame_115 {X : zX} {q : Int32 × zM} (C : zC X zR4 prog_5_method_15_code 1 { frames := 4, cells := 0, slots := 0, locals := 98 }) (hr : zRt X (some .boolean)) (E : zE X (some (zI q.1)) q.2 0 0) : ∀ (n : Nat) (M : zM), f_FR_endFrame_115 (zOD X) n M = some q → zW X 0 0 115 [none] [] M := by
  intro n M h
  rw [f_FR_endFrame_115] at h
  refine r_iconst (v := (1 : Int32)) C (z_d dd_FR_endFrame 57 rfl) (by decide) ?_
  obtain rfl := z_res h
  exact r_iretZ C E hr (z_d dd_FR_endFrame 58 rfl) (by decide) (Nat.le_of_ble_eq_true rfl) (Nat.le_of_ble_eq_true rfl)
def f_FR_endFrame_78 (O : zO) (n : Nat) (l0 : Nat) (M : zM) : Option (Int32 × zM) :=
  if z_k M l0 = 5 then
  if (z_i M l0 9) = 0 then
  f_FR_endFrame_115 O n M
  else
  if z_k M (z_p M l0 3) = 3 then
  (F_Content_ofFrame O n (z_p M l0 3) M).bind fun q3 =>
  if (lg_cmp (z_j M l0 10) q3.1.toInt64) = 0 then
  f_FR_endFrame_115 O n q3.2
  else
  if z_k q3.2 l0 = 5 then
  if z_k q3.2 (z_p q3.2 l0 2) = 8 then
  (F_Rep_fail O n (z_p q3.2 l0 2) (9 : Int32) (z_i q3.2 l0 11) q3.2).bind fun q7 =>
  if q7.1 = 0 ∨ q7.1 = 1 then
  some (q7.1, q7.2)
  else none
  else none
  else none
  else none
  else none
set_option maxRecDepth 100000 in
set_option maxHeartbeats 4000000 in
theorem s_FR_endFrame_78 {X : zX} {q : Int32 × zM} (C : zC X zR4 prog_5_method_15_code 1 { frames := 4, cells := 0, slots := 0, locals := 98 }) (hr : zRt X (some .boolean)) (E : zE X (some (zI q.1)) q.2 0 0) : ∀ (n : Nat) (l0 : Nat) (M : zM), f_FR_endFrame_78 (zOD X) n l0 M = some q → zW X 0 0 78 [some (zP l0)] [] M := by
  intro n l0 M h
  rw [f_FR_endFrame_78] at h
  refine r_aload_n C (z_d dd_FR_endFrame 39 rfl) rfl ?_
  obtain ⟨h1, h⟩ := zif h
  refine r_getI C (z_d dd_FR_endFrame 40 rfl) lk_FR_56 rfl h1 rfl ?_
  refine r_if_eq C 115 (z_d dd_FR_endFrame 41 rfl) (by decide) (fun c11 => ?_) (fun c11 => ?_)
  · have h := zift h c11
    refine r_mk [false] ?_
    exact s_FR_endFrame_115 C hr E n M h
  · have h := ziff h c11
    refine r_aload_n C (z_d dd_FR_endFrame 42 rfl) rfl ?_
    refine r_getL C (z_d dd_FR_endFrame 43 rfl) lk_FR_59 rfl h1 rfl ?_
    refine r_aload_n C (z_d dd_FR_endFrame 44 rfl) rfl ?_
    refine r_getP C (z_d dd_FR_endFrame 45 rfl) lk_FR_23 rfl h1 rfl ?_
    obtain ⟨h2, h⟩ := zif h
    obtain ⟨q3, c4, h⟩ := zbd h
    refine r_invV (as := []) C 2 (S_Content_ofFrame c4) (z_d dd_FR_endFrame 46 rfl) ok_Content_ofFrame iv_Content_ofFrame se_Content_ofFrame ml_FR_203 rfl rfl h2 rfl rfl rfl (Nat.le_of_ble_eq_true rfl) ⟨(Nat.le_of_ble_eq_true rfl), (Nat.le_of_ble_eq_true rfl)⟩ ⟨(Nat.le_of_ble_eq_true rfl), (Nat.le_of_ble_eq_true rfl)⟩ ?_
    refine r_i2l C (z_d dd_FR_endFrame 47 rfl) ?_
    refine r_lcmp C (z_d dd_FR_endFrame 48 rfl) ?_
    refine r_if_eq C 115 (z_d dd_FR_endFrame 49 rfl) (by decide) (fun c10 => ?_) (fun c10 => ?_)
    · have h := zift h c10
      refine r_mk [false] ?_
      exact s_FR_endFrame_115 C hr E n q3.2 h
    · have h := ziff h c10
      refine r_aload_n C (z_d dd_FR_endFrame 50 rfl) rfl ?_
      obtain ⟨h5, h⟩ := zif h
      refine r_getP C (z_d dd_FR_endFrame 51 rfl) lk_FR_19 rfl h5 rfl ?_
      refine r_bipush (v := (9 : Int32)) C (z_d dd_FR_endFrame 52 rfl) (by decide) ?_
      refine r_aload_n C (z_d dd_FR_endFrame 53 rfl) rfl ?_
      refine r_getI C (z_d dd_FR_endFrame 54 rfl) lk_FR_63 rfl h5 rfl ?_
      obtain ⟨h6, h⟩ := zif h
      obtain ⟨q7, c8, h⟩ := zbd h
      refine r_invV (as := [zI (9 : Int32), zI (z_i q3.2 l0 11)]) C 7 (S_Rep_fail c8) (z_d dd_FR_endFrame 55 rfl) ok_Rep_fail iv_Rep_fail se_Rep_fail ml_FR_110 rfl rfl h6 rfl rfl rfl (Nat.le_of_ble_eq_true rfl) ⟨(Nat.le_of_ble_eq_true rfl), (Nat.le_of_ble_eq_true rfl)⟩ ⟨(Nat.le_of_ble_eq_true rfl), (Nat.le_of_ble_eq_true rfl)⟩ ?_
      obtain ⟨h9, h⟩ := zif h
      obtain rfl := z_res h
      exact r_iretZ C E hr (z_d dd_FR_endFrame 56 rfl) h9 (Nat.le_of_ble_eq_true rfl) (Nat.le_of_ble_eq_true rfl)
def f_FR_endFrame_0 (O : zO) (n : Nat) (l0 : Nat) (M : zM) : Option (Int32 × zM) :=
  if z_k M l0 = 5 then
  zlet (w_i M l0 7 (0 : Int32)) fun M2 =>
  if (z_i M2 l0 8) = 0 then
  f_FR_endFrame_78 O n l0 M2
  else
  (F_FR_lacks O n l0 (4 : Int64) M2).bind fun q5 =>
  if q5.1 = 0 then
  if z_k q5.2 l0 = 5 then
  if z_k q5.2 (z_p q5.2 l0 0) = 9 then
  (F_Row_number O n (z_p q5.2 l0 0) (z_i q5.2 l0 6) (4 : Int32) q5.2).bind fun q9 =>
  if z_k q9.2 l0 = 5 then
  if z_k q9.2 (z_p q9.2 l0 3) = 3 then
  (F_Content_wideSum O n (z_p q9.2 l0 3) q9.2).bind fun q13 =>
  if (lg_cmp q9.1 (q13.1 &&& (4294967295 : Int64))) = 0 then
  if z_k q13.2 l0 = 5 then
  zlet (w_i q13.2 l0 6 ((z_i q13.2 l0 6) + (4 : Int32))) fun M16 =>
  f_FR_endFrame_78 O n l0 M16
  else none
  else
  if z_k q13.2 l0 = 5 then
  if z_k q13.2 (z_p q13.2 l0 2) = 8 then
  (F_Rep_fail O n (z_p q13.2 l0 2) (8 : Int32) (z_i q13.2 l0 6) q13.2).bind fun q21 =>
  if q21.1 = 0 ∨ q21.1 = 1 then
  some (q21.1, q21.2)
  else none
  else none
  else none
  else none
  else none
  else none
  else none
  else
  if z_k q5.2 l0 = 5 then
  (F_FR_endsWithin O n l0 q5.2).bind fun q26 =>
  if q26.1 = 0 ∨ q26.1 = 1 then
  some (q26.1, q26.2)
  else none
  else none
  else none
set_option maxRecDepth 100000 in
set_option maxHeartbeats 4000000 in
theorem s_FR_endFrame_0 {X : zX} {q : Int32 × zM} (C : zC X zR4 prog_5_method_15_code 1 { frames := 4, cells := 0, slots := 0, locals := 98 }) (hr : zRt X (some .boolean)) (E : zE X (some (zI q.1)) q.2 0 0) : ∀ (n : Nat) (l0 : Nat) (M : zM), f_FR_endFrame_0 (zOD X) n l0 M = some q → zW X 0 0 0 [some (zP l0)] [] M := by
  intro n l0 M h
  rw [f_FR_endFrame_0] at h
  refine r_aload_n C (z_d dd_FR_endFrame 0 rfl) rfl ?_
  refine r_iconst (v := (0 : Int32)) C (z_d dd_FR_endFrame 1 rfl) (by decide) ?_
  obtain ⟨h1, h⟩ := zif h
  obtain ⟨M2, e3, h⟩ := zlet_ex h
  have h4 := k_i e3 h1
  refine r_putZ C (z_d dd_FR_endFrame 2 rfl) lp_FR_49 rfl (by decide) h1 e3 ?_
  refine r_aload_n C (z_d dd_FR_endFrame 3 rfl) rfl ?_
  refine r_getI C (z_d dd_FR_endFrame 4 rfl) lk_FR_53 rfl h4 rfl ?_
  refine r_if_eq C 78 (z_d dd_FR_endFrame 5 rfl) (by decide) (fun c30 => ?_) (fun c30 => ?_)
  · have h := zift h c30
    exact s_FR_endFrame_78 C hr E n l0 M2 h
  · have h := ziff h c30
    refine r_aload_n C (z_d dd_FR_endFrame 6 rfl) rfl ?_
    refine r_ldc2 (v := (4 : Int64)) C (z_d dd_FR_endFrame 7 rfl) kl_FR_84 ?_
    obtain ⟨q5, c6, h⟩ := zbd h
    refine r_invV (as := [zL (4 : Int64)]) C 4 (S_FR_lacks c6) (z_d dd_FR_endFrame 8 rfl) ok_FR_lacks iv_FR_lacks se_FR_lacks ml_FR_86 rfl rfl h4 rfl rfl rfl (Nat.le_of_ble_eq_true rfl) ⟨(Nat.le_of_ble_eq_true rfl), (Nat.le_of_ble_eq_true rfl)⟩ ⟨(Nat.le_of_ble_eq_true rfl), (Nat.le_of_ble_eq_true rfl)⟩ ?_
    refine r_if_eq C 27 (z_d dd_FR_endFrame 9 rfl) (by decide) (fun c29 => ?_) (fun c29 => ?_)
    · have h := zift h c29
      refine r_aload_n C (z_d dd_FR_endFrame 13 rfl) rfl ?_
      obtain ⟨h7, h⟩ := zif h
      refine r_getP C (z_d dd_FR_endFrame 14 rfl) lk_FR_9 rfl h7 rfl ?_
      refine r_aload_n C (z_d dd_FR_endFrame 15 rfl) rfl ?_
      refine r_getI C (z_d dd_FR_endFrame 16 rfl) lk_FR_45 rfl h7 rfl ?_
      refine r_iconst (v := (4 : Int32)) C (z_d dd_FR_endFrame 17 rfl) (by decide) ?_
      obtain ⟨h8, h⟩ := zif h
      obtain ⟨q9, c10, h⟩ := zbd h
      refine r_invV (as := [zI (z_i q5.2 l0 6), zI (4 : Int32)]) C 8 (S_Row_number c10) (z_d dd_FR_endFrame 18 rfl) ok_Row_number iv_Row_number se_Row_number ml_FR_94 rfl rfl h8 rfl rfl rfl (Nat.le_of_ble_eq_true rfl) ⟨(Nat.le_of_ble_eq_true rfl), (Nat.le_of_ble_eq_true rfl)⟩ ⟨(Nat.le_of_ble_eq_true rfl), (Nat.le_of_ble_eq_true rfl)⟩ ?_
      refine r_aload_n C (z_d dd_FR_endFrame 19 rfl) rfl ?_
      obtain ⟨h11, h⟩ := zif h
      refine r_getP C (z_d dd_FR_endFrame 20 rfl) lk_FR_23 rfl h11 rfl ?_
      obtain ⟨h12, h⟩ := zif h
      obtain ⟨q13, c14, h⟩ := zbd h
      refine r_invV (as := []) C 2 (S_Content_wideSum c14) (z_d dd_FR_endFrame 21 rfl) ok_Content_wideSum iv_Content_wideSum se_Content_wideSum ml_FR_197 rfl rfl h12 rfl rfl rfl (Nat.le_of_ble_eq_true rfl) ⟨(Nat.le_of_ble_eq_true rfl), (Nat.le_of_ble_eq_true rfl)⟩ ⟨(Nat.le_of_ble_eq_true rfl), (Nat.le_of_ble_eq_true rfl)⟩ ?_
      refine r_ldc2 (v := (4294967295 : Int64)) C (z_d dd_FR_endFrame 22 rfl) kl_FR_201 ?_
      refine r_land C (z_d dd_FR_endFrame 23 rfl) ?_
      refine r_lcmp C (z_d dd_FR_endFrame 24 rfl) ?_
      refine r_if_eq C 68 (z_d dd_FR_endFrame 25 rfl) (by decide) (fun c24 => ?_) (fun c24 => ?_)
      · have h := zift h c24
        refine r_aload_n C (z_d dd_FR_endFrame 33 rfl) rfl ?_
        refine r_dupP C (z_d dd_FR_endFrame 34 rfl) ?_
        obtain ⟨h15, h⟩ := zif h
        refine r_getI C (z_d dd_FR_endFrame 35 rfl) lk_FR_45 rfl h15 rfl ?_
        refine r_iconst (v := (4 : Int32)) C (z_d dd_FR_endFrame 36 rfl) (by decide) ?_
        refine r_iadd C (z_d dd_FR_endFrame 37 rfl) ?_
        obtain ⟨M16, e17, h⟩ := zlet_ex h
        have h18 := k_i e17 h15
        refine r_putI C (z_d dd_FR_endFrame 38 rfl) lp_FR_45 rfl h15 e17 ?_
        exact s_FR_endFrame_78 C hr E n l0 M16 h
      · have h := ziff h c24
        refine r_aload_n C (z_d dd_FR_endFrame 26 rfl) rfl ?_
        obtain ⟨h19, h⟩ := zif h
        refine r_getP C (z_d dd_FR_endFrame 27 rfl) lk_FR_19 rfl h19 rfl ?_
        refine r_bipush (v := (8 : Int32)) C (z_d dd_FR_endFrame 28 rfl) (by decide) ?_
        refine r_aload_n C (z_d dd_FR_endFrame 29 rfl) rfl ?_
        refine r_getI C (z_d dd_FR_endFrame 30 rfl) lk_FR_45 rfl h19 rfl ?_
        obtain ⟨h20, h⟩ := zif h
        obtain ⟨q21, c22, h⟩ := zbd h
        refine r_invV (as := [zI (8 : Int32), zI (z_i q13.2 l0 6)]) C 7 (S_Rep_fail c22) (z_d dd_FR_endFrame 31 rfl) ok_Rep_fail iv_Rep_fail se_Rep_fail ml_FR_110 rfl rfl h20 rfl rfl rfl (Nat.le_of_ble_eq_true rfl) ⟨(Nat.le_of_ble_eq_true rfl), (Nat.le_of_ble_eq_true rfl)⟩ ⟨(Nat.le_of_ble_eq_true rfl), (Nat.le_of_ble_eq_true rfl)⟩ ?_
        obtain ⟨h23, h⟩ := zif h
        obtain rfl := z_res h
        exact r_iretZ C E hr (z_d dd_FR_endFrame 32 rfl) h23 (Nat.le_of_ble_eq_true rfl) (Nat.le_of_ble_eq_true rfl)
    · have h := ziff h c29
      refine r_aload_n C (z_d dd_FR_endFrame 10 rfl) rfl ?_
      obtain ⟨h25, h⟩ := zif h
      obtain ⟨q26, c27, h⟩ := zbd h
      refine r_invV (as := []) C 4 (S_FR_endsWithin c27) (z_d dd_FR_endFrame 11 rfl) ok_FR_endsWithin iv_FR_endsWithin se_FR_endsWithin ml_FR_90 rfl rfl h25 rfl rfl rfl (Nat.le_of_ble_eq_true rfl) ⟨(Nat.le_of_ble_eq_true rfl), (Nat.le_of_ble_eq_true rfl)⟩ ⟨(Nat.le_of_ble_eq_true rfl), (Nat.le_of_ble_eq_true rfl)⟩ ?_
      obtain ⟨h28, h⟩ := zif h
      obtain rfl := z_res h
      exact r_iretZ C E hr (z_d dd_FR_endFrame 12 rfl) h28 (Nat.le_of_ble_eq_true rfl) (Nat.le_of_ble_eq_true rfl)
def F_FR_endFrame (O : zO) (n : Nat) (l0 : Nat) (M : zM) : Option (Int32 × zM) := f_FR_endFrame_0 O n l0 M
theorem S_FR_endFrame {l : Launch} {D : zD} {n : Nat} {l0 : Nat} {M : zM} {q : Int32 × zM} (h : F_FR_endFrame D.2.2.2.2 n l0 M = some q) : zMet l D mi_FR_endFrame [zP l0] M (some (zI q.1)) q.2 :=
  z_met (by decide) (Nat.le_of_ble_eq_true rfl) (fun X C E hr hin hD hl => by
    subst hD
    exact s_FR_endFrame_0 C hr E n l0 M h)

def f_FR_block_236 (O : zO) (n : Nat) (s0 : Int32) (M : zM) : Option (Int32 × zM) :=
  if s0 = 0 ∨ s0 = 1 then
  some (s0, M)
  else none
set_option maxRecDepth 100000 in
set_option maxHeartbeats 4000000 in
theorem s_FR_block_236 {X : zX} {q : Int32 × zM} (C : zC X zR4 prog_5_method_13_code 7 { frames := 6, cells := 0, slots := 0, locals := 192 }) (hr : zRt X (some .boolean)) (E : zE X (some (zI q.1)) q.2 0 0) : ∀ (n : Nat) (s0 : Int32) (M : zM), f_FR_block_236 (zOD X) n s0 M = some q → zW X 0 0 236 [none, none, none, none, none, none, none] [zI s0] M := by
  intro n s0 M h
  rw [f_FR_block_236] at h
  obtain ⟨h1, h⟩ := zif h
  obtain rfl := z_res h
  exact r_iretZ C E hr (z_d dd_FR_block 126 rfl) h1 (Nat.le_of_ble_eq_true rfl) (Nat.le_of_ble_eq_true rfl)
def f_FR_block_231 (O : zO) (n : Nat) (M : zM) : Option (Int32 × zM) :=
  f_FR_block_236 O n (1 : Int32) M
set_option maxRecDepth 100000 in
set_option maxHeartbeats 4000000 in
theorem s_FR_block_231 {X : zX} {q : Int32 × zM} (C : zC X zR4 prog_5_method_13_code 7 { frames := 6, cells := 0, slots := 0, locals := 192 }) (hr : zRt X (some .boolean)) (E : zE X (some (zI q.1)) q.2 0 0) : ∀ (n : Nat) (M : zM), f_FR_block_231 (zOD X) n M = some q → zW X 0 0 231 [none, none, none, none, none, none, none] [] M := by
  intro n M h
  rw [f_FR_block_231] at h
  refine r_iconst (v := (1 : Int32)) C (z_d dd_FR_block 123 rfl) (by decide) ?_
  refine r_goto C 236 (z_d dd_FR_block 124 rfl) (by decide) ?_
  exact s_FR_block_236 C hr E n (1 : Int32) M h
def f_FR_block_203 (O : zO) (n : Nat) (l0 : Nat) (l1 : Int32) (l5 : Int32) (s0 : Int32) (M : zM) : Option (Int32 × zM) :=
  if s0 = 0 then
  some ((0 : Int32), M)
  else
  if z_k M l0 = 5 then
  zlet (w_i M l0 6 l5) fun M2 =>
  if (l1 &&& (1 : Int32)) = 0 then
  f_FR_block_231 O n M2
  else
  (F_FR_endFrame O n l0 M2).bind fun q5 =>
  if q5.1 = 0 then
  f_FR_block_236 O n (0 : Int32) q5.2
  else
  f_FR_block_231 O n q5.2
  else none
set_option maxRecDepth 100000 in
set_option maxHeartbeats 4000000 in
theorem s_FR_block_203 {X : zX} {q : Int32 × zM} (C : zC X zR4 prog_5_method_13_code 7 { frames := 6, cells := 0, slots := 0, locals := 192 }) (hr : zRt X (some .boolean)) (E : zE X (some (zI q.1)) q.2 0 0) : ∀ (n : Nat) (l0 : Nat) (l1 : Int32) (l5 : Int32) (s0 : Int32) (M : zM), f_FR_block_203 (zOD X) n l0 l1 l5 s0 M = some q → zW X 0 0 203 [some (zP l0), some (zI l1), none, none, none, some (zI l5), none] [zI s0] M := by
  intro n l0 l1 l5 s0 M h
  rw [f_FR_block_203] at h
  refine r_istore (lv' := [some (zP l0), some (zI l1), none, none, none, some (zI l5), some (zI s0)]) C (z_d dd_FR_block 108 rfl) (Nat.le_of_ble_eq_true rfl) rfl ?_
  refine r_iload C (z_d dd_FR_block 109 rfl) rfl ?_
  refine r_if_ne C 212 (z_d dd_FR_block 110 rfl) (by decide) (fun c9 => ?_) (fun c9 => ?_)
  · have h := ziff h c9
    refine r_aload_n C (z_d dd_FR_block 113 rfl) rfl ?_
    refine r_iload C (z_d dd_FR_block 114 rfl) rfl ?_
    obtain ⟨h1, h⟩ := zif h
    obtain ⟨M2, e3, h⟩ := zlet_ex h
    have h4 := k_i e3 h1
    refine r_putI C (z_d dd_FR_block 115 rfl) lp_FR_45 rfl h1 e3 ?_
    refine r_iload_n C (z_d dd_FR_block 116 rfl) rfl ?_
    refine r_iconst (v := (1 : Int32)) C (z_d dd_FR_block 117 rfl) (by decide) ?_
    refine r_iand C (z_d dd_FR_block 118 rfl) ?_
    refine r_if_eq C 231 (z_d dd_FR_block 119 rfl) (by decide) (fun c8 => ?_) (fun c8 => ?_)
    · have h := zift h c8
      refine r_mk [false, false, false, false, false, false, false] ?_
      exact s_FR_block_231 C hr E n M2 h
    · have h := ziff h c8
      refine r_aload_n C (z_d dd_FR_block 120 rfl) rfl ?_
      obtain ⟨q5, c6, h⟩ := zbd h
      refine r_invV (as := []) C 4 (S_FR_endFrame c6) (z_d dd_FR_block 121 rfl) ok_FR_endFrame iv_FR_endFrame se_FR_endFrame ml_FR_180 rfl rfl h4 rfl rfl rfl (Nat.le_of_ble_eq_true rfl) ⟨(Nat.le_of_ble_eq_true rfl), (Nat.le_of_ble_eq_true rfl)⟩ ⟨(Nat.le_of_ble_eq_true rfl), (Nat.le_of_ble_eq_true rfl)⟩ ?_
      refine r_if_eq C 235 (z_d dd_FR_block 122 rfl) (by decide) (fun c7 => ?_) (fun c7 => ?_)
      · have h := zift h c7
        refine r_iconst (v := (0 : Int32)) C (z_d dd_FR_block 125 rfl) (by decide) ?_
        refine r_mk [false, false, false, false, false, false, false] ?_
        exact s_FR_block_236 C hr E n (0 : Int32) q5.2 h
      · have h := ziff h c7
        refine r_mk [false, false, false, false, false, false, false] ?_
        exact s_FR_block_231 C hr E n q5.2 h
  · have h := zift h c9
    refine r_iconst (v := (0 : Int32)) C (z_d dd_FR_block 111 rfl) (by decide) ?_
    obtain rfl := z_res h
    exact r_iretZ C E hr (z_d dd_FR_block 112 rfl) (by decide) (Nat.le_of_ble_eq_true rfl) (Nat.le_of_ble_eq_true rfl)
def f_FR_block_202 (O : zO) (n : Nat) (l0 : Nat) (l1 : Int32) (l5 : Int32) (M : zM) : Option (Int32 × zM) :=
  f_FR_block_203 O n l0 l1 l5 (0 : Int32) M
set_option maxRecDepth 100000 in
set_option maxHeartbeats 4000000 in
theorem s_FR_block_202 {X : zX} {q : Int32 × zM} (C : zC X zR4 prog_5_method_13_code 7 { frames := 6, cells := 0, slots := 0, locals := 192 }) (hr : zRt X (some .boolean)) (E : zE X (some (zI q.1)) q.2 0 0) : ∀ (n : Nat) (l0 : Nat) (l1 : Int32) (l5 : Int32) (M : zM), f_FR_block_202 (zOD X) n l0 l1 l5 M = some q → zW X 0 0 202 [some (zP l0), some (zI l1), none, none, none, some (zI l5), none] [] M := by
  intro n l0 l1 l5 M h
  rw [f_FR_block_202] at h
  refine r_iconst (v := (0 : Int32)) C (z_d dd_FR_block 107 rfl) (by decide) ?_
  exact s_FR_block_203 C hr E n l0 l1 l5 (0 : Int32) M h
def f_FR_block_115 (O : zO) (n : Nat) (l0 : Nat) (l1 : Int32) (l2 : Int32) (l3 : Int32) (l4 : Int32) (s0 : Int32) (s1 : Int32) (M : zM) : Option (Int32 × zM) :=
  zlet (s0 + s1) fun v1 =>
  if z_k M l0 = 5 then
  if z_k M (z_p M l0 0) = 9 then
  if v1 ≤ (z_i M (z_p M l0 0) 1) then
  if z_k M (z_p M l0 3) = 3 then
  (F_Content_startBlock O n (z_p M l0 3) M).bind fun q6 =>
  if (2 : Int32) ≤ l2 then
  if z_k q6.2 l0 = 5 then
  if z_k q6.2 (z_p q6.2 l0 3) = 3 then
  (F_Content_mostOfBlock O n (z_p q6.2 l0 3) q6.2).bind fun q10 =>
  if z_k q10.2 (z_p q6.2 l0 4) = 7 then
  (F_Lit_take O n (z_p q6.2 l0 4) l4 v1 q10.1 q10.2).bind fun q13 =>
  if q13.1 = 0 then
  f_FR_block_202 O n l0 l1 v1 q13.2
  else
  if z_k q13.2 l0 = 5 then
  if z_k q13.2 (z_p q13.2 l0 4) = 7 then
  if z_k q13.2 (z_p q13.2 l0 5) = 10 then
  (F_Seq_take O n (z_p q13.2 l0 5) l4 (z_i q13.2 (z_p q13.2 l0 4) 9) v1 q13.2).bind fun q18 =>
  if q18.1 = 0 then
  f_FR_block_202 O n l0 l1 v1 q18.2
  else
  f_FR_block_203 O n l0 l1 v1 (1 : Int32) q18.2
  else none
  else none
  else none
  else none
  else none
  else none
  else
  if z_k q6.2 l0 = 5 then
  (F_FR_plain O n l0 l2 l3 q6.2).bind fun q23 =>
  f_FR_block_203 O n l0 l1 v1 q23.1 q23.2
  else none
  else none
  else
  (F_FR_endsWithin O n l0 M).bind fun q26 =>
  if q26.1 = 0 ∨ q26.1 = 1 then
  some (q26.1, q26.2)
  else none
  else none
  else none
set_option maxRecDepth 100000 in
set_option maxHeartbeats 4000000 in
theorem s_FR_block_115 {X : zX} {q : Int32 × zM} (C : zC X zR4 prog_5_method_13_code 7 { frames := 6, cells := 0, slots := 0, locals := 192 }) (hr : zRt X (some .boolean)) (E : zE X (some (zI q.1)) q.2 0 0) : ∀ (n : Nat) (l0 : Nat) (l1 : Int32) (l2 : Int32) (l3 : Int32) (l4 : Int32) (s0 : Int32) (s1 : Int32) (M : zM), f_FR_block_115 (zOD X) n l0 l1 l2 l3 l4 s0 s1 M = some q → zW X 0 0 115 [some (zP l0), some (zI l1), some (zI l2), some (zI l3), some (zI l4), none, none] [zI s1, zI s0] M := by
  intro n l0 l1 l2 l3 l4 s0 s1 M h
  rw [f_FR_block_115] at h
  refine r_iadd C (z_d dd_FR_block 66 rfl) ?_
  obtain ⟨v1, e2, h⟩ := zlet_ex h
  refine r_nmI e2 ?_
  refine r_istore (lv' := [some (zP l0), some (zI l1), some (zI l2), some (zI l3), some (zI l4), some (zI v1), none]) C (z_d dd_FR_block 67 rfl) (Nat.le_of_ble_eq_true rfl) rfl ?_
  refine r_iload C (z_d dd_FR_block 68 rfl) rfl ?_
  refine r_aload_n C (z_d dd_FR_block 69 rfl) rfl ?_
  obtain ⟨h3, h⟩ := zif h
  refine r_getP C (z_d dd_FR_block 70 rfl) lk_FR_9 rfl h3 rfl ?_
  obtain ⟨h4, h⟩ := zif h
  refine r_getI C (z_d dd_FR_block 71 rfl) lk_FR_79 rfl h4 rfl ?_
  refine r_icmp_le C 135 (z_d dd_FR_block 72 rfl) (by decide) (fun c29 => ?_) (fun c29 => ?_)
  · have h := zift h c29
    refine r_aload_n C (z_d dd_FR_block 76 rfl) rfl ?_
    refine r_getP C (z_d dd_FR_block 77 rfl) lk_FR_23 rfl h3 rfl ?_
    obtain ⟨h5, h⟩ := zif h
    obtain ⟨q6, c7, h⟩ := zbd h
    refine r_invV (as := []) C 2 (S_Content_startBlock c7) (z_d dd_FR_block 78 rfl) ok_Content_startBlock iv_Content_startBlock se_Content_startBlock ml_FR_166 rfl rfl h5 rfl rfl rfl (Nat.le_of_ble_eq_true rfl) ⟨(Nat.le_of_ble_eq_true rfl), (Nat.le_of_ble_eq_true rfl)⟩ ⟨(Nat.le_of_ble_eq_true rfl), (Nat.le_of_ble_eq_true rfl)⟩ ?_
    refine r_iload_n C (z_d dd_FR_block 79 rfl) rfl ?_
    refine r_iconst (v := (2 : Int32)) C (z_d dd_FR_block 80 rfl) (by decide) ?_
    refine r_icmp_ge C 156 (z_d dd_FR_block 81 rfl) (by decide) (fun c25 => ?_) (fun c25 => ?_)
    · have h := zift h c25
      refine r_aload_n C (z_d dd_FR_block 87 rfl) rfl ?_
      obtain ⟨h8, h⟩ := zif h
      refine r_getP C (z_d dd_FR_block 88 rfl) lk_FR_32 rfl h8 rfl ?_
      refine r_iload C (z_d dd_FR_block 89 rfl) rfl ?_
      refine r_iload C (z_d dd_FR_block 90 rfl) rfl ?_
      refine r_aload_n C (z_d dd_FR_block 91 rfl) rfl ?_
      refine r_getP C (z_d dd_FR_block 92 rfl) lk_FR_23 rfl h8 rfl ?_
      obtain ⟨h9, h⟩ := zif h
      obtain ⟨q10, c11, h⟩ := zbd h
      refine r_invV (as := []) C 2 (S_Content_mostOfBlock c11) (z_d dd_FR_block 93 rfl) ok_Content_mostOfBlock iv_Content_mostOfBlock se_Content_mostOfBlock ml_FR_162 rfl rfl h9 rfl rfl rfl (Nat.le_of_ble_eq_true rfl) ⟨(Nat.le_of_ble_eq_true rfl), (Nat.le_of_ble_eq_true rfl)⟩ ⟨(Nat.le_of_ble_eq_true rfl), (Nat.le_of_ble_eq_true rfl)⟩ ?_
      obtain ⟨h12, h⟩ := zif h
      obtain ⟨q13, c14, h⟩ := zbd h
      refine r_invV (as := [zI l4, zI v1, zI q10.1]) C 6 (S_Lit_take c14) (z_d dd_FR_block 94 rfl) ok_Lit_take iv_Lit_take se_Lit_take ml_FR_172 rfl rfl h12 rfl rfl rfl (Nat.le_of_ble_eq_true rfl) ⟨(Nat.le_of_ble_eq_true rfl), (Nat.le_of_ble_eq_true rfl)⟩ ⟨(Nat.le_of_ble_eq_true rfl), (Nat.le_of_ble_eq_true rfl)⟩ ?_
      refine r_if_eq C 202 (z_d dd_FR_block 95 rfl) (by decide) (fun c21 => ?_) (fun c21 => ?_)
      · have h := zift h c21
        refine r_mk [true, true, false, false, false, true, false] ?_
        exact s_FR_block_202 C hr E n l0 l1 v1 q13.2 h
      · have h := ziff h c21
        refine r_aload_n C (z_d dd_FR_block 96 rfl) rfl ?_
        obtain ⟨h15, h⟩ := zif h
        refine r_getP C (z_d dd_FR_block 97 rfl) lk_FR_41 rfl h15 rfl ?_
        refine r_iload C (z_d dd_FR_block 98 rfl) rfl ?_
        refine r_aload_n C (z_d dd_FR_block 99 rfl) rfl ?_
        refine r_getP C (z_d dd_FR_block 100 rfl) lk_FR_32 rfl h15 rfl ?_
        obtain ⟨h16, h⟩ := zif h
        refine r_getI C (z_d dd_FR_block 101 rfl) lk_FR_176 rfl h16 rfl ?_
        refine r_iload C (z_d dd_FR_block 102 rfl) rfl ?_
        obtain ⟨h17, h⟩ := zif h
        obtain ⟨q18, c19, h⟩ := zbd h
        refine r_invV (as := [zI l4, zI (z_i q13.2 (z_p q13.2 l0 4) 9), zI v1]) C 9 (S_Seq_take c19) (z_d dd_FR_block 103 rfl) ok_Seq_take iv_Seq_take se_Seq_take ml_FR_179 rfl rfl h17 rfl rfl rfl (Nat.le_of_ble_eq_true rfl) ⟨(Nat.le_of_ble_eq_true rfl), (Nat.le_of_ble_eq_true rfl)⟩ ⟨(Nat.le_of_ble_eq_true rfl), (Nat.le_of_ble_eq_true rfl)⟩ ?_
        refine r_if_eq C 202 (z_d dd_FR_block 104 rfl) (by decide) (fun c20 => ?_) (fun c20 => ?_)
        · have h := zift h c20
          refine r_mk [true, true, false, false, false, true, false] ?_
          exact s_FR_block_202 C hr E n l0 l1 v1 q18.2 h
        · have h := ziff h c20
          refine r_iconst (v := (1 : Int32)) C (z_d dd_FR_block 105 rfl) (by decide) ?_
          refine r_goto C 203 (z_d dd_FR_block 106 rfl) (by decide) ?_
          refine r_mk [true, true, false, false, false, true, false] ?_
          exact s_FR_block_203 C hr E n l0 l1 v1 (1 : Int32) q18.2 h
    · have h := ziff h c25
      refine r_aload_n C (z_d dd_FR_block 82 rfl) rfl ?_
      refine r_iload_n C (z_d dd_FR_block 83 rfl) rfl ?_
      refine r_iload_n C (z_d dd_FR_block 84 rfl) rfl ?_
      obtain ⟨h22, h⟩ := zif h
      obtain ⟨q23, c24, h⟩ := zbd h
      refine r_invV (as := [zI l2, zI l3]) C 4 (S_FR_plain c24) (z_d dd_FR_block 85 rfl) ok_FR_plain iv_FR_plain se_FR_plain ml_FR_169 rfl rfl h22 rfl rfl rfl (Nat.le_of_ble_eq_true rfl) ⟨(Nat.le_of_ble_eq_true rfl), (Nat.le_of_ble_eq_true rfl)⟩ ⟨(Nat.le_of_ble_eq_true rfl), (Nat.le_of_ble_eq_true rfl)⟩ ?_
      refine r_goto C 203 (z_d dd_FR_block 86 rfl) (by decide) ?_
      refine r_mk [true, true, false, false, false, true, false] ?_
      exact s_FR_block_203 C hr E n l0 l1 v1 q23.1 q23.2 h
  · have h := ziff h c29
    refine r_aload_n C (z_d dd_FR_block 73 rfl) rfl ?_
    obtain ⟨q26, c27, h⟩ := zbd h
    refine r_invV (as := []) C 4 (S_FR_endsWithin c27) (z_d dd_FR_block 74 rfl) ok_FR_endsWithin iv_FR_endsWithin se_FR_endsWithin ml_FR_90 rfl rfl h3 rfl rfl rfl (Nat.le_of_ble_eq_true rfl) ⟨(Nat.le_of_ble_eq_true rfl), (Nat.le_of_ble_eq_true rfl)⟩ ⟨(Nat.le_of_ble_eq_true rfl), (Nat.le_of_ble_eq_true rfl)⟩ ?_
    obtain ⟨h28, h⟩ := zif h
    obtain rfl := z_res h
    exact r_iretZ C E hr (z_d dd_FR_block 75 rfl) h28 (Nat.le_of_ble_eq_true rfl) (Nat.le_of_ble_eq_true rfl)
def f_FR_block_0 (O : zO) (n : Nat) (l0 : Nat) (M : zM) : Option (Int32 × zM) :=
  if z_k M l0 = 5 then
  (F_FR_lacks O n l0 (3 : Int64) M).bind fun q2 =>
  if q2.1 = 0 then
  if z_k q2.2 l0 = 5 then
  if z_k q2.2 (z_p q2.2 l0 0) = 9 then
  (F_Row_number O n (z_p q2.2 l0 0) (z_i q2.2 l0 6) (3 : Int32) q2.2).bind fun q6 =>
  zlet q6.1.toInt32 fun v8 =>
  if z_k q6.2 l0 = 5 then
  if z_k q6.2 (z_p q6.2 l0 2) = 8 then
  zlet (w_i q6.2 (z_p q6.2 l0 2) 3 ((z_i q6.2 (z_p q6.2 l0 2) 3) + (1 : Int32))) fun M12 =>
  zlet ((v8 >>> ((1 : Int32) &&& 31)) &&& (3 : Int32)) fun v16 =>
  zlet (v8 >>> ((3 : Int32) &&& 31)) fun v18 =>
  if v16 = (3 : Int32) then
  if z_k M12 (z_p M12 l0 2) = 8 then
  (F_Rep_fail O n (z_p M12 l0 2) (5 : Int32) (z_i M12 l0 6) M12).bind fun q34 =>
  if q34.1 = 0 ∨ q34.1 = 1 then
  some (q34.1, q34.2)
  else none
  else none
  else
  if z_k M12 (z_p M12 l0 3) = 3 then
  (F_Content_mostOfBlock O n (z_p M12 l0 3) M12).bind fun q21 =>
  if v18 ≤ q21.1 then
  if z_k q21.2 l0 = 5 then
  zlet ((z_i q21.2 l0 6) + (3 : Int32)) fun v24 =>
  if v16 = (1 : Int32) then
  f_FR_block_115 O n l0 v8 v16 v18 v24 v24 (1 : Int32) q21.2
  else
  f_FR_block_115 O n l0 v8 v16 v18 v24 v24 v18 q21.2
  else none
  else
  if z_k q21.2 l0 = 5 then
  if z_k q21.2 (z_p q21.2 l0 2) = 8 then
  (F_Rep_fail O n (z_p q21.2 l0 2) (6 : Int32) (z_i q21.2 l0 6) q21.2).bind fun q29 =>
  if q29.1 = 0 ∨ q29.1 = 1 then
  some (q29.1, q29.2)
  else none
  else none
  else none
  else none
  else none
  else none
  else none
  else none
  else
  if z_k q2.2 l0 = 5 then
  (F_FR_endsWithin O n l0 q2.2).bind fun q39 =>
  if q39.1 = 0 ∨ q39.1 = 1 then
  some (q39.1, q39.2)
  else none
  else none
  else none
set_option maxRecDepth 100000 in
set_option maxHeartbeats 4000000 in
theorem s_FR_block_0 {X : zX} {q : Int32 × zM} (C : zC X zR4 prog_5_method_13_code 7 { frames := 6, cells := 0, slots := 0, locals := 192 }) (hr : zRt X (some .boolean)) (E : zE X (some (zI q.1)) q.2 0 0) : ∀ (n : Nat) (l0 : Nat) (M : zM), f_FR_block_0 (zOD X) n l0 M = some q → zW X 0 0 0 [some (zP l0), none, none, none, none, none, none] [] M := by
  intro n l0 M h
  rw [f_FR_block_0] at h
  refine r_aload_n C (z_d dd_FR_block 0 rfl) rfl ?_
  refine r_ldc2 (v := (3 : Int64)) C (z_d dd_FR_block 1 rfl) kl_FR_157 ?_
  obtain ⟨h1, h⟩ := zif h
  obtain ⟨q2, c3, h⟩ := zbd h
  refine r_invV (as := [zL (3 : Int64)]) C 4 (S_FR_lacks c3) (z_d dd_FR_block 2 rfl) ok_FR_lacks iv_FR_lacks se_FR_lacks ml_FR_86 rfl rfl h1 rfl rfl rfl (Nat.le_of_ble_eq_true rfl) ⟨(Nat.le_of_ble_eq_true rfl), (Nat.le_of_ble_eq_true rfl)⟩ ⟨(Nat.le_of_ble_eq_true rfl), (Nat.le_of_ble_eq_true rfl)⟩ ?_
  refine r_if_eq C 15 (z_d dd_FR_block 3 rfl) (by decide) (fun c42 => ?_) (fun c42 => ?_)
  · have h := zift h c42
    refine r_aload_n C (z_d dd_FR_block 7 rfl) rfl ?_
    obtain ⟨h4, h⟩ := zif h
    refine r_getP C (z_d dd_FR_block 8 rfl) lk_FR_9 rfl h4 rfl ?_
    refine r_aload_n C (z_d dd_FR_block 9 rfl) rfl ?_
    refine r_getI C (z_d dd_FR_block 10 rfl) lk_FR_45 rfl h4 rfl ?_
    refine r_iconst (v := (3 : Int32)) C (z_d dd_FR_block 11 rfl) (by decide) ?_
    obtain ⟨h5, h⟩ := zif h
    obtain ⟨q6, c7, h⟩ := zbd h
    refine r_invV (as := [zI (z_i q2.2 l0 6), zI (3 : Int32)]) C 8 (S_Row_number c7) (z_d dd_FR_block 12 rfl) ok_Row_number iv_Row_number se_Row_number ml_FR_94 rfl rfl h5 rfl rfl rfl (Nat.le_of_ble_eq_true rfl) ⟨(Nat.le_of_ble_eq_true rfl), (Nat.le_of_ble_eq_true rfl)⟩ ⟨(Nat.le_of_ble_eq_true rfl), (Nat.le_of_ble_eq_true rfl)⟩ ?_
    refine r_l2i C (z_d dd_FR_block 13 rfl) ?_
    obtain ⟨v8, e9, h⟩ := zlet_ex h
    refine r_nmI e9 ?_
    refine r_istore_n (lv' := [some (zP l0), some (zI v8), none, none, none, none, none]) C (z_d dd_FR_block 14 rfl) (Nat.le_of_ble_eq_true rfl) rfl ?_
    refine r_aload_n C (z_d dd_FR_block 15 rfl) rfl ?_
    obtain ⟨h10, h⟩ := zif h
    refine r_getP C (z_d dd_FR_block 16 rfl) lk_FR_19 rfl h10 rfl ?_
    refine r_dupP C (z_d dd_FR_block 17 rfl) ?_
    obtain ⟨h11, h⟩ := zif h
    refine r_getI C (z_d dd_FR_block 18 rfl) lk_FR_159 rfl h11 rfl ?_
    refine r_iconst (v := (1 : Int32)) C (z_d dd_FR_block 19 rfl) (by decide) ?_
    refine r_iadd C (z_d dd_FR_block 20 rfl) ?_
    obtain ⟨M12, e13, h⟩ := zlet_ex h
    have h14 := k_i e13 h10
    have h15 := k_i e13 h11
    refine r_putI C (z_d dd_FR_block 21 rfl) lp_FR_159 rfl h11 e13 ?_
    refine r_iload_n C (z_d dd_FR_block 22 rfl) rfl ?_
    refine r_iconst (v := (1 : Int32)) C (z_d dd_FR_block 23 rfl) (by decide) ?_
    refine r_ishr C (z_d dd_FR_block 24 rfl) ?_
    refine r_iconst (v := (3 : Int32)) C (z_d dd_FR_block 25 rfl) (by decide) ?_
    refine r_iand C (z_d dd_FR_block 26 rfl) ?_
    obtain ⟨v16, e17, h⟩ := zlet_ex h
    refine r_nmI e17 ?_
    refine r_istore_n (lv' := [some (zP l0), some (zI v8), some (zI v16), none, none, none, none]) C (z_d dd_FR_block 27 rfl) (Nat.le_of_ble_eq_true rfl) rfl ?_
    refine r_iload_n C (z_d dd_FR_block 28 rfl) rfl ?_
    refine r_iconst (v := (3 : Int32)) C (z_d dd_FR_block 29 rfl) (by decide) ?_
    refine r_ishr C (z_d dd_FR_block 30 rfl) ?_
    obtain ⟨v18, e19, h⟩ := zlet_ex h
    refine r_nmI e19 ?_
    refine r_istore_n (lv' := [some (zP l0), some (zI v8), some (zI v16), some (zI v18), none, none, none]) C (z_d dd_FR_block 31 rfl) (Nat.le_of_ble_eq_true rfl) rfl ?_
    refine r_iload_n C (z_d dd_FR_block 32 rfl) rfl ?_
    refine r_iconst (v := (3 : Int32)) C (z_d dd_FR_block 33 rfl) (by decide) ?_
    refine r_icmp_ne C 70 (z_d dd_FR_block 34 rfl) (by decide) (fun c37 => ?_) (fun c37 => ?_)
    · have h := ziff h c37
      refine r_iload_n C (z_d dd_FR_block 42 rfl) rfl ?_
      refine r_aload_n C (z_d dd_FR_block 43 rfl) rfl ?_
      refine r_getP C (z_d dd_FR_block 44 rfl) lk_FR_23 rfl h14 rfl ?_
      obtain ⟨h20, h⟩ := zif h
      obtain ⟨q21, c22, h⟩ := zbd h
      refine r_invV (as := []) C 2 (S_Content_mostOfBlock c22) (z_d dd_FR_block 45 rfl) ok_Content_mostOfBlock iv_Content_mostOfBlock se_Content_mostOfBlock ml_FR_162 rfl rfl h20 rfl rfl rfl (Nat.le_of_ble_eq_true rfl) ⟨(Nat.le_of_ble_eq_true rfl), (Nat.le_of_ble_eq_true rfl)⟩ ⟨(Nat.le_of_ble_eq_true rfl), (Nat.le_of_ble_eq_true rfl)⟩ ?_
      refine r_icmp_le C 95 (z_d dd_FR_block 46 rfl) (by decide) (fun c32 => ?_) (fun c32 => ?_)
      · have h := zift h c32
        refine r_aload_n C (z_d dd_FR_block 54 rfl) rfl ?_
        obtain ⟨h23, h⟩ := zif h
        refine r_getI C (z_d dd_FR_block 55 rfl) lk_FR_45 rfl h23 rfl ?_
        refine r_iconst (v := (3 : Int32)) C (z_d dd_FR_block 56 rfl) (by decide) ?_
        refine r_iadd C (z_d dd_FR_block 57 rfl) ?_
        obtain ⟨v24, e25, h⟩ := zlet_ex h
        refine r_nmI e25 ?_
        refine r_istore (lv' := [some (zP l0), some (zI v8), some (zI v16), some (zI v18), some (zI v24), none, none]) C (z_d dd_FR_block 58 rfl) (Nat.le_of_ble_eq_true rfl) rfl ?_
        refine r_iload C (z_d dd_FR_block 59 rfl) rfl ?_
        refine r_iload_n C (z_d dd_FR_block 60 rfl) rfl ?_
        refine r_iconst (v := (1 : Int32)) C (z_d dd_FR_block 61 rfl) (by decide) ?_
        refine r_icmp_ne C 114 (z_d dd_FR_block 62 rfl) (by decide) (fun c26 => ?_) (fun c26 => ?_)
        · have h := ziff h c26
          refine r_iload_n C (z_d dd_FR_block 65 rfl) rfl ?_
          exact s_FR_block_115 C hr E n l0 v8 v16 v18 v24 v24 v18 q21.2 h
        · have h := zift h c26
          refine r_iconst (v := (1 : Int32)) C (z_d dd_FR_block 63 rfl) (by decide) ?_
          refine r_goto C 115 (z_d dd_FR_block 64 rfl) (by decide) ?_
          exact s_FR_block_115 C hr E n l0 v8 v16 v18 v24 v24 (1 : Int32) q21.2 h
      · have h := ziff h c32
        refine r_aload_n C (z_d dd_FR_block 47 rfl) rfl ?_
        obtain ⟨h27, h⟩ := zif h
        refine r_getP C (z_d dd_FR_block 48 rfl) lk_FR_19 rfl h27 rfl ?_
        refine r_bipush (v := (6 : Int32)) C (z_d dd_FR_block 49 rfl) (by decide) ?_
        refine r_aload_n C (z_d dd_FR_block 50 rfl) rfl ?_
        refine r_getI C (z_d dd_FR_block 51 rfl) lk_FR_45 rfl h27 rfl ?_
        obtain ⟨h28, h⟩ := zif h
        obtain ⟨q29, c30, h⟩ := zbd h
        refine r_invV (as := [zI (6 : Int32), zI (z_i q21.2 l0 6)]) C 7 (S_Rep_fail c30) (z_d dd_FR_block 52 rfl) ok_Rep_fail iv_Rep_fail se_Rep_fail ml_FR_110 rfl rfl h28 rfl rfl rfl (Nat.le_of_ble_eq_true rfl) ⟨(Nat.le_of_ble_eq_true rfl), (Nat.le_of_ble_eq_true rfl)⟩ ⟨(Nat.le_of_ble_eq_true rfl), (Nat.le_of_ble_eq_true rfl)⟩ ?_
        obtain ⟨h31, h⟩ := zif h
        obtain rfl := z_res h
        exact r_iretZ C E hr (z_d dd_FR_block 53 rfl) h31 (Nat.le_of_ble_eq_true rfl) (Nat.le_of_ble_eq_true rfl)
    · have h := zift h c37
      refine r_aload_n C (z_d dd_FR_block 35 rfl) rfl ?_
      refine r_getP C (z_d dd_FR_block 36 rfl) lk_FR_19 rfl h14 rfl ?_
      refine r_iconst (v := (5 : Int32)) C (z_d dd_FR_block 37 rfl) (by decide) ?_
      refine r_aload_n C (z_d dd_FR_block 38 rfl) rfl ?_
      refine r_getI C (z_d dd_FR_block 39 rfl) lk_FR_45 rfl h14 rfl ?_
      obtain ⟨h33, h⟩ := zif h
      obtain ⟨q34, c35, h⟩ := zbd h
      refine r_invV (as := [zI (5 : Int32), zI (z_i M12 l0 6)]) C 7 (S_Rep_fail c35) (z_d dd_FR_block 40 rfl) ok_Rep_fail iv_Rep_fail se_Rep_fail ml_FR_110 rfl rfl h33 rfl rfl rfl (Nat.le_of_ble_eq_true rfl) ⟨(Nat.le_of_ble_eq_true rfl), (Nat.le_of_ble_eq_true rfl)⟩ ⟨(Nat.le_of_ble_eq_true rfl), (Nat.le_of_ble_eq_true rfl)⟩ ?_
      obtain ⟨h36, h⟩ := zif h
      obtain rfl := z_res h
      exact r_iretZ C E hr (z_d dd_FR_block 41 rfl) h36 (Nat.le_of_ble_eq_true rfl) (Nat.le_of_ble_eq_true rfl)
  · have h := ziff h c42
    refine r_aload_n C (z_d dd_FR_block 4 rfl) rfl ?_
    obtain ⟨h38, h⟩ := zif h
    obtain ⟨q39, c40, h⟩ := zbd h
    refine r_invV (as := []) C 4 (S_FR_endsWithin c40) (z_d dd_FR_block 5 rfl) ok_FR_endsWithin iv_FR_endsWithin se_FR_endsWithin ml_FR_90 rfl rfl h38 rfl rfl rfl (Nat.le_of_ble_eq_true rfl) ⟨(Nat.le_of_ble_eq_true rfl), (Nat.le_of_ble_eq_true rfl)⟩ ⟨(Nat.le_of_ble_eq_true rfl), (Nat.le_of_ble_eq_true rfl)⟩ ?_
    obtain ⟨h41, h⟩ := zif h
    obtain rfl := z_res h
    exact r_iretZ C E hr (z_d dd_FR_block 6 rfl) h41 (Nat.le_of_ble_eq_true rfl) (Nat.le_of_ble_eq_true rfl)
def F_FR_block (O : zO) (n : Nat) (l0 : Nat) (M : zM) : Option (Int32 × zM) := f_FR_block_0 O n l0 M
theorem S_FR_block {l : Launch} {D : zD} {n : Nat} {l0 : Nat} {M : zM} {q : Int32 × zM} (h : F_FR_block D.2.2.2.2 n l0 M = some q) : zMet l D mi_FR_block [zP l0] M (some (zI q.1)) q.2 :=
  z_met (by decide) (Nat.le_of_ble_eq_true rfl) (fun X C E hr hin hD hl => by
    subst hD
    exact s_FR_block_0 C hr E n l0 M h)

def f_FR_setWindow_27 (O : zO) (n : Nat) (s0 : Nat) (s1 : Int32) (M : zM) : Option (Unit × zM) :=
  if z_k M s0 = 8 then
  zlet (w_i M s0 5 s1) fun M2 =>
  some ((), M2)
  else none
set_option maxRecDepth 100000 in
set_option maxHeartbeats 4000000 in
theorem s_FR_setWindow_27 {X : zX} {q : Unit × zM} (C : zC X zR4 prog_5_method_10_code 3 { frames := 0, cells := 0, slots := 0, locals := 0 }) (hr : zRt X none) (E : zE X none q.2 0 0) : ∀ (n : Nat) (s0 : Nat) (s1 : Int32) (M : zM), f_FR_setWindow_27 (zOD X) n s0 s1 M = some q → zW X 0 0 27 [none, none, none] [zI s1, zP s0] M := by
  intro n s0 s1 M h
  rw [f_FR_setWindow_27] at h
  obtain ⟨h1, h⟩ := zif h
  obtain ⟨M2, e3, h⟩ := zlet_ex h
  have h4 := k_i e3 h1
  refine r_putI C (z_d dd_FR_setWindow 14 rfl) lp_FR_148 rfl h1 e3 ?_
  obtain rfl := z_res h
  exact r_vret C E hr (z_d dd_FR_setWindow 15 rfl) (Nat.le_of_ble_eq_true rfl) (Nat.le_of_ble_eq_true rfl)
def f_FR_setWindow_0 (O : zO) (n : Nat) (l0 : Nat) (l1 : Int64) (M : zM) : Option (Unit × zM) :=
  if z_k M l0 = 5 then
  if z_k M (z_p M l0 3) = 3 then
  zlet (w_j M (z_p M l0 3) 5 l1) fun M3 =>
  if 0 ≤ (lg_cmp l1 (2147483647 : Int64)) then
  f_FR_setWindow_27 O n (z_p M3 l0 2) (2147483647 : Int32) M3
  else
  f_FR_setWindow_27 O n (z_p M3 l0 2) l1.toInt32 M3
  else none
  else none
set_option maxRecDepth 100000 in
set_option maxHeartbeats 4000000 in
theorem s_FR_setWindow_0 {X : zX} {q : Unit × zM} (C : zC X zR4 prog_5_method_10_code 3 { frames := 0, cells := 0, slots := 0, locals := 0 }) (hr : zRt X none) (E : zE X none q.2 0 0) : ∀ (n : Nat) (l0 : Nat) (l1 : Int64) (M : zM), f_FR_setWindow_0 (zOD X) n l0 l1 M = some q → zW X 0 0 0 [some (zP l0), some (zL l1), none] [] M := by
  intro n l0 l1 M h
  rw [f_FR_setWindow_0] at h
  refine r_aload_n C (z_d dd_FR_setWindow 0 rfl) rfl ?_
  obtain ⟨h1, h⟩ := zif h
  refine r_getP C (z_d dd_FR_setWindow 1 rfl) lk_FR_23 rfl h1 rfl ?_
  refine r_lload_n C (z_d dd_FR_setWindow 2 rfl) rfl ?_
  obtain ⟨h2, h⟩ := zif h
  obtain ⟨M3, e4, h⟩ := zlet_ex h
  have h5 := k_j e4 h1
  have h6 := k_j e4 h2
  refine r_putL C (z_d dd_FR_setWindow 3 rfl) lp_FR_143 rfl h2 e4 ?_
  refine r_aload_n C (z_d dd_FR_setWindow 4 rfl) rfl ?_
  refine r_getP C (z_d dd_FR_setWindow 5 rfl) lk_FR_19 rfl h5 rfl ?_
  refine r_lload_n C (z_d dd_FR_setWindow 6 rfl) rfl ?_
  refine r_ldc2 (v := (2147483647 : Int64)) C (z_d dd_FR_setWindow 7 rfl) kl_FR_145 ?_
  refine r_lcmp C (z_d dd_FR_setWindow 8 rfl) ?_
  refine r_if_ge C 25 (z_d dd_FR_setWindow 9 rfl) (by decide) (fun c7 => ?_) (fun c7 => ?_)
  · have h := zift h c7
    refine r_ldc (v := (2147483647 : Int32)) C (z_d dd_FR_setWindow 13 rfl) ki_FR_147 ?_
    refine r_mk [false, false, false] ?_
    exact s_FR_setWindow_27 C hr E n (z_p M3 l0 2) (2147483647 : Int32) M3 h
  · have h := ziff h c7
    refine r_lload_n C (z_d dd_FR_setWindow 10 rfl) rfl ?_
    refine r_l2i C (z_d dd_FR_setWindow 11 rfl) ?_
    refine r_goto C 27 (z_d dd_FR_setWindow 12 rfl) (by decide) ?_
    refine r_mk [false, false, false] ?_
    exact s_FR_setWindow_27 C hr E n (z_p M3 l0 2) l1.toInt32 M3 h
def F_FR_setWindow (O : zO) (n : Nat) (l0 : Nat) (l1 : Int64) (M : zM) : Option (Unit × zM) := f_FR_setWindow_0 O n l0 l1 M
theorem S_FR_setWindow {l : Launch} {D : zD} {n : Nat} {l0 : Nat} {l1 : Int64} {M : zM} {q : Unit × zM} (h : F_FR_setWindow D.2.2.2.2 n l0 l1 M = some q) : zMet l D mi_FR_setWindow [zP l0, zL l1] M none q.2 :=
  z_met (by decide) (Nat.le_of_ble_eq_true rfl) (fun X C E hr hin hD hl => by
    subst hD
    exact s_FR_setWindow_0 C hr E n l0 l1 M h)

def f_FR_window_0 (O : zO) (n : Nat) (l0 : Nat) (M : zM) : Option (Int32 × zM) :=
  if z_k M l0 = 5 then
  (F_FR_lacks O n l0 (1 : Int64) M).bind fun q2 =>
  if q2.1 = 0 then
  if z_k q2.2 l0 = 5 then
  if z_k q2.2 (z_p q2.2 l0 0) = 9 then
  (F_Row_at O n (z_p q2.2 l0 0) (z_i q2.2 l0 6) q2.2).bind fun q6 =>
  zlet (q6.1 >>> ((3 : Int32) &&& 31)) fun v8 =>
  if z_k q6.2 l0 = 5 then
  if z_k q6.2 (z_p q6.2 l0 0) = 9 then
  (F_Row_at O n (z_p q6.2 l0 0) (z_i q6.2 l0 6) q6.2).bind fun q12 =>
  zlet (q12.1 &&& (7 : Int32)) fun v14 =>
  if z_k q12.2 l0 = 5 then
  zlet (w_i q12.2 l0 6 ((z_i q12.2 l0 6) + (1 : Int32))) fun M17 =>
  (F_FR_setWindow O n l0 (((1 : Int64) <<< (((10 : Int32) + v8).toInt64 &&& 63)) + (((1 : Int64) <<< (((7 : Int32) + v8).toInt64 &&& 63)) * v14.toInt64)) M17).bind fun q20 =>
  some ((1 : Int32), q20.2)
  else none
  else none
  else none
  else none
  else none
  else
  if z_k q2.2 l0 = 5 then
  (F_FR_endsWithin O n l0 q2.2).bind fun q23 =>
  if q23.1 = 0 ∨ q23.1 = 1 then
  some (q23.1, q23.2)
  else none
  else none
  else none
set_option maxRecDepth 100000 in
set_option maxHeartbeats 4000000 in
theorem s_FR_window_0 {X : zX} {q : Int32 × zM} (C : zC X zR4 prog_5_method_9_code 3 { frames := 2, cells := 0, slots := 0, locals := 42 }) (hr : zRt X (some .boolean)) (E : zE X (some (zI q.1)) q.2 0 0) : ∀ (n : Nat) (l0 : Nat) (M : zM), f_FR_window_0 (zOD X) n l0 M = some q → zW X 0 0 0 [some (zP l0), none, none] [] M := by
  intro n l0 M h
  rw [f_FR_window_0] at h
  refine r_aload_n C (z_d dd_FR_window 0 rfl) rfl ?_
  refine r_lconst (v := (1 : Int64)) C (z_d dd_FR_window 1 rfl) (by decide) ?_
  obtain ⟨h1, h⟩ := zif h
  obtain ⟨q2, c3, h⟩ := zbd h
  refine r_invV (as := [zL (1 : Int64)]) C 4 (S_FR_lacks c3) (z_d dd_FR_window 2 rfl) ok_FR_lacks iv_FR_lacks se_FR_lacks ml_FR_86 rfl rfl h1 rfl rfl rfl (Nat.le_of_ble_eq_true rfl) ⟨(Nat.le_of_ble_eq_true rfl), (Nat.le_of_ble_eq_true rfl)⟩ ⟨(Nat.le_of_ble_eq_true rfl), (Nat.le_of_ble_eq_true rfl)⟩ ?_
  refine r_if_eq C 13 (z_d dd_FR_window 3 rfl) (by decide) (fun c26 => ?_) (fun c26 => ?_)
  · have h := zift h c26
    refine r_aload_n C (z_d dd_FR_window 7 rfl) rfl ?_
    obtain ⟨h4, h⟩ := zif h
    refine r_getP C (z_d dd_FR_window 8 rfl) lk_FR_9 rfl h4 rfl ?_
    refine r_aload_n C (z_d dd_FR_window 9 rfl) rfl ?_
    refine r_getI C (z_d dd_FR_window 10 rfl) lk_FR_45 rfl h4 rfl ?_
    obtain ⟨h5, h⟩ := zif h
    obtain ⟨q6, c7, h⟩ := zbd h
    refine r_invV (as := [zI (z_i q2.2 l0 6)]) C 8 (S_Row_at c7) (z_d dd_FR_window 11 rfl) ok_Row_at iv_Row_at se_Row_at ml_FR_114 rfl rfl h5 rfl rfl rfl (Nat.le_of_ble_eq_true rfl) ⟨(Nat.le_of_ble_eq_true rfl), (Nat.le_of_ble_eq_true rfl)⟩ ⟨(Nat.le_of_ble_eq_true rfl), (Nat.le_of_ble_eq_true rfl)⟩ ?_
    refine r_iconst (v := (3 : Int32)) C (z_d dd_FR_window 12 rfl) (by decide) ?_
    refine r_ishr C (z_d dd_FR_window 13 rfl) ?_
    obtain ⟨v8, e9, h⟩ := zlet_ex h
    refine r_nmI e9 ?_
    refine r_istore_n (lv' := [some (zP l0), some (zI v8), none]) C (z_d dd_FR_window 14 rfl) (Nat.le_of_ble_eq_true rfl) rfl ?_
    refine r_aload_n C (z_d dd_FR_window 15 rfl) rfl ?_
    obtain ⟨h10, h⟩ := zif h
    refine r_getP C (z_d dd_FR_window 16 rfl) lk_FR_9 rfl h10 rfl ?_
    refine r_aload_n C (z_d dd_FR_window 17 rfl) rfl ?_
    refine r_getI C (z_d dd_FR_window 18 rfl) lk_FR_45 rfl h10 rfl ?_
    obtain ⟨h11, h⟩ := zif h
    obtain ⟨q12, c13, h⟩ := zbd h
    refine r_invV (as := [zI (z_i q6.2 l0 6)]) C 8 (S_Row_at c13) (z_d dd_FR_window 19 rfl) ok_Row_at iv_Row_at se_Row_at ml_FR_114 rfl rfl h11 rfl rfl rfl (Nat.le_of_ble_eq_true rfl) ⟨(Nat.le_of_ble_eq_true rfl), (Nat.le_of_ble_eq_true rfl)⟩ ⟨(Nat.le_of_ble_eq_true rfl), (Nat.le_of_ble_eq_true rfl)⟩ ?_
    refine r_bipush (v := (7 : Int32)) C (z_d dd_FR_window 20 rfl) (by decide) ?_
    refine r_iand C (z_d dd_FR_window 21 rfl) ?_
    obtain ⟨v14, e15, h⟩ := zlet_ex h
    refine r_nmI e15 ?_
    refine r_istore_n (lv' := [some (zP l0), some (zI v8), some (zI v14)]) C (z_d dd_FR_window 22 rfl) (Nat.le_of_ble_eq_true rfl) rfl ?_
    refine r_aload_n C (z_d dd_FR_window 23 rfl) rfl ?_
    refine r_dupP C (z_d dd_FR_window 24 rfl) ?_
    obtain ⟨h16, h⟩ := zif h
    refine r_getI C (z_d dd_FR_window 25 rfl) lk_FR_45 rfl h16 rfl ?_
    refine r_iconst (v := (1 : Int32)) C (z_d dd_FR_window 26 rfl) (by decide) ?_
    refine r_iadd C (z_d dd_FR_window 27 rfl) ?_
    obtain ⟨M17, e18, h⟩ := zlet_ex h
    have h19 := k_i e18 h16
    refine r_putI C (z_d dd_FR_window 28 rfl) lp_FR_45 rfl h16 e18 ?_
    refine r_aload_n C (z_d dd_FR_window 29 rfl) rfl ?_
    refine r_lconst (v := (1 : Int64)) C (z_d dd_FR_window 30 rfl) (by decide) ?_
    refine r_bipush (v := (10 : Int32)) C (z_d dd_FR_window 31 rfl) (by decide) ?_
    refine r_iload_n C (z_d dd_FR_window 32 rfl) rfl ?_
    refine r_iadd C (z_d dd_FR_window 33 rfl) ?_
    refine r_lshl C (z_d dd_FR_window 34 rfl) ?_
    refine r_lconst (v := (1 : Int64)) C (z_d dd_FR_window 35 rfl) (by decide) ?_
    refine r_bipush (v := (7 : Int32)) C (z_d dd_FR_window 36 rfl) (by decide) ?_
    refine r_iload_n C (z_d dd_FR_window 37 rfl) rfl ?_
    refine r_iadd C (z_d dd_FR_window 38 rfl) ?_
    refine r_lshl C (z_d dd_FR_window 39 rfl) ?_
    refine r_iload_n C (z_d dd_FR_window 40 rfl) rfl ?_
    refine r_i2l C (z_d dd_FR_window 41 rfl) ?_
    refine r_lmul C (z_d dd_FR_window 42 rfl) ?_
    refine r_ladd C (z_d dd_FR_window 43 rfl) ?_
    obtain ⟨q20, c21, h⟩ := zbd h
    refine r_invV (as := [zL (((1 : Int64) <<< (((10 : Int32) + v8).toInt64 &&& 63)) + (((1 : Int64) <<< (((7 : Int32) + v8).toInt64 &&& 63)) * v14.toInt64))]) C 4 (S_FR_setWindow c21) (z_d dd_FR_window 44 rfl) ok_FR_setWindow iv_FR_setWindow se_FR_setWindow ml_FR_139 rfl rfl h19 rfl rfl rfl (Nat.le_of_ble_eq_true rfl) ⟨(Nat.le_of_ble_eq_true rfl), (Nat.le_of_ble_eq_true rfl)⟩ ⟨(Nat.le_of_ble_eq_true rfl), (Nat.le_of_ble_eq_true rfl)⟩ ?_
    refine r_iconst (v := (1 : Int32)) C (z_d dd_FR_window 45 rfl) (by decide) ?_
    obtain rfl := z_res h
    exact r_iretZ C E hr (z_d dd_FR_window 46 rfl) (by decide) (Nat.le_of_ble_eq_true rfl) (Nat.le_of_ble_eq_true rfl)
  · have h := ziff h c26
    refine r_aload_n C (z_d dd_FR_window 4 rfl) rfl ?_
    obtain ⟨h22, h⟩ := zif h
    obtain ⟨q23, c24, h⟩ := zbd h
    refine r_invV (as := []) C 4 (S_FR_endsWithin c24) (z_d dd_FR_window 5 rfl) ok_FR_endsWithin iv_FR_endsWithin se_FR_endsWithin ml_FR_90 rfl rfl h22 rfl rfl rfl (Nat.le_of_ble_eq_true rfl) ⟨(Nat.le_of_ble_eq_true rfl), (Nat.le_of_ble_eq_true rfl)⟩ ⟨(Nat.le_of_ble_eq_true rfl), (Nat.le_of_ble_eq_true rfl)⟩ ?_
    obtain ⟨h25, h⟩ := zif h
    obtain rfl := z_res h
    exact r_iretZ C E hr (z_d dd_FR_window 6 rfl) h25 (Nat.le_of_ble_eq_true rfl) (Nat.le_of_ble_eq_true rfl)
def F_FR_window (O : zO) (n : Nat) (l0 : Nat) (M : zM) : Option (Int32 × zM) := f_FR_window_0 O n l0 M
theorem S_FR_window {l : Launch} {D : zD} {n : Nat} {l0 : Nat} {M : zM} {q : Int32 × zM} (h : F_FR_window D.2.2.2.2 n l0 M = some q) : zMet l D mi_FR_window [zP l0] M (some (zI q.1)) q.2 :=
  z_met (by decide) (Nat.le_of_ble_eq_true rfl) (fun X C E hr hin hD hl => by
    subst hD
    exact s_FR_window_0 C hr E n l0 M h)

def f_FR_idFits_58 (O : zO) (n : Nat) (l0 : Nat) (l1 : Int32) (M : zM) : Option (Int32 × zM) :=
  if z_k M l0 = 5 then
  zlet (w_i M l0 6 ((z_i M l0 6) + l1)) fun M2 =>
  some ((1 : Int32), M2)
  else none
set_option maxRecDepth 100000 in
set_option maxHeartbeats 4000000 in
theorem s_FR_idFits_58 {X : zX} {q : Int32 × zM} (C : zC X zR4 prog_5_method_11_code 4 { frames := 2, cells := 0, slots := 0, locals := 42 }) (hr : zRt X (some .boolean)) (E : zE X (some (zI q.1)) q.2 0 0) : ∀ (n : Nat) (l0 : Nat) (l1 : Int32) (M : zM), f_FR_idFits_58 (zOD X) n l0 l1 M = some q → zW X 0 0 58 [some (zP l0), some (zI l1), none, none] [] M := by
  intro n l0 l1 M h
  rw [f_FR_idFits_58] at h
  refine r_aload_n C (z_d dd_FR_idFits 32 rfl) rfl ?_
  refine r_dupP C (z_d dd_FR_idFits 33 rfl) ?_
  obtain ⟨h1, h⟩ := zif h
  refine r_getI C (z_d dd_FR_idFits 34 rfl) lk_FR_45 rfl h1 rfl ?_
  refine r_iload_n C (z_d dd_FR_idFits 35 rfl) rfl ?_
  refine r_iadd C (z_d dd_FR_idFits 36 rfl) ?_
  obtain ⟨M2, e3, h⟩ := zlet_ex h
  have h4 := k_i e3 h1
  refine r_putI C (z_d dd_FR_idFits 37 rfl) lp_FR_45 rfl h1 e3 ?_
  refine r_iconst (v := (1 : Int32)) C (z_d dd_FR_idFits 38 rfl) (by decide) ?_
  obtain rfl := z_res h
  exact r_iretZ C E hr (z_d dd_FR_idFits 39 rfl) (by decide) (Nat.le_of_ble_eq_true rfl) (Nat.le_of_ble_eq_true rfl)
def f_FR_idFits_0 (O : zO) (n : Nat) (l0 : Nat) (l1 : Int32) (M : zM) : Option (Int32 × zM) :=
  if z_k M l0 = 5 then
  (F_FR_lacks O n l0 l1.toInt64 M).bind fun q2 =>
  if q2.1 = 0 then
  if z_k q2.2 l0 = 5 then
  if z_k q2.2 (z_p q2.2 l0 0) = 9 then
  (F_Row_number O n (z_p q2.2 l0 0) (z_i q2.2 l0 6) l1 q2.2).bind fun q6 =>
  if (lg_cmp q6.1 (0 : Int64)) = 0 then
  f_FR_idFits_58 O n l0 l1 q6.2
  else
  if z_k q6.2 l0 = 5 then
  if z_k q6.2 (z_p q6.2 l0 1) = 4 then
  if (lg_cmp q6.1 (z_j q6.2 (z_p q6.2 l0 1) 2)) = 0 then
  f_FR_idFits_58 O n l0 l1 q6.2
  else
  if z_k q6.2 (z_p q6.2 l0 2) = 8 then
  (F_Rep_fail O n (z_p q6.2 l0 2) (4 : Int32) (z_i q6.2 l0 6) q6.2).bind fun q11 =>
  if q11.1 = 0 ∨ q11.1 = 1 then
  some (q11.1, q11.2)
  else none
  else none
  else none
  else none
  else none
  else none
  else
  if z_k q2.2 l0 = 5 then
  (F_FR_endsWithin O n l0 q2.2).bind fun q17 =>
  if q17.1 = 0 ∨ q17.1 = 1 then
  some (q17.1, q17.2)
  else none
  else none
  else none
set_option maxRecDepth 100000 in
set_option maxHeartbeats 4000000 in
theorem s_FR_idFits_0 {X : zX} {q : Int32 × zM} (C : zC X zR4 prog_5_method_11_code 4 { frames := 2, cells := 0, slots := 0, locals := 42 }) (hr : zRt X (some .boolean)) (E : zE X (some (zI q.1)) q.2 0 0) : ∀ (n : Nat) (l0 : Nat) (l1 : Int32) (M : zM), f_FR_idFits_0 (zOD X) n l0 l1 M = some q → zW X 0 0 0 [some (zP l0), some (zI l1), none, none] [] M := by
  intro n l0 l1 M h
  rw [f_FR_idFits_0] at h
  refine r_aload_n C (z_d dd_FR_idFits 0 rfl) rfl ?_
  refine r_iload_n C (z_d dd_FR_idFits 1 rfl) rfl ?_
  refine r_i2l C (z_d dd_FR_idFits 2 rfl) ?_
  obtain ⟨h1, h⟩ := zif h
  obtain ⟨q2, c3, h⟩ := zbd h
  refine r_invV (as := [zL l1.toInt64]) C 4 (S_FR_lacks c3) (z_d dd_FR_idFits 3 rfl) ok_FR_lacks iv_FR_lacks se_FR_lacks ml_FR_86 rfl rfl h1 rfl rfl rfl (Nat.le_of_ble_eq_true rfl) ⟨(Nat.le_of_ble_eq_true rfl), (Nat.le_of_ble_eq_true rfl)⟩ ⟨(Nat.le_of_ble_eq_true rfl), (Nat.le_of_ble_eq_true rfl)⟩ ?_
  refine r_if_eq C 14 (z_d dd_FR_idFits 4 rfl) (by decide) (fun c20 => ?_) (fun c20 => ?_)
  · have h := zift h c20
    refine r_aload_n C (z_d dd_FR_idFits 8 rfl) rfl ?_
    obtain ⟨h4, h⟩ := zif h
    refine r_getP C (z_d dd_FR_idFits 9 rfl) lk_FR_9 rfl h4 rfl ?_
    refine r_aload_n C (z_d dd_FR_idFits 10 rfl) rfl ?_
    refine r_getI C (z_d dd_FR_idFits 11 rfl) lk_FR_45 rfl h4 rfl ?_
    refine r_iload_n C (z_d dd_FR_idFits 12 rfl) rfl ?_
    obtain ⟨h5, h⟩ := zif h
    obtain ⟨q6, c7, h⟩ := zbd h
    refine r_invV (as := [zI (z_i q2.2 l0 6), zI l1]) C 8 (S_Row_number c7) (z_d dd_FR_idFits 13 rfl) ok_Row_number iv_Row_number se_Row_number ml_FR_94 rfl rfl h5 rfl rfl rfl (Nat.le_of_ble_eq_true rfl) ⟨(Nat.le_of_ble_eq_true rfl), (Nat.le_of_ble_eq_true rfl)⟩ ⟨(Nat.le_of_ble_eq_true rfl), (Nat.le_of_ble_eq_true rfl)⟩ ?_
    refine r_lstore_n (lv' := [some (zP l0), some (zI l1), some (zL q6.1), none]) C (z_d dd_FR_idFits 14 rfl) (Nat.le_of_ble_eq_true rfl) rfl ?_
    refine r_lload_n C (z_d dd_FR_idFits 15 rfl) rfl ?_
    refine r_lconst (v := (0 : Int64)) C (z_d dd_FR_idFits 16 rfl) (by decide) ?_
    refine r_lcmp C (z_d dd_FR_idFits 17 rfl) ?_
    refine r_if_eq C 58 (z_d dd_FR_idFits 18 rfl) (by decide) (fun c15 => ?_) (fun c15 => ?_)
    · have h := zift h c15
      refine r_mk [true, true, false, false] ?_
      exact s_FR_idFits_58 C hr E n l0 l1 q6.2 h
    · have h := ziff h c15
      refine r_lload_n C (z_d dd_FR_idFits 19 rfl) rfl ?_
      refine r_aload_n C (z_d dd_FR_idFits 20 rfl) rfl ?_
      obtain ⟨h8, h⟩ := zif h
      refine r_getP C (z_d dd_FR_idFits 21 rfl) lk_FR_15 rfl h8 rfl ?_
      obtain ⟨h9, h⟩ := zif h
      refine r_getL C (z_d dd_FR_idFits 22 rfl) lk_FR_150 rfl h9 rfl ?_
      refine r_lcmp C (z_d dd_FR_idFits 23 rfl) ?_
      refine r_if_eq C 58 (z_d dd_FR_idFits 24 rfl) (by decide) (fun c14 => ?_) (fun c14 => ?_)
      · have h := zift h c14
        refine r_mk [true, true, false, false] ?_
        exact s_FR_idFits_58 C hr E n l0 l1 q6.2 h
      · have h := ziff h c14
        refine r_aload_n C (z_d dd_FR_idFits 25 rfl) rfl ?_
        refine r_getP C (z_d dd_FR_idFits 26 rfl) lk_FR_19 rfl h8 rfl ?_
        refine r_iconst (v := (4 : Int32)) C (z_d dd_FR_idFits 27 rfl) (by decide) ?_
        refine r_aload_n C (z_d dd_FR_idFits 28 rfl) rfl ?_
        refine r_getI C (z_d dd_FR_idFits 29 rfl) lk_FR_45 rfl h8 rfl ?_
        obtain ⟨h10, h⟩ := zif h
        obtain ⟨q11, c12, h⟩ := zbd h
        refine r_invV (as := [zI (4 : Int32), zI (z_i q6.2 l0 6)]) C 7 (S_Rep_fail c12) (z_d dd_FR_idFits 30 rfl) ok_Rep_fail iv_Rep_fail se_Rep_fail ml_FR_110 rfl rfl h10 rfl rfl rfl (Nat.le_of_ble_eq_true rfl) ⟨(Nat.le_of_ble_eq_true rfl), (Nat.le_of_ble_eq_true rfl)⟩ ⟨(Nat.le_of_ble_eq_true rfl), (Nat.le_of_ble_eq_true rfl)⟩ ?_
        obtain ⟨h13, h⟩ := zif h
        obtain rfl := z_res h
        exact r_iretZ C E hr (z_d dd_FR_idFits 31 rfl) h13 (Nat.le_of_ble_eq_true rfl) (Nat.le_of_ble_eq_true rfl)
  · have h := ziff h c20
    refine r_aload_n C (z_d dd_FR_idFits 5 rfl) rfl ?_
    obtain ⟨h16, h⟩ := zif h
    obtain ⟨q17, c18, h⟩ := zbd h
    refine r_invV (as := []) C 4 (S_FR_endsWithin c18) (z_d dd_FR_idFits 6 rfl) ok_FR_endsWithin iv_FR_endsWithin se_FR_endsWithin ml_FR_90 rfl rfl h16 rfl rfl rfl (Nat.le_of_ble_eq_true rfl) ⟨(Nat.le_of_ble_eq_true rfl), (Nat.le_of_ble_eq_true rfl)⟩ ⟨(Nat.le_of_ble_eq_true rfl), (Nat.le_of_ble_eq_true rfl)⟩ ?_
    obtain ⟨h19, h⟩ := zif h
    obtain rfl := z_res h
    exact r_iretZ C E hr (z_d dd_FR_idFits 7 rfl) h19 (Nat.le_of_ble_eq_true rfl) (Nat.le_of_ble_eq_true rfl)
def F_FR_idFits (O : zO) (n : Nat) (l0 : Nat) (l1 : Int32) (M : zM) : Option (Int32 × zM) := f_FR_idFits_0 O n l0 l1 M
theorem S_FR_idFits {l : Launch} {D : zD} {n : Nat} {l0 : Nat} {l1 : Int32} {M : zM} {q : Int32 × zM} (h : F_FR_idFits D.2.2.2.2 n l0 l1 M = some q) : zMet l D mi_FR_idFits [zP l0, zI l1] M (some (zI q.1)) q.2 :=
  z_met (by decide) (Nat.le_of_ble_eq_true rfl) (fun X C E hr hin hD hl => by
    subst hD
    exact s_FR_idFits_0 C hr E n l0 l1 M h)

def f_FR_sizeTold_122 (O : zO) (n : Nat) (M : zM) : Option (Int32 × zM) :=
  some ((1 : Int32), M)
set_option maxRecDepth 100000 in
set_option maxHeartbeats 4000000 in
theorem s_FR_sizeTold_122 {X : zX} {q : Int32 × zM} (C : zC X zR4 prog_5_method_12_code 4 { frames := 2, cells := 0, slots := 0, locals := 42 }) (hr : zRt X (some .boolean)) (E : zE X (some (zI q.1)) q.2 0 0) : ∀ (n : Nat) (M : zM), f_FR_sizeTold_122 (zOD X) n M = some q → zW X 0 0 122 [none, none, none, none] [] M := by
  intro n M h
  rw [f_FR_sizeTold_122] at h
  refine r_iconst (v := (1 : Int32)) C (z_d dd_FR_sizeTold 66 rfl) (by decide) ?_
  obtain rfl := z_res h
  exact r_iretZ C E hr (z_d dd_FR_sizeTold 67 rfl) (by decide) (Nat.le_of_ble_eq_true rfl) (Nat.le_of_ble_eq_true rfl)
def f_FR_sizeTold_119 (O : zO) (n : Nat) (s0 : Nat) (s1 : Int64) (M : zM) : Option (Int32 × zM) :=
  if z_k M s0 = 5 then
  (F_FR_setWindow O n s0 s1 M).bind fun q2 =>
  f_FR_sizeTold_122 O n q2.2
  else none
set_option maxRecDepth 100000 in
set_option maxHeartbeats 4000000 in
theorem s_FR_sizeTold_119 {X : zX} {q : Int32 × zM} (C : zC X zR4 prog_5_method_12_code 4 { frames := 2, cells := 0, slots := 0, locals := 42 }) (hr : zRt X (some .boolean)) (E : zE X (some (zI q.1)) q.2 0 0) : ∀ (n : Nat) (s0 : Nat) (s1 : Int64) (M : zM), f_FR_sizeTold_119 (zOD X) n s0 s1 M = some q → zW X 0 0 119 [none, none, none, none] [zL s1, zP s0] M := by
  intro n s0 s1 M h
  rw [f_FR_sizeTold_119] at h
  obtain ⟨h1, h⟩ := zif h
  obtain ⟨q2, c3, h⟩ := zbd h
  refine r_invV (as := [zL s1]) C 4 (S_FR_setWindow c3) (z_d dd_FR_sizeTold 65 rfl) ok_FR_setWindow iv_FR_setWindow se_FR_setWindow ml_FR_139 rfl rfl h1 rfl rfl rfl (Nat.le_of_ble_eq_true rfl) ⟨(Nat.le_of_ble_eq_true rfl), (Nat.le_of_ble_eq_true rfl)⟩ ⟨(Nat.le_of_ble_eq_true rfl), (Nat.le_of_ble_eq_true rfl)⟩ ?_
  exact s_FR_sizeTold_122 C hr E n q2.2 h
def f_FR_sizeTold_80 (O : zO) (n : Nat) (l0 : Nat) (l2 : Int32) (l3 : Int32) (s0 : Nat) (s1 : Int64) (s2 : Int32) (M : zM) : Option (Int32 × zM) :=
  if z_k M s0 = 5 then
  zlet (w_j M s0 10 (s1 + s2.toInt64)) fun M2 =>
  if z_k M2 l0 = 5 then
  zlet (w_i M2 l0 6 ((z_i M2 l0 6) + l3)) fun M6 =>
  if l2 = 0 then
  f_FR_sizeTold_122 O n M6
  else
  if 0 ≤ (lg_cmp (z_j M6 l0 10) (0 : Int64)) then
  f_FR_sizeTold_119 O n l0 (z_j M6 l0 10) M6
  else
  f_FR_sizeTold_119 O n l0 (9223372036854775807 : Int64) M6
  else none
  else none
set_option maxRecDepth 100000 in
set_option maxHeartbeats 4000000 in
theorem s_FR_sizeTold_80 {X : zX} {q : Int32 × zM} (C : zC X zR4 prog_5_method_12_code 4 { frames := 2, cells := 0, slots := 0, locals := 42 }) (hr : zRt X (some .boolean)) (E : zE X (some (zI q.1)) q.2 0 0) : ∀ (n : Nat) (l0 : Nat) (l2 : Int32) (l3 : Int32) (s0 : Nat) (s1 : Int64) (s2 : Int32) (M : zM), f_FR_sizeTold_80 (zOD X) n l0 l2 l3 s0 s1 s2 M = some q → zW X 0 0 80 [some (zP l0), none, some (zI l2), some (zI l3)] [zI s2, zL s1, zP s0] M := by
  intro n l0 l2 l3 s0 s1 s2 M h
  rw [f_FR_sizeTold_80] at h
  refine r_i2l C (z_d dd_FR_sizeTold 44 rfl) ?_
  refine r_ladd C (z_d dd_FR_sizeTold 45 rfl) ?_
  obtain ⟨h1, h⟩ := zif h
  obtain ⟨M2, e3, h⟩ := zlet_ex h
  have h4 := k_j e3 h1
  refine r_putL C (z_d dd_FR_sizeTold 46 rfl) lp_FR_59 rfl h1 e3 ?_
  refine r_aload_n C (z_d dd_FR_sizeTold 47 rfl) rfl ?_
  refine r_dupP C (z_d dd_FR_sizeTold 48 rfl) ?_
  obtain ⟨h5, h⟩ := zif h
  refine r_getI C (z_d dd_FR_sizeTold 49 rfl) lk_FR_45 rfl h5 rfl ?_
  refine r_iload_n C (z_d dd_FR_sizeTold 50 rfl) rfl ?_
  refine r_iadd C (z_d dd_FR_sizeTold 51 rfl) ?_
  obtain ⟨M6, e7, h⟩ := zlet_ex h
  have h8 := k_i e7 h4
  have h9 := k_i e7 h5
  refine r_putI C (z_d dd_FR_sizeTold 52 rfl) lp_FR_45 rfl h5 e7 ?_
  refine r_iload_n C (z_d dd_FR_sizeTold 53 rfl) rfl ?_
  refine r_if_eq C 122 (z_d dd_FR_sizeTold 54 rfl) (by decide) (fun c11 => ?_) (fun c11 => ?_)
  · have h := zift h c11
    refine r_mk [false, false, false, false] ?_
    exact s_FR_sizeTold_122 C hr E n M6 h
  · have h := ziff h c11
    refine r_aload_n C (z_d dd_FR_sizeTold 55 rfl) rfl ?_
    refine r_aload_n C (z_d dd_FR_sizeTold 56 rfl) rfl ?_
    refine r_getL C (z_d dd_FR_sizeTold 57 rfl) lk_FR_59 rfl h9 rfl ?_
    refine r_lconst (v := (0 : Int64)) C (z_d dd_FR_sizeTold 58 rfl) (by decide) ?_
    refine r_lcmp C (z_d dd_FR_sizeTold 59 rfl) ?_
    refine r_if_ge C 115 (z_d dd_FR_sizeTold 60 rfl) (by decide) (fun c10 => ?_) (fun c10 => ?_)
    · have h := zift h c10
      refine r_aload_n C (z_d dd_FR_sizeTold 63 rfl) rfl ?_
      refine r_getL C (z_d dd_FR_sizeTold 64 rfl) lk_FR_59 rfl h9 rfl ?_
      refine r_mk [false, false, false, false] ?_
      exact s_FR_sizeTold_119 C hr E n l0 (z_j M6 l0 10) M6 h
    · have h := ziff h c10
      refine r_ldc2 (v := (9223372036854775807 : Int64)) C (z_d dd_FR_sizeTold 61 rfl) kl_FR_155 ?_
      refine r_goto C 119 (z_d dd_FR_sizeTold 62 rfl) (by decide) ?_
      refine r_mk [false, false, false, false] ?_
      exact s_FR_sizeTold_119 C hr E n l0 (9223372036854775807 : Int64) M6 h
def f_FR_sizeTold_44 (O : zO) (n : Nat) (l0 : Nat) (l2 : Int32) (l3 : Int32) (s0 : Nat) (s1 : Int32) (M : zM) : Option (Int32 × zM) :=
  if z_k M s0 = 5 then
  if s1 = 0 ∨ s1 = 1 then
  zlet (w_i M s0 9 s1) fun M3 =>
  if z_k M3 l0 = 5 then
  zlet (w_i M3 l0 11 (z_i M3 l0 6)) fun M7 =>
  if z_k M7 (z_p M7 l0 0) = 9 then
  (F_Row_number O n (z_p M7 l0 0) (z_i M7 l0 6) l3 M7).bind fun q12 =>
  if l3 = (2 : Int32) then
  f_FR_sizeTold_80 O n l0 l2 l3 l0 q12.1 (256 : Int32) q12.2
  else
  f_FR_sizeTold_80 O n l0 l2 l3 l0 q12.1 (0 : Int32) q12.2
  else none
  else none
  else none
  else none
set_option maxRecDepth 100000 in
set_option maxHeartbeats 4000000 in
theorem s_FR_sizeTold_44 {X : zX} {q : Int32 × zM} (C : zC X zR4 prog_5_method_12_code 4 { frames := 2, cells := 0, slots := 0, locals := 42 }) (hr : zRt X (some .boolean)) (E : zE X (some (zI q.1)) q.2 0 0) : ∀ (n : Nat) (l0 : Nat) (l2 : Int32) (l3 : Int32) (s0 : Nat) (s1 : Int32) (M : zM), f_FR_sizeTold_44 (zOD X) n l0 l2 l3 s0 s1 M = some q → zW X 0 0 44 [some (zP l0), none, some (zI l2), some (zI l3)] [zI s1, zP s0] M := by
  intro n l0 l2 l3 s0 s1 M h
  rw [f_FR_sizeTold_44] at h
  obtain ⟨h1, h⟩ := zif h
  obtain ⟨h2, h⟩ := zif h
  obtain ⟨M3, e4, h⟩ := zlet_ex h
  have h5 := k_i e4 h1
  refine r_putZ C (z_d dd_FR_sizeTold 26 rfl) lp_FR_56 rfl h2 h1 e4 ?_
  refine r_aload_n C (z_d dd_FR_sizeTold 27 rfl) rfl ?_
  refine r_aload_n C (z_d dd_FR_sizeTold 28 rfl) rfl ?_
  obtain ⟨h6, h⟩ := zif h
  refine r_getI C (z_d dd_FR_sizeTold 29 rfl) lk_FR_45 rfl h6 rfl ?_
  obtain ⟨M7, e8, h⟩ := zlet_ex h
  have h9 := k_i e8 h5
  have h10 := k_i e8 h6
  refine r_putI C (z_d dd_FR_sizeTold 30 rfl) lp_FR_63 rfl h6 e8 ?_
  refine r_aload_n C (z_d dd_FR_sizeTold 31 rfl) rfl ?_
  refine r_aload_n C (z_d dd_FR_sizeTold 32 rfl) rfl ?_
  refine r_getP C (z_d dd_FR_sizeTold 33 rfl) lk_FR_9 rfl h10 rfl ?_
  refine r_aload_n C (z_d dd_FR_sizeTold 34 rfl) rfl ?_
  refine r_getI C (z_d dd_FR_sizeTold 35 rfl) lk_FR_45 rfl h10 rfl ?_
  refine r_iload_n C (z_d dd_FR_sizeTold 36 rfl) rfl ?_
  obtain ⟨h11, h⟩ := zif h
  obtain ⟨q12, c13, h⟩ := zbd h
  refine r_invV (as := [zI (z_i M7 l0 6), zI l3]) C 8 (S_Row_number c13) (z_d dd_FR_sizeTold 37 rfl) ok_Row_number iv_Row_number se_Row_number ml_FR_94 rfl rfl h11 rfl rfl rfl (Nat.le_of_ble_eq_true rfl) ⟨(Nat.le_of_ble_eq_true rfl), (Nat.le_of_ble_eq_true rfl)⟩ ⟨(Nat.le_of_ble_eq_true rfl), (Nat.le_of_ble_eq_true rfl)⟩ ?_
  refine r_iload_n C (z_d dd_FR_sizeTold 38 rfl) rfl ?_
  refine r_iconst (v := (2 : Int32)) C (z_d dd_FR_sizeTold 39 rfl) (by decide) ?_
  refine r_icmp_ne C 79 (z_d dd_FR_sizeTold 40 rfl) (by decide) (fun c14 => ?_) (fun c14 => ?_)
  · have h := ziff h c14
    refine r_iconst (v := (0 : Int32)) C (z_d dd_FR_sizeTold 43 rfl) (by decide) ?_
    exact s_FR_sizeTold_80 C hr E n l0 l2 l3 l0 q12.1 (0 : Int32) q12.2 h
  · have h := zift h c14
    refine r_sipush (v := (256 : Int32)) C (z_d dd_FR_sizeTold 41 rfl) (by decide) ?_
    refine r_goto C 80 (z_d dd_FR_sizeTold 42 rfl) (by decide) ?_
    exact s_FR_sizeTold_80 C hr E n l0 l2 l3 l0 q12.1 (256 : Int32) q12.2 h
def f_FR_sizeTold_19 (O : zO) (n : Nat) (l0 : Nat) (l2 : Int32) (s0 : Int32) (M : zM) : Option (Int32 × zM) :=
  if z_k M l0 = 5 then
  (F_FR_lacks O n l0 s0.toInt64 M).bind fun q2 =>
  if q2.1 = 0 then
  if s0 ≤ 0 then
  f_FR_sizeTold_44 O n l0 l2 s0 l0 (0 : Int32) q2.2
  else
  f_FR_sizeTold_44 O n l0 l2 s0 l0 (1 : Int32) q2.2
  else
  if z_k q2.2 l0 = 5 then
  (F_FR_endsWithin O n l0 q2.2).bind fun q6 =>
  if q6.1 = 0 ∨ q6.1 = 1 then
  some (q6.1, q6.2)
  else none
  else none
  else none
set_option maxRecDepth 100000 in
set_option maxHeartbeats 4000000 in
theorem s_FR_sizeTold_19 {X : zX} {q : Int32 × zM} (C : zC X zR4 prog_5_method_12_code 4 { frames := 2, cells := 0, slots := 0, locals := 42 }) (hr : zRt X (some .boolean)) (E : zE X (some (zI q.1)) q.2 0 0) : ∀ (n : Nat) (l0 : Nat) (l2 : Int32) (s0 : Int32) (M : zM), f_FR_sizeTold_19 (zOD X) n l0 l2 s0 M = some q → zW X 0 0 19 [some (zP l0), none, some (zI l2), none] [zI s0] M := by
  intro n l0 l2 s0 M h
  rw [f_FR_sizeTold_19] at h
  refine r_istore_n (lv' := [some (zP l0), none, some (zI l2), some (zI s0)]) C (z_d dd_FR_sizeTold 11 rfl) (Nat.le_of_ble_eq_true rfl) rfl ?_
  refine r_aload_n C (z_d dd_FR_sizeTold 12 rfl) rfl ?_
  refine r_iload_n C (z_d dd_FR_sizeTold 13 rfl) rfl ?_
  refine r_i2l C (z_d dd_FR_sizeTold 14 rfl) ?_
  obtain ⟨h1, h⟩ := zif h
  obtain ⟨q2, c3, h⟩ := zbd h
  refine r_invV (as := [zL s0.toInt64]) C 4 (S_FR_lacks c3) (z_d dd_FR_sizeTold 15 rfl) ok_FR_lacks iv_FR_lacks se_FR_lacks ml_FR_86 rfl rfl h1 rfl rfl rfl (Nat.le_of_ble_eq_true rfl) ⟨(Nat.le_of_ble_eq_true rfl), (Nat.le_of_ble_eq_true rfl)⟩ ⟨(Nat.le_of_ble_eq_true rfl), (Nat.le_of_ble_eq_true rfl)⟩ ?_
  refine r_if_eq C 34 (z_d dd_FR_sizeTold 16 rfl) (by decide) (fun c9 => ?_) (fun c9 => ?_)
  · have h := zift h c9
    refine r_aload_n C (z_d dd_FR_sizeTold 20 rfl) rfl ?_
    refine r_iload_n C (z_d dd_FR_sizeTold 21 rfl) rfl ?_
    refine r_if_le C 43 (z_d dd_FR_sizeTold 22 rfl) (by decide) (fun c4 => ?_) (fun c4 => ?_)
    · have h := zift h c4
      refine r_iconst (v := (0 : Int32)) C (z_d dd_FR_sizeTold 25 rfl) (by decide) ?_
      exact s_FR_sizeTold_44 C hr E n l0 l2 s0 l0 (0 : Int32) q2.2 h
    · have h := ziff h c4
      refine r_iconst (v := (1 : Int32)) C (z_d dd_FR_sizeTold 23 rfl) (by decide) ?_
      refine r_goto C 44 (z_d dd_FR_sizeTold 24 rfl) (by decide) ?_
      exact s_FR_sizeTold_44 C hr E n l0 l2 s0 l0 (1 : Int32) q2.2 h
  · have h := ziff h c9
    refine r_aload_n C (z_d dd_FR_sizeTold 17 rfl) rfl ?_
    obtain ⟨h5, h⟩ := zif h
    obtain ⟨q6, c7, h⟩ := zbd h
    refine r_invV (as := []) C 4 (S_FR_endsWithin c7) (z_d dd_FR_sizeTold 18 rfl) ok_FR_endsWithin iv_FR_endsWithin se_FR_endsWithin ml_FR_90 rfl rfl h5 rfl rfl rfl (Nat.le_of_ble_eq_true rfl) ⟨(Nat.le_of_ble_eq_true rfl), (Nat.le_of_ble_eq_true rfl)⟩ ⟨(Nat.le_of_ble_eq_true rfl), (Nat.le_of_ble_eq_true rfl)⟩ ?_
    obtain ⟨h8, h⟩ := zif h
    obtain rfl := z_res h
    exact r_iretZ C E hr (z_d dd_FR_sizeTold 19 rfl) h8 (Nat.le_of_ble_eq_true rfl) (Nat.le_of_ble_eq_true rfl)
def f_FR_sizeTold_0 (O : zO) (n : Nat) (l0 : Nat) (l1 : Int32) (l2 : Int32) (M : zM) : Option (Int32 × zM) :=
  if l1 ≤ 0 then
  if l2 = 0 then
  f_FR_sizeTold_19 O n l0 l2 (0 : Int32) M
  else
  f_FR_sizeTold_19 O n l0 l2 (1 : Int32) M
  else
  f_FR_sizeTold_19 O n l0 l2 ((1 : Int32) <<< (l1 &&& 31)) M
set_option maxRecDepth 100000 in
set_option maxHeartbeats 4000000 in
theorem s_FR_sizeTold_0 {X : zX} {q : Int32 × zM} (C : zC X zR4 prog_5_method_12_code 4 { frames := 2, cells := 0, slots := 0, locals := 42 }) (hr : zRt X (some .boolean)) (E : zE X (some (zI q.1)) q.2 0 0) : ∀ (n : Nat) (l0 : Nat) (l1 : Int32) (l2 : Int32) (M : zM), f_FR_sizeTold_0 (zOD X) n l0 l1 l2 M = some q → zW X 0 0 0 [some (zP l0), some (zI l1), some (zI l2), none] [] M := by
  intro n l0 l1 l2 M h
  rw [f_FR_sizeTold_0] at h
  refine r_iload_n C (z_d dd_FR_sizeTold 0 rfl) rfl ?_
  refine r_if_le C 10 (z_d dd_FR_sizeTold 1 rfl) (by decide) (fun c2 => ?_) (fun c2 => ?_)
  · have h := zift h c2
    refine r_iload_n C (z_d dd_FR_sizeTold 6 rfl) rfl ?_
    refine r_if_eq C 18 (z_d dd_FR_sizeTold 7 rfl) (by decide) (fun c1 => ?_) (fun c1 => ?_)
    · have h := zift h c1
      refine r_iconst (v := (0 : Int32)) C (z_d dd_FR_sizeTold 10 rfl) (by decide) ?_
      refine r_mk [true, false, true, false] ?_
      exact s_FR_sizeTold_19 C hr E n l0 l2 (0 : Int32) M h
    · have h := ziff h c1
      refine r_iconst (v := (1 : Int32)) C (z_d dd_FR_sizeTold 8 rfl) (by decide) ?_
      refine r_goto C 19 (z_d dd_FR_sizeTold 9 rfl) (by decide) ?_
      refine r_mk [true, false, true, false] ?_
      exact s_FR_sizeTold_19 C hr E n l0 l2 (1 : Int32) M h
  · have h := ziff h c2
    refine r_iconst (v := (1 : Int32)) C (z_d dd_FR_sizeTold 2 rfl) (by decide) ?_
    refine r_iload_n C (z_d dd_FR_sizeTold 3 rfl) rfl ?_
    refine r_ishl C (z_d dd_FR_sizeTold 4 rfl) ?_
    refine r_goto C 19 (z_d dd_FR_sizeTold 5 rfl) (by decide) ?_
    refine r_mk [true, false, true, false] ?_
    exact s_FR_sizeTold_19 C hr E n l0 l2 ((1 : Int32) <<< (l1 &&& 31)) M h
def F_FR_sizeTold (O : zO) (n : Nat) (l0 : Nat) (l1 : Int32) (l2 : Int32) (M : zM) : Option (Int32 × zM) := f_FR_sizeTold_0 O n l0 l1 l2 M
theorem S_FR_sizeTold {l : Launch} {D : zD} {n : Nat} {l0 : Nat} {l1 : Int32} {l2 : Int32} {M : zM} {q : Int32 × zM} (h : F_FR_sizeTold D.2.2.2.2 n l0 l1 l2 M = some q) : zMet l D mi_FR_sizeTold [zP l0, zI l1, zI l2] M (some (zI q.1)) q.2 :=
  z_met (by decide) (Nat.le_of_ble_eq_true rfl) (fun X C E hr hin hD hl => by
    subst hD
    exact s_FR_sizeTold_0 C hr E n l0 l1 l2 M h)

def f_Content_startFrame_0 (O : zO) (n : Nat) (l0 : Nat) (M : zM) : Option (Unit × zM) :=
  if z_k M l0 = 3 then
  if z_k M (z_p M l0 0) = 9 then
  zlet (w_i M l0 3 (z_i M (z_p M l0 0) 1)) fun M3 =>
  some ((), M3)
  else none
  else none
set_option maxRecDepth 100000 in
set_option maxHeartbeats 4000000 in
theorem s_Content_startFrame_0 {X : zX} {q : Unit × zM} (C : zC X zR2 prog_3_method_3_code 1 { frames := 0, cells := 0, slots := 0, locals := 0 }) (hr : zRt X none) (E : zE X none q.2 0 0) : ∀ (n : Nat) (l0 : Nat) (M : zM), f_Content_startFrame_0 (zOD X) n l0 M = some q → zW X 0 0 0 [some (zP l0)] [] M := by
  intro n l0 M h
  rw [f_Content_startFrame_0] at h
  refine r_aload_n C (z_d dd_Content_startFrame 0 rfl) rfl ?_
  refine r_aload_n C (z_d dd_Content_startFrame 1 rfl) rfl ?_
  obtain ⟨h1, h⟩ := zif h
  refine r_getP C (z_d dd_Content_startFrame 2 rfl) lk_Content_15 rfl h1 rfl ?_
  obtain ⟨h2, h⟩ := zif h
  refine r_getI C (z_d dd_Content_startFrame 3 rfl) lk_Content_41 rfl h2 rfl ?_
  obtain ⟨M3, e4, h⟩ := zlet_ex h
  have h5 := k_i e4 h1
  have h6 := k_i e4 h2
  refine r_putI C (z_d dd_Content_startFrame 4 rfl) lp_Content_28 rfl h1 e4 ?_
  obtain rfl := z_res h
  exact r_vret C E hr (z_d dd_Content_startFrame 5 rfl) (Nat.le_of_ble_eq_true rfl) (Nat.le_of_ble_eq_true rfl)
def F_Content_startFrame (O : zO) (n : Nat) (l0 : Nat) (M : zM) : Option (Unit × zM) := f_Content_startFrame_0 O n l0 M
theorem S_Content_startFrame {l : Launch} {D : zD} {n : Nat} {l0 : Nat} {M : zM} {q : Unit × zM} (h : F_Content_startFrame D.2.2.2.2 n l0 M = some q) : zMet l D mi_Content_startFrame [zP l0] M none q.2 :=
  z_met (by decide) (Nat.le_of_ble_eq_true rfl) (fun X C E hr hin hD hl => by
    subst hD
    exact s_Content_startFrame_0 C hr E n l0 M h)

def f_Lit_startFrame_0 (O : zO) (n : Nat) (l0 : Nat) (l1 : Nat) (M : zM) : Option (Unit × zM) :=
  if z_k M l1 = 4 then
  if z_k M l0 = 7 then
  zlet (w_p M l0 5 (z_p M l1 4)) fun M3 =>
  if (z_i M3 l1 3) = 0 ∨ (z_i M3 l1 3) = 1 then
  zlet (w_i M3 l0 6 (z_i M3 l1 3)) fun M8 =>
  some ((), M8)
  else none
  else none
  else none
set_option maxRecDepth 100000 in
set_option maxHeartbeats 4000000 in
theorem s_Lit_startFrame_0 {X : zX} {q : Unit × zM} (C : zC X zR6 prog_7_method_2_code 2 { frames := 0, cells := 0, slots := 0, locals := 0 }) (hr : zRt X none) (E : zE X none q.2 0 0) : ∀ (n : Nat) (l0 : Nat) (l1 : Nat) (M : zM), f_Lit_startFrame_0 (zOD X) n l0 l1 M = some q → zW X 0 0 0 [some (zP l0), some (zP l1)] [] M := by
  intro n l0 l1 M h
  rw [f_Lit_startFrame_0] at h
  refine r_aload_n C (z_d dd_Lit_startFrame 0 rfl) rfl ?_
  refine r_aload_n C (z_d dd_Lit_startFrame 1 rfl) rfl ?_
  obtain ⟨h1, h⟩ := zif h
  refine r_getP C (z_d dd_Lit_startFrame 2 rfl) lk_Lit_68 rfl h1 rfl ?_
  obtain ⟨h2, h⟩ := zif h
  obtain ⟨M3, e4, h⟩ := zlet_ex h
  have h5 := k_p e4 h1
  have h6 := k_p e4 h2
  refine r_putP C (z_d dd_Lit_startFrame 3 rfl) lp_Lit_42 rfl h2 e4 ?_
  refine r_aload_n C (z_d dd_Lit_startFrame 4 rfl) rfl ?_
  refine r_aload_n C (z_d dd_Lit_startFrame 5 rfl) rfl ?_
  refine r_getI C (z_d dd_Lit_startFrame 6 rfl) lk_Lit_71 rfl h5 rfl ?_
  obtain ⟨h7, h⟩ := zif h
  obtain ⟨M8, e9, h⟩ := zlet_ex h
  have h10 := k_i e9 h5
  have h11 := k_i e9 h6
  refine r_putZ C (z_d dd_Lit_startFrame 7 rfl) lp_Lit_45 rfl h7 h6 e9 ?_
  obtain rfl := z_res h
  exact r_vret C E hr (z_d dd_Lit_startFrame 8 rfl) (Nat.le_of_ble_eq_true rfl) (Nat.le_of_ble_eq_true rfl)
def F_Lit_startFrame (O : zO) (n : Nat) (l0 : Nat) (l1 : Nat) (M : zM) : Option (Unit × zM) := f_Lit_startFrame_0 O n l0 l1 M
theorem S_Lit_startFrame {l : Launch} {D : zD} {n : Nat} {l0 : Nat} {l1 : Nat} {M : zM} {q : Unit × zM} (h : F_Lit_startFrame D.2.2.2.2 n l0 l1 M = some q) : zMet l D mi_Lit_startFrame [zP l0, zP l1] M none q.2 :=
  z_met (by decide) (Nat.le_of_ble_eq_true rfl) (fun X C E hr hin hD hl => by
    subst hD
    exact s_Lit_startFrame_0 C hr E n l0 l1 M h)

def f_Seq_startFrame_83 (O : zO) (n : Nat) (M : zM) : Option (Unit × zM) :=
  some ((), M)
set_option maxRecDepth 100000 in
set_option maxHeartbeats 4000000 in
theorem s_Seq_startFrame_83 {X : zX} {q : Unit × zM} (C : zC X zR9 prog_10_method_2_code 3 { frames := 1, cells := 0, slots := 0, locals := 26 }) (hr : zRt X none) (E : zE X none q.2 0 0) : ∀ (n : Nat) (M : zM), f_Seq_startFrame_83 (zOD X) n M = some q → zW X 0 0 83 [none, none, none] [] M := by
  intro n M h
  rw [f_Seq_startFrame_83] at h
  obtain rfl := z_res h
  exact r_vret C E hr (z_d dd_Seq_startFrame 43 rfl) (Nat.le_of_ble_eq_true rfl) (Nat.le_of_ble_eq_true rfl)
def f_Seq_startFrame_2 (O : zO) : Nat → Nat → Nat → Int32 → zM → Option (Unit × zM)
  | 0, _, _, _, _ => none
  | n + 1, l0, l1, l2, M =>
    if (3 : Int32) ≤ l2 then
    if z_k M l1 = 4 then
    if (z_i M l1 3) = 0 then
    if z_k M l0 = 10 then
    if z_k M (z_p M l0 5) = 6 then
    (F_Latest_set O n (z_p M l0 5) (1 : Int64) (4 : Int64) (8 : Int64) M).bind fun q4 =>
    f_Seq_startFrame_83 O n q4.2
    else none
    else none
    else
    zlet (z_p M l1 1) fun v6 =>
    if z_k M l0 = 10 then
    if z_k M v6 = 6 then
    if z_k M (z_p M l0 5) = 6 then
    (F_Latest_set O n (z_p M l0 5) (z_j M v6 0) (z_j M v6 1) (z_j M v6 2) M).bind fun q11 =>
    f_Seq_startFrame_83 O n q11.2
    else none
    else none
    else none
    else none
    else
    if z_k M l0 = 10 then
    if z_k M l1 = 4 then
    if z_k M (z_p M l1 5) = 104 then
    if zin l2 (z_n M (z_p M l1 5)) = true then
    if z_k M (z_p M l0 8) = 104 then
    if zin l2 (z_n M (z_p M l0 8)) = true then
    if z_k M (z_p M (z_p M l1 5) l2.toNatClampNeg) = 11 then
    zlet (w_p M (z_p M l0 8) l2.toNatClampNeg (z_p M (z_p M l1 5) l2.toNatClampNeg)) fun M21 =>
    if z_k M21 (z_p M21 l0 9) = 102 then
    if zin l2 (z_n M21 (z_p M21 l0 9)) = true then
    if (z_i M21 l1 3) = 0 ∨ (z_i M21 l1 3) = 1 then
    zlet (w_i M21 (z_p M21 l0 9) l2.toNatClampNeg (z_i M21 l1 3)) fun M31 =>
    zlet (l2 + (1 : Int32)) fun v39 =>
    f_Seq_startFrame_2 O n l0 l1 v39 M31
    else none
    else none
    else none
    else none
    else none
    else none
    else none
    else none
    else none
    else none
set_option maxRecDepth 100000 in
set_option maxHeartbeats 4000000 in
theorem s_Seq_startFrame_2 {X : zX} {q : Unit × zM} (C : zC X zR9 prog_10_method_2_code 3 { frames := 1, cells := 0, slots := 0, locals := 26 }) (hr : zRt X none) (E : zE X none q.2 0 0) : ∀ (n : Nat) (l0 : Nat) (l1 : Nat) (l2 : Int32) (M : zM), f_Seq_startFrame_2 (zOD X) n l0 l1 l2 M = some q → zW X 0 0 2 [some (zP l0), some (zP l1), some (zI l2)] [] M := by
  intro n
  induction n with
  | zero => intro l0 l1 l2 M h; rw [f_Seq_startFrame_2] at h; cases h
  | succ n ih =>
    intro l0 l1 l2 M h
    rw [f_Seq_startFrame_2] at h
    refine r_iload_n C (z_d dd_Seq_startFrame 2 rfl) rfl ?_
    refine r_iconst (v := (3 : Int32)) C (z_d dd_Seq_startFrame 3 rfl) (by decide) ?_
    refine r_icmp_ge C 35 (z_d dd_Seq_startFrame 4 rfl) (by decide) (fun c41 => ?_) (fun c41 => ?_)
    · have h := zift h c41
      refine r_aload_n C (z_d dd_Seq_startFrame 21 rfl) rfl ?_
      obtain ⟨h1, h⟩ := zif h
      refine r_getI C (z_d dd_Seq_startFrame 22 rfl) lk_Seq_91 rfl h1 rfl ?_
      refine r_if_eq C 69 (z_d dd_Seq_startFrame 23 rfl) (by decide) (fun c13 => ?_) (fun c13 => ?_)
      · have h := zift h c13
        refine r_aload_n C (z_d dd_Seq_startFrame 37 rfl) rfl ?_
        obtain ⟨h2, h⟩ := zif h
        refine r_getP C (z_d dd_Seq_startFrame 38 rfl) lk_Seq_37 rfl h2 rfl ?_
        refine r_lconst (v := (1 : Int64)) C (z_d dd_Seq_startFrame 39 rfl) (by decide) ?_
        refine r_ldc2 (v := (4 : Int64)) C (z_d dd_Seq_startFrame 40 rfl) kl_Seq_110 ?_
        refine r_ldc2 (v := (8 : Int64)) C (z_d dd_Seq_startFrame 41 rfl) kl_Seq_112 ?_
        obtain ⟨h3, h⟩ := zif h
        obtain ⟨q4, c5, h⟩ := zbd h
        refine r_invV (as := [zL (1 : Int64), zL (4 : Int64), zL (8 : Int64)]) C 5 (S_Latest_set c5) (z_d dd_Seq_startFrame 42 rfl) ok_Latest_set iv_Latest_set se_Latest_set ml_Seq_106 rfl rfl h3 rfl rfl rfl (Nat.le_of_ble_eq_true rfl) ⟨(Nat.le_of_ble_eq_true rfl), (Nat.le_of_ble_eq_true rfl)⟩ ⟨(Nat.le_of_ble_eq_true rfl), (Nat.le_of_ble_eq_true rfl)⟩ ?_
        refine r_mk [false, false, false] ?_
        exact s_Seq_startFrame_83 C hr E n q4.2 h
      · have h := ziff h c13
        refine r_aload_n C (z_d dd_Seq_startFrame 24 rfl) rfl ?_
        refine r_getP C (z_d dd_Seq_startFrame 25 rfl) lk_Seq_95 rfl h1 rfl ?_
        obtain ⟨v6, e7, h⟩ := zlet_ex h
        refine r_nmP e7 ?_
        refine r_astore_n (lv' := [some (zP l0), some (zP l1), some (zP v6)]) C (z_d dd_Seq_startFrame 26 rfl) (Nat.le_of_ble_eq_true rfl) rfl ?_
        refine r_aload_n C (z_d dd_Seq_startFrame 27 rfl) rfl ?_
        obtain ⟨h8, h⟩ := zif h
        refine r_getP C (z_d dd_Seq_startFrame 28 rfl) lk_Seq_37 rfl h8 rfl ?_
        refine r_aload_n C (z_d dd_Seq_startFrame 29 rfl) rfl ?_
        obtain ⟨h9, h⟩ := zif h
        refine r_getL C (z_d dd_Seq_startFrame 30 rfl) lk_Seq_96 rfl h9 rfl ?_
        refine r_aload_n C (z_d dd_Seq_startFrame 31 rfl) rfl ?_
        refine r_getL C (z_d dd_Seq_startFrame 32 rfl) lk_Seq_100 rfl h9 rfl ?_
        refine r_aload_n C (z_d dd_Seq_startFrame 33 rfl) rfl ?_
        refine r_getL C (z_d dd_Seq_startFrame 34 rfl) lk_Seq_103 rfl h9 rfl ?_
        obtain ⟨h10, h⟩ := zif h
        obtain ⟨q11, c12, h⟩ := zbd h
        refine r_invV (as := [zL (z_j M v6 0), zL (z_j M v6 1), zL (z_j M v6 2)]) C 5 (S_Latest_set c12) (z_d dd_Seq_startFrame 35 rfl) ok_Latest_set iv_Latest_set se_Latest_set ml_Seq_106 rfl rfl h10 rfl rfl rfl (Nat.le_of_ble_eq_true rfl) ⟨(Nat.le_of_ble_eq_true rfl), (Nat.le_of_ble_eq_true rfl)⟩ ⟨(Nat.le_of_ble_eq_true rfl), (Nat.le_of_ble_eq_true rfl)⟩ ?_
        refine r_goto C 83 (z_d dd_Seq_startFrame 36 rfl) (by decide) ?_
        refine r_mk [false, false, false] ?_
        exact s_Seq_startFrame_83 C hr E n q11.2 h
    · have h := ziff h c41
      refine r_aload_n C (z_d dd_Seq_startFrame 5 rfl) rfl ?_
      obtain ⟨h14, h⟩ := zif h
      refine r_getP C (z_d dd_Seq_startFrame 6 rfl) lk_Seq_50 rfl h14 rfl ?_
      refine r_iload_n C (z_d dd_Seq_startFrame 7 rfl) rfl ?_
      refine r_aload_n C (z_d dd_Seq_startFrame 8 rfl) rfl ?_
      obtain ⟨h15, h⟩ := zif h
      refine r_getP C (z_d dd_Seq_startFrame 9 rfl) lk_Seq_86 rfl h15 rfl ?_
      refine r_iload_n C (z_d dd_Seq_startFrame 10 rfl) rfl ?_
      obtain ⟨h16, h⟩ := zif h
      obtain ⟨h17, h⟩ := zif h
      refine r_aald C (z_d dd_Seq_startFrame 11 rfl) h16 h17 rfl ?_
      obtain ⟨h18, h⟩ := zif h
      obtain ⟨h19, h⟩ := zif h
      obtain ⟨h20, h⟩ := zif h
      obtain ⟨M21, e22, h⟩ := zlet_ex h
      have h23 := k_p e22 h14
      have h24 := k_p e22 h15
      have h25 := k_p e22 h16
      have h26 := k_p e22 h18
      have h27 := k_p e22 h20
      refine r_aast C (z_d dd_Seq_startFrame 12 rfl) h18 h19 h20 e22 ?_
      refine r_aload_n C (z_d dd_Seq_startFrame 13 rfl) rfl ?_
      refine r_getP C (z_d dd_Seq_startFrame 14 rfl) lk_Seq_53 rfl h23 rfl ?_
      refine r_iload_n C (z_d dd_Seq_startFrame 15 rfl) rfl ?_
      refine r_aload_n C (z_d dd_Seq_startFrame 16 rfl) rfl ?_
      refine r_getI C (z_d dd_Seq_startFrame 17 rfl) lk_Seq_91 rfl h24 rfl ?_
      obtain ⟨h28, h⟩ := zif h
      obtain ⟨h29, h⟩ := zif h
      obtain ⟨h30, h⟩ := zif h
      obtain ⟨M31, e32, h⟩ := zlet_ex h
      have h33 := k_i e32 h23
      have h34 := k_i e32 h24
      have h35 := k_i e32 h25
      have h36 := k_i e32 h26
      have h37 := k_i e32 h27
      have h38 := k_i e32 h28
      refine r_zast C (z_d dd_Seq_startFrame 18 rfl) h28 h29 h30 e32 ?_
      obtain ⟨v39, e40, h⟩ := zlet_ex h
      refine r_iinc (v := v39) (lv' := [some (zP l0), some (zP l1), some (zI v39)]) C (z_d dd_Seq_startFrame 19 rfl) rfl (Nat.le_of_ble_eq_true rfl) (by rw [e40]; rfl) rfl ?_
      refine r_goto C 2 (z_d dd_Seq_startFrame 20 rfl) (by decide) ?_
      exact ih l0 l1 v39 M31 h
def f_Seq_startFrame_0 (O : zO) (n : Nat) (l0 : Nat) (l1 : Nat) (M : zM) : Option (Unit × zM) :=
  f_Seq_startFrame_2 O n l0 l1 (0 : Int32) M
set_option maxRecDepth 100000 in
set_option maxHeartbeats 4000000 in
theorem s_Seq_startFrame_0 {X : zX} {q : Unit × zM} (C : zC X zR9 prog_10_method_2_code 3 { frames := 1, cells := 0, slots := 0, locals := 26 }) (hr : zRt X none) (E : zE X none q.2 0 0) : ∀ (n : Nat) (l0 : Nat) (l1 : Nat) (M : zM), f_Seq_startFrame_0 (zOD X) n l0 l1 M = some q → zW X 0 0 0 [some (zP l0), some (zP l1), none] [] M := by
  intro n l0 l1 M h
  rw [f_Seq_startFrame_0] at h
  refine r_iconst (v := (0 : Int32)) C (z_d dd_Seq_startFrame 0 rfl) (by decide) ?_
  refine r_istore_n (lv' := [some (zP l0), some (zP l1), some (zI (0 : Int32))]) C (z_d dd_Seq_startFrame 1 rfl) (Nat.le_of_ble_eq_true rfl) rfl ?_
  exact s_Seq_startFrame_2 C hr E n l0 l1 (0 : Int32) M h
def F_Seq_startFrame (O : zO) (n : Nat) (l0 : Nat) (l1 : Nat) (M : zM) : Option (Unit × zM) := f_Seq_startFrame_0 O n l0 l1 M
theorem S_Seq_startFrame {l : Launch} {D : zD} {n : Nat} {l0 : Nat} {l1 : Nat} {M : zM} {q : Unit × zM} (h : F_Seq_startFrame D.2.2.2.2 n l0 l1 M = some q) : zMet l D mi_Seq_startFrame [zP l0, zP l1] M none q.2 :=
  z_met (by decide) (Nat.le_of_ble_eq_true rfl) (fun X C E hr hin hD hl => by
    subst hD
    exact s_Seq_startFrame_0 C hr E n l0 l1 M h)

def f_FR_head_142 (O : zO) (n : Nat) (M : zM) : Option (Int32 × zM) :=
  some ((0 : Int32), M)
set_option maxRecDepth 100000 in
set_option maxHeartbeats 4000000 in
theorem s_FR_head_142 {X : zX} {q : Int32 × zM} (C : zC X zR4 prog_5_method_8_code 4 { frames := 3, cells := 0, slots := 0, locals := 65 }) (hr : zRt X (some .boolean)) (E : zE X (some (zI q.1)) q.2 0 0) : ∀ (n : Nat) (M : zM), f_FR_head_142 (zOD X) n M = some q → zW X 0 0 142 [none, none, none, none] [] M := by
  intro n M h
  rw [f_FR_head_142] at h
  refine r_iconst (v := (0 : Int32)) C (z_d dd_FR_head 81 rfl) (by decide) ?_
  obtain rfl := z_res h
  exact r_iretZ C E hr (z_d dd_FR_head 82 rfl) (by decide) (Nat.le_of_ble_eq_true rfl) (Nat.le_of_ble_eq_true rfl)
def f_FR_head_122 (O : zO) (n : Nat) (l0 : Nat) (l1 : Int32) (l2 : Int32) (l3 : Int32) (M : zM) : Option (Int32 × zM) :=
  if z_k M l0 = 5 then
  (F_FR_idFits O n l0 l3 M).bind fun q2 =>
  if q2.1 = 0 then
  f_FR_head_142 O n q2.2
  else
  if z_k q2.2 l0 = 5 then
  (F_FR_sizeTold O n l0 (l1 >>> ((6 : Int32) &&& 31)) l2 q2.2).bind fun q5 =>
  if q5.1 = 0 then
  f_FR_head_142 O n q5.2
  else
  if z_k q5.2 l0 = 5 then
  if z_k q5.2 (z_p q5.2 l0 3) = 3 then
  (F_Content_startFrame O n (z_p q5.2 l0 3) q5.2).bind fun q9 =>
  if z_k q9.2 l0 = 5 then
  if z_k q9.2 (z_p q9.2 l0 4) = 7 then
  (F_Lit_startFrame O n (z_p q9.2 l0 4) (z_p q9.2 l0 1) q9.2).bind fun q13 =>
  if z_k q13.2 l0 = 5 then
  if z_k q13.2 (z_p q13.2 l0 5) = 10 then
  (F_Seq_startFrame O n (z_p q13.2 l0 5) (z_p q13.2 l0 1) q13.2).bind fun q17 =>
  if z_k q17.2 l0 = 5 then
  zlet (w_i q17.2 l0 7 (1 : Int32)) fun M20 =>
  some ((1 : Int32), M20)
  else none
  else none
  else none
  else none
  else none
  else none
  else none
  else none
  else none
set_option maxRecDepth 100000 in
set_option maxHeartbeats 4000000 in
theorem s_FR_head_122 {X : zX} {q : Int32 × zM} (C : zC X zR4 prog_5_method_8_code 4 { frames := 3, cells := 0, slots := 0, locals := 65 }) (hr : zRt X (some .boolean)) (E : zE X (some (zI q.1)) q.2 0 0) : ∀ (n : Nat) (l0 : Nat) (l1 : Int32) (l2 : Int32) (l3 : Int32) (M : zM), f_FR_head_122 (zOD X) n l0 l1 l2 l3 M = some q → zW X 0 0 122 [some (zP l0), some (zI l1), some (zI l2), some (zI l3)] [] M := by
  intro n l0 l1 l2 l3 M h
  rw [f_FR_head_122] at h
  refine r_aload_n C (z_d dd_FR_head 70 rfl) rfl ?_
  refine r_iload_n C (z_d dd_FR_head 71 rfl) rfl ?_
  obtain ⟨h1, h⟩ := zif h
  obtain ⟨q2, c3, h⟩ := zbd h
  refine r_invV (as := [zI l3]) C 4 (S_FR_idFits c3) (z_d dd_FR_head 72 rfl) ok_FR_idFits iv_FR_idFits se_FR_idFits ml_FR_124 rfl rfl h1 rfl rfl rfl (Nat.le_of_ble_eq_true rfl) ⟨(Nat.le_of_ble_eq_true rfl), (Nat.le_of_ble_eq_true rfl)⟩ ⟨(Nat.le_of_ble_eq_true rfl), (Nat.le_of_ble_eq_true rfl)⟩ ?_
  refine r_if_eq C 142 (z_d dd_FR_head 73 rfl) (by decide) (fun c24 => ?_) (fun c24 => ?_)
  · have h := zift h c24
    refine r_mk [false, false, false, false] ?_
    exact s_FR_head_142 C hr E n q2.2 h
  · have h := ziff h c24
    refine r_aload_n C (z_d dd_FR_head 74 rfl) rfl ?_
    refine r_iload_n C (z_d dd_FR_head 75 rfl) rfl ?_
    refine r_bipush (v := (6 : Int32)) C (z_d dd_FR_head 76 rfl) (by decide) ?_
    refine r_ishr C (z_d dd_FR_head 77 rfl) ?_
    refine r_iload_n C (z_d dd_FR_head 78 rfl) rfl ?_
    obtain ⟨h4, h⟩ := zif h
    obtain ⟨q5, c6, h⟩ := zbd h
    refine r_invV (as := [zI (l1 >>> ((6 : Int32) &&& 31)), zI l2]) C 4 (S_FR_sizeTold c6) (z_d dd_FR_head 79 rfl) ok_FR_sizeTold iv_FR_sizeTold se_FR_sizeTold ml_FR_128 rfl rfl h4 rfl rfl rfl (Nat.le_of_ble_eq_true rfl) ⟨(Nat.le_of_ble_eq_true rfl), (Nat.le_of_ble_eq_true rfl)⟩ ⟨(Nat.le_of_ble_eq_true rfl), (Nat.le_of_ble_eq_true rfl)⟩ ?_
    refine r_if_ne C 144 (z_d dd_FR_head 80 rfl) (by decide) (fun c23 => ?_) (fun c23 => ?_)
    · have h := ziff h c23
      refine r_aload_n C (z_d dd_FR_head 83 rfl) rfl ?_
      obtain ⟨h7, h⟩ := zif h
      refine r_getP C (z_d dd_FR_head 84 rfl) lk_FR_23 rfl h7 rfl ?_
      obtain ⟨h8, h⟩ := zif h
      obtain ⟨q9, c10, h⟩ := zbd h
      refine r_invV (as := []) C 2 (S_Content_startFrame c10) (z_d dd_FR_head 85 rfl) ok_Content_startFrame iv_Content_startFrame se_Content_startFrame ml_FR_132 rfl rfl h8 rfl rfl rfl (Nat.le_of_ble_eq_true rfl) ⟨(Nat.le_of_ble_eq_true rfl), (Nat.le_of_ble_eq_true rfl)⟩ ⟨(Nat.le_of_ble_eq_true rfl), (Nat.le_of_ble_eq_true rfl)⟩ ?_
      refine r_aload_n C (z_d dd_FR_head 86 rfl) rfl ?_
      obtain ⟨h11, h⟩ := zif h
      refine r_getP C (z_d dd_FR_head 87 rfl) lk_FR_32 rfl h11 rfl ?_
      refine r_aload_n C (z_d dd_FR_head 88 rfl) rfl ?_
      refine r_getP C (z_d dd_FR_head 89 rfl) lk_FR_15 rfl h11 rfl ?_
      obtain ⟨h12, h⟩ := zif h
      obtain ⟨q13, c14, h⟩ := zbd h
      refine r_invV (as := [zP (z_p q9.2 l0 1)]) C 6 (S_Lit_startFrame c14) (z_d dd_FR_head 90 rfl) ok_Lit_startFrame iv_Lit_startFrame se_Lit_startFrame ml_FR_135 rfl rfl h12 rfl rfl rfl (Nat.le_of_ble_eq_true rfl) ⟨(Nat.le_of_ble_eq_true rfl), (Nat.le_of_ble_eq_true rfl)⟩ ⟨(Nat.le_of_ble_eq_true rfl), (Nat.le_of_ble_eq_true rfl)⟩ ?_
      refine r_aload_n C (z_d dd_FR_head 91 rfl) rfl ?_
      obtain ⟨h15, h⟩ := zif h
      refine r_getP C (z_d dd_FR_head 92 rfl) lk_FR_41 rfl h15 rfl ?_
      refine r_aload_n C (z_d dd_FR_head 93 rfl) rfl ?_
      refine r_getP C (z_d dd_FR_head 94 rfl) lk_FR_15 rfl h15 rfl ?_
      obtain ⟨h16, h⟩ := zif h
      obtain ⟨q17, c18, h⟩ := zbd h
      refine r_invV (as := [zP (z_p q13.2 l0 1)]) C 9 (S_Seq_startFrame c18) (z_d dd_FR_head 95 rfl) ok_Seq_startFrame iv_Seq_startFrame se_Seq_startFrame ml_FR_138 rfl rfl h16 rfl rfl rfl (Nat.le_of_ble_eq_true rfl) ⟨(Nat.le_of_ble_eq_true rfl), (Nat.le_of_ble_eq_true rfl)⟩ ⟨(Nat.le_of_ble_eq_true rfl), (Nat.le_of_ble_eq_true rfl)⟩ ?_
      refine r_aload_n C (z_d dd_FR_head 96 rfl) rfl ?_
      refine r_iconst (v := (1 : Int32)) C (z_d dd_FR_head 97 rfl) (by decide) ?_
      obtain ⟨h19, h⟩ := zif h
      obtain ⟨M20, e21, h⟩ := zlet_ex h
      have h22 := k_i e21 h19
      refine r_putZ C (z_d dd_FR_head 98 rfl) lp_FR_49 rfl (by decide) h19 e21 ?_
      refine r_iconst (v := (1 : Int32)) C (z_d dd_FR_head 99 rfl) (by decide) ?_
      obtain rfl := z_res h
      exact r_iretZ C E hr (z_d dd_FR_head 100 rfl) (by decide) (Nat.le_of_ble_eq_true rfl) (Nat.le_of_ble_eq_true rfl)
    · have h := zift h c23
      refine r_mk [false, false, false, false] ?_
      exact s_FR_head_142 C hr E n q5.2 h
def f_FR_head_110 (O : zO) (n : Nat) (l0 : Nat) (l1 : Int32) (l2 : Int32) (s0 : Int32) (M : zM) : Option (Int32 × zM) :=
  if l2 = 0 then
  if z_k M l0 = 5 then
  (F_FR_window O n l0 M).bind fun q2 =>
  if q2.1 = 0 then
  f_FR_head_142 O n q2.2
  else
  f_FR_head_122 O n l0 l1 l2 s0 q2.2
  else none
  else
  f_FR_head_122 O n l0 l1 l2 s0 M
set_option maxRecDepth 100000 in
set_option maxHeartbeats 4000000 in
theorem s_FR_head_110 {X : zX} {q : Int32 × zM} (C : zC X zR4 prog_5_method_8_code 4 { frames := 3, cells := 0, slots := 0, locals := 65 }) (hr : zRt X (some .boolean)) (E : zE X (some (zI q.1)) q.2 0 0) : ∀ (n : Nat) (l0 : Nat) (l1 : Int32) (l2 : Int32) (s0 : Int32) (M : zM), f_FR_head_110 (zOD X) n l0 l1 l2 s0 M = some q → zW X 0 0 110 [some (zP l0), some (zI l1), some (zI l2), none] [zI s0] M := by
  intro n l0 l1 l2 s0 M h
  rw [f_FR_head_110] at h
  refine r_istore_n (lv' := [some (zP l0), some (zI l1), some (zI l2), some (zI s0)]) C (z_d dd_FR_head 64 rfl) (Nat.le_of_ble_eq_true rfl) rfl ?_
  refine r_iload_n C (z_d dd_FR_head 65 rfl) rfl ?_
  refine r_if_ne C 122 (z_d dd_FR_head 66 rfl) (by decide) (fun c5 => ?_) (fun c5 => ?_)
  · have h := ziff h c5
    exact s_FR_head_122 C hr E n l0 l1 l2 s0 M h
  · have h := zift h c5
    refine r_aload_n C (z_d dd_FR_head 67 rfl) rfl ?_
    obtain ⟨h1, h⟩ := zif h
    obtain ⟨q2, c3, h⟩ := zbd h
    refine r_invV (as := []) C 4 (S_FR_window c3) (z_d dd_FR_head 68 rfl) ok_FR_window iv_FR_window se_FR_window ml_FR_121 rfl rfl h1 rfl rfl rfl (Nat.le_of_ble_eq_true rfl) ⟨(Nat.le_of_ble_eq_true rfl), (Nat.le_of_ble_eq_true rfl)⟩ ⟨(Nat.le_of_ble_eq_true rfl), (Nat.le_of_ble_eq_true rfl)⟩ ?_
    refine r_if_eq C 142 (z_d dd_FR_head 69 rfl) (by decide) (fun c4 => ?_) (fun c4 => ?_)
    · have h := zift h c4
      refine r_mk [false, false, false, false] ?_
      exact s_FR_head_142 C hr E n q2.2 h
    · have h := ziff h c4
      exact s_FR_head_122 C hr E n l0 l1 l2 s0 q2.2 h
def f_FR_head_93 (O : zO) (n : Nat) (l0 : Nat) (l1 : Int32) (l2 : Int32) (s0 : Nat) (s1 : Int32) (M : zM) : Option (Int32 × zM) :=
  if z_k M s0 = 5 then
  if s1 = 0 ∨ s1 = 1 then
  zlet (w_i M s0 8 s1) fun M3 =>
  if (l1 &&& (3 : Int32)) = (3 : Int32) then
  f_FR_head_110 O n l0 l1 l2 (4 : Int32) M3
  else
  f_FR_head_110 O n l0 l1 l2 (l1 &&& (3 : Int32)) M3
  else none
  else none
set_option maxRecDepth 100000 in
set_option maxHeartbeats 4000000 in
theorem s_FR_head_93 {X : zX} {q : Int32 × zM} (C : zC X zR4 prog_5_method_8_code 4 { frames := 3, cells := 0, slots := 0, locals := 65 }) (hr : zRt X (some .boolean)) (E : zE X (some (zI q.1)) q.2 0 0) : ∀ (n : Nat) (l0 : Nat) (l1 : Int32) (l2 : Int32) (s0 : Nat) (s1 : Int32) (M : zM), f_FR_head_93 (zOD X) n l0 l1 l2 s0 s1 M = some q → zW X 0 0 93 [some (zP l0), some (zI l1), some (zI l2), none] [zI s1, zP s0] M := by
  intro n l0 l1 l2 s0 s1 M h
  rw [f_FR_head_93] at h
  obtain ⟨h1, h⟩ := zif h
  obtain ⟨h2, h⟩ := zif h
  obtain ⟨M3, e4, h⟩ := zlet_ex h
  have h5 := k_i e4 h1
  refine r_putZ C (z_d dd_FR_head 53 rfl) lp_FR_53 rfl h2 h1 e4 ?_
  refine r_iload_n C (z_d dd_FR_head 54 rfl) rfl ?_
  refine r_iconst (v := (3 : Int32)) C (z_d dd_FR_head 55 rfl) (by decide) ?_
  refine r_iand C (z_d dd_FR_head 56 rfl) ?_
  refine r_iconst (v := (3 : Int32)) C (z_d dd_FR_head 57 rfl) (by decide) ?_
  refine r_icmp_ne C 107 (z_d dd_FR_head 58 rfl) (by decide) (fun c6 => ?_) (fun c6 => ?_)
  · have h := ziff h c6
    refine r_iload_n C (z_d dd_FR_head 61 rfl) rfl ?_
    refine r_iconst (v := (3 : Int32)) C (z_d dd_FR_head 62 rfl) (by decide) ?_
    refine r_iand C (z_d dd_FR_head 63 rfl) ?_
    exact s_FR_head_110 C hr E n l0 l1 l2 (l1 &&& (3 : Int32)) M3 h
  · have h := zift h c6
    refine r_iconst (v := (4 : Int32)) C (z_d dd_FR_head 59 rfl) (by decide) ?_
    refine r_goto C 110 (z_d dd_FR_head 60 rfl) (by decide) ?_
    exact s_FR_head_110 C hr E n l0 l1 l2 (4 : Int32) M3 h
def f_FR_head_80 (O : zO) (n : Nat) (l0 : Nat) (l1 : Int32) (s0 : Int32) (M : zM) : Option (Int32 × zM) :=
  if (l1 &&& (4 : Int32)) = 0 then
  f_FR_head_93 O n l0 l1 s0 l0 (0 : Int32) M
  else
  f_FR_head_93 O n l0 l1 s0 l0 (1 : Int32) M
set_option maxRecDepth 100000 in
set_option maxHeartbeats 4000000 in
theorem s_FR_head_80 {X : zX} {q : Int32 × zM} (C : zC X zR4 prog_5_method_8_code 4 { frames := 3, cells := 0, slots := 0, locals := 65 }) (hr : zRt X (some .boolean)) (E : zE X (some (zI q.1)) q.2 0 0) : ∀ (n : Nat) (l0 : Nat) (l1 : Int32) (s0 : Int32) (M : zM), f_FR_head_80 (zOD X) n l0 l1 s0 M = some q → zW X 0 0 80 [some (zP l0), some (zI l1), none, none] [zI s0] M := by
  intro n l0 l1 s0 M h
  rw [f_FR_head_80] at h
  refine r_istore_n (lv' := [some (zP l0), some (zI l1), some (zI s0), none]) C (z_d dd_FR_head 44 rfl) (Nat.le_of_ble_eq_true rfl) rfl ?_
  refine r_aload_n C (z_d dd_FR_head 45 rfl) rfl ?_
  refine r_iload_n C (z_d dd_FR_head 46 rfl) rfl ?_
  refine r_iconst (v := (4 : Int32)) C (z_d dd_FR_head 47 rfl) (by decide) ?_
  refine r_iand C (z_d dd_FR_head 48 rfl) ?_
  refine r_if_eq C 92 (z_d dd_FR_head 49 rfl) (by decide) (fun c1 => ?_) (fun c1 => ?_)
  · have h := zift h c1
    refine r_iconst (v := (0 : Int32)) C (z_d dd_FR_head 52 rfl) (by decide) ?_
    exact s_FR_head_93 C hr E n l0 l1 s0 l0 (0 : Int32) M h
  · have h := ziff h c1
    refine r_iconst (v := (1 : Int32)) C (z_d dd_FR_head 50 rfl) (by decide) ?_
    refine r_goto C 93 (z_d dd_FR_head 51 rfl) (by decide) ?_
    exact s_FR_head_93 C hr E n l0 l1 s0 l0 (1 : Int32) M h
def f_FR_head_0 (O : zO) (n : Nat) (l0 : Nat) (M : zM) : Option (Int32 × zM) :=
  if z_k M l0 = 5 then
  (F_FR_lacks O n l0 (1 : Int64) M).bind fun q2 =>
  if q2.1 = 0 then
  if z_k q2.2 l0 = 5 then
  if z_k q2.2 (z_p q2.2 l0 0) = 9 then
  (F_Row_at O n (z_p q2.2 l0 0) (z_i q2.2 l0 6) q2.2).bind fun q6 =>
  if z_k q6.2 l0 = 5 then
  if z_k q6.2 (z_p q6.2 l0 2) = 8 then
  zlet (w_i q6.2 (z_p q6.2 l0 2) 2 ((z_i q6.2 (z_p q6.2 l0 2) 2) + (1 : Int32))) fun M10 =>
  if (q6.1 &&& (8 : Int32)) = 0 then
  zlet (w_i M10 l0 6 ((z_i M10 l0 6) + (1 : Int32))) fun M14 =>
  if (q6.1 &&& (32 : Int32)) = 0 then
  f_FR_head_80 O n l0 q6.1 (0 : Int32) M14
  else
  f_FR_head_80 O n l0 q6.1 (1 : Int32) M14
  else
  if z_k M10 (z_p M10 l0 2) = 8 then
  (F_Rep_fail O n (z_p M10 l0 2) (3 : Int32) (z_i M10 l0 6) M10).bind fun q20 =>
  if q20.1 = 0 ∨ q20.1 = 1 then
  some (q20.1, q20.2)
  else none
  else none
  else none
  else none
  else none
  else none
  else
  if z_k q2.2 l0 = 5 then
  (F_FR_endsWithin O n l0 q2.2).bind fun q25 =>
  if q25.1 = 0 ∨ q25.1 = 1 then
  some (q25.1, q25.2)
  else none
  else none
  else none
set_option maxRecDepth 100000 in
set_option maxHeartbeats 4000000 in
theorem s_FR_head_0 {X : zX} {q : Int32 × zM} (C : zC X zR4 prog_5_method_8_code 4 { frames := 3, cells := 0, slots := 0, locals := 65 }) (hr : zRt X (some .boolean)) (E : zE X (some (zI q.1)) q.2 0 0) : ∀ (n : Nat) (l0 : Nat) (M : zM), f_FR_head_0 (zOD X) n l0 M = some q → zW X 0 0 0 [some (zP l0), none, none, none] [] M := by
  intro n l0 M h
  rw [f_FR_head_0] at h
  refine r_aload_n C (z_d dd_FR_head 0 rfl) rfl ?_
  refine r_lconst (v := (1 : Int64)) C (z_d dd_FR_head 1 rfl) (by decide) ?_
  obtain ⟨h1, h⟩ := zif h
  obtain ⟨q2, c3, h⟩ := zbd h
  refine r_invV (as := [zL (1 : Int64)]) C 4 (S_FR_lacks c3) (z_d dd_FR_head 2 rfl) ok_FR_lacks iv_FR_lacks se_FR_lacks ml_FR_86 rfl rfl h1 rfl rfl rfl (Nat.le_of_ble_eq_true rfl) ⟨(Nat.le_of_ble_eq_true rfl), (Nat.le_of_ble_eq_true rfl)⟩ ⟨(Nat.le_of_ble_eq_true rfl), (Nat.le_of_ble_eq_true rfl)⟩ ?_
  refine r_if_eq C 13 (z_d dd_FR_head 3 rfl) (by decide) (fun c28 => ?_) (fun c28 => ?_)
  · have h := zift h c28
    refine r_aload_n C (z_d dd_FR_head 7 rfl) rfl ?_
    obtain ⟨h4, h⟩ := zif h
    refine r_getP C (z_d dd_FR_head 8 rfl) lk_FR_9 rfl h4 rfl ?_
    refine r_aload_n C (z_d dd_FR_head 9 rfl) rfl ?_
    refine r_getI C (z_d dd_FR_head 10 rfl) lk_FR_45 rfl h4 rfl ?_
    obtain ⟨h5, h⟩ := zif h
    obtain ⟨q6, c7, h⟩ := zbd h
    refine r_invV (as := [zI (z_i q2.2 l0 6)]) C 8 (S_Row_at c7) (z_d dd_FR_head 11 rfl) ok_Row_at iv_Row_at se_Row_at ml_FR_114 rfl rfl h5 rfl rfl rfl (Nat.le_of_ble_eq_true rfl) ⟨(Nat.le_of_ble_eq_true rfl), (Nat.le_of_ble_eq_true rfl)⟩ ⟨(Nat.le_of_ble_eq_true rfl), (Nat.le_of_ble_eq_true rfl)⟩ ?_
    refine r_istore_n (lv' := [some (zP l0), some (zI q6.1), none, none]) C (z_d dd_FR_head 12 rfl) (Nat.le_of_ble_eq_true rfl) rfl ?_
    refine r_aload_n C (z_d dd_FR_head 13 rfl) rfl ?_
    obtain ⟨h8, h⟩ := zif h
    refine r_getP C (z_d dd_FR_head 14 rfl) lk_FR_19 rfl h8 rfl ?_
    refine r_dupP C (z_d dd_FR_head 15 rfl) ?_
    obtain ⟨h9, h⟩ := zif h
    refine r_getI C (z_d dd_FR_head 16 rfl) lk_FR_118 rfl h9 rfl ?_
    refine r_iconst (v := (1 : Int32)) C (z_d dd_FR_head 17 rfl) (by decide) ?_
    refine r_iadd C (z_d dd_FR_head 18 rfl) ?_
    obtain ⟨M10, e11, h⟩ := zlet_ex h
    have h12 := k_i e11 h8
    have h13 := k_i e11 h9
    refine r_putI C (z_d dd_FR_head 19 rfl) lp_FR_118 rfl h9 e11 ?_
    refine r_iload_n C (z_d dd_FR_head 20 rfl) rfl ?_
    refine r_bipush (v := (8 : Int32)) C (z_d dd_FR_head 21 rfl) (by decide) ?_
    refine r_iand C (z_d dd_FR_head 22 rfl) ?_
    refine r_if_eq C 58 (z_d dd_FR_head 23 rfl) (by decide) (fun c23 => ?_) (fun c23 => ?_)
    · have h := zift h c23
      refine r_aload_n C (z_d dd_FR_head 31 rfl) rfl ?_
      refine r_dupP C (z_d dd_FR_head 32 rfl) ?_
      refine r_getI C (z_d dd_FR_head 33 rfl) lk_FR_45 rfl h12 rfl ?_
      refine r_iconst (v := (1 : Int32)) C (z_d dd_FR_head 34 rfl) (by decide) ?_
      refine r_iadd C (z_d dd_FR_head 35 rfl) ?_
      obtain ⟨M14, e15, h⟩ := zlet_ex h
      have h16 := k_i e15 h12
      have h17 := k_i e15 h13
      refine r_putI C (z_d dd_FR_head 36 rfl) lp_FR_45 rfl h12 e15 ?_
      refine r_iload_n C (z_d dd_FR_head 37 rfl) rfl ?_
      refine r_bipush (v := (32 : Int32)) C (z_d dd_FR_head 38 rfl) (by decide) ?_
      refine r_iand C (z_d dd_FR_head 39 rfl) ?_
      refine r_if_eq C 79 (z_d dd_FR_head 40 rfl) (by decide) (fun c18 => ?_) (fun c18 => ?_)
      · have h := zift h c18
        refine r_iconst (v := (0 : Int32)) C (z_d dd_FR_head 43 rfl) (by decide) ?_
        exact s_FR_head_80 C hr E n l0 q6.1 (0 : Int32) M14 h
      · have h := ziff h c18
        refine r_iconst (v := (1 : Int32)) C (z_d dd_FR_head 41 rfl) (by decide) ?_
        refine r_goto C 80 (z_d dd_FR_head 42 rfl) (by decide) ?_
        exact s_FR_head_80 C hr E n l0 q6.1 (1 : Int32) M14 h
    · have h := ziff h c23
      refine r_aload_n C (z_d dd_FR_head 24 rfl) rfl ?_
      refine r_getP C (z_d dd_FR_head 25 rfl) lk_FR_19 rfl h12 rfl ?_
      refine r_iconst (v := (3 : Int32)) C (z_d dd_FR_head 26 rfl) (by decide) ?_
      refine r_aload_n C (z_d dd_FR_head 27 rfl) rfl ?_
      refine r_getI C (z_d dd_FR_head 28 rfl) lk_FR_45 rfl h12 rfl ?_
      obtain ⟨h19, h⟩ := zif h
      obtain ⟨q20, c21, h⟩ := zbd h
      refine r_invV (as := [zI (3 : Int32), zI (z_i M10 l0 6)]) C 7 (S_Rep_fail c21) (z_d dd_FR_head 29 rfl) ok_Rep_fail iv_Rep_fail se_Rep_fail ml_FR_110 rfl rfl h19 rfl rfl rfl (Nat.le_of_ble_eq_true rfl) ⟨(Nat.le_of_ble_eq_true rfl), (Nat.le_of_ble_eq_true rfl)⟩ ⟨(Nat.le_of_ble_eq_true rfl), (Nat.le_of_ble_eq_true rfl)⟩ ?_
      obtain ⟨h22, h⟩ := zif h
      obtain rfl := z_res h
      exact r_iretZ C E hr (z_d dd_FR_head 30 rfl) h22 (Nat.le_of_ble_eq_true rfl) (Nat.le_of_ble_eq_true rfl)
  · have h := ziff h c28
    refine r_aload_n C (z_d dd_FR_head 4 rfl) rfl ?_
    obtain ⟨h24, h⟩ := zif h
    obtain ⟨q25, c26, h⟩ := zbd h
    refine r_invV (as := []) C 4 (S_FR_endsWithin c26) (z_d dd_FR_head 5 rfl) ok_FR_endsWithin iv_FR_endsWithin se_FR_endsWithin ml_FR_90 rfl rfl h24 rfl rfl rfl (Nat.le_of_ble_eq_true rfl) ⟨(Nat.le_of_ble_eq_true rfl), (Nat.le_of_ble_eq_true rfl)⟩ ⟨(Nat.le_of_ble_eq_true rfl), (Nat.le_of_ble_eq_true rfl)⟩ ?_
    obtain ⟨h27, h⟩ := zif h
    obtain rfl := z_res h
    exact r_iretZ C E hr (z_d dd_FR_head 6 rfl) h27 (Nat.le_of_ble_eq_true rfl) (Nat.le_of_ble_eq_true rfl)
def F_FR_head (O : zO) (n : Nat) (l0 : Nat) (M : zM) : Option (Int32 × zM) := f_FR_head_0 O n l0 M
theorem S_FR_head {l : Launch} {D : zD} {n : Nat} {l0 : Nat} {M : zM} {q : Int32 × zM} (h : F_FR_head D.2.2.2.2 n l0 M = some q) : zMet l D mi_FR_head [zP l0] M (some (zI q.1)) q.2 :=
  z_met (by decide) (Nat.le_of_ble_eq_true rfl) (fun X C E hr hin hD hl => by
    subst hD
    exact s_FR_head_0 C hr E n l0 M h)
