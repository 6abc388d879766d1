def f_Lit_take_125 (O : zO) (n : Nat) (l0 : Nat) (l1 : Int32) (M : zM) : Option (Int32 × zM) :=
  if z_k M l0 = 7 then
  if z_k M (z_p M l0 1) = 8 then
  (F_Rep_fail O n (z_p M l0 1) (11 : Int32) l1 M).bind fun q3 =>
  if q3.1 = 0 ∨ q3.1 = 1 then
  some (q3.1, q3.2)
  else none
  else none
  else none
set_option maxRecDepth 100000 in
set_option maxHeartbeats 4000000 in
theorem s_Lit_take_125 {X : zX} {q : Int32 × zM} (C : zC X zR6 prog_7_method_5_code 5 { frames := 5, cells := 0, slots := 0, locals := 123 }) (hr : zRt X (some .boolean)) (E : zE X (some (zI q.1)) q.2 0 0) : ∀ (n : Nat) (l0 : Nat) (l1 : Int32) (M : zM), f_Lit_take_125 (zOD X) n l0 l1 M = some q → zW X 0 0 125 [some (zP l0), some (zI l1), none, none, none] [] M := by
  intro n l0 l1 M h
  rw [f_Lit_take_125] at h
  refine r_aload_n C (z_d dd_Lit_take 68 rfl) rfl ?_
  obtain ⟨h1, h⟩ := zif h
  refine r_getP C (z_d dd_Lit_take 69 rfl) lk_Lit_15 rfl h1 rfl ?_
  refine r_bipush (v := (11 : Int32)) C (z_d dd_Lit_take 70 rfl) (by decide) ?_
  refine r_iload_n C (z_d dd_Lit_take 71 rfl) rfl ?_
  obtain ⟨h2, h⟩ := zif h
  obtain ⟨q3, c4, h⟩ := zbd h
  refine r_invV (as := [zI (11 : Int32), zI l1]) C 7 (S_Rep_fail c4) (z_d dd_Lit_take 72 rfl) ok_Rep_fail iv_Rep_fail se_Rep_fail ml_Lit_81 rfl rfl h2 rfl rfl rfl (Nat.le_of_ble_eq_true rfl) ⟨(Nat.le_of_ble_eq_true rfl), (Nat.le_of_ble_eq_true rfl)⟩ ⟨(Nat.le_of_ble_eq_true rfl), (Nat.le_of_ble_eq_true rfl)⟩ ?_
  obtain ⟨h5, h⟩ := zif h
  obtain rfl := z_res h
  exact r_iretZ C E hr (z_d dd_Lit_take 73 rfl) h5 (Nat.le_of_ble_eq_true rfl) (Nat.le_of_ble_eq_true rfl)
def f_Lit_take_293 (O : zO) (n : Nat) (s0 : Int32) (M : zM) : Option (Int32 × zM) :=
  if s0 = 0 ∨ s0 = 1 then
  some (s0, M)
  else none
set_option maxRecDepth 100000 in
set_option maxHeartbeats 4000000 in
theorem s_Lit_take_293 {X : zX} {q : Int32 × zM} (C : zC X zR6 prog_7_method_5_code 5 { frames := 5, cells := 0, slots := 0, locals := 123 }) (hr : zRt X (some .boolean)) (E : zE X (some (zI q.1)) q.2 0 0) : ∀ (n : Nat) (s0 : Int32) (M : zM), f_Lit_take_293 (zOD X) n s0 M = some q → zW X 0 0 293 [none, none, none, none, none] [zI s0] M := by
  intro n s0 M h
  rw [f_Lit_take_293] at h
  obtain ⟨h1, h⟩ := zif h
  obtain rfl := z_res h
  exact r_iretZ C E hr (z_d dd_Lit_take 153 rfl) h1 (Nat.le_of_ble_eq_true rfl) (Nat.le_of_ble_eq_true rfl)
def f_Lit_take_263 (O : zO) (n : Nat) (l0 : Nat) (M : zM) : Option (Int32 × zM) :=
  if z_k M l0 = 7 then
  if (z_i M l0 11) = 0 then
  (F_Lit_takeStream O n l0 (z_i M l0 12) (z_i M l0 9) (z_i M l0 7) M).bind fun q4 =>
  f_Lit_take_293 O n q4.1 q4.2
  else
  (F_Lit_takeFour O n l0 M).bind fun q2 =>
  f_Lit_take_293 O n q2.1 q2.2
  else none
set_option maxRecDepth 100000 in
set_option maxHeartbeats 4000000 in
theorem s_Lit_take_263 {X : zX} {q : Int32 × zM} (C : zC X zR6 prog_7_method_5_code 5 { frames := 5, cells := 0, slots := 0, locals := 123 }) (hr : zRt X (some .boolean)) (E : zE X (some (zI q.1)) q.2 0 0) : ∀ (n : Nat) (l0 : Nat) (M : zM), f_Lit_take_263 (zOD X) n l0 M = some q → zW X 0 0 263 [some (zP l0), none, none, none, none] [] M := by
  intro n l0 M h
  rw [f_Lit_take_263] at h
  refine r_aload_n C (z_d dd_Lit_take 139 rfl) rfl ?_
  obtain ⟨h1, h⟩ := zif h
  refine r_getI C (z_d dd_Lit_take 140 rfl) lk_Lit_62 rfl h1 rfl ?_
  refine r_if_ne C 289 (z_d dd_Lit_take 141 rfl) (by decide) (fun c6 => ?_) (fun c6 => ?_)
  · have h := ziff h c6
    refine r_aload_n C (z_d dd_Lit_take 151 rfl) rfl ?_
    obtain ⟨q2, c3, h⟩ := zbd h
    refine r_invV (as := []) C 6 (S_Lit_takeFour c3) (z_d dd_Lit_take 152 rfl) ok_Lit_takeFour iv_Lit_takeFour se_Lit_takeFour ml_Lit_112 rfl rfl h1 rfl rfl rfl (Nat.le_of_ble_eq_true rfl) ⟨(Nat.le_of_ble_eq_true rfl), (Nat.le_of_ble_eq_true rfl)⟩ ⟨(Nat.le_of_ble_eq_true rfl), (Nat.le_of_ble_eq_true rfl)⟩ ?_
    refine r_mk [false, false, false, false, false] ?_
    exact s_Lit_take_293 C hr E n q2.1 q2.2 h
  · have h := zift h c6
    refine r_aload_n C (z_d dd_Lit_take 142 rfl) rfl ?_
    refine r_aload_n C (z_d dd_Lit_take 143 rfl) rfl ?_
    refine r_getI C (z_d dd_Lit_take 144 rfl) lk_Lit_65 rfl h1 rfl ?_
    refine r_aload_n C (z_d dd_Lit_take 145 rfl) rfl ?_
    refine r_getI C (z_d dd_Lit_take 146 rfl) lk_Lit_56 rfl h1 rfl ?_
    refine r_aload_n C (z_d dd_Lit_take 147 rfl) rfl ?_
    refine r_getI C (z_d dd_Lit_take 148 rfl) lk_Lit_49 rfl h1 rfl ?_
    obtain ⟨q4, c5, h⟩ := zbd h
    refine r_invV (as := [zI (z_i M l0 12), zI (z_i M l0 9), zI (z_i M l0 7)]) C 6 (S_Lit_takeStream c5) (z_d dd_Lit_take 149 rfl) ok_Lit_takeStream iv_Lit_takeStream se_Lit_takeStream ml_Lit_108 rfl rfl h1 rfl rfl rfl (Nat.le_of_ble_eq_true rfl) ⟨(Nat.le_of_ble_eq_true rfl), (Nat.le_of_ble_eq_true rfl)⟩ ⟨(Nat.le_of_ble_eq_true rfl), (Nat.le_of_ble_eq_true rfl)⟩ ?_
    refine r_goto C 293 (z_d dd_Lit_take 150 rfl) (by decide) ?_
    refine r_mk [false, false, false, false, false] ?_
    exact s_Lit_take_293 C hr E n q4.1 q4.2 h
def f_Lit_take_162 (O : zO) (n : Nat) (l0 : Nat) (l2 : Int32) (M : zM) : Option (Int32 × zM) :=
  if z_k M l0 = 7 then
  if (z_i M l0 9) ≤ l2 then
  if (2 : Int32) ≤ (z_i M l0 10) then
  if (z_i M l0 10) = (2 : Int32) then
  if z_k M (z_p M l0 3) = 2 then
  (F_Codes_tell O n (z_p M l0 3) (z_p M l0 0) (z_i M l0 12) (z_i M l0 9) M).bind fun q3 =>
  if q3.1 = (-1 : Int32) then
  if z_k q3.2 l0 = 7 then
  if z_k q3.2 (z_p q3.2 l0 1) = 8 then
  (F_Rep_fail O n (z_p q3.2 l0 1) (12 : Int32) (z_i q3.2 l0 12) q3.2).bind fun q17 =>
  if q17.1 = 0 ∨ q17.1 = 1 then
  some (q17.1, q17.2)
  else none
  else none
  else none
  else
  if z_k q3.2 l0 = 7 then
  zlet (w_p q3.2 l0 5 (z_p q3.2 l0 3)) fun M6 =>
  zlet (w_i M6 l0 6 (1 : Int32)) fun M9 =>
  zlet (w_i M9 l0 12 q3.1) fun M12 =>
  f_Lit_take_263 O n l0 M12
  else none
  else none
  else
  f_Lit_take_263 O n l0 M
  else
  (F_Lit_takePlain O n l0 M).bind fun q22 =>
  some ((1 : Int32), q22.2)
  else
  if z_k M (z_p M l0 1) = 8 then
  (F_Rep_fail O n (z_p M l0 1) (10 : Int32) l2 M).bind fun q26 =>
  if q26.1 = 0 ∨ q26.1 = 1 then
  some (q26.1, q26.2)
  else none
  else none
  else none
set_option maxRecDepth 100000 in
set_option maxHeartbeats 4000000 in
theorem s_Lit_take_162 {X : zX} {q : Int32 × zM} (C : zC X zR6 prog_7_method_5_code 5 { frames := 5, cells := 0, slots := 0, locals := 123 }) (hr : zRt X (some .boolean)) (E : zE X (some (zI q.1)) q.2 0 0) : ∀ (n : Nat) (l0 : Nat) (l2 : Int32) (M : zM), f_Lit_take_162 (zOD X) n l0 l2 M = some q → zW X 0 0 162 [some (zP l0), none, some (zI l2), none, none] [] M := by
  intro n l0 l2 M h
  rw [f_Lit_take_162] at h
  refine r_aload_n C (z_d dd_Lit_take 87 rfl) rfl ?_
  obtain ⟨h1, h⟩ := zif h
  refine r_getI C (z_d dd_Lit_take 88 rfl) lk_Lit_56 rfl h1 rfl ?_
  refine r_iload_n C (z_d dd_Lit_take 89 rfl) rfl ?_
  refine r_icmp_le C 181 (z_d dd_Lit_take 90 rfl) (by decide) (fun c29 => ?_) (fun c29 => ?_)
  · have h := zift h c29
    refine r_aload_n C (z_d dd_Lit_take 97 rfl) rfl ?_
    refine r_getI C (z_d dd_Lit_take 98 rfl) lk_Lit_59 rfl h1 rfl ?_
    refine r_iconst (v := (2 : Int32)) C (z_d dd_Lit_take 99 rfl) (by decide) ?_
    refine r_icmp_ge C 195 (z_d dd_Lit_take 100 rfl) (by decide) (fun c24 => ?_) (fun c24 => ?_)
    · have h := zift h c24
      refine r_aload_n C (z_d dd_Lit_take 105 rfl) rfl ?_
      refine r_getI C (z_d dd_Lit_take 106 rfl) lk_Lit_59 rfl h1 rfl ?_
      refine r_iconst (v := (2 : Int32)) C (z_d dd_Lit_take 107 rfl) (by decide) ?_
      refine r_icmp_ne C 263 (z_d dd_Lit_take 108 rfl) (by decide) (fun c21 => ?_) (fun c21 => ?_)
      · have h := ziff h c21
        refine r_mk [true, false, false, false, false] ?_
        exact s_Lit_take_263 C hr E n l0 M h
      · have h := zift h c21
        refine r_aload_n C (z_d dd_Lit_take 109 rfl) rfl ?_
        refine r_getP C (z_d dd_Lit_take 110 rfl) lk_Lit_29 rfl h1 rfl ?_
        refine r_aload_n C (z_d dd_Lit_take 111 rfl) rfl ?_
        refine r_getP C (z_d dd_Lit_take 112 rfl) lk_Lit_9 rfl h1 rfl ?_
        refine r_aload_n C (z_d dd_Lit_take 113 rfl) rfl ?_
        refine r_getI C (z_d dd_Lit_take 114 rfl) lk_Lit_65 rfl h1 rfl ?_
        refine r_aload_n C (z_d dd_Lit_take 115 rfl) rfl ?_
        refine r_getI C (z_d dd_Lit_take 116 rfl) lk_Lit_56 rfl h1 rfl ?_
        obtain ⟨h2, h⟩ := zif h
        obtain ⟨q3, c4, h⟩ := zbd h
        refine r_invV (as := [zP (z_p M l0 0), zI (z_i M l0 12), zI (z_i M l0 9)]) C 1 (S_Codes_tell c4) (z_d dd_Lit_take 117 rfl) ok_Codes_tell iv_Codes_tell se_Codes_tell ml_Lit_104 rfl rfl h2 rfl rfl rfl (Nat.le_of_ble_eq_true rfl) ⟨(Nat.le_of_ble_eq_true rfl), (Nat.le_of_ble_eq_true rfl)⟩ ⟨(Nat.le_of_ble_eq_true rfl), (Nat.le_of_ble_eq_true rfl)⟩ ?_
        refine r_istore (lv' := [some (zP l0), none, some (zI l2), none, some (zI q3.1)]) C (z_d dd_Lit_take 118 rfl) (Nat.le_of_ble_eq_true rfl) rfl ?_
        refine r_iload C (z_d dd_Lit_take 119 rfl) rfl ?_
        refine r_iconst (v := (-1 : Int32)) C (z_d dd_Lit_take 120 rfl) (by decide) ?_
        refine r_icmp_ne C 244 (z_d dd_Lit_take 121 rfl) (by decide) (fun c20 => ?_) (fun c20 => ?_)
        · have h := ziff h c20
          refine r_aload_n C (z_d dd_Lit_take 129 rfl) rfl ?_
          refine r_aload_n C (z_d dd_Lit_take 130 rfl) rfl ?_
          obtain ⟨h5, h⟩ := zif h
          refine r_getP C (z_d dd_Lit_take 131 rfl) lk_Lit_29 rfl h5 rfl ?_
          obtain ⟨M6, e7, h⟩ := zlet_ex h
          have h8 := k_p e7 h5
          refine r_putP C (z_d dd_Lit_take 132 rfl) lp_Lit_42 rfl h5 e7 ?_
          refine r_aload_n C (z_d dd_Lit_take 133 rfl) rfl ?_
          refine r_iconst (v := (1 : Int32)) C (z_d dd_Lit_take 134 rfl) (by decide) ?_
          obtain ⟨M9, e10, h⟩ := zlet_ex h
          have h11 := k_i e10 h8
          refine r_putZ C (z_d dd_Lit_take 135 rfl) lp_Lit_45 rfl (by decide) h8 e10 ?_
          refine r_aload_n C (z_d dd_Lit_take 136 rfl) rfl ?_
          refine r_iload C (z_d dd_Lit_take 137 rfl) rfl ?_
          obtain ⟨M12, e13, h⟩ := zlet_ex h
          have h14 := k_i e13 h11
          refine r_putI C (z_d dd_Lit_take 138 rfl) lp_Lit_65 rfl h11 e13 ?_
          refine r_mk [true, false, false, false, false] ?_
          exact s_Lit_take_263 C hr E n l0 M12 h
        · have h := zift h c20
          refine r_aload_n C (z_d dd_Lit_take 122 rfl) rfl ?_
          obtain ⟨h15, h⟩ := zif h
          refine r_getP C (z_d dd_Lit_take 123 rfl) lk_Lit_15 rfl h15 rfl ?_
          refine r_bipush (v := (12 : Int32)) C (z_d dd_Lit_take 124 rfl) (by decide) ?_
          refine r_aload_n C (z_d dd_Lit_take 125 rfl) rfl ?_
          refine r_getI C (z_d dd_Lit_take 126 rfl) lk_Lit_65 rfl h15 rfl ?_
          obtain ⟨h16, h⟩ := zif h
          obtain ⟨q17, c18, h⟩ := zbd h
          refine r_invV (as := [zI (12 : Int32), zI (z_i q3.2 l0 12)]) C 7 (S_Rep_fail c18) (z_d dd_Lit_take 127 rfl) ok_Rep_fail iv_Rep_fail se_Rep_fail ml_Lit_81 rfl rfl h16 rfl rfl rfl (Nat.le_of_ble_eq_true rfl) ⟨(Nat.le_of_ble_eq_true rfl), (Nat.le_of_ble_eq_true rfl)⟩ ⟨(Nat.le_of_ble_eq_true rfl), (Nat.le_of_ble_eq_true rfl)⟩ ?_
          obtain ⟨h19, h⟩ := zif h
          obtain rfl := z_res h
          exact r_iretZ C E hr (z_d dd_Lit_take 128 rfl) h19 (Nat.le_of_ble_eq_true rfl) (Nat.le_of_ble_eq_true rfl)
    · have h := ziff h c24
      refine r_aload_n C (z_d dd_Lit_take 101 rfl) rfl ?_
      obtain ⟨q22, c23, h⟩ := zbd h
      refine r_invV (as := []) C 6 (S_Lit_takePlain c23) (z_d dd_Lit_take 102 rfl) ok_Lit_takePlain iv_Lit_takePlain se_Lit_takePlain ml_Lit_101 rfl rfl h1 rfl rfl rfl (Nat.le_of_ble_eq_true rfl) ⟨(Nat.le_of_ble_eq_true rfl), (Nat.le_of_ble_eq_true rfl)⟩ ⟨(Nat.le_of_ble_eq_true rfl), (Nat.le_of_ble_eq_true rfl)⟩ ?_
      refine r_iconst (v := (1 : Int32)) C (z_d dd_Lit_take 103 rfl) (by decide) ?_
      obtain rfl := z_res h
      exact r_iretZ C E hr (z_d dd_Lit_take 104 rfl) (by decide) (Nat.le_of_ble_eq_true rfl) (Nat.le_of_ble_eq_true rfl)
  · have h := ziff h c29
    refine r_aload_n C (z_d dd_Lit_take 91 rfl) rfl ?_
    refine r_getP C (z_d dd_Lit_take 92 rfl) lk_Lit_15 rfl h1 rfl ?_
    refine r_bipush (v := (10 : Int32)) C (z_d dd_Lit_take 93 rfl) (by decide) ?_
    refine r_iload_n C (z_d dd_Lit_take 94 rfl) rfl ?_
    obtain ⟨h25, h⟩ := zif h
    obtain ⟨q26, c27, h⟩ := zbd h
    refine r_invV (as := [zI (10 : Int32), zI l2]) C 7 (S_Rep_fail c27) (z_d dd_Lit_take 95 rfl) ok_Rep_fail iv_Rep_fail se_Rep_fail ml_Lit_81 rfl rfl h25 rfl rfl rfl (Nat.le_of_ble_eq_true rfl) ⟨(Nat.le_of_ble_eq_true rfl), (Nat.le_of_ble_eq_true rfl)⟩ ⟨(Nat.le_of_ble_eq_true rfl), (Nat.le_of_ble_eq_true rfl)⟩ ?_
    obtain ⟨h28, h⟩ := zif h
    obtain rfl := z_res h
    exact r_iretZ C E hr (z_d dd_Lit_take 96 rfl) h28 (Nat.le_of_ble_eq_true rfl) (Nat.le_of_ble_eq_true rfl)
def f_Lit_take_136 (O : zO) (n : Nat) (l0 : Nat) (l1 : Int32) (l2 : Int32) (M : zM) : Option (Int32 × zM) :=
  if z_k M l0 = 7 then
  if (z_i M l0 10) = (3 : Int32) then
  if (z_i M l0 6) = 0 then
  if z_k M (z_p M l0 1) = 8 then
  (F_Rep_fail O n (z_p M l0 1) (13 : Int32) l1 M).bind fun q3 =>
  if q3.1 = 0 ∨ q3.1 = 1 then
  some (q3.1, q3.2)
  else none
  else none
  else
  f_Lit_take_162 O n l0 l2 M
  else
  f_Lit_take_162 O n l0 l2 M
  else none
set_option maxRecDepth 100000 in
set_option maxHeartbeats 4000000 in
theorem s_Lit_take_136 {X : zX} {q : Int32 × zM} (C : zC X zR6 prog_7_method_5_code 5 { frames := 5, cells := 0, slots := 0, locals := 123 }) (hr : zRt X (some .boolean)) (E : zE X (some (zI q.1)) q.2 0 0) : ∀ (n : Nat) (l0 : Nat) (l1 : Int32) (l2 : Int32) (M : zM), f_Lit_take_136 (zOD X) n l0 l1 l2 M = some q → zW X 0 0 136 [some (zP l0), some (zI l1), some (zI l2), none, none] [] M := by
  intro n l0 l1 l2 M h
  rw [f_Lit_take_136] at h
  refine r_aload_n C (z_d dd_Lit_take 74 rfl) rfl ?_
  obtain ⟨h1, h⟩ := zif h
  refine r_getI C (z_d dd_Lit_take 75 rfl) lk_Lit_59 rfl h1 rfl ?_
  refine r_iconst (v := (3 : Int32)) C (z_d dd_Lit_take 76 rfl) (by decide) ?_
  refine r_icmp_ne C 162 (z_d dd_Lit_take 77 rfl) (by decide) (fun c7 => ?_) (fun c7 => ?_)
  · have h := ziff h c7
    refine r_mk [true, false, true, false, false] ?_
    exact s_Lit_take_162 C hr E n l0 l2 M h
  · have h := zift h c7
    refine r_aload_n C (z_d dd_Lit_take 78 rfl) rfl ?_
    refine r_getI C (z_d dd_Lit_take 79 rfl) lk_Lit_45 rfl h1 rfl ?_
    refine r_if_ne C 162 (z_d dd_Lit_take 80 rfl) (by decide) (fun c6 => ?_) (fun c6 => ?_)
    · have h := ziff h c6
      refine r_mk [true, false, true, false, false] ?_
      exact s_Lit_take_162 C hr E n l0 l2 M h
    · have h := zift h c6
      refine r_aload_n C (z_d dd_Lit_take 81 rfl) rfl ?_
      refine r_getP C (z_d dd_Lit_take 82 rfl) lk_Lit_15 rfl h1 rfl ?_
      refine r_bipush (v := (13 : Int32)) C (z_d dd_Lit_take 83 rfl) (by decide) ?_
      refine r_iload_n C (z_d dd_Lit_take 84 rfl) rfl ?_
      obtain ⟨h2, h⟩ := zif h
      obtain ⟨q3, c4, h⟩ := zbd h
      refine r_invV (as := [zI (13 : Int32), zI l1]) C 7 (S_Rep_fail c4) (z_d dd_Lit_take 85 rfl) ok_Rep_fail iv_Rep_fail se_Rep_fail ml_Lit_81 rfl rfl h2 rfl rfl rfl (Nat.le_of_ble_eq_true rfl) ⟨(Nat.le_of_ble_eq_true rfl), (Nat.le_of_ble_eq_true rfl)⟩ ⟨(Nat.le_of_ble_eq_true rfl), (Nat.le_of_ble_eq_true rfl)⟩ ?_
      obtain ⟨h5, h⟩ := zif h
      obtain rfl := z_res h
      exact r_iretZ C E hr (z_d dd_Lit_take 86 rfl) h5 (Nat.le_of_ble_eq_true rfl) (Nat.le_of_ble_eq_true rfl)
def f_Lit_take_89 (O : zO) (n : Nat) (l0 : Nat) (l1 : Int32) (l2 : Int32) (l3 : Int32) (M : zM) : Option (Int32 × zM) :=
  if z_k M l0 = 7 then
  if l3 < (z_i M l0 7) then
  f_Lit_take_125 O n l0 l1 M
  else
  if (z_i M l0 10) ≤ (1 : Int32) then
  f_Lit_take_136 O n l0 l1 l2 M
  else
  if (z_i M l0 11) ≤ 0 then
  f_Lit_take_136 O n l0 l1 l2 M
  else
  (F_Lit_quarter O n l0 M).bind fun q2 =>
  if ((3 : Int32) * q2.1) ≤ (z_i M l0 7) then
  f_Lit_take_136 O n l0 l1 l2 q2.2
  else
  f_Lit_take_125 O n l0 l1 q2.2
  else none
set_option maxRecDepth 100000 in
set_option maxHeartbeats 4000000 in
theorem s_Lit_take_89 {X : zX} {q : Int32 × zM} (C : zC X zR6 prog_7_method_5_code 5 { frames := 5, cells := 0, slots := 0, locals := 123 }) (hr : zRt X (some .boolean)) (E : zE X (some (zI q.1)) q.2 0 0) : ∀ (n : Nat) (l0 : Nat) (l1 : Int32) (l2 : Int32) (l3 : Int32) (M : zM), f_Lit_take_89 (zOD X) n l0 l1 l2 l3 M = some q → zW X 0 0 89 [some (zP l0), some (zI l1), some (zI l2), some (zI l3), none] [] M := by
  intro n l0 l1 l2 l3 M h
  rw [f_Lit_take_89] at h
  refine r_aload_n C (z_d dd_Lit_take 50 rfl) rfl ?_
  obtain ⟨h1, h⟩ := zif h
  refine r_getI C (z_d dd_Lit_take 51 rfl) lk_Lit_49 rfl h1 rfl ?_
  refine r_iload_n C (z_d dd_Lit_take 52 rfl) rfl ?_
  refine r_icmp_gt C 125 (z_d dd_Lit_take 53 rfl) (by decide) (fun c7 => ?_) (fun c7 => ?_)
  · have h := zift h c7
    refine r_mk [true, true, false, false, false] ?_
    exact s_Lit_take_125 C hr E n l0 l1 M h
  · have h := ziff h c7
    refine r_aload_n C (z_d dd_Lit_take 54 rfl) rfl ?_
    refine r_getI C (z_d dd_Lit_take 55 rfl) lk_Lit_59 rfl h1 rfl ?_
    refine r_iconst (v := (1 : Int32)) C (z_d dd_Lit_take 56 rfl) (by decide) ?_
    refine r_icmp_le C 136 (z_d dd_Lit_take 57 rfl) (by decide) (fun c6 => ?_) (fun c6 => ?_)
    · have h := zift h c6
      refine r_mk [true, true, true, false, false] ?_
      exact s_Lit_take_136 C hr E n l0 l1 l2 M h
    · have h := ziff h c6
      refine r_aload_n C (z_d dd_Lit_take 58 rfl) rfl ?_
      refine r_getI C (z_d dd_Lit_take 59 rfl) lk_Lit_62 rfl h1 rfl ?_
      refine r_if_le C 136 (z_d dd_Lit_take 60 rfl) (by decide) (fun c5 => ?_) (fun c5 => ?_)
      · have h := zift h c5
        refine r_mk [true, true, true, false, false] ?_
        exact s_Lit_take_136 C hr E n l0 l1 l2 M h
      · have h := ziff h c5
        refine r_aload_n C (z_d dd_Lit_take 61 rfl) rfl ?_
        refine r_getI C (z_d dd_Lit_take 62 rfl) lk_Lit_49 rfl h1 rfl ?_
        refine r_iconst (v := (3 : Int32)) C (z_d dd_Lit_take 63 rfl) (by decide) ?_
        refine r_aload_n C (z_d dd_Lit_take 64 rfl) rfl ?_
        obtain ⟨q2, c3, h⟩ := zbd h
        refine r_invV (as := []) C 6 (S_Lit_quarter c3) (z_d dd_Lit_take 65 rfl) ok_Lit_quarter iv_Lit_quarter se_Lit_quarter ml_Lit_97 rfl rfl h1 rfl rfl rfl (Nat.le_of_ble_eq_true rfl) ⟨(Nat.le_of_ble_eq_true rfl), (Nat.le_of_ble_eq_true rfl)⟩ ⟨(Nat.le_of_ble_eq_true rfl), (Nat.le_of_ble_eq_true rfl)⟩ ?_
        refine r_imul C (z_d dd_Lit_take 66 rfl) ?_
        refine r_icmp_ge C 136 (z_d dd_Lit_take 67 rfl) (by decide) (fun c4 => ?_) (fun c4 => ?_)
        · have h := zift h c4
          refine r_mk [true, true, true, false, false] ?_
          exact s_Lit_take_136 C hr E n l0 l1 l2 q2.2 h
        · have h := ziff h c4
          refine r_mk [true, true, false, false, false] ?_
          exact s_Lit_take_125 C hr E n l0 l1 q2.2 h
def f_Lit_take_87 (O : zO) (n : Nat) (M : zM) : Option (Int32 × zM) :=
  some ((0 : Int32), M)
set_option maxRecDepth 100000 in
set_option maxHeartbeats 4000000 in
theorem s_Lit_take_87 {X : zX} {q : Int32 × zM} (C : zC X zR6 prog_7_method_5_code 5 { frames := 5, cells := 0, slots := 0, locals := 123 }) (hr : zRt X (some .boolean)) (E : zE X (some (zI q.1)) q.2 0 0) : ∀ (n : Nat) (M : zM), f_Lit_take_87 (zOD X) n M = some q → zW X 0 0 87 [none, none, none, none, none] [] M := by
  intro n M h
  rw [f_Lit_take_87] at h
  refine r_iconst (v := (0 : Int32)) C (z_d dd_Lit_take 48 rfl) (by decide) ?_
  obtain rfl := z_res h
  exact r_iretZ C E hr (z_d dd_Lit_take 49 rfl) (by decide) (Nat.le_of_ble_eq_true rfl) (Nat.le_of_ble_eq_true rfl)
def f_Lit_take_0 (O : zO) (n : Nat) (l0 : Nat) (l1 : Int32) (l2 : Int32) (l3 : Int32) (M : zM) : Option (Int32 × zM) :=
  if z_k M l0 = 7 then
  if z_k M (z_p M l0 4) = 9 then
  (F_Row_empty O n (z_p M l0 4) M).bind fun q3 =>
  if z_k q3.2 l0 = 7 then
  zlet (w_i q3.2 l0 8 (0 : Int32)) fun M6 =>
  if l1 < l2 then
  if z_k M6 (z_p M6 l0 0) = 9 then
  (F_Row_at O n (z_p M6 l0 0) l1 M6).bind fun q10 =>
  if z_k q10.2 l0 = 7 then
  zlet (w_i q10.2 l0 10 (q10.1 &&& (3 : Int32))) fun M13 =>
  if z_k M13 (z_p M13 l0 0) = 9 then
  (F_Row_at O n (z_p M13 l0 0) l1 M13).bind fun q17 =>
  if z_k q17.2 l0 = 7 then
  zlet (w_i q17.2 l0 11 ((q17.1 >>> ((2 : Int32) &&& 31)) &&& (3 : Int32))) fun M20 =>
  if (2 : Int32) ≤ (z_i M20 l0 10) then
  (F_Lit_codedHead O n l0 l1 l2 M20).bind fun q23 =>
  if q23.1 = 0 then
  f_Lit_take_87 O n q23.2
  else
  f_Lit_take_89 O n l0 l1 l2 l3 q23.2
  else
  (F_Lit_plainHead O n l0 l1 l2 M20).bind fun q26 =>
  if q26.1 = 0 then
  f_Lit_take_87 O n q26.2
  else
  f_Lit_take_89 O n l0 l1 l2 l3 q26.2
  else none
  else none
  else none
  else none
  else
  if z_k M6 (z_p M6 l0 1) = 8 then
  (F_Rep_fail O n (z_p M6 l0 1) (10 : Int32) l2 M6).bind fun q31 =>
  if q31.1 = 0 ∨ q31.1 = 1 then
  some (q31.1, q31.2)
  else none
  else none
  else none
  else none
  else none
set_option maxRecDepth 100000 in
set_option maxHeartbeats 4000000 in
theorem s_Lit_take_0 {X : zX} {q : Int32 × zM} (C : zC X zR6 prog_7_method_5_code 5 { frames := 5, cells := 0, slots := 0, locals := 123 }) (hr : zRt X (some .boolean)) (E : zE X (some (zI q.1)) q.2 0 0) : ∀ (n : Nat) (l0 : Nat) (l1 : Int32) (l2 : Int32) (l3 : Int32) (M : zM), f_Lit_take_0 (zOD X) n l0 l1 l2 l3 M = some q → zW X 0 0 0 [some (zP l0), some (zI l1), some (zI l2), some (zI l3), none] [] M := by
  intro n l0 l1 l2 l3 M h
  rw [f_Lit_take_0] at h
  refine r_aload_n C (z_d dd_Lit_take 0 rfl) rfl ?_
  obtain ⟨h1, h⟩ := zif h
  refine r_getP C (z_d dd_Lit_take 1 rfl) lk_Lit_39 rfl h1 rfl ?_
  obtain ⟨h2, h⟩ := zif h
  obtain ⟨q3, c4, h⟩ := zbd h
  refine r_invV (as := []) C 8 (S_Row_empty c4) (z_d dd_Lit_take 2 rfl) ok_Row_empty iv_Row_empty se_Row_empty ml_Lit_78 rfl rfl h2 rfl rfl rfl (Nat.le_of_ble_eq_true rfl) ⟨(Nat.le_of_ble_eq_true rfl), (Nat.le_of_ble_eq_true rfl)⟩ ⟨(Nat.le_of_ble_eq_true rfl), (Nat.le_of_ble_eq_true rfl)⟩ ?_
  refine r_aload_n C (z_d dd_Lit_take 3 rfl) rfl ?_
  refine r_iconst (v := (0 : Int32)) C (z_d dd_Lit_take 4 rfl) (by decide) ?_
  obtain ⟨h5, h⟩ := zif h
  obtain ⟨M6, e7, h⟩ := zlet_ex h
  have h8 := k_i e7 h5
  refine r_putI C (z_d dd_Lit_take 5 rfl) lp_Lit_53 rfl h5 e7 ?_
  refine r_iload_n C (z_d dd_Lit_take 6 rfl) rfl ?_
  refine r_iload_n C (z_d dd_Lit_take 7 rfl) rfl ?_
  refine r_icmp_lt C 28 (z_d dd_Lit_take 8 rfl) (by decide) (fun c34 => ?_) (fun c34 => ?_)
  · have h := zift h c34
    refine r_aload_n C (z_d dd_Lit_take 15 rfl) rfl ?_
    refine r_aload_n C (z_d dd_Lit_take 16 rfl) rfl ?_
    refine r_getP C (z_d dd_Lit_take 17 rfl) lk_Lit_9 rfl h8 rfl ?_
    refine r_iload_n C (z_d dd_Lit_take 18 rfl) rfl ?_
    obtain ⟨h9, h⟩ := zif h
    obtain ⟨q10, c11, h⟩ := zbd h
    refine r_invV (as := [zI l1]) C 8 (S_Row_at c11) (z_d dd_Lit_take 19 rfl) ok_Row_at iv_Row_at se_Row_at ml_Lit_87 rfl rfl h9 rfl rfl rfl (Nat.le_of_ble_eq_true rfl) ⟨(Nat.le_of_ble_eq_true rfl), (Nat.le_of_ble_eq_true rfl)⟩ ⟨(Nat.le_of_ble_eq_true rfl), (Nat.le_of_ble_eq_true rfl)⟩ ?_
    refine r_iconst (v := (3 : Int32)) C (z_d dd_Lit_take 20 rfl) (by decide) ?_
    refine r_iand C (z_d dd_Lit_take 21 rfl) ?_
    obtain ⟨h12, h⟩ := zif h
    obtain ⟨M13, e14, h⟩ := zlet_ex h
    have h15 := k_i e14 h12
    refine r_putI C (z_d dd_Lit_take 22 rfl) lp_Lit_59 rfl h12 e14 ?_
    refine r_aload_n C (z_d dd_Lit_take 23 rfl) rfl ?_
    refine r_aload_n C (z_d dd_Lit_take 24 rfl) rfl ?_
    refine r_getP C (z_d dd_Lit_take 25 rfl) lk_Lit_9 rfl h15 rfl ?_
    refine r_iload_n C (z_d dd_Lit_take 26 rfl) rfl ?_
    obtain ⟨h16, h⟩ := zif h
    obtain ⟨q17, c18, h⟩ := zbd h
    refine r_invV (as := [zI l1]) C 8 (S_Row_at c18) (z_d dd_Lit_take 27 rfl) ok_Row_at iv_Row_at se_Row_at ml_Lit_87 rfl rfl h16 rfl rfl rfl (Nat.le_of_ble_eq_true rfl) ⟨(Nat.le_of_ble_eq_true rfl), (Nat.le_of_ble_eq_true rfl)⟩ ⟨(Nat.le_of_ble_eq_true rfl), (Nat.le_of_ble_eq_true rfl)⟩ ?_
    refine r_iconst (v := (2 : Int32)) C (z_d dd_Lit_take 28 rfl) (by decide) ?_
    refine r_ishr C (z_d dd_Lit_take 29 rfl) ?_
    refine r_iconst (v := (3 : Int32)) C (z_d dd_Lit_take 30 rfl) (by decide) ?_
    refine r_iand C (z_d dd_Lit_take 31 rfl) ?_
    obtain ⟨h19, h⟩ := zif h
    obtain ⟨M20, e21, h⟩ := zlet_ex h
    have h22 := k_i e21 h19
    refine r_putI C (z_d dd_Lit_take 32 rfl) lp_Lit_62 rfl h19 e21 ?_
    refine r_aload_n C (z_d dd_Lit_take 33 rfl) rfl ?_
    refine r_getI C (z_d dd_Lit_take 34 rfl) lk_Lit_59 rfl h22 rfl ?_
    refine r_iconst (v := (2 : Int32)) C (z_d dd_Lit_take 35 rfl) (by decide) ?_
    refine r_icmp_ge C 78 (z_d dd_Lit_take 36 rfl) (by decide) (fun c29 => ?_) (fun c29 => ?_)
    · have h := zift h c29
      refine r_aload_n C (z_d dd_Lit_take 43 rfl) rfl ?_
      refine r_iload_n C (z_d dd_Lit_take 44 rfl) rfl ?_
      refine r_iload_n C (z_d dd_Lit_take 45 rfl) rfl ?_
      obtain ⟨q23, c24, h⟩ := zbd h
      refine r_invV (as := [zI l1, zI l2]) C 6 (S_Lit_codedHead c24) (z_d dd_Lit_take 46 rfl) ok_Lit_codedHead iv_Lit_codedHead se_Lit_codedHead ml_Lit_94 rfl rfl h22 rfl rfl rfl (Nat.le_of_ble_eq_true rfl) ⟨(Nat.le_of_ble_eq_true rfl), (Nat.le_of_ble_eq_true rfl)⟩ ⟨(Nat.le_of_ble_eq_true rfl), (Nat.le_of_ble_eq_true rfl)⟩ ?_
      refine r_if_ne C 89 (z_d dd_Lit_take 47 rfl) (by decide) (fun c25 => ?_) (fun c25 => ?_)
      · have h := ziff h c25
        exact s_Lit_take_89 C hr E n l0 l1 l2 l3 q23.2 h
      · have h := zift h c25
        refine r_mk [false, false, false, false, false] ?_
        exact s_Lit_take_87 C hr E n q23.2 h
    · have h := ziff h c29
      refine r_aload_n C (z_d dd_Lit_take 37 rfl) rfl ?_
      refine r_iload_n C (z_d dd_Lit_take 38 rfl) rfl ?_
      refine r_iload_n C (z_d dd_Lit_take 39 rfl) rfl ?_
      obtain ⟨q26, c27, h⟩ := zbd h
      refine r_invV (as := [zI l1, zI l2]) C 6 (S_Lit_plainHead c27) (z_d dd_Lit_take 40 rfl) ok_Lit_plainHead iv_Lit_plainHead se_Lit_plainHead ml_Lit_91 rfl rfl h22 rfl rfl rfl (Nat.le_of_ble_eq_true rfl) ⟨(Nat.le_of_ble_eq_true rfl), (Nat.le_of_ble_eq_true rfl)⟩ ⟨(Nat.le_of_ble_eq_true rfl), (Nat.le_of_ble_eq_true rfl)⟩ ?_
      refine r_if_eq C 87 (z_d dd_Lit_take 41 rfl) (by decide) (fun c28 => ?_) (fun c28 => ?_)
      · have h := zift h c28
        refine r_mk [false, false, false, false, false] ?_
        exact s_Lit_take_87 C hr E n q26.2 h
      · have h := ziff h c28
        refine r_goto C 89 (z_d dd_Lit_take 42 rfl) (by decide) ?_
        exact s_Lit_take_89 C hr E n l0 l1 l2 l3 q26.2 h
  · have h := ziff h c34
    refine r_aload_n C (z_d dd_Lit_take 9 rfl) rfl ?_
    refine r_getP C (z_d dd_Lit_take 10 rfl) lk_Lit_15 rfl h8 rfl ?_
    refine r_bipush (v := (10 : Int32)) C (z_d dd_Lit_take 11 rfl) (by decide) ?_
    refine r_iload_n C (z_d dd_Lit_take 12 rfl) rfl ?_
    obtain ⟨h30, h⟩ := zif h
    obtain ⟨q31, c32, h⟩ := zbd h
    refine r_invV (as := [zI (10 : Int32), zI l2]) C 7 (S_Rep_fail c32) (z_d dd_Lit_take 13 rfl) ok_Rep_fail iv_Rep_fail se_Rep_fail ml_Lit_81 rfl rfl h30 rfl rfl rfl (Nat.le_of_ble_eq_true rfl) ⟨(Nat.le_of_ble_eq_true rfl), (Nat.le_of_ble_eq_true rfl)⟩ ⟨(Nat.le_of_ble_eq_true rfl), (Nat.le_of_ble_eq_true rfl)⟩ ?_
    obtain ⟨h33, h⟩ := zif h
    obtain rfl := z_res h
    exact r_iretZ C E hr (z_d dd_Lit_take 14 rfl) h33 (Nat.le_of_ble_eq_true rfl) (Nat.le_of_ble_eq_true rfl)
def F_Lit_take (O : zO) (n : Nat) (l0 : Nat) (l1 : Int32) (l2 : Int32) (l3 : Int32) (M : zM) : Option (Int32 × zM) := f_Lit_take_0 O n l0 l1 l2 l3 M
theorem S_Lit_take {l : Launch} {D : zD} {n : Nat} {l0 : Nat} {l1 : Int32} {l2 : Int32} {l3 : Int32} {M : zM} {q : Int32 × zM} (h : F_Lit_take D.2.2.2.2 n l0 l1 l2 l3 M = some q) : zMet l D mi_Lit_take [zP l0, zI l1, zI l2, zI l3] M (some (zI q.1)) q.2 :=
  z_met (by decide) (Nat.le_of_ble_eq_true rfl) (fun X C E hr hin hD hl => by
    subst hD
    exact s_Lit_take_0 C hr E n l0 l1 l2 l3 M h)

def f_Lit_left_0 (O : zO) (n : Nat) (l0 : Nat) (M : zM) : Option (Int32 × zM) :=
  if z_k M l0 = 7 then
  some (((z_i M l0 7) - (z_i M l0 8)), M)
  else none
set_option maxRecDepth 100000 in
set_option maxHeartbeats 4000000 in
theorem s_Lit_left_0 {X : zX} {q : Int32 × zM} (C : zC X zR6 prog_7_method_3_code 1 { frames := 0, cells := 0, slots := 0, locals := 0 }) (hr : zRt X (some .int)) (E : zE X (some (zI q.1)) q.2 0 0) : ∀ (n : Nat) (l0 : Nat) (M : zM), f_Lit_left_0 (zOD X) n l0 M = some q → zW X 0 0 0 [some (zP l0)] [] M := by
  intro n l0 M h
  rw [f_Lit_left_0] at h
  refine r_aload_n C (z_d dd_Lit_left 0 rfl) rfl ?_
  obtain ⟨h1, h⟩ := zif h
  refine r_getI C (z_d dd_Lit_left 1 rfl) lk_Lit_49 rfl h1 rfl ?_
  refine r_aload_n C (z_d dd_Lit_left 2 rfl) rfl ?_
  refine r_getI C (z_d dd_Lit_left 3 rfl) lk_Lit_53 rfl h1 rfl ?_
  refine r_isub C (z_d dd_Lit_left 4 rfl) ?_
  obtain rfl := z_res h
  exact r_iretI C E hr (z_d dd_Lit_left 5 rfl) (Nat.le_of_ble_eq_true rfl) (Nat.le_of_ble_eq_true rfl)
def F_Lit_left (O : zO) (n : Nat) (l0 : Nat) (M : zM) : Option (Int32 × zM) := f_Lit_left_0 O n l0 M
theorem S_Lit_left {l : Launch} {D : zD} {n : Nat} {l0 : Nat} {M : zM} {q : Int32 × zM} (h : F_Lit_left D.2.2.2.2 n l0 M = some q) : zMet l D mi_Lit_left [zP l0] M (some (zI q.1)) q.2 :=
  z_met (by decide) (Nat.le_of_ble_eq_true rfl) (fun X C E hr hin hD hl => by
    subst hD
    exact s_Lit_left_0 C hr E n l0 M h)

def f_Content_overBlock_26 (O : zO) (n : Nat) (s0 : Int32) (M : zM) : Option (Int32 × zM) :=
  if s0 = 0 ∨ s0 = 1 then
  some (s0, M)
  else none
set_option maxRecDepth 100000 in
set_option maxHeartbeats 4000000 in
theorem s_Content_overBlock_26 {X : zX} {q : Int32 × zM} (C : zC X zR2 prog_3_method_8_code 2 { frames := 1, cells := 0, slots := 0, locals := 20 }) (hr : zRt X (some .boolean)) (E : zE X (some (zI q.1)) q.2 0 0) : ∀ (n : Nat) (s0 : Int32) (M : zM), f_Content_overBlock_26 (zOD X) n s0 M = some q → zW X 0 0 26 [none, none] [zI s0] M := by
  intro n s0 M h
  rw [f_Content_overBlock_26] at h
  obtain ⟨h1, h⟩ := zif h
  obtain rfl := z_res h
  exact r_iretZ C E hr (z_d dd_Content_overBlock 14 rfl) h1 (Nat.le_of_ble_eq_true rfl) (Nat.le_of_ble_eq_true rfl)
def f_Content_overBlock_0 (O : zO) (n : Nat) (l0 : Nat) (l1 : Int32) (M : zM) : Option (Int32 × zM) :=
  if z_k M l0 = 3 then
  (F_Content_mostOfBlock O n l0 M).bind fun q2 =>
  if z_k q2.2 l0 = 3 then
  if z_k q2.2 (z_p q2.2 l0 0) = 9 then
  if l1 ≤ (q2.1 - ((z_i q2.2 (z_p q2.2 l0 0) 1) - (z_i q2.2 l0 4))) then
  f_Content_overBlock_26 O n (0 : Int32) q2.2
  else
  f_Content_overBlock_26 O n (1 : Int32) q2.2
  else none
  else none
  else none
set_option maxRecDepth 100000 in
set_option maxHeartbeats 4000000 in
theorem s_Content_overBlock_0 {X : zX} {q : Int32 × zM} (C : zC X zR2 prog_3_method_8_code 2 { frames := 1, cells := 0, slots := 0, locals := 20 }) (hr : zRt X (some .boolean)) (E : zE X (some (zI q.1)) q.2 0 0) : ∀ (n : Nat) (l0 : Nat) (l1 : Int32) (M : zM), f_Content_overBlock_0 (zOD X) n l0 l1 M = some q → zW X 0 0 0 [some (zP l0), some (zI l1)] [] M := by
  intro n l0 l1 M h
  rw [f_Content_overBlock_0] at h
  refine r_iload_n C (z_d dd_Content_overBlock 0 rfl) rfl ?_
  refine r_aload_n C (z_d dd_Content_overBlock 1 rfl) rfl ?_
  obtain ⟨h1, h⟩ := zif h
  obtain ⟨q2, c3, h⟩ := zbd h
  refine r_invV (as := []) C 2 (S_Content_mostOfBlock c3) (z_d dd_Content_overBlock 2 rfl) ok_Content_mostOfBlock iv_Content_mostOfBlock se_Content_mostOfBlock ml_Content_47 rfl rfl h1 rfl rfl rfl (Nat.le_of_ble_eq_true rfl) ⟨(Nat.le_of_ble_eq_true rfl), (Nat.le_of_ble_eq_true rfl)⟩ ⟨(Nat.le_of_ble_eq_true rfl), (Nat.le_of_ble_eq_true rfl)⟩ ?_
  refine r_aload_n C (z_d dd_Content_overBlock 3 rfl) rfl ?_
  obtain ⟨h4, h⟩ := zif h
  refine r_getP C (z_d dd_Content_overBlock 4 rfl) lk_Content_15 rfl h4 rfl ?_
  obtain ⟨h5, h⟩ := zif h
  refine r_getI C (z_d dd_Content_overBlock 5 rfl) lk_Content_41 rfl h5 rfl ?_
  refine r_aload_n C (z_d dd_Content_overBlock 6 rfl) rfl ?_
  refine r_getI C (z_d dd_Content_overBlock 7 rfl) lk_Content_31 rfl h4 rfl ?_
  refine r_isub C (z_d dd_Content_overBlock 8 rfl) ?_
  refine r_isub C (z_d dd_Content_overBlock 9 rfl) ?_
  refine r_icmp_le C 25 (z_d dd_Content_overBlock 10 rfl) (by decide) (fun c6 => ?_) (fun c6 => ?_)
  · have h := zift h c6
    refine r_iconst (v := (0 : Int32)) C (z_d dd_Content_overBlock 13 rfl) (by decide) ?_
    refine r_mk [false, false] ?_
    exact s_Content_overBlock_26 C hr E n (0 : Int32) q2.2 h
  · have h := ziff h c6
    refine r_iconst (v := (1 : Int32)) C (z_d dd_Content_overBlock 11 rfl) (by decide) ?_
    refine r_goto C 26 (z_d dd_Content_overBlock 12 rfl) (by decide) ?_
    refine r_mk [false, false] ?_
    exact s_Content_overBlock_26 C hr E n (1 : Int32) q2.2 h
def F_Content_overBlock (O : zO) (n : Nat) (l0 : Nat) (l1 : Int32) (M : zM) : Option (Int32 × zM) := f_Content_overBlock_0 O n l0 l1 M
theorem S_Content_overBlock {l : Launch} {D : zD} {n : Nat} {l0 : Nat} {l1 : Int32} {M : zM} {q : Int32 × zM} (h : F_Content_overBlock D.2.2.2.2 n l0 l1 M = some q) : zMet l D mi_Content_overBlock [zP l0, zI l1] M (some (zI q.1)) q.2 :=
  z_met (by decide) (Nat.le_of_ble_eq_true rfl) (fun X C E hr hin hD hl => by
    subst hD
    exact s_Content_overBlock_0 C hr E n l0 l1 M h)

def f_Lit_moveTo_0 (O : zO) (n : Nat) (l0 : Nat) (l1 : Nat) (l2 : Int32) (M : zM) : Option (Unit × zM) :=
  if z_k M l0 = 7 then
  if z_k M l1 = 9 then
  (F_Row_putPart O n l1 (z_p M l0 4) (z_i M l0 8) l2 M).bind fun q3 =>
  if z_k q3.2 l0 = 7 then
  zlet (w_i q3.2 l0 8 ((z_i q3.2 l0 8) + l2)) fun M6 =>
  some ((), M6)
  else none
  else none
  else none
set_option maxRecDepth 100000 in
set_option maxHeartbeats 4000000 in
theorem s_Lit_moveTo_0 {X : zX} {q : Unit × zM} (C : zC X zR6 prog_7_method_4_code 3 { frames := 2, cells := 0, slots := 0, locals := 84 }) (hr : zRt X none) (E : zE X none q.2 0 0) : ∀ (n : Nat) (l0 : Nat) (l1 : Nat) (l2 : Int32) (M : zM), f_Lit_moveTo_0 (zOD X) n l0 l1 l2 M = some q → zW X 0 0 0 [some (zP l0), some (zP l1), some (zI l2)] [] M := by
  intro n l0 l1 l2 M h
  rw [f_Lit_moveTo_0] at h
  refine r_aload_n C (z_d dd_Lit_moveTo 0 rfl) rfl ?_
  refine r_aload_n C (z_d dd_Lit_moveTo 1 rfl) rfl ?_
  obtain ⟨h1, h⟩ := zif h
  refine r_getP C (z_d dd_Lit_moveTo 2 rfl) lk_Lit_39 rfl h1 rfl ?_
  refine r_aload_n C (z_d dd_Lit_moveTo 3 rfl) rfl ?_
  refine r_getI C (z_d dd_Lit_moveTo 4 rfl) lk_Lit_53 rfl h1 rfl ?_
  refine r_iload_n C (z_d dd_Lit_moveTo 5 rfl) rfl ?_
  obtain ⟨h2, h⟩ := zif h
  obtain ⟨q3, c4, h⟩ := zbd h
  refine r_invV (as := [zP (z_p M l0 4), zI (z_i M l0 8), zI l2]) C 8 (S_Row_putPart c4) (z_d dd_Lit_moveTo 6 rfl) ok_Row_putPart iv_Row_putPart se_Row_putPart ml_Lit_74 rfl rfl h2 rfl rfl rfl (Nat.le_of_ble_eq_true rfl) ⟨(Nat.le_of_ble_eq_true rfl), (Nat.le_of_ble_eq_true rfl)⟩ ⟨(Nat.le_of_ble_eq_true rfl), (Nat.le_of_ble_eq_true rfl)⟩ ?_
  refine r_aload_n C (z_d dd_Lit_moveTo 7 rfl) rfl ?_
  refine r_dupP C (z_d dd_Lit_moveTo 8 rfl) ?_
  obtain ⟨h5, h⟩ := zif h
  refine r_getI C (z_d dd_Lit_moveTo 9 rfl) lk_Lit_53 rfl h5 rfl ?_
  refine r_iload_n C (z_d dd_Lit_moveTo 10 rfl) rfl ?_
  refine r_iadd C (z_d dd_Lit_moveTo 11 rfl) ?_
  obtain ⟨M6, e7, h⟩ := zlet_ex h
  have h8 := k_i e7 h5
  refine r_putI C (z_d dd_Lit_moveTo 12 rfl) lp_Lit_53 rfl h5 e7 ?_
  obtain rfl := z_res h
  exact r_vret C E hr (z_d dd_Lit_moveTo 13 rfl) (Nat.le_of_ble_eq_true rfl) (Nat.le_of_ble_eq_true rfl)
def F_Lit_moveTo (O : zO) (n : Nat) (l0 : Nat) (l1 : Nat) (l2 : Int32) (M : zM) : Option (Unit × zM) := f_Lit_moveTo_0 O n l0 l1 l2 M
theorem S_Lit_moveTo {l : Launch} {D : zD} {n : Nat} {l0 : Nat} {l1 : Nat} {l2 : Int32} {M : zM} {q : Unit × zM} (h : F_Lit_moveTo D.2.2.2.2 n l0 l1 l2 M = some q) : zMet l D mi_Lit_moveTo [zP l0, zP l1, zI l2] M none q.2 :=
  z_met (by decide) (Nat.le_of_ble_eq_true rfl) (fun X C E hr hin hD hl => by
    subst hD
    exact s_Lit_moveTo_0 C hr E n l0 l1 l2 M h)

def f_Seq_takeRest_0 (O : zO) (n : Nat) (l0 : Nat) (l1 : Int32) (M : zM) : Option (Int32 × zM) :=
  if z_k M l0 = 10 then
  if z_k M (z_p M l0 3) = 7 then
  (F_Lit_left O n (z_p M l0 3) M).bind fun q3 =>
  if z_k q3.2 (z_p M l0 2) = 3 then
  (F_Content_overBlock O n (z_p M l0 2) q3.1 q3.2).bind fun q6 =>
  if q6.1 = 0 then
  if z_k q6.2 l0 = 10 then
  if z_k q6.2 (z_p q6.2 l0 3) = 7 then
  (F_Lit_left O n (z_p q6.2 l0 3) q6.2).bind fun q10 =>
  if z_k q10.2 (z_p q6.2 l0 2) = 3 then
  (F_Content_overMost O n (z_p q6.2 l0 2) q10.1 q10.2).bind fun q13 =>
  if q13.1 = 0 then
  if z_k q13.2 l0 = 10 then
  if z_k q13.2 (z_p q13.2 l0 2) = 3 then
  if z_k q13.2 (z_p q13.2 l0 3) = 7 then
  (F_Lit_left O n (z_p q13.2 l0 3) q13.2).bind fun q18 =>
  if z_k q18.2 (z_p q13.2 l0 3) = 7 then
  (F_Lit_moveTo O n (z_p q13.2 l0 3) (z_p q13.2 (z_p q13.2 l0 2) 0) q18.1 q18.2).bind fun q21 =>
  some ((1 : Int32), q21.2)
  else none
  else none
  else none
  else none
  else
  if z_k q13.2 l0 = 10 then
  if z_k q13.2 (z_p q13.2 l0 1) = 8 then
  (F_Rep_fail O n (z_p q13.2 l0 1) (7 : Int32) l1 q13.2).bind fun q25 =>
  if q25.1 = 0 ∨ q25.1 = 1 then
  some (q25.1, q25.2)
  else none
  else none
  else none
  else none
  else none
  else none
  else
  if z_k q6.2 l0 = 10 then
  if z_k q6.2 (z_p q6.2 l0 1) = 8 then
  (F_Rep_fail O n (z_p q6.2 l0 1) (20 : Int32) l1 q6.2).bind fun q31 =>
  if q31.1 = 0 ∨ q31.1 = 1 then
  some (q31.1, q31.2)
  else none
  else none
  else none
  else none
  else none
  else none
set_option maxRecDepth 100000 in
set_option maxHeartbeats 4000000 in
theorem s_Seq_takeRest_0 {X : zX} {q : Int32 × zM} (C : zC X zR9 prog_10_method_9_code 2 { frames := 3, cells := 0, slots := 0, locals := 106 }) (hr : zRt X (some .boolean)) (E : zE X (some (zI q.1)) q.2 0 0) : ∀ (n : Nat) (l0 : Nat) (l1 : Int32) (M : zM), f_Seq_takeRest_0 (zOD X) n l0 l1 M = some q → zW X 0 0 0 [some (zP l0), some (zI l1)] [] M := by
  intro n l0 l1 M h
  rw [f_Seq_takeRest_0] at h
  refine r_aload_n C (z_d dd_Seq_takeRest 0 rfl) rfl ?_
  obtain ⟨h1, h⟩ := zif h
  refine r_getP C (z_d dd_Seq_takeRest 1 rfl) lk_Seq_19 rfl h1 rfl ?_
  refine r_aload_n C (z_d dd_Seq_takeRest 2 rfl) rfl ?_
  refine r_getP C (z_d dd_Seq_takeRest 3 rfl) lk_Seq_23 rfl h1 rfl ?_
  obtain ⟨h2, h⟩ := zif h
  obtain ⟨q3, c4, h⟩ := zbd h
  refine r_invV (as := []) C 6 (S_Lit_left c4) (z_d dd_Seq_takeRest 4 rfl) ok_Lit_left iv_Lit_left se_Lit_left ml_Seq_190 rfl rfl h2 rfl rfl rfl (Nat.le_of_ble_eq_true rfl) ⟨(Nat.le_of_ble_eq_true rfl), (Nat.le_of_ble_eq_true rfl)⟩ ⟨(Nat.le_of_ble_eq_true rfl), (Nat.le_of_ble_eq_true rfl)⟩ ?_
  obtain ⟨h5, h⟩ := zif h
  obtain ⟨q6, c7, h⟩ := zbd h
  refine r_invV (as := [zI q3.1]) C 2 (S_Content_overBlock c7) (z_d dd_Seq_takeRest 5 rfl) ok_Content_overBlock iv_Content_overBlock se_Content_overBlock ml_Seq_205 rfl rfl h5 rfl rfl rfl (Nat.le_of_ble_eq_true rfl) ⟨(Nat.le_of_ble_eq_true rfl), (Nat.le_of_ble_eq_true rfl)⟩ ⟨(Nat.le_of_ble_eq_true rfl), (Nat.le_of_ble_eq_true rfl)⟩ ?_
  refine r_if_eq C 28 (z_d dd_Seq_takeRest 6 rfl) (by decide) (fun c34 => ?_) (fun c34 => ?_)
  · have h := zift h c34
    refine r_aload_n C (z_d dd_Seq_takeRest 13 rfl) rfl ?_
    obtain ⟨h8, h⟩ := zif h
    refine r_getP C (z_d dd_Seq_takeRest 14 rfl) lk_Seq_19 rfl h8 rfl ?_
    refine r_aload_n C (z_d dd_Seq_takeRest 15 rfl) rfl ?_
    refine r_getP C (z_d dd_Seq_takeRest 16 rfl) lk_Seq_23 rfl h8 rfl ?_
    obtain ⟨h9, h⟩ := zif h
    obtain ⟨q10, c11, h⟩ := zbd h
    refine r_invV (as := []) C 6 (S_Lit_left c11) (z_d dd_Seq_takeRest 17 rfl) ok_Lit_left iv_Lit_left se_Lit_left ml_Seq_190 rfl rfl h9 rfl rfl rfl (Nat.le_of_ble_eq_true rfl) ⟨(Nat.le_of_ble_eq_true rfl), (Nat.le_of_ble_eq_true rfl)⟩ ⟨(Nat.le_of_ble_eq_true rfl), (Nat.le_of_ble_eq_true rfl)⟩ ?_
    obtain ⟨h12, h⟩ := zif h
    obtain ⟨q13, c14, h⟩ := zbd h
    refine r_invV (as := [zI q10.1]) C 2 (S_Content_overMost c14) (z_d dd_Seq_takeRest 18 rfl) ok_Content_overMost iv_Content_overMost se_Content_overMost ml_Seq_208 rfl rfl h12 rfl rfl rfl (Nat.le_of_ble_eq_true rfl) ⟨(Nat.le_of_ble_eq_true rfl), (Nat.le_of_ble_eq_true rfl)⟩ ⟨(Nat.le_of_ble_eq_true rfl), (Nat.le_of_ble_eq_true rfl)⟩ ?_
    refine r_if_eq C 56 (z_d dd_Seq_takeRest 19 rfl) (by decide) (fun c28 => ?_) (fun c28 => ?_)
    · have h := zift h c28
      refine r_aload_n C (z_d dd_Seq_takeRest 26 rfl) rfl ?_
      obtain ⟨h15, h⟩ := zif h
      refine r_getP C (z_d dd_Seq_takeRest 27 rfl) lk_Seq_23 rfl h15 rfl ?_
      refine r_aload_n C (z_d dd_Seq_takeRest 28 rfl) rfl ?_
      refine r_getP C (z_d dd_Seq_takeRest 29 rfl) lk_Seq_19 rfl h15 rfl ?_
      obtain ⟨h16, h⟩ := zif h
      refine r_getP C (z_d dd_Seq_takeRest 30 rfl) lk_Seq_211 rfl h16 rfl ?_
      refine r_aload_n C (z_d dd_Seq_takeRest 31 rfl) rfl ?_
      refine r_getP C (z_d dd_Seq_takeRest 32 rfl) lk_Seq_23 rfl h15 rfl ?_
      obtain ⟨h17, h⟩ := zif h
      obtain ⟨q18, c19, h⟩ := zbd h
      refine r_invV (as := []) C 6 (S_Lit_left c19) (z_d dd_Seq_takeRest 33 rfl) ok_Lit_left iv_Lit_left se_Lit_left ml_Seq_190 rfl rfl h17 rfl rfl rfl (Nat.le_of_ble_eq_true rfl) ⟨(Nat.le_of_ble_eq_true rfl), (Nat.le_of_ble_eq_true rfl)⟩ ⟨(Nat.le_of_ble_eq_true rfl), (Nat.le_of_ble_eq_true rfl)⟩ ?_
      obtain ⟨h20, h⟩ := zif h
      obtain ⟨q21, c22, h⟩ := zbd h
      refine r_invV (as := [zP (z_p q13.2 (z_p q13.2 l0 2) 0), zI q18.1]) C 6 (S_Lit_moveTo c22) (z_d dd_Seq_takeRest 34 rfl) ok_Lit_moveTo iv_Lit_moveTo se_Lit_moveTo ml_Seq_214 rfl rfl h20 rfl rfl rfl (Nat.le_of_ble_eq_true rfl) ⟨(Nat.le_of_ble_eq_true rfl), (Nat.le_of_ble_eq_true rfl)⟩ ⟨(Nat.le_of_ble_eq_true rfl), (Nat.le_of_ble_eq_true rfl)⟩ ?_
      refine r_iconst (v := (1 : Int32)) C (z_d dd_Seq_takeRest 35 rfl) (by decide) ?_
      obtain rfl := z_res h
      exact r_iretZ C E hr (z_d dd_Seq_takeRest 36 rfl) (by decide) (Nat.le_of_ble_eq_true rfl) (Nat.le_of_ble_eq_true rfl)
    · have h := ziff h c28
      refine r_aload_n C (z_d dd_Seq_takeRest 20 rfl) rfl ?_
      obtain ⟨h23, h⟩ := zif h
      refine r_getP C (z_d dd_Seq_takeRest 21 rfl) lk_Seq_15 rfl h23 rfl ?_
      refine r_bipush (v := (7 : Int32)) C (z_d dd_Seq_takeRest 22 rfl) (by decide) ?_
      refine r_iload_n C (z_d dd_Seq_takeRest 23 rfl) rfl ?_
      obtain ⟨h24, h⟩ := zif h
      obtain ⟨q25, c26, h⟩ := zbd h
      refine r_invV (as := [zI (7 : Int32), zI l1]) C 7 (S_Rep_fail c26) (z_d dd_Seq_takeRest 24 rfl) ok_Rep_fail iv_Rep_fail se_Rep_fail ml_Seq_120 rfl rfl h24 rfl rfl rfl (Nat.le_of_ble_eq_true rfl) ⟨(Nat.le_of_ble_eq_true rfl), (Nat.le_of_ble_eq_true rfl)⟩ ⟨(Nat.le_of_ble_eq_true rfl), (Nat.le_of_ble_eq_true rfl)⟩ ?_
      obtain ⟨h27, h⟩ := zif h
      obtain rfl := z_res h
      exact r_iretZ C E hr (z_d dd_Seq_takeRest 25 rfl) h27 (Nat.le_of_ble_eq_true rfl) (Nat.le_of_ble_eq_true rfl)
  · have h := ziff h c34
    refine r_aload_n C (z_d dd_Seq_takeRest 7 rfl) rfl ?_
    obtain ⟨h29, h⟩ := zif h
    refine r_getP C (z_d dd_Seq_takeRest 8 rfl) lk_Seq_15 rfl h29 rfl ?_
    refine r_bipush (v := (20 : Int32)) C (z_d dd_Seq_takeRest 9 rfl) (by decide) ?_
    refine r_iload_n C (z_d dd_Seq_takeRest 10 rfl) rfl ?_
    obtain ⟨h30, h⟩ := zif h
    obtain ⟨q31, c32, h⟩ := zbd h
    refine r_invV (as := [zI (20 : Int32), zI l1]) C 7 (S_Rep_fail c32) (z_d dd_Seq_takeRest 11 rfl) ok_Rep_fail iv_Rep_fail se_Rep_fail ml_Seq_120 rfl rfl h30 rfl rfl rfl (Nat.le_of_ble_eq_true rfl) ⟨(Nat.le_of_ble_eq_true rfl), (Nat.le_of_ble_eq_true rfl)⟩ ⟨(Nat.le_of_ble_eq_true rfl), (Nat.le_of_ble_eq_true rfl)⟩ ?_
    obtain ⟨h33, h⟩ := zif h
    obtain rfl := z_res h
    exact r_iretZ C E hr (z_d dd_Seq_takeRest 12 rfl) h33 (Nat.le_of_ble_eq_true rfl) (Nat.le_of_ble_eq_true rfl)
def F_Seq_takeRest (O : zO) (n : Nat) (l0 : Nat) (l1 : Int32) (M : zM) : Option (Int32 × zM) := f_Seq_takeRest_0 O n l0 l1 M
theorem S_Seq_takeRest {l : Launch} {D : zD} {n : Nat} {l0 : Nat} {l1 : Int32} {M : zM} {q : Int32 × zM} (h : F_Seq_takeRest D.2.2.2.2 n l0 l1 M = some q) : zMet l D mi_Seq_takeRest [zP l0, zI l1] M (some (zI q.1)) q.2 :=
  z_met (by decide) (Nat.le_of_ble_eq_true rfl) (fun X C E hr hin hD hl => by
    subst hD
    exact s_Seq_takeRest_0 C hr E n l0 l1 M h)

def f_Share_setSingle_0 (O : zO) (n : Nat) (l0 : Nat) (l1 : Int32) (M : zM) : Option (Unit × zM) :=
  if z_k M l0 = 11 then
  zlet (w_i M l0 7 (0 : Int32)) fun M2 =>
  if z_k M2 (z_p M2 l0 4) = 100 then
  if zin (0 : Int32) (z_n M2 (z_p M2 l0 4)) = true then
  zlet (w_i M2 (z_p M2 l0 4) (0 : Int32).toNatClampNeg l1) fun M7 =>
  if z_k M7 (z_p M7 l0 5) = 100 then
  if zin (0 : Int32) (z_n M7 (z_p M7 l0 5)) = true then
  zlet (w_i M7 (z_p M7 l0 5) (0 : Int32).toNatClampNeg (0 : Int32)) fun M13 =>
  if z_k M13 (z_p M13 l0 6) = 100 then
  if zin (0 : Int32) (z_n M13 (z_p M13 l0 6)) = true then
  zlet (w_i M13 (z_p M13 l0 6) (0 : Int32).toNatClampNeg (0 : Int32)) fun M20 =>
  some ((), M20)
  else none
  else none
  else none
  else none
  else none
  else none
  else none
set_option maxRecDepth 100000 in
set_option maxHeartbeats 4000000 in
theorem s_Share_setSingle_0 {X : zX} {q : Unit × zM} (C : zC X zR10 prog_11_method_5_code 2 { frames := 0, cells := 0, slots := 0, locals := 0 }) (hr : zRt X none) (E : zE X none q.2 0 0) : ∀ (n : Nat) (l0 : Nat) (l1 : Int32) (M : zM), f_Share_setSingle_0 (zOD X) n l0 l1 M = some q → zW X 0 0 0 [some (zP l0), some (zI l1)] [] M := by
  intro n l0 l1 M h
  rw [f_Share_setSingle_0] at h
  refine r_aload_n C (z_d dd_Share_setSingle 0 rfl) rfl ?_
  refine r_iconst (v := (0 : Int32)) C (z_d dd_Share_setSingle 1 rfl) (by decide) ?_
  obtain ⟨h1, h⟩ := zif h
  obtain ⟨M2, e3, h⟩ := zlet_ex h
  have h4 := k_i e3 h1
  refine r_putI C (z_d dd_Share_setSingle 2 rfl) lp_Share_34 rfl h1 e3 ?_
  refine r_aload_n C (z_d dd_Share_setSingle 3 rfl) rfl ?_
  refine r_getP C (z_d dd_Share_setSingle 4 rfl) lk_Share_25 rfl h4 rfl ?_
  refine r_iconst (v := (0 : Int32)) C (z_d dd_Share_setSingle 5 rfl) (by decide) ?_
  refine r_iload_n C (z_d dd_Share_setSingle 6 rfl) rfl ?_
  obtain ⟨h5, h⟩ := zif h
  obtain ⟨h6, h⟩ := zif h
  obtain ⟨M7, e8, h⟩ := zlet_ex h
  have h9 := k_i e8 h4
  have h10 := k_i e8 h5
  refine r_iast C (z_d dd_Share_setSingle 7 rfl) h5 h6 e8 ?_
  refine r_aload_n C (z_d dd_Share_setSingle 8 rfl) rfl ?_
  refine r_getP C (z_d dd_Share_setSingle 9 rfl) lk_Share_28 rfl h9 rfl ?_
  refine r_iconst (v := (0 : Int32)) C (z_d dd_Share_setSingle 10 rfl) (by decide) ?_
  refine r_iconst (v := (0 : Int32)) C (z_d dd_Share_setSingle 11 rfl) (by decide) ?_
  obtain ⟨h11, h⟩ := zif h
  obtain ⟨h12, h⟩ := zif h
  obtain ⟨M13, e14, h⟩ := zlet_ex h
  have h15 := k_i e14 h9
  have h16 := k_i e14 h10
  have h17 := k_i e14 h11
  refine r_iast C (z_d dd_Share_setSingle 12 rfl) h11 h12 e14 ?_
  refine r_aload_n C (z_d dd_Share_setSingle 13 rfl) rfl ?_
  refine r_getP C (z_d dd_Share_setSingle 14 rfl) lk_Share_31 rfl h15 rfl ?_
  refine r_iconst (v := (0 : Int32)) C (z_d dd_Share_setSingle 15 rfl) (by decide) ?_
  refine r_iconst (v := (0 : Int32)) C (z_d dd_Share_setSingle 16 rfl) (by decide) ?_
  obtain ⟨h18, h⟩ := zif h
  obtain ⟨h19, h⟩ := zif h
  obtain ⟨M20, e21, h⟩ := zlet_ex h
  have h22 := k_i e21 h15
  have h23 := k_i e21 h16
  have h24 := k_i e21 h17
  have h25 := k_i e21 h18
  refine r_iast C (z_d dd_Share_setSingle 17 rfl) h18 h19 e21 ?_
  obtain rfl := z_res h
  exact r_vret C E hr (z_d dd_Share_setSingle 18 rfl) (Nat.le_of_ble_eq_true rfl) (Nat.le_of_ble_eq_true rfl)
def F_Share_setSingle (O : zO) (n : Nat) (l0 : Nat) (l1 : Int32) (M : zM) : Option (Unit × zM) := f_Share_setSingle_0 O n l0 l1 M
theorem S_Share_setSingle {l : Launch} {D : zD} {n : Nat} {l0 : Nat} {l1 : Int32} {M : zM} {q : Unit × zM} (h : F_Share_setSingle D.2.2.2.2 n l0 l1 M = some q) : zMet l D mi_Share_setSingle [zP l0, zI l1] M none q.2 :=
  z_met (by decide) (Nat.le_of_ble_eq_true rfl) (fun X C E hr hin hD hl => by
    subst hD
    exact s_Share_setSingle_0 C hr E n l0 l1 M h)

def f_Seq_takeTable_200 (O : zO) (n : Nat) (l6 : Int32) (M : zM) : Option (Int32 × zM) :=
  some (l6, M)
set_option maxRecDepth 100000 in
set_option maxHeartbeats 4000000 in
theorem s_Seq_takeTable_200 {X : zX} {q : Int32 × zM} (C : zC X zR9 prog_10_method_4_code 7 { frames := 4, cells := 0, slots := 0, locals := 97 }) (hr : zRt X (some .int)) (E : zE X (some (zI q.1)) q.2 0 0) : ∀ (n : Nat) (l6 : Int32) (M : zM), f_Seq_takeTable_200 (zOD X) n l6 M = some q → zW X 0 0 200 [none, none, none, none, none, none, some (zI l6)] [] M := by
  intro n l6 M h
  rw [f_Seq_takeTable_200] at h
  refine r_iload C (z_d dd_Seq_takeTable 115 rfl) rfl ?_
  obtain rfl := z_res h
  exact r_iretI C E hr (z_d dd_Seq_takeTable 116 rfl) (Nat.le_of_ble_eq_true rfl) (Nat.le_of_ble_eq_true rfl)
def f_Seq_takeTable_176 (O : zO) (n : Nat) (l0 : Nat) (l1 : Int32) (l2 : Int32) (l6 : Int32) (M : zM) : Option (Int32 × zM) :=
  if z_k M l0 = 10 then
  if z_k M (z_p M l0 9) = 102 then
  if zin l1 (z_n M (z_p M l0 9)) = true then
  zlet (w_i M (z_p M l0 9) l1.toNatClampNeg (1 : Int32)) fun M4 =>
  if l6 = (-1 : Int32) then
  if z_k M4 (z_p M4 l0 1) = 8 then
  (F_Rep_fail O n (z_p M4 l0 1) (16 : Int32) l2 M4).bind fun q9 =>
  f_Seq_takeTable_200 O n l6 q9.2
  else none
  else
  f_Seq_takeTable_200 O n l6 M4
  else none
  else none
  else none
set_option maxRecDepth 100000 in
set_option maxHeartbeats 4000000 in
theorem s_Seq_takeTable_176 {X : zX} {q : Int32 × zM} (C : zC X zR9 prog_10_method_4_code 7 { frames := 4, cells := 0, slots := 0, locals := 97 }) (hr : zRt X (some .int)) (E : zE X (some (zI q.1)) q.2 0 0) : ∀ (n : Nat) (l0 : Nat) (l1 : Int32) (l2 : Int32) (l6 : Int32) (M : zM), f_Seq_takeTable_176 (zOD X) n l0 l1 l2 l6 M = some q → zW X 0 0 176 [some (zP l0), some (zI l1), some (zI l2), none, none, none, some (zI l6)] [] M := by
  intro n l0 l1 l2 l6 M h
  rw [f_Seq_takeTable_176] at h
  refine r_aload_n C (z_d dd_Seq_takeTable 101 rfl) rfl ?_
  obtain ⟨h1, h⟩ := zif h
  refine r_getP C (z_d dd_Seq_takeTable 102 rfl) lk_Seq_53 rfl h1 rfl ?_
  refine r_iload_n C (z_d dd_Seq_takeTable 103 rfl) rfl ?_
  refine r_iconst (v := (1 : Int32)) C (z_d dd_Seq_takeTable 104 rfl) (by decide) ?_
  obtain ⟨h2, h⟩ := zif h
  obtain ⟨h3, h⟩ := zif h
  obtain ⟨M4, e5, h⟩ := zlet_ex h
  have h6 := k_i e5 h1
  have h7 := k_i e5 h2
  refine r_zast C (z_d dd_Seq_takeTable 105 rfl) h2 h3 (by decide) e5 ?_
  refine r_iload C (z_d dd_Seq_takeTable 106 rfl) rfl ?_
  refine r_iconst (v := (-1 : Int32)) C (z_d dd_Seq_takeTable 107 rfl) (by decide) ?_
  refine r_icmp_ne C 200 (z_d dd_Seq_takeTable 108 rfl) (by decide) (fun c11 => ?_) (fun c11 => ?_)
  · have h := ziff h c11
    refine r_mk [false, false, false, false, false, false, true] ?_
    exact s_Seq_takeTable_200 C hr E n l6 M4 h
  · have h := zift h c11
    refine r_aload_n C (z_d dd_Seq_takeTable 109 rfl) rfl ?_
    refine r_getP C (z_d dd_Seq_takeTable 110 rfl) lk_Seq_15 rfl h6 rfl ?_
    refine r_bipush (v := (16 : Int32)) C (z_d dd_Seq_takeTable 111 rfl) (by decide) ?_
    refine r_iload_n C (z_d dd_Seq_takeTable 112 rfl) rfl ?_
    obtain ⟨h8, h⟩ := zif h
    obtain ⟨q9, c10, h⟩ := zbd h
    refine r_invV (as := [zI (16 : Int32), zI l2]) C 7 (S_Rep_fail c10) (z_d dd_Seq_takeTable 113 rfl) ok_Rep_fail iv_Rep_fail se_Rep_fail ml_Seq_120 rfl rfl h8 rfl rfl rfl (Nat.le_of_ble_eq_true rfl) ⟨(Nat.le_of_ble_eq_true rfl), (Nat.le_of_ble_eq_true rfl)⟩ ⟨(Nat.le_of_ble_eq_true rfl), (Nat.le_of_ble_eq_true rfl)⟩ ?_
    refine r_popI C (z_d dd_Seq_takeTable 114 rfl) ?_
    refine r_mk [false, false, false, false, false, false, true] ?_
    exact s_Seq_takeTable_200 C hr E n l6 q9.2 h
def f_Seq_takeTable_91 (O : zO) (n : Nat) (l0 : Nat) (l1 : Int32) (l2 : Int32) (l3 : Int32) (s0 : Int32) (M : zM) : Option (Int32 × zM) :=
  if z_k M l0 = 10 then
  if z_k M (z_p M l0 7) = 104 then
  if zin l1 (z_n M (z_p M l0 7)) = true then
  if z_k M (z_p M l0 0) = 9 then
  (F_Row_at O n (z_p M l0 0) l3 M).bind fun q5 =>
  if z_k q5.2 (z_p M (z_p M l0 7) l1.toNatClampNeg) = 11 then
  (F_Share_setSingle O n (z_p M (z_p M l0 7) l1.toNatClampNeg) q5.1 q5.2).bind fun q8 =>
  if z_k q8.2 l0 = 10 then
  if z_k q8.2 (z_p q8.2 l0 7) = 104 then
  if zin l1 (z_n q8.2 (z_p q8.2 l0 7)) = true then
  if z_k q8.2 (z_p q8.2 l0 8) = 104 then
  if zin l1 (z_n q8.2 (z_p q8.2 l0 8)) = true then
  if z_k q8.2 (z_p q8.2 (z_p q8.2 l0 7) l1.toNatClampNeg) = 11 then
  zlet (w_p q8.2 (z_p q8.2 l0 8) l1.toNatClampNeg (z_p q8.2 (z_p q8.2 l0 7) l1.toNatClampNeg)) fun M16 =>
  f_Seq_takeTable_176 O n l0 l1 l2 s0 M16
  else none
  else none
  else none
  else none
  else none
  else none
  else none
  else none
  else none
  else none
  else none
set_option maxRecDepth 100000 in
set_option maxHeartbeats 4000000 in
theorem s_Seq_takeTable_91 {X : zX} {q : Int32 × zM} (C : zC X zR9 prog_10_method_4_code 7 { frames := 4, cells := 0, slots := 0, locals := 97 }) (hr : zRt X (some .int)) (E : zE X (some (zI q.1)) q.2 0 0) : ∀ (n : Nat) (l0 : Nat) (l1 : Int32) (l2 : Int32) (l3 : Int32) (s0 : Int32) (M : zM), f_Seq_takeTable_91 (zOD X) n l0 l1 l2 l3 s0 M = some q → zW X 0 0 91 [some (zP l0), some (zI l1), some (zI l2), some (zI l3), none, none, none] [zI s0] M := by
  intro n l0 l1 l2 l3 s0 M h
  rw [f_Seq_takeTable_91] at h
  refine r_istore (lv' := [some (zP l0), some (zI l1), some (zI l2), some (zI l3), none, none, some (zI s0)]) C (z_d dd_Seq_takeTable 53 rfl) (Nat.le_of_ble_eq_true rfl) rfl ?_
  refine r_aload_n C (z_d dd_Seq_takeTable 54 rfl) rfl ?_
  obtain ⟨h1, h⟩ := zif h
  refine r_getP C (z_d dd_Seq_takeTable 55 rfl) lk_Seq_47 rfl h1 rfl ?_
  refine r_iload_n C (z_d dd_Seq_takeTable 56 rfl) rfl ?_
  obtain ⟨h2, h⟩ := zif h
  obtain ⟨h3, h⟩ := zif h
  refine r_aald C (z_d dd_Seq_takeTable 57 rfl) h2 h3 rfl ?_
  refine r_aload_n C (z_d dd_Seq_takeTable 58 rfl) rfl ?_
  refine r_getP C (z_d dd_Seq_takeTable 59 rfl) lk_Seq_9 rfl h1 rfl ?_
  refine r_iload_n C (z_d dd_Seq_takeTable 60 rfl) rfl ?_
  obtain ⟨h4, h⟩ := zif h
  obtain ⟨q5, c6, h⟩ := zbd h
  refine r_invV (as := [zI l3]) C 8 (S_Row_at c6) (z_d dd_Seq_takeTable 61 rfl) ok_Row_at iv_Row_at se_Row_at ml_Seq_114 rfl rfl h4 rfl rfl rfl (Nat.le_of_ble_eq_true rfl) ⟨(Nat.le_of_ble_eq_true rfl), (Nat.le_of_ble_eq_true rfl)⟩ ⟨(Nat.le_of_ble_eq_true rfl), (Nat.le_of_ble_eq_true rfl)⟩ ?_
  obtain ⟨h7, h⟩ := zif h
  obtain ⟨q8, c9, h⟩ := zbd h
  refine r_invV (as := [zI q5.1]) C 10 (S_Share_setSingle c9) (z_d dd_Seq_takeTable 62 rfl) ok_Share_setSingle iv_Share_setSingle se_Share_setSingle ml_Seq_142 rfl rfl h7 rfl rfl rfl (Nat.le_of_ble_eq_true rfl) ⟨(Nat.le_of_ble_eq_true rfl), (Nat.le_of_ble_eq_true rfl)⟩ ⟨(Nat.le_of_ble_eq_true rfl), (Nat.le_of_ble_eq_true rfl)⟩ ?_
  refine r_aload_n C (z_d dd_Seq_takeTable 63 rfl) rfl ?_
  obtain ⟨h10, h⟩ := zif h
  refine r_getP C (z_d dd_Seq_takeTable 64 rfl) lk_Seq_50 rfl h10 rfl ?_
  refine r_iload_n C (z_d dd_Seq_takeTable 65 rfl) rfl ?_
  refine r_aload_n C (z_d dd_Seq_takeTable 66 rfl) rfl ?_
  refine r_getP C (z_d dd_Seq_takeTable 67 rfl) lk_Seq_47 rfl h10 rfl ?_
  refine r_iload_n C (z_d dd_Seq_takeTable 68 rfl) rfl ?_
  obtain ⟨h11, h⟩ := zif h
  obtain ⟨h12, h⟩ := zif h
  refine r_aald C (z_d dd_Seq_takeTable 69 rfl) h11 h12 rfl ?_
  obtain ⟨h13, h⟩ := zif h
  obtain ⟨h14, h⟩ := zif h
  obtain ⟨h15, h⟩ := zif h
  obtain ⟨M16, e17, h⟩ := zlet_ex h
  have h18 := k_p e17 h10
  have h19 := k_p e17 h11
  have h20 := k_p e17 h13
  have h21 := k_p e17 h15
  refine r_aast C (z_d dd_Seq_takeTable 70 rfl) h13 h14 h15 e17 ?_
  refine r_goto C 176 (z_d dd_Seq_takeTable 71 rfl) (by decide) ?_
  refine r_mk [true, true, true, false, false, false, true] ?_
  exact s_Seq_takeTable_176 C hr E n l0 l1 l2 s0 M16 h
def f_Seq_takeTable_0 (O : zO) (n : Nat) (l0 : Nat) (l1 : Int32) (l2 : Int32) (l3 : Int32) (l4 : Int32) (M : zM) : Option (Int32 × zM) :=
  if z_k M l0 = 10 then
  if z_k M (z_p M l0 0) = 9 then
  (F_Row_at O n (z_p M l0 0) l2 M).bind fun q3 =>
  zlet ((q3.1 >>> (((6 : Int32) - ((2 : Int32) * l1)) &&& 31)) &&& (3 : Int32)) fun v5 =>
  if v5 = 0 then
  if z_k q3.2 l0 = 10 then
  if z_k q3.2 (z_p q3.2 l0 6) = 104 then
  if zin l1 (z_n q3.2 (z_p q3.2 l0 6)) = true then
  if z_k q3.2 (z_p q3.2 l0 8) = 104 then
  if zin l1 (z_n q3.2 (z_p q3.2 l0 8)) = true then
  if z_k q3.2 (z_p q3.2 (z_p q3.2 l0 6) l1.toNatClampNeg) = 11 then
  zlet (w_p q3.2 (z_p q3.2 l0 8) l1.toNatClampNeg (z_p q3.2 (z_p q3.2 l0 6) l1.toNatClampNeg)) fun M49 =>
  f_Seq_takeTable_176 O n l0 l1 l2 l3 M49
  else none
  else none
  else none
  else none
  else none
  else none
  else
  if v5 = (1 : Int32) then
  if l3 < l4 then
  if z_k q3.2 l0 = 10 then
  if z_k q3.2 (z_p q3.2 l0 0) = 9 then
  (F_Row_at O n (z_p q3.2 l0 0) l3 q3.2).bind fun q32 =>
  if O.2.1 (O.1 1) = true then
  if zin l1 (O.2.2.1 (O.1 1)) = true then
  if q32.1 ≤ (O.2.2.2 (O.1 1) l1.toNatClampNeg) then
  f_Seq_takeTable_91 O n l0 l1 l2 l3 (l3 + (1 : Int32)) q32.2
  else
  f_Seq_takeTable_91 O n l0 l1 l2 l3 (-1 : Int32) q32.2
  else none
  else none
  else none
  else none
  else
  if z_k q3.2 l0 = 10 then
  if z_k q3.2 (z_p q3.2 l0 1) = 8 then
  (F_Rep_fail O n (z_p q3.2 l0 1) (10 : Int32) l4 q3.2).bind fun q39 =>
  some ((-1 : Int32), q39.2)
  else none
  else none
  else
  if v5 = (2 : Int32) then
  if z_k q3.2 l0 = 10 then
  if z_k q3.2 (z_p q3.2 l0 7) = 104 then
  if zin l1 (z_n q3.2 (z_p q3.2 l0 7)) = true then
  if z_k q3.2 (z_p q3.2 (z_p q3.2 l0 7) l1.toNatClampNeg) = 11 then
  (F_Share_tell O n (z_p q3.2 (z_p q3.2 l0 7) l1.toNatClampNeg) (z_p q3.2 l0 0) l3 l4 q3.2).bind fun q15 =>
  if z_k q15.2 l0 = 10 then
  if z_k q15.2 (z_p q15.2 l0 7) = 104 then
  if zin l1 (z_n q15.2 (z_p q15.2 l0 7)) = true then
  if z_k q15.2 (z_p q15.2 l0 8) = 104 then
  if zin l1 (z_n q15.2 (z_p q15.2 l0 8)) = true then
  if z_k q15.2 (z_p q15.2 (z_p q15.2 l0 7) l1.toNatClampNeg) = 11 then
  zlet (w_p q15.2 (z_p q15.2 l0 8) l1.toNatClampNeg (z_p q15.2 (z_p q15.2 l0 7) l1.toNatClampNeg)) fun M23 =>
  f_Seq_takeTable_176 O n l0 l1 l2 q15.1 M23
  else none
  else none
  else none
  else none
  else none
  else none
  else none
  else none
  else none
  else none
  else
  if z_k q3.2 l0 = 10 then
  if z_k q3.2 (z_p q3.2 l0 9) = 102 then
  if zin l1 (z_n q3.2 (z_p q3.2 l0 9)) = true then
  if (z_i q3.2 (z_p q3.2 l0 9) l1.toNatClampNeg) = 0 then
  f_Seq_takeTable_176 O n l0 l1 l2 (-1 : Int32) q3.2
  else
  f_Seq_takeTable_176 O n l0 l1 l2 l3 q3.2
  else none
  else none
  else none
  else none
  else none
set_option maxRecDepth 100000 in
set_option maxHeartbeats 4000000 in
theorem s_Seq_takeTable_0 {X : zX} {q : Int32 × zM} (C : zC X zR9 prog_10_method_4_code 7 { frames := 4, cells := 0, slots := 0, locals := 97 }) (hr : zRt X (some .int)) (E : zE X (some (zI q.1)) q.2 0 0) : ∀ (n : Nat) (l0 : Nat) (l1 : Int32) (l2 : Int32) (l3 : Int32) (l4 : Int32) (M : zM), f_Seq_takeTable_0 (zOD X) n l0 l1 l2 l3 l4 M = some q → zW X 0 0 0 [some (zP l0), some (zI l1), some (zI l2), some (zI l3), some (zI l4), none, none] [] M := by
  intro n l0 l1 l2 l3 l4 M h
  rw [f_Seq_takeTable_0] at h
  refine r_aload_n C (z_d dd_Seq_takeTable 0 rfl) rfl ?_
  obtain ⟨h1, h⟩ := zif h
  refine r_getP C (z_d dd_Seq_takeTable 1 rfl) lk_Seq_9 rfl h1 rfl ?_
  refine r_iload_n C (z_d dd_Seq_takeTable 2 rfl) rfl ?_
  obtain ⟨h2, h⟩ := zif h
  obtain ⟨q3, c4, h⟩ := zbd h
  refine r_invV (as := [zI l2]) C 8 (S_Row_at c4) (z_d dd_Seq_takeTable 3 rfl) ok_Row_at iv_Row_at se_Row_at ml_Seq_114 rfl rfl h2 rfl rfl rfl (Nat.le_of_ble_eq_true rfl) ⟨(Nat.le_of_ble_eq_true rfl), (Nat.le_of_ble_eq_true rfl)⟩ ⟨(Nat.le_of_ble_eq_true rfl), (Nat.le_of_ble_eq_true rfl)⟩ ?_
  refine r_bipush (v := (6 : Int32)) C (z_d dd_Seq_takeTable 4 rfl) (by decide) ?_
  refine r_iconst (v := (2 : Int32)) C (z_d dd_Seq_takeTable 5 rfl) (by decide) ?_
  refine r_iload_n C (z_d dd_Seq_takeTable 6 rfl) rfl ?_
  refine r_imul C (z_d dd_Seq_takeTable 7 rfl) ?_
  refine r_isub C (z_d dd_Seq_takeTable 8 rfl) ?_
  refine r_ishr C (z_d dd_Seq_takeTable 9 rfl) ?_
  refine r_iconst (v := (3 : Int32)) C (z_d dd_Seq_takeTable 10 rfl) (by decide) ?_
  refine r_iand C (z_d dd_Seq_takeTable 11 rfl) ?_
  obtain ⟨v5, e6, h⟩ := zlet_ex h
  refine r_nmI e6 ?_
  refine r_istore (lv' := [some (zP l0), some (zI l1), some (zI l2), some (zI l3), some (zI l4), some (zI v5), none]) C (z_d dd_Seq_takeTable 12 rfl) (Nat.le_of_ble_eq_true rfl) rfl ?_
  refine r_iload_n C (z_d dd_Seq_takeTable 13 rfl) rfl ?_
  refine r_istore (lv' := [some (zP l0), some (zI l1), some (zI l2), some (zI l3), some (zI l4), some (zI v5), some (zI l3)]) C (z_d dd_Seq_takeTable 14 rfl) (Nat.le_of_ble_eq_true rfl) rfl ?_
  refine r_iload C (z_d dd_Seq_takeTable 15 rfl) rfl ?_
  refine r_if_ne C 42 (z_d dd_Seq_takeTable 16 rfl) (by decide) (fun c55 => ?_) (fun c55 => ?_)
  · have h := ziff h c55
    refine r_iload C (z_d dd_Seq_takeTable 26 rfl) rfl ?_
    refine r_iconst (v := (1 : Int32)) C (z_d dd_Seq_takeTable 27 rfl) (by decide) ?_
    refine r_icmp_ne C 125 (z_d dd_Seq_takeTable 28 rfl) (by decide) (fun c42 => ?_) (fun c42 => ?_)
    · have h := ziff h c42
      refine r_iload C (z_d dd_Seq_takeTable 72 rfl) rfl ?_
      refine r_iconst (v := (2 : Int32)) C (z_d dd_Seq_takeTable 73 rfl) (by decide) ?_
      refine r_icmp_ne C 164 (z_d dd_Seq_takeTable 74 rfl) (by decide) (fun c29 => ?_) (fun c29 => ?_)
      · have h := ziff h c29
        refine r_aload_n C (z_d dd_Seq_takeTable 94 rfl) rfl ?_
        obtain ⟨h7, h⟩ := zif h
        refine r_getP C (z_d dd_Seq_takeTable 95 rfl) lk_Seq_53 rfl h7 rfl ?_
        refine r_iload_n C (z_d dd_Seq_takeTable 96 rfl) rfl ?_
        obtain ⟨h8, h⟩ := zif h
        obtain ⟨h9, h⟩ := zif h
        refine r_zald C (z_d dd_Seq_takeTable 97 rfl) h8 h9 rfl ?_
        refine r_if_ne C 176 (z_d dd_Seq_takeTable 98 rfl) (by decide) (fun c10 => ?_) (fun c10 => ?_)
        · have h := ziff h c10
          refine r_mk [true, true, true, false, false, false, true] ?_
          exact s_Seq_takeTable_176 C hr E n l0 l1 l2 l3 q3.2 h
        · have h := zift h c10
          refine r_iconst (v := (-1 : Int32)) C (z_d dd_Seq_takeTable 99 rfl) (by decide) ?_
          refine r_istore (lv' := [some (zP l0), some (zI l1), some (zI l2), some (zI l3), some (zI l4), some (zI v5), some (zI (-1 : Int32))]) C (z_d dd_Seq_takeTable 100 rfl) (Nat.le_of_ble_eq_true rfl) rfl ?_
          refine r_mk [true, true, true, false, false, false, true] ?_
          exact s_Seq_takeTable_176 C hr E n l0 l1 l2 (-1 : Int32) q3.2 h
      · have h := zift h c29
        refine r_aload_n C (z_d dd_Seq_takeTable 75 rfl) rfl ?_
        obtain ⟨h11, h⟩ := zif h
        refine r_getP C (z_d dd_Seq_takeTable 76 rfl) lk_Seq_47 rfl h11 rfl ?_
        refine r_iload_n C (z_d dd_Seq_takeTable 77 rfl) rfl ?_
        obtain ⟨h12, h⟩ := zif h
        obtain ⟨h13, h⟩ := zif h
        refine r_aald C (z_d dd_Seq_takeTable 78 rfl) h12 h13 rfl ?_
        refine r_aload_n C (z_d dd_Seq_takeTable 79 rfl) rfl ?_
        refine r_getP C (z_d dd_Seq_takeTable 80 rfl) lk_Seq_9 rfl h11 rfl ?_
        refine r_iload_n C (z_d dd_Seq_takeTable 81 rfl) rfl ?_
        refine r_iload C (z_d dd_Seq_takeTable 82 rfl) rfl ?_
        obtain ⟨h14, h⟩ := zif h
        obtain ⟨q15, c16, h⟩ := zbd h
        refine r_invV (as := [zP (z_p q3.2 l0 0), zI l3, zI l4]) C 10 (S_Share_tell c16) (z_d dd_Seq_takeTable 83 rfl) ok_Share_tell iv_Share_tell se_Share_tell ml_Seq_146 rfl rfl h14 rfl rfl rfl (Nat.le_of_ble_eq_true rfl) ⟨(Nat.le_of_ble_eq_true rfl), (Nat.le_of_ble_eq_true rfl)⟩ ⟨(Nat.le_of_ble_eq_true rfl), (Nat.le_of_ble_eq_true rfl)⟩ ?_
        refine r_istore (lv' := [some (zP l0), some (zI l1), some (zI l2), some (zI l3), some (zI l4), some (zI v5), some (zI q15.1)]) C (z_d dd_Seq_takeTable 84 rfl) (Nat.le_of_ble_eq_true rfl) rfl ?_
        refine r_aload_n C (z_d dd_Seq_takeTable 85 rfl) rfl ?_
        obtain ⟨h17, h⟩ := zif h
        refine r_getP C (z_d dd_Seq_takeTable 86 rfl) lk_Seq_50 rfl h17 rfl ?_
        refine r_iload_n C (z_d dd_Seq_takeTable 87 rfl) rfl ?_
        refine r_aload_n C (z_d dd_Seq_takeTable 88 rfl) rfl ?_
        refine r_getP C (z_d dd_Seq_takeTable 89 rfl) lk_Seq_47 rfl h17 rfl ?_
        refine r_iload_n C (z_d dd_Seq_takeTable 90 rfl) rfl ?_
        obtain ⟨h18, h⟩ := zif h
        obtain ⟨h19, h⟩ := zif h
        refine r_aald C (z_d dd_Seq_takeTable 91 rfl) h18 h19 rfl ?_
        obtain ⟨h20, h⟩ := zif h
        obtain ⟨h21, h⟩ := zif h
        obtain ⟨h22, h⟩ := zif h
        obtain ⟨M23, e24, h⟩ := zlet_ex h
        have h25 := k_p e24 h17
        have h26 := k_p e24 h18
        have h27 := k_p e24 h20
        have h28 := k_p e24 h22
        refine r_aast C (z_d dd_Seq_takeTable 92 rfl) h20 h21 h22 e24 ?_
        refine r_goto C 176 (z_d dd_Seq_takeTable 93 rfl) (by decide) ?_
        refine r_mk [true, true, true, false, false, false, true] ?_
        exact s_Seq_takeTable_176 C hr E n l0 l1 l2 q15.1 M23 h
    · have h := zift h c42
      refine r_iload_n C (z_d dd_Seq_takeTable 29 rfl) rfl ?_
      refine r_iload C (z_d dd_Seq_takeTable 30 rfl) rfl ?_
      refine r_icmp_lt C 68 (z_d dd_Seq_takeTable 31 rfl) (by decide) (fun c41 => ?_) (fun c41 => ?_)
      · have h := zift h c41
        refine r_aload_n C (z_d dd_Seq_takeTable 40 rfl) rfl ?_
        obtain ⟨h30, h⟩ := zif h
        refine r_getP C (z_d dd_Seq_takeTable 41 rfl) lk_Seq_9 rfl h30 rfl ?_
        refine r_iload_n C (z_d dd_Seq_takeTable 42 rfl) rfl ?_
        obtain ⟨h31, h⟩ := zif h
        obtain ⟨q32, c33, h⟩ := zbd h
        refine r_invV (as := [zI l3]) C 8 (S_Row_at c33) (z_d dd_Seq_takeTable 43 rfl) ok_Row_at iv_Row_at se_Row_at ml_Seq_114 rfl rfl h31 rfl rfl rfl (Nat.le_of_ble_eq_true rfl) ⟨(Nat.le_of_ble_eq_true rfl), (Nat.le_of_ble_eq_true rfl)⟩ ⟨(Nat.le_of_ble_eq_true rfl), (Nat.le_of_ble_eq_true rfl)⟩ ?_
        refine r_gets (i := 1) C (z_d dd_Seq_takeTable 44 rfl) rfl ls_Seq_64 ?_
        refine r_iload_n C (z_d dd_Seq_takeTable 45 rfl) rfl ?_
        obtain ⟨h34, h⟩ := zif h
        obtain ⟨h35, h⟩ := zif h
        refine r_oald C (z_d dd_Seq_takeTable 46 rfl) h34 h35 rfl ?_
        refine r_icmp_le C 88 (z_d dd_Seq_takeTable 47 rfl) (by decide) (fun c36 => ?_) (fun c36 => ?_)
        · have h := zift h c36
          refine r_iload_n C (z_d dd_Seq_takeTable 50 rfl) rfl ?_
          refine r_iconst (v := (1 : Int32)) C (z_d dd_Seq_takeTable 51 rfl) (by decide) ?_
          refine r_iadd C (z_d dd_Seq_takeTable 52 rfl) ?_
          refine r_mk [true, true, true, true, false, false, false] ?_
          exact s_Seq_takeTable_91 C hr E n l0 l1 l2 l3 (l3 + (1 : Int32)) q32.2 h
        · have h := ziff h c36
          refine r_iconst (v := (-1 : Int32)) C (z_d dd_Seq_takeTable 48 rfl) (by decide) ?_
          refine r_goto C 91 (z_d dd_Seq_takeTable 49 rfl) (by decide) ?_
          refine r_mk [true, true, true, true, false, false, false] ?_
          exact s_Seq_takeTable_91 C hr E n l0 l1 l2 l3 (-1 : Int32) q32.2 h
      · have h := ziff h c41
        refine r_aload_n C (z_d dd_Seq_takeTable 32 rfl) rfl ?_
        obtain ⟨h37, h⟩ := zif h
        refine r_getP C (z_d dd_Seq_takeTable 33 rfl) lk_Seq_15 rfl h37 rfl ?_
        refine r_bipush (v := (10 : Int32)) C (z_d dd_Seq_takeTable 34 rfl) (by decide) ?_
        refine r_iload C (z_d dd_Seq_takeTable 35 rfl) rfl ?_
        obtain ⟨h38, h⟩ := zif h
        obtain ⟨q39, c40, h⟩ := zbd h
        refine r_invV (as := [zI (10 : Int32), zI l4]) C 7 (S_Rep_fail c40) (z_d dd_Seq_takeTable 36 rfl) ok_Rep_fail iv_Rep_fail se_Rep_fail ml_Seq_120 rfl rfl h38 rfl rfl rfl (Nat.le_of_ble_eq_true rfl) ⟨(Nat.le_of_ble_eq_true rfl), (Nat.le_of_ble_eq_true rfl)⟩ ⟨(Nat.le_of_ble_eq_true rfl), (Nat.le_of_ble_eq_true rfl)⟩ ?_
        refine r_popI C (z_d dd_Seq_takeTable 37 rfl) ?_
        refine r_iconst (v := (-1 : Int32)) C (z_d dd_Seq_takeTable 38 rfl) (by decide) ?_
        obtain rfl := z_res h
        exact r_iretI C E hr (z_d dd_Seq_takeTable 39 rfl) (Nat.le_of_ble_eq_true rfl) (Nat.le_of_ble_eq_true rfl)
  · have h := zift h c55
    refine r_aload_n C (z_d dd_Seq_takeTable 17 rfl) rfl ?_
    obtain ⟨h43, h⟩ := zif h
    refine r_getP C (z_d dd_Seq_takeTable 18 rfl) lk_Seq_50 rfl h43 rfl ?_
    refine r_iload_n C (z_d dd_Seq_takeTable 19 rfl) rfl ?_
    refine r_aload_n C (z_d dd_Seq_takeTable 20 rfl) rfl ?_
    refine r_getP C (z_d dd_Seq_takeTable 21 rfl) lk_Seq_43 rfl h43 rfl ?_
    refine r_iload_n C (z_d dd_Seq_takeTable 22 rfl) rfl ?_
    obtain ⟨h44, h⟩ := zif h
    obtain ⟨h45, h⟩ := zif h
    refine r_aald C (z_d dd_Seq_takeTable 23 rfl) h44 h45 rfl ?_
    obtain ⟨h46, h⟩ := zif h
    obtain ⟨h47, h⟩ := zif h
    obtain ⟨h48, h⟩ := zif h
    obtain ⟨M49, e50, h⟩ := zlet_ex h
    have h51 := k_p e50 h43
    have h52 := k_p e50 h44
    have h53 := k_p e50 h46
    have h54 := k_p e50 h48
    refine r_aast C (z_d dd_Seq_takeTable 24 rfl) h46 h47 h48 e50 ?_
    refine r_goto C 176 (z_d dd_Seq_takeTable 25 rfl) (by decide) ?_
    refine r_mk [true, true, true, false, false, false, true] ?_
    exact s_Seq_takeTable_176 C hr E n l0 l1 l2 l3 M49 h
def F_Seq_takeTable (O : zO) (n : Nat) (l0 : Nat) (l1 : Int32) (l2 : Int32) (l3 : Int32) (l4 : Int32) (M : zM) : Option (Int32 × zM) := f_Seq_takeTable_0 O n l0 l1 l2 l3 l4 M
theorem S_Seq_takeTable {l : Launch} {D : zD} {n : Nat} {l0 : Nat} {l1 : Int32} {l2 : Int32} {l3 : Int32} {l4 : Int32} {M : zM} {q : Int32 × zM} (h : F_Seq_takeTable D.2.2.2.2 n l0 l1 l2 l3 l4 M = some q) : zMet l D mi_Seq_takeTable [zP l0, zI l1, zI l2, zI l3, zI l4] M (some (zI q.1)) q.2 :=
  z_met (by decide) (Nat.le_of_ble_eq_true rfl) (fun X C E hr hin hD hl => by
    subst hD
    exact s_Seq_takeTable_0 C hr E n l0 l1 l2 l3 l4 M h)

def f_Seq_symbolOf_34 (O : zO) (n : Nat) (s0 : Int32) (M : zM) : Option (Int32 × zM) :=
  some (s0, M)
set_option maxRecDepth 100000 in
set_option maxHeartbeats 4000000 in
theorem s_Seq_symbolOf_34 {X : zX} {q : Int32 × zM} (C : zC X zR9 prog_10_method_7_code 3 { frames := 1, cells := 0, slots := 0, locals := 21 }) (hr : zRt X (some .int)) (E : zE X (some (zI q.1)) q.2 0 0) : ∀ (n : Nat) (s0 : Int32) (M : zM), f_Seq_symbolOf_34 (zOD X) n s0 M = some q → zW X 0 0 34 [none, none, none] [zI s0] M := by
  intro n s0 M h
  rw [f_Seq_symbolOf_34] at h
  obtain rfl := z_res h
  exact r_iretI C E hr (z_d dd_Seq_symbolOf 20 rfl) (Nat.le_of_ble_eq_true rfl) (Nat.le_of_ble_eq_true rfl)
def f_Seq_symbolOf_33 (O : zO) (n : Nat) (M : zM) : Option (Int32 × zM) :=
  f_Seq_symbolOf_34 O n (0 : Int32) M
set_option maxRecDepth 100000 in
set_option maxHeartbeats 4000000 in
theorem s_Seq_symbolOf_33 {X : zX} {q : Int32 × zM} (C : zC X zR9 prog_10_method_7_code 3 { frames := 1, cells := 0, slots := 0, locals := 21 }) (hr : zRt X (some .int)) (E : zE X (some (zI q.1)) q.2 0 0) : ∀ (n : Nat) (M : zM), f_Seq_symbolOf_33 (zOD X) n M = some q → zW X 0 0 33 [none, none, none] [] M := by
  intro n M h
  rw [f_Seq_symbolOf_33] at h
  refine r_iconst (v := (0 : Int32)) C (z_d dd_Seq_symbolOf 19 rfl) (by decide) ?_
  exact s_Seq_symbolOf_34 C hr E n (0 : Int32) M h
def f_Seq_symbolOf_0 (O : zO) (n : Nat) (l0 : Nat) (l1 : Int32) (M : zM) : Option (Int32 × zM) :=
  if z_k M l0 = 10 then
  if z_k M (z_p M l0 8) = 104 then
  if zin l1 (z_n M (z_p M l0 8)) = true then
  if z_k M (z_p M l0 10) = 100 then
  if zin l1 (z_n M (z_p M l0 10)) = true then
  if z_k M (z_p M (z_p M l0 8) l1.toNatClampNeg) = 11 then
  (F_Share_symbolOf O n (z_p M (z_p M l0 8) l1.toNatClampNeg) (z_i M (z_p M l0 10) l1.toNatClampNeg) M).bind fun q7 =>
  if q7.1 < 0 then
  f_Seq_symbolOf_33 O n q7.2
  else
  if O.2.1 (O.1 1) = true then
  if zin l1 (O.2.2.1 (O.1 1)) = true then
  if (O.2.2.2 (O.1 1) l1.toNatClampNeg) < q7.1 then
  f_Seq_symbolOf_33 O n q7.2
  else
  f_Seq_symbolOf_34 O n q7.1 q7.2
  else none
  else none
  else none
  else none
  else none
  else none
  else none
  else none
set_option maxRecDepth 100000 in
set_option maxHeartbeats 4000000 in
theorem s_Seq_symbolOf_0 {X : zX} {q : Int32 × zM} (C : zC X zR9 prog_10_method_7_code 3 { frames := 1, cells := 0, slots := 0, locals := 21 }) (hr : zRt X (some .int)) (E : zE X (some (zI q.1)) q.2 0 0) : ∀ (n : Nat) (l0 : Nat) (l1 : Int32) (M : zM), f_Seq_symbolOf_0 (zOD X) n l0 l1 M = some q → zW X 0 0 0 [some (zP l0), some (zI l1), none] [] M := by
  intro n l0 l1 M h
  rw [f_Seq_symbolOf_0] at h
  refine r_aload_n C (z_d dd_Seq_symbolOf 0 rfl) rfl ?_
  obtain ⟨h1, h⟩ := zif h
  refine r_getP C (z_d dd_Seq_symbolOf 1 rfl) lk_Seq_50 rfl h1 rfl ?_
  refine r_iload_n C (z_d dd_Seq_symbolOf 2 rfl) rfl ?_
  obtain ⟨h2, h⟩ := zif h
  obtain ⟨h3, h⟩ := zif h
  refine r_aald C (z_d dd_Seq_symbolOf 3 rfl) h2 h3 rfl ?_
  refine r_aload_n C (z_d dd_Seq_symbolOf 4 rfl) rfl ?_
  refine r_getP C (z_d dd_Seq_symbolOf 5 rfl) lk_Seq_57 rfl h1 rfl ?_
  refine r_iload_n C (z_d dd_Seq_symbolOf 6 rfl) rfl ?_
  obtain ⟨h4, h⟩ := zif h
  obtain ⟨h5, h⟩ := zif h
  refine r_iald C (z_d dd_Seq_symbolOf 7 rfl) h4 h5 rfl ?_
  obtain ⟨h6, h⟩ := zif h
  obtain ⟨q7, c8, h⟩ := zbd h
  refine r_invV (as := [zI (z_i M (z_p M l0 10) l1.toNatClampNeg)]) C 10 (S_Share_symbolOf c8) (z_d dd_Seq_symbolOf 8 rfl) ok_Share_symbolOf iv_Share_symbolOf se_Share_symbolOf ml_Seq_221 rfl rfl h6 rfl rfl rfl (Nat.le_of_ble_eq_true rfl) ⟨(Nat.le_of_ble_eq_true rfl), (Nat.le_of_ble_eq_true rfl)⟩ ⟨(Nat.le_of_ble_eq_true rfl), (Nat.le_of_ble_eq_true rfl)⟩ ?_
  refine r_istore_n (lv' := [some (zP l0), some (zI l1), some (zI q7.1)]) C (z_d dd_Seq_symbolOf 9 rfl) (Nat.le_of_ble_eq_true rfl) rfl ?_
  refine r_iload_n C (z_d dd_Seq_symbolOf 10 rfl) rfl ?_
  refine r_if_lt C 33 (z_d dd_Seq_symbolOf 11 rfl) (by decide) (fun c12 => ?_) (fun c12 => ?_)
  · have h := zift h c12
    refine r_mk [false, false, false] ?_
    exact s_Seq_symbolOf_33 C hr E n q7.2 h
  · have h := ziff h c12
    refine r_iload_n C (z_d dd_Seq_symbolOf 12 rfl) rfl ?_
    refine r_gets (i := 1) C (z_d dd_Seq_symbolOf 13 rfl) rfl ls_Seq_64 ?_
    refine r_iload_n C (z_d dd_Seq_symbolOf 14 rfl) rfl ?_
    obtain ⟨h9, h⟩ := zif h
    obtain ⟨h10, h⟩ := zif h
    refine r_oald C (z_d dd_Seq_symbolOf 15 rfl) h9 h10 rfl ?_
    refine r_icmp_gt C 33 (z_d dd_Seq_symbolOf 16 rfl) (by decide) (fun c11 => ?_) (fun c11 => ?_)
    · have h := zift h c11
      refine r_mk [false, false, false] ?_
      exact s_Seq_symbolOf_33 C hr E n q7.2 h
    · have h := ziff h c11
      refine r_iload_n C (z_d dd_Seq_symbolOf 17 rfl) rfl ?_
      refine r_goto C 34 (z_d dd_Seq_symbolOf 18 rfl) (by decide) ?_
      refine r_mk [false, false, false] ?_
      exact s_Seq_symbolOf_34 C hr E n q7.1 q7.2 h
def F_Seq_symbolOf (O : zO) (n : Nat) (l0 : Nat) (l1 : Int32) (M : zM) : Option (Int32 × zM) := f_Seq_symbolOf_0 O n l0 l1 M
theorem S_Seq_symbolOf {l : Launch} {D : zD} {n : Nat} {l0 : Nat} {l1 : Int32} {M : zM} {q : Int32 × zM} (h : F_Seq_symbolOf D.2.2.2.2 n l0 l1 M = some q) : zMet l D mi_Seq_symbolOf [zP l0, zI l1] M (some (zI q.1)) q.2 :=
  z_met (by decide) (Nat.le_of_ble_eq_true rfl) (fun X C E hr hin hD hl => by
    subst hD
    exact s_Seq_symbolOf_0 C hr E n l0 l1 M h)

def f_Seq_follow_0 (O : zO) (n : Nat) (l0 : Nat) (l1 : Int32) (M : zM) : Option (Unit × zM) :=
  if z_k M l0 = 10 then
  if z_k M (z_p M l0 8) = 104 then
  if zin l1 (z_n M (z_p M l0 8)) = true then
  if z_k M (z_p M l0 10) = 100 then
  if zin l1 (z_n M (z_p M l0 10)) = true then
  if z_k M (z_p M (z_p M l0 8) l1.toNatClampNeg) = 11 then
  (F_Share_baseOf O n (z_p M (z_p M l0 8) l1.toNatClampNeg) (z_i M (z_p M l0 10) l1.toNatClampNeg) M).bind fun q7 =>
  if z_k q7.2 l0 = 10 then
  if z_k q7.2 (z_p q7.2 l0 8) = 104 then
  if zin l1 (z_n q7.2 (z_p q7.2 l0 8)) = true then
  if z_k q7.2 (z_p q7.2 l0 10) = 100 then
  if zin l1 (z_n q7.2 (z_p q7.2 l0 10)) = true then
  if z_k q7.2 (z_p q7.2 (z_p q7.2 l0 8) l1.toNatClampNeg) = 11 then
  (F_Share_bitsOf O n (z_p q7.2 (z_p q7.2 l0 8) l1.toNatClampNeg) (z_i q7.2 (z_p q7.2 l0 10) l1.toNatClampNeg) q7.2).bind fun q15 =>
  if z_k q15.2 (z_p q7.2 l0 4) = 12 then
  (F_Stream_take O n (z_p q7.2 l0 4) q15.1 q15.2).bind fun q18 =>
  if z_k q18.2 (z_p q7.2 l0 10) = 100 then
  if zin l1 (z_n q18.2 (z_p q7.2 l0 10)) = true then
  zlet (w_i q18.2 (z_p q7.2 l0 10) l1.toNatClampNeg (q7.1 + q18.1.toInt32)) fun M22 =>
  some ((), M22)
  else none
  else none
  else none
  else none
  else none
  else none
  else none
  else none
  else none
  else none
  else none
  else none
  else none
  else none
  else none
set_option maxRecDepth 100000 in
set_option maxHeartbeats 4000000 in
theorem s_Seq_follow_0 {X : zX} {q : Unit × zM} (C : zC X zR9 prog_10_method_8_code 3 { frames := 1, cells := 0, slots := 0, locals := 26 }) (hr : zRt X none) (E : zE X none q.2 0 0) : ∀ (n : Nat) (l0 : Nat) (l1 : Int32) (M : zM), f_Seq_follow_0 (zOD X) n l0 l1 M = some q → zW X 0 0 0 [some (zP l0), some (zI l1), none] [] M := by
  intro n l0 l1 M h
  rw [f_Seq_follow_0] at h
  refine r_aload_n C (z_d dd_Seq_follow 0 rfl) rfl ?_
  obtain ⟨h1, h⟩ := zif h
  refine r_getP C (z_d dd_Seq_follow 1 rfl) lk_Seq_50 rfl h1 rfl ?_
  refine r_iload_n C (z_d dd_Seq_follow 2 rfl) rfl ?_
  obtain ⟨h2, h⟩ := zif h
  obtain ⟨h3, h⟩ := zif h
  refine r_aald C (z_d dd_Seq_follow 3 rfl) h2 h3 rfl ?_
  refine r_aload_n C (z_d dd_Seq_follow 4 rfl) rfl ?_
  refine r_getP C (z_d dd_Seq_follow 5 rfl) lk_Seq_57 rfl h1 rfl ?_
  refine r_iload_n C (z_d dd_Seq_follow 6 rfl) rfl ?_
  obtain ⟨h4, h⟩ := zif h
  obtain ⟨h5, h⟩ := zif h
  refine r_iald C (z_d dd_Seq_follow 7 rfl) h4 h5 rfl ?_
  obtain ⟨h6, h⟩ := zif h
  obtain ⟨q7, c8, h⟩ := zbd h
  refine r_invV (as := [zI (z_i M (z_p M l0 10) l1.toNatClampNeg)]) C 10 (S_Share_baseOf c8) (z_d dd_Seq_follow 8 rfl) ok_Share_baseOf iv_Share_baseOf se_Share_baseOf ml_Seq_222 rfl rfl h6 rfl rfl rfl (Nat.le_of_ble_eq_true rfl) ⟨(Nat.le_of_ble_eq_true rfl), (Nat.le_of_ble_eq_true rfl)⟩ ⟨(Nat.le_of_ble_eq_true rfl), (Nat.le_of_ble_eq_true rfl)⟩ ?_
  refine r_istore_n (lv' := [some (zP l0), some (zI l1), some (zI q7.1)]) C (z_d dd_Seq_follow 9 rfl) (Nat.le_of_ble_eq_true rfl) rfl ?_
  refine r_aload_n C (z_d dd_Seq_follow 10 rfl) rfl ?_
  obtain ⟨h9, h⟩ := zif h
  refine r_getP C (z_d dd_Seq_follow 11 rfl) lk_Seq_57 rfl h9 rfl ?_
  refine r_iload_n C (z_d dd_Seq_follow 12 rfl) rfl ?_
  refine r_iload_n C (z_d dd_Seq_follow 13 rfl) rfl ?_
  refine r_aload_n C (z_d dd_Seq_follow 14 rfl) rfl ?_
  refine r_getP C (z_d dd_Seq_follow 15 rfl) lk_Seq_30 rfl h9 rfl ?_
  refine r_aload_n C (z_d dd_Seq_follow 16 rfl) rfl ?_
  refine r_getP C (z_d dd_Seq_follow 17 rfl) lk_Seq_50 rfl h9 rfl ?_
  refine r_iload_n C (z_d dd_Seq_follow 18 rfl) rfl ?_
  obtain ⟨h10, h⟩ := zif h
  obtain ⟨h11, h⟩ := zif h
  refine r_aald C (z_d dd_Seq_follow 19 rfl) h10 h11 rfl ?_
  refine r_aload_n C (z_d dd_Seq_follow 20 rfl) rfl ?_
  refine r_getP C (z_d dd_Seq_follow 21 rfl) lk_Seq_57 rfl h9 rfl ?_
  refine r_iload_n C (z_d dd_Seq_follow 22 rfl) rfl ?_
  obtain ⟨h12, h⟩ := zif h
  obtain ⟨h13, h⟩ := zif h
  refine r_iald C (z_d dd_Seq_follow 23 rfl) h12 h13 rfl ?_
  obtain ⟨h14, h⟩ := zif h
  obtain ⟨q15, c16, h⟩ := zbd h
  refine r_invV (as := [zI (z_i q7.2 (z_p q7.2 l0 10) l1.toNatClampNeg)]) C 10 (S_Share_bitsOf c16) (z_d dd_Seq_follow 24 rfl) ok_Share_bitsOf iv_Share_bitsOf se_Share_bitsOf ml_Seq_225 rfl rfl h14 rfl rfl rfl (Nat.le_of_ble_eq_true rfl) ⟨(Nat.le_of_ble_eq_true rfl), (Nat.le_of_ble_eq_true rfl)⟩ ⟨(Nat.le_of_ble_eq_true rfl), (Nat.le_of_ble_eq_true rfl)⟩ ?_
  obtain ⟨h17, h⟩ := zif h
  obtain ⟨q18, c19, h⟩ := zbd h
  refine r_invV (as := [zI q15.1]) C 11 (S_Stream_take c19) (z_d dd_Seq_follow 25 rfl) ok_Stream_take iv_Stream_take se_Stream_take ml_Seq_158 rfl rfl h17 rfl rfl rfl (Nat.le_of_ble_eq_true rfl) ⟨(Nat.le_of_ble_eq_true rfl), (Nat.le_of_ble_eq_true rfl)⟩ ⟨(Nat.le_of_ble_eq_true rfl), (Nat.le_of_ble_eq_true rfl)⟩ ?_
  refine r_l2i C (z_d dd_Seq_follow 26 rfl) ?_
  refine r_iadd C (z_d dd_Seq_follow 27 rfl) ?_
  obtain ⟨h20, h⟩ := zif h
  obtain ⟨h21, h⟩ := zif h
  obtain ⟨M22, e23, h⟩ := zlet_ex h
  have h24 := k_i e23 h20
  refine r_iast C (z_d dd_Seq_follow 28 rfl) h20 h21 e23 ?_
  obtain rfl := z_res h
  exact r_vret C E hr (z_d dd_Seq_follow 29 rfl) (Nat.le_of_ble_eq_true rfl) (Nat.le_of_ble_eq_true rfl)
def F_Seq_follow (O : zO) (n : Nat) (l0 : Nat) (l1 : Int32) (M : zM) : Option (Unit × zM) := f_Seq_follow_0 O n l0 l1 M
theorem S_Seq_follow {l : Launch} {D : zD} {n : Nat} {l0 : Nat} {l1 : Int32} {M : zM} {q : Unit × zM} (h : F_Seq_follow D.2.2.2.2 n l0 l1 M = some q) : zMet l D mi_Seq_follow [zP l0, zI l1] M none q.2 :=
  z_met (by decide) (Nat.le_of_ble_eq_true rfl) (fun X C E hr hin hD hl => by
    subst hD
    exact s_Seq_follow_0 C hr E n l0 l1 M h)

def f_Latest_lead_0 (O : zO) (n : Nat) (l0 : Nat) (l1 : Int64) (M : zM) : Option (Unit × zM) :=
  if z_k M l0 = 6 then
  zlet (w_j M l0 2 (z_j M l0 1)) fun M2 =>
  zlet (w_j M2 l0 1 (z_j M2 l0 0)) fun M5 =>
  zlet (w_j M5 l0 0 l1) fun M8 =>
  some ((), M8)
  else none
set_option maxRecDepth 100000 in
set_option maxHeartbeats 4000000 in
theorem s_Latest_lead_0 {X : zX} {q : Unit × zM} (C : zC X zR5 prog_6_method_4_code 3 { frames := 0, cells := 0, slots := 0, locals := 0 }) (hr : zRt X none) (E : zE X none q.2 0 0) : ∀ (n : Nat) (l0 : Nat) (l1 : Int64) (M : zM), f_Latest_lead_0 (zOD X) n l0 l1 M = some q → zW X 0 0 0 [some (zP l0), some (zL l1), none] [] M := by
  intro n l0 l1 M h
  rw [f_Latest_lead_0] at h
  refine r_aload_n C (z_d dd_Latest_lead 0 rfl) rfl ?_
  refine r_aload_n C (z_d dd_Latest_lead 1 rfl) rfl ?_
  obtain ⟨h1, h⟩ := zif h
  refine r_getL C (z_d dd_Latest_lead 2 rfl) lk_Latest_15 rfl h1 rfl ?_
  obtain ⟨M2, e3, h⟩ := zlet_ex h
  have h4 := k_j e3 h1
  refine r_putL C (z_d dd_Latest_lead 3 rfl) lp_Latest_20 rfl h1 e3 ?_
  refine r_aload_n C (z_d dd_Latest_lead 4 rfl) rfl ?_
  refine r_aload_n C (z_d dd_Latest_lead 5 rfl) rfl ?_
  refine r_getL C (z_d dd_Latest_lead 6 rfl) lk_Latest_7 rfl h4 rfl ?_
  obtain ⟨M5, e6, h⟩ := zlet_ex h
  have h7 := k_j e6 h4
  refine r_putL C (z_d dd_Latest_lead 7 rfl) lp_Latest_15 rfl h4 e6 ?_
  refine r_aload_n C (z_d dd_Latest_lead 8 rfl) rfl ?_
  refine r_lload_n C (z_d dd_Latest_lead 9 rfl) rfl ?_
  obtain ⟨M8, e9, h⟩ := zlet_ex h
  have h10 := k_j e9 h7
  refine r_putL C (z_d dd_Latest_lead 10 rfl) lp_Latest_7 rfl h7 e9 ?_
  obtain rfl := z_res h
  exact r_vret C E hr (z_d dd_Latest_lead 11 rfl) (Nat.le_of_ble_eq_true rfl) (Nat.le_of_ble_eq_true rfl)
def F_Latest_lead (O : zO) (n : Nat) (l0 : Nat) (l1 : Int64) (M : zM) : Option (Unit × zM) := f_Latest_lead_0 O n l0 l1 M
theorem S_Latest_lead {l : Launch} {D : zD} {n : Nat} {l0 : Nat} {l1 : Int64} {M : zM} {q : Unit × zM} (h : F_Latest_lead D.2.2.2.2 n l0 l1 M = some q) : zMet l D mi_Latest_lead [zP l0, zL l1] M none q.2 :=
  z_met (by decide) (Nat.le_of_ble_eq_true rfl) (fun X C E hr hin hD hl => by
    subst hD
    exact s_Latest_lead_0 C hr E n l0 l1 M h)

def f_Latest_choose_104 (O : zO) (n : Nat) (l0 : Nat) (M : zM) : Option (Int64 × zM) :=
  if z_k M l0 = 6 then
  some ((z_j M l0 0), M)
  else none
set_option maxRecDepth 100000 in
set_option maxHeartbeats 4000000 in
theorem s_Latest_choose_104 {X : zX} {q : Int64 × zM} (C : zC X zR5 prog_6_method_3_code 8 { frames := 1, cells := 0, slots := 0, locals := 22 }) (hr : zRt X (some .long)) (E : zE X (some (zL q.1)) q.2 0 0) : ∀ (n : Nat) (l0 : Nat) (M : zM), f_Latest_choose_104 (zOD X) n l0 M = some q → zW X 0 0 104 [some (zP l0), none, none, none, none, none, none, none] [] M := by
  intro n l0 M h
  rw [f_Latest_choose_104] at h
  refine r_aload_n C (z_d dd_Latest_choose 52 rfl) rfl ?_
  obtain ⟨h1, h⟩ := zif h
  refine r_getL C (z_d dd_Latest_choose 53 rfl) lk_Latest_7 rfl h1 rfl ?_
  obtain rfl := z_res h
  exact r_lret C E hr (z_d dd_Latest_choose 54 rfl) (Nat.le_of_ble_eq_true rfl) (Nat.le_of_ble_eq_true rfl)
def f_Latest_choose_11 (O : zO) (n : Nat) (l0 : Nat) (l1 : Int64) (s0 : Int64) (M : zM) : Option (Int64 × zM) :=
  if (lg_cmp l1 (3 : Int64)) ≤ 0 then
  if (lg_cmp s0 (2 : Int64)) = 0 then
  if z_k M l0 = 6 then
  zlet (z_j M l0 0) fun v10 =>
  zlet (w_j M l0 0 (z_j M l0 1)) fun M12 =>
  zlet (w_j M12 l0 1 v10) fun M15 =>
  f_Latest_choose_104 O n l0 M15
  else none
  else
  if (lg_cmp s0 (3 : Int64)) = 0 then
  if z_k M l0 = 6 then
  (F_Latest_lead O n l0 (z_j M l0 2) M).bind fun q6 =>
  f_Latest_choose_104 O n l0 q6.2
  else none
  else
  if (lg_cmp s0 (4 : Int64)) = 0 then
  if z_k M l0 = 6 then
  (F_Latest_lead O n l0 ((z_j M l0 0) - (1 : Int64)) M).bind fun q2 =>
  f_Latest_choose_104 O n l0 q2.2
  else none
  else
  f_Latest_choose_104 O n l0 M
  else
  if z_k M l0 = 6 then
  (F_Latest_lead O n l0 (l1 - (3 : Int64)) M).bind fun q20 =>
  f_Latest_choose_104 O n l0 q20.2
  else none
set_option maxRecDepth 100000 in
set_option maxHeartbeats 4000000 in
theorem s_Latest_choose_11 {X : zX} {q : Int64 × zM} (C : zC X zR5 prog_6_method_3_code 8 { frames := 1, cells := 0, slots := 0, locals := 22 }) (hr : zRt X (some .long)) (E : zE X (some (zL q.1)) q.2 0 0) : ∀ (n : Nat) (l0 : Nat) (l1 : Int64) (s0 : Int64) (M : zM), f_Latest_choose_11 (zOD X) n l0 l1 s0 M = some q → zW X 0 0 11 [some (zP l0), some (zL l1), none, none, none, none, none, none] [zL s0] M := by
  intro n l0 l1 s0 M h
  rw [f_Latest_choose_11] at h
  refine r_lstore (lv' := [some (zP l0), some (zL l1), none, none, some (zL s0), none, none, none]) C (z_d dd_Latest_choose 7 rfl) (Nat.le_of_ble_eq_true rfl) rfl ?_
  refine r_lload_n C (z_d dd_Latest_choose 8 rfl) rfl ?_
  refine r_ldc2 (v := (3 : Int64)) C (z_d dd_Latest_choose 9 rfl) kl_Latest_23 ?_
  refine r_lcmp C (z_d dd_Latest_choose 10 rfl) ?_
  refine r_if_le C 33 (z_d dd_Latest_choose 11 rfl) (by decide) (fun c22 => ?_) (fun c22 => ?_)
  · have h := zift h c22
    refine r_lload C (z_d dd_Latest_choose 18 rfl) rfl ?_
    refine r_ldc2 (v := (2 : Int64)) C (z_d dd_Latest_choose 19 rfl) kl_Latest_29 ?_
    refine r_lcmp C (z_d dd_Latest_choose 20 rfl) ?_
    refine r_if_ne C 65 (z_d dd_Latest_choose 21 rfl) (by decide) (fun c18 => ?_) (fun c18 => ?_)
    · have h := ziff h c18
      refine r_lload C (z_d dd_Latest_choose 33 rfl) rfl ?_
      refine r_ldc2 (v := (3 : Int64)) C (z_d dd_Latest_choose 34 rfl) kl_Latest_23 ?_
      refine r_lcmp C (z_d dd_Latest_choose 35 rfl) ?_
      refine r_if_ne C 85 (z_d dd_Latest_choose 36 rfl) (by decide) (fun c8 => ?_) (fun c8 => ?_)
      · have h := ziff h c8
        refine r_lload C (z_d dd_Latest_choose 42 rfl) rfl ?_
        refine r_ldc2 (v := (4 : Int64)) C (z_d dd_Latest_choose 43 rfl) kl_Latest_13 ?_
        refine r_lcmp C (z_d dd_Latest_choose 44 rfl) ?_
        refine r_if_ne C 104 (z_d dd_Latest_choose 45 rfl) (by decide) (fun c4 => ?_) (fun c4 => ?_)
        · have h := ziff h c4
          refine r_mk [true, false, false, false, false, false, false, false] ?_
          exact s_Latest_choose_104 C hr E n l0 M h
        · have h := zift h c4
          refine r_aload_n C (z_d dd_Latest_choose 46 rfl) rfl ?_
          refine r_aload_n C (z_d dd_Latest_choose 47 rfl) rfl ?_
          obtain ⟨h1, h⟩ := zif h
          refine r_getL C (z_d dd_Latest_choose 48 rfl) lk_Latest_7 rfl h1 rfl ?_
          refine r_lconst (v := (1 : Int64)) C (z_d dd_Latest_choose 49 rfl) (by decide) ?_
          refine r_lsub C (z_d dd_Latest_choose 50 rfl) ?_
          obtain ⟨q2, c3, h⟩ := zbd h
          refine r_invV (as := [zL ((z_j M l0 0) - (1 : Int64))]) C 5 (S_Latest_lead c3) (z_d dd_Latest_choose 51 rfl) ok_Latest_lead iv_Latest_lead se_Latest_lead ml_Latest_25 rfl rfl h1 rfl rfl rfl (Nat.le_of_ble_eq_true rfl) ⟨(Nat.le_of_ble_eq_true rfl), (Nat.le_of_ble_eq_true rfl)⟩ ⟨(Nat.le_of_ble_eq_true rfl), (Nat.le_of_ble_eq_true rfl)⟩ ?_
          refine r_mk [true, false, false, false, false, false, false, false] ?_
          exact s_Latest_choose_104 C hr E n l0 q2.2 h
      · have h := zift h c8
        refine r_aload_n C (z_d dd_Latest_choose 37 rfl) rfl ?_
        refine r_aload_n C (z_d dd_Latest_choose 38 rfl) rfl ?_
        obtain ⟨h5, h⟩ := zif h
        refine r_getL C (z_d dd_Latest_choose 39 rfl) lk_Latest_20 rfl h5 rfl ?_
        obtain ⟨q6, c7, h⟩ := zbd h
        refine r_invV (as := [zL (z_j M l0 2)]) C 5 (S_Latest_lead c7) (z_d dd_Latest_choose 40 rfl) ok_Latest_lead iv_Latest_lead se_Latest_lead ml_Latest_25 rfl rfl h5 rfl rfl rfl (Nat.le_of_ble_eq_true rfl) ⟨(Nat.le_of_ble_eq_true rfl), (Nat.le_of_ble_eq_true rfl)⟩ ⟨(Nat.le_of_ble_eq_true rfl), (Nat.le_of_ble_eq_true rfl)⟩ ?_
        refine r_goto C 104 (z_d dd_Latest_choose 41 rfl) (by decide) ?_
        refine r_mk [true, false, false, false, false, false, false, false] ?_
        exact s_Latest_choose_104 C hr E n l0 q6.2 h
    · have h := zift h c18
      refine r_aload_n C (z_d dd_Latest_choose 22 rfl) rfl ?_
      obtain ⟨h9, h⟩ := zif h
      refine r_getL C (z_d dd_Latest_choose 23 rfl) lk_Latest_7 rfl h9 rfl ?_
      obtain ⟨v10, e11, h⟩ := zlet_ex h
      refine r_nmL e11 ?_
      refine r_lstore (lv' := [some (zP l0), some (zL l1), none, none, some (zL s0), none, some (zL v10), none]) C (z_d dd_Latest_choose 24 rfl) (Nat.le_of_ble_eq_true rfl) rfl ?_
      refine r_aload_n C (z_d dd_Latest_choose 25 rfl) rfl ?_
      refine r_aload_n C (z_d dd_Latest_choose 26 rfl) rfl ?_
      refine r_getL C (z_d dd_Latest_choose 27 rfl) lk_Latest_15 rfl h9 rfl ?_
      obtain ⟨M12, e13, h⟩ := zlet_ex h
      have h14 := k_j e13 h9
      refine r_putL C (z_d dd_Latest_choose 28 rfl) lp_Latest_7 rfl h9 e13 ?_
      refine r_aload_n C (z_d dd_Latest_choose 29 rfl) rfl ?_
      refine r_lload C (z_d dd_Latest_choose 30 rfl) rfl ?_
      obtain ⟨M15, e16, h⟩ := zlet_ex h
      have h17 := k_j e16 h14
      refine r_putL C (z_d dd_Latest_choose 31 rfl) lp_Latest_15 rfl h14 e16 ?_
      refine r_goto C 104 (z_d dd_Latest_choose 32 rfl) (by decide) ?_
      refine r_mk [true, false, false, false, false, false, false, false] ?_
      exact s_Latest_choose_104 C hr E n l0 M15 h
  · have h := ziff h c22
    refine r_aload_n C (z_d dd_Latest_choose 12 rfl) rfl ?_
    refine r_lload_n C (z_d dd_Latest_choose 13 rfl) rfl ?_
    refine r_ldc2 (v := (3 : Int64)) C (z_d dd_Latest_choose 14 rfl) kl_Latest_23 ?_
    refine r_lsub C (z_d dd_Latest_choose 15 rfl) ?_
    obtain ⟨h19, h⟩ := zif h
    obtain ⟨q20, c21, h⟩ := zbd h
    refine r_invV (as := [zL (l1 - (3 : Int64))]) C 5 (S_Latest_lead c21) (z_d dd_Latest_choose 16 rfl) ok_Latest_lead iv_Latest_lead se_Latest_lead ml_Latest_25 rfl rfl h19 rfl rfl rfl (Nat.le_of_ble_eq_true rfl) ⟨(Nat.le_of_ble_eq_true rfl), (Nat.le_of_ble_eq_true rfl)⟩ ⟨(Nat.le_of_ble_eq_true rfl), (Nat.le_of_ble_eq_true rfl)⟩ ?_
    refine r_goto C 104 (z_d dd_Latest_choose 17 rfl) (by decide) ?_
    refine r_mk [true, false, false, false, false, false, false, false] ?_
    exact s_Latest_choose_104 C hr E n l0 q20.2 h
def f_Latest_choose_0 (O : zO) (n : Nat) (l0 : Nat) (l1 : Int64) (l3 : Int32) (M : zM) : Option (Int64 × zM) :=
  if l3 = 0 then
  f_Latest_choose_11 O n l0 l1 (l1 + (1 : Int64)) M
  else
  f_Latest_choose_11 O n l0 l1 l1 M
set_option maxRecDepth 100000 in
set_option maxHeartbeats 4000000 in
theorem s_Latest_choose_0 {X : zX} {q : Int64 × zM} (C : zC X zR5 prog_6_method_3_code 8 { frames := 1, cells := 0, slots := 0, locals := 22 }) (hr : zRt X (some .long)) (E : zE X (some (zL q.1)) q.2 0 0) : ∀ (n : Nat) (l0 : Nat) (l1 : Int64) (l3 : Int32) (M : zM), f_Latest_choose_0 (zOD X) n l0 l1 l3 M = some q → zW X 0 0 0 [some (zP l0), some (zL l1), none, some (zI l3), none, none, none, none] [] M := by
  intro n l0 l1 l3 M h
  rw [f_Latest_choose_0] at h
  refine r_iload_n C (z_d dd_Latest_choose 0 rfl) rfl ?_
  refine r_if_ne C 10 (z_d dd_Latest_choose 1 rfl) (by decide) (fun c1 => ?_) (fun c1 => ?_)
  · have h := ziff h c1
    refine r_lload_n C (z_d dd_Latest_choose 6 rfl) rfl ?_
    refine r_mk [true, true, false, false, false, false, false, false] ?_
    exact s_Latest_choose_11 C hr E n l0 l1 l1 M h
  · have h := zift h c1
    refine r_lload_n C (z_d dd_Latest_choose 2 rfl) rfl ?_
    refine r_lconst (v := (1 : Int64)) C (z_d dd_Latest_choose 3 rfl) (by decide) ?_
    refine r_ladd C (z_d dd_Latest_choose 4 rfl) ?_
    refine r_goto C 11 (z_d dd_Latest_choose 5 rfl) (by decide) ?_
    refine r_mk [true, true, false, false, false, false, false, false] ?_
    exact s_Latest_choose_11 C hr E n l0 l1 (l1 + (1 : Int64)) M h
def F_Latest_choose (O : zO) (n : Nat) (l0 : Nat) (l1 : Int64) (l3 : Int32) (M : zM) : Option (Int64 × zM) := f_Latest_choose_0 O n l0 l1 l3 M
theorem S_Latest_choose {l : Launch} {D : zD} {n : Nat} {l0 : Nat} {l1 : Int64} {l3 : Int32} {M : zM} {q : Int64 × zM} (h : F_Latest_choose D.2.2.2.2 n l0 l1 l3 M = some q) : zMet l D mi_Latest_choose [zP l0, zL l1, zI l3] M (some (zL q.1)) q.2 :=
  z_met (by decide) (Nat.le_of_ble_eq_true rfl) (fun X C E hr hin hD hl => by
    subst hD
    exact s_Latest_choose_0 C hr E n l0 l1 l3 M h)

def f_Content_ofFrame_0 (O : zO) (n : Nat) (l0 : Nat) (M : zM) : Option (Int32 × zM) :=
  if z_k M l0 = 3 then
  if z_k M (z_p M l0 0) = 9 then
  some (((z_i M (z_p M l0 0) 1) - (z_i M l0 3)), M)
  else none
  else none
set_option maxRecDepth 100000 in
set_option maxHeartbeats 4000000 in
theorem s_Content_ofFrame_0 {X : zX} {q : Int32 × zM} (C : zC X zR2 prog_3_method_5_code 1 { frames := 0, cells := 0, slots := 0, locals := 0 }) (hr : zRt X (some .int)) (E : zE X (some (zI q.1)) q.2 0 0) : ∀ (n : Nat) (l0 : Nat) (M : zM), f_Content_ofFrame_0 (zOD X) n l0 M = some q → zW X 0 0 0 [some (zP l0)] [] M := by
  intro n l0 M h
  rw [f_Content_ofFrame_0] at h
  refine r_aload_n C (z_d dd_Content_ofFrame 0 rfl) rfl ?_
  obtain ⟨h1, h⟩ := zif h
  refine r_getP C (z_d dd_Content_ofFrame 1 rfl) lk_Content_15 rfl h1 rfl ?_
  obtain ⟨h2, h⟩ := zif h
  refine r_getI C (z_d dd_Content_ofFrame 2 rfl) lk_Content_41 rfl h2 rfl ?_
  refine r_aload_n C (z_d dd_Content_ofFrame 3 rfl) rfl ?_
  refine r_getI C (z_d dd_Content_ofFrame 4 rfl) lk_Content_28 rfl h1 rfl ?_
  refine r_isub C (z_d dd_Content_ofFrame 5 rfl) ?_
  obtain rfl := z_res h
  exact r_iretI C E hr (z_d dd_Content_ofFrame 6 rfl) (Nat.le_of_ble_eq_true rfl) (Nat.le_of_ble_eq_true rfl)
def F_Content_ofFrame (O : zO) (n : Nat) (l0 : Nat) (M : zM) : Option (Int32 × zM) := f_Content_ofFrame_0 O n l0 M
theorem S_Content_ofFrame {l : Launch} {D : zD} {n : Nat} {l0 : Nat} {M : zM} {q : Int32 × zM} (h : F_Content_ofFrame D.2.2.2.2 n l0 M = some q) : zMet l D mi_Content_ofFrame [zP l0] M (some (zI q.1)) q.2 :=
  z_met (by decide) (Nat.le_of_ble_eq_true rfl) (fun X C E hr hin hD hl => by
    subst hD
    exact s_Content_ofFrame_0 C hr E n l0 M h)

def f_Content_tooFar_32 (O : zO) (n : Nat) (M : zM) : Option (Int32 × zM) :=
  some ((1 : Int32), M)
set_option maxRecDepth 100000 in
set_option maxHeartbeats 4000000 in
theorem s_Content_tooFar_32 {X : zX} {q : Int32 × zM} (C : zC X zR2 prog_3_method_9_code 6 { frames := 1, cells := 0, slots := 0, locals := 20 }) (hr : zRt X (some .boolean)) (E : zE X (some (zI q.1)) q.2 0 0) : ∀ (n : Nat) (M : zM), f_Content_tooFar_32 (zOD X) n M = some q → zW X 0 0 32 [none, none, none, none, none, none] [] M := by
  intro n M h
  rw [f_Content_tooFar_32] at h
  refine r_iconst (v := (1 : Int32)) C (z_d dd_Content_tooFar 20 rfl) (by decide) ?_
  obtain rfl := z_res h
  exact r_iretZ C E hr (z_d dd_Content_tooFar 21 rfl) (by decide) (Nat.le_of_ble_eq_true rfl) (Nat.le_of_ble_eq_true rfl)
def f_Content_tooFar_73 (O : zO) (n : Nat) (s0 : Int32) (M : zM) : Option (Int32 × zM) :=
  if s0 = 0 ∨ s0 = 1 then
  some (s0, M)
  else none
set_option maxRecDepth 100000 in
set_option maxHeartbeats 4000000 in
theorem s_Content_tooFar_73 {X : zX} {q : Int32 × zM} (C : zC X zR2 prog_3_method_9_code 6 { frames := 1, cells := 0, slots := 0, locals := 20 }) (hr : zRt X (some .boolean)) (E : zE X (some (zI q.1)) q.2 0 0) : ∀ (n : Nat) (s0 : Int32) (M : zM), f_Content_tooFar_73 (zOD X) n s0 M = some q → zW X 0 0 73 [none, none, none, none, none, none] [zI s0] M := by
  intro n s0 M h
  rw [f_Content_tooFar_73] at h
  obtain ⟨h1, h⟩ := zif h
  obtain rfl := z_res h
  exact r_iretZ C E hr (z_d dd_Content_tooFar 43 rfl) h1 (Nat.le_of_ble_eq_true rfl) (Nat.le_of_ble_eq_true rfl)
def f_Content_tooFar_0 (O : zO) (n : Nat) (l0 : Nat) (l1 : Int64) (l3 : Int32) (M : zM) : Option (Int32 × zM) :=
  if z_k M l0 = 3 then
  (F_Content_ofFrame O n l0 M).bind fun q2 =>
  zlet (q2.1.toInt64 + l3.toInt64) fun v4 =>
  if (lg_cmp l1 (0 : Int64)) ≤ 0 then
  f_Content_tooFar_32 O n q2.2
  else
  if z_k q2.2 l0 = 3 then
  if z_k q2.2 (z_p q2.2 l0 1) = 9 then
  if (lg_cmp l1 (v4 + (z_i q2.2 (z_p q2.2 l0 1) 1).toInt64)) ≤ 0 then
  if 0 < (lg_cmp l1 v4) then
  if (lg_cmp v4 (z_j q2.2 l0 5)) ≤ 0 then
  f_Content_tooFar_73 O n (0 : Int32) q2.2
  else
  f_Content_tooFar_73 O n (1 : Int32) q2.2
  else
  if (lg_cmp l1 (z_j q2.2 l0 5)) ≤ 0 then
  f_Content_tooFar_73 O n (0 : Int32) q2.2
  else
  f_Content_tooFar_73 O n (1 : Int32) q2.2
  else
  f_Content_tooFar_32 O n q2.2
  else none
  else none
  else none
set_option maxRecDepth 100000 in
set_option maxHeartbeats 4000000 in
theorem s_Content_tooFar_0 {X : zX} {q : Int32 × zM} (C : zC X zR2 prog_3_method_9_code 6 { frames := 1, cells := 0, slots := 0, locals := 20 }) (hr : zRt X (some .boolean)) (E : zE X (some (zI q.1)) q.2 0 0) : ∀ (n : Nat) (l0 : Nat) (l1 : Int64) (l3 : Int32) (M : zM), f_Content_tooFar_0 (zOD X) n l0 l1 l3 M = some q → zW X 0 0 0 [some (zP l0), some (zL l1), none, some (zI l3), none, none] [] M := by
  intro n l0 l1 l3 M h
  rw [f_Content_tooFar_0] at h
  refine r_aload_n C (z_d dd_Content_tooFar 0 rfl) rfl ?_
  obtain ⟨h1, h⟩ := zif h
  obtain ⟨q2, c3, h⟩ := zbd h
  refine r_invV (as := []) C 2 (S_Content_ofFrame c3) (z_d dd_Content_tooFar 1 rfl) ok_Content_ofFrame iv_Content_ofFrame se_Content_ofFrame ml_Content_51 rfl rfl h1 rfl rfl rfl (Nat.le_of_ble_eq_true rfl) ⟨(Nat.le_of_ble_eq_true rfl), (Nat.le_of_ble_eq_true rfl)⟩ ⟨(Nat.le_of_ble_eq_true rfl), (Nat.le_of_ble_eq_true rfl)⟩ ?_
  refine r_i2l C (z_d dd_Content_tooFar 2 rfl) ?_
  refine r_iload_n C (z_d dd_Content_tooFar 3 rfl) rfl ?_
  refine r_i2l C (z_d dd_Content_tooFar 4 rfl) ?_
  refine r_ladd C (z_d dd_Content_tooFar 5 rfl) ?_
  obtain ⟨v4, e5, h⟩ := zlet_ex h
  refine r_nmL e5 ?_
  refine r_lstore (lv' := [some (zP l0), some (zL l1), none, some (zI l3), some (zL v4), none]) C (z_d dd_Content_tooFar 6 rfl) (Nat.le_of_ble_eq_true rfl) rfl ?_
  refine r_lload_n C (z_d dd_Content_tooFar 7 rfl) rfl ?_
  refine r_lconst (v := (0 : Int64)) C (z_d dd_Content_tooFar 8 rfl) (by decide) ?_
  refine r_lcmp C (z_d dd_Content_tooFar 9 rfl) ?_
  refine r_if_le C 32 (z_d dd_Content_tooFar 10 rfl) (by decide) (fun c12 => ?_) (fun c12 => ?_)
  · have h := zift h c12
    refine r_mk [false, false, false, false, false, false] ?_
    exact s_Content_tooFar_32 C hr E n q2.2 h
  · have h := ziff h c12
    refine r_lload_n C (z_d dd_Content_tooFar 11 rfl) rfl ?_
    refine r_lload C (z_d dd_Content_tooFar 12 rfl) rfl ?_
    refine r_aload_n C (z_d dd_Content_tooFar 13 rfl) rfl ?_
    obtain ⟨h6, h⟩ := zif h
    refine r_getP C (z_d dd_Content_tooFar 14 rfl) lk_Content_21 rfl h6 rfl ?_
    obtain ⟨h7, h⟩ := zif h
    refine r_getI C (z_d dd_Content_tooFar 15 rfl) lk_Content_41 rfl h7 rfl ?_
    refine r_i2l C (z_d dd_Content_tooFar 16 rfl) ?_
    refine r_ladd C (z_d dd_Content_tooFar 17 rfl) ?_
    refine r_lcmp C (z_d dd_Content_tooFar 18 rfl) ?_
    refine r_if_le C 34 (z_d dd_Content_tooFar 19 rfl) (by decide) (fun c11 => ?_) (fun c11 => ?_)
    · have h := zift h c11
      refine r_lload_n C (z_d dd_Content_tooFar 22 rfl) rfl ?_
      refine r_lload C (z_d dd_Content_tooFar 23 rfl) rfl ?_
      refine r_lcmp C (z_d dd_Content_tooFar 24 rfl) ?_
      refine r_if_gt C 58 (z_d dd_Content_tooFar 25 rfl) (by decide) (fun c10 => ?_) (fun c10 => ?_)
      · have h := zift h c10
        refine r_lload C (z_d dd_Content_tooFar 35 rfl) rfl ?_
        refine r_aload_n C (z_d dd_Content_tooFar 36 rfl) rfl ?_
        refine r_getL C (z_d dd_Content_tooFar 37 rfl) lk_Content_34 rfl h6 rfl ?_
        refine r_lcmp C (z_d dd_Content_tooFar 38 rfl) ?_
        refine r_if_le C 72 (z_d dd_Content_tooFar 39 rfl) (by decide) (fun c8 => ?_) (fun c8 => ?_)
        · have h := zift h c8
          refine r_iconst (v := (0 : Int32)) C (z_d dd_Content_tooFar 42 rfl) (by decide) ?_
          refine r_mk [false, false, false, false, false, false] ?_
          exact s_Content_tooFar_73 C hr E n (0 : Int32) q2.2 h
        · have h := ziff h c8
          refine r_iconst (v := (1 : Int32)) C (z_d dd_Content_tooFar 40 rfl) (by decide) ?_
          refine r_goto C 73 (z_d dd_Content_tooFar 41 rfl) (by decide) ?_
          refine r_mk [false, false, false, false, false, false] ?_
          exact s_Content_tooFar_73 C hr E n (1 : Int32) q2.2 h
      · have h := ziff h c10
        refine r_lload_n C (z_d dd_Content_tooFar 26 rfl) rfl ?_
        refine r_aload_n C (z_d dd_Content_tooFar 27 rfl) rfl ?_
        refine r_getL C (z_d dd_Content_tooFar 28 rfl) lk_Content_34 rfl h6 rfl ?_
        refine r_lcmp C (z_d dd_Content_tooFar 29 rfl) ?_
        refine r_if_le C 54 (z_d dd_Content_tooFar 30 rfl) (by decide) (fun c9 => ?_) (fun c9 => ?_)
        · have h := zift h c9
          refine r_iconst (v := (0 : Int32)) C (z_d dd_Content_tooFar 33 rfl) (by decide) ?_
          refine r_goto C 73 (z_d dd_Content_tooFar 34 rfl) (by decide) ?_
          refine r_mk [false, false, false, false, false, false] ?_
          exact s_Content_tooFar_73 C hr E n (0 : Int32) q2.2 h
        · have h := ziff h c9
          refine r_iconst (v := (1 : Int32)) C (z_d dd_Content_tooFar 31 rfl) (by decide) ?_
          refine r_goto C 73 (z_d dd_Content_tooFar 32 rfl) (by decide) ?_
          refine r_mk [false, false, false, false, false, false] ?_
          exact s_Content_tooFar_73 C hr E n (1 : Int32) q2.2 h
    · have h := ziff h c11
      refine r_mk [false, false, false, false, false, false] ?_
      exact s_Content_tooFar_32 C hr E n q2.2 h
def F_Content_tooFar (O : zO) (n : Nat) (l0 : Nat) (l1 : Int64) (l3 : Int32) (M : zM) : Option (Int32 × zM) := f_Content_tooFar_0 O n l0 l1 l3 M
theorem S_Content_tooFar {l : Launch} {D : zD} {n : Nat} {l0 : Nat} {l1 : Int64} {l3 : Int32} {M : zM} {q : Int32 × zM} (h : F_Content_tooFar D.2.2.2.2 n l0 l1 l3 M = some q) : zMet l D mi_Content_tooFar [zP l0, zL l1, zI l3] M (some (zI q.1)) q.2 :=
  z_met (by decide) (Nat.le_of_ble_eq_true rfl) (fun X C E hr hin hD hl => by
    subst hD
    exact s_Content_tooFar_0 C hr E n l0 l1 l3 M h)
