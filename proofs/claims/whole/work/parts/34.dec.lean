def f_Mo_block_207 (O : zO) (n : Nat) (l0 : Nat) (l6 : Int32) (M : zM) : Option (Int32 × zM) :=
  if z_k M l0 = 13 then
  zlet (w_i M l0 28 l6) fun M2 =>
  some ((1 : Int32), M2)
  else none
set_option maxRecDepth 100000 in
set_option maxHeartbeats 4000000 in
theorem s_Mo_block_207 {X : zX} {q : Int32 × zM} (C : zC X zR12 prog_14_method_36_code 8 { frames := 7, cells := 0, slots := 0, locals := 190 }) (hr : zRt X (some .boolean)) (E : zE X (some (zI q.1)) q.2 0 0) : ∀ (n : Nat) (l0 : Nat) (l6 : Int32) (M : zM), f_Mo_block_207 (zOD X) n l0 l6 M = some q → zW X 0 0 207 [some (zP l0), none, none, none, none, none, some (zI l6), none] [] M := by
  intro n l0 l6 M h
  rw [f_Mo_block_207] at h
  refine r_aload_n C (z_d dd_Mo_block 119 rfl) rfl ?_
  refine r_iload C (z_d dd_Mo_block 120 rfl) rfl ?_
  obtain ⟨h1, h⟩ := zif h
  obtain ⟨M2, e3, h⟩ := zlet_ex h
  have h4 := k_i e3 h1
  refine r_putI C (z_d dd_Mo_block 121 rfl) lp_Mo_204 rfl h1 e3 ?_
  refine r_iconst (v := (1 : Int32)) C (z_d dd_Mo_block 122 rfl) (by decide) ?_
  obtain rfl := z_res h
  exact r_iretZ C E hr (z_d dd_Mo_block 123 rfl) (by decide) (Nat.le_of_ble_eq_true rfl) (Nat.le_of_ble_eq_true rfl)
def f_Mo_block_189 (O : zO) (k151 : Nat → Int32 → Int32 → Int32 → Int32 → zM → Option (Int32 × zM)) (n : Nat) (l0 : Nat) (l3 : Int32) (l4 : Int32) (l6 : Int32) (l7 : Int32) (s0 : Nat) (s1 : Int32) (s2 : Nat) (s3 : Int32) (M : zM) : Option (Int32 × zM) :=
  if z_k M s2 = 100 then
  if zin s3 (z_n M s2) = true then
  if z_k M s0 = 100 then
  if zin s1 (z_n M s0) = true then
  zlet (w_i M s0 s1.toNatClampNeg (z_i M s2 s3.toNatClampNeg)) fun M5 =>
  if z_k M5 l0 = 13 then
  zlet (w_i M5 l0 30 ((z_i M5 l0 30) + (1 : Int32))) fun M10 =>
  zlet (l7 + (1 : Int32)) fun v15 =>
  k151 l0 l3 l4 l6 v15 M10
  else none
  else none
  else none
  else none
  else none
set_option maxRecDepth 100000 in
set_option maxHeartbeats 4000000 in
theorem s_Mo_block_189 {X : zX} {q : Int32 × zM} (C : zC X zR12 prog_14_method_36_code 8 { frames := 7, cells := 0, slots := 0, locals := 190 }) (hr : zRt X (some .boolean)) (E : zE X (some (zI q.1)) q.2 0 0) {k151 : Nat → Int32 → Int32 → Int32 → Int32 → zM → Option (Int32 × zM)} (hk151 : ∀ (l0 : Nat) (l3 : Int32) (l4 : Int32) (l6 : Int32) (l7 : Int32) (M : zM), k151 l0 l3 l4 l6 l7 M = some q → zW X 0 0 151 [some (zP l0), none, none, some (zI l3), some (zI l4), none, some (zI l6), some (zI l7)] [] M) : ∀ (n : Nat) (l0 : Nat) (l3 : Int32) (l4 : Int32) (l6 : Int32) (l7 : Int32) (s0 : Nat) (s1 : Int32) (s2 : Nat) (s3 : Int32) (M : zM), f_Mo_block_189 (zOD X) k151 n l0 l3 l4 l6 l7 s0 s1 s2 s3 M = some q → zW X 0 0 189 [some (zP l0), none, none, some (zI l3), some (zI l4), none, some (zI l6), some (zI l7)] [zI s3, zP s2, zI s1, zP s0] M := by
  intro n l0 l3 l4 l6 l7 s0 s1 s2 s3 M h
  rw [f_Mo_block_189] at h
  obtain ⟨h1, h⟩ := zif h
  obtain ⟨h2, h⟩ := zif h
  refine r_iald C (z_d dd_Mo_block 109 rfl) h1 h2 rfl ?_
  obtain ⟨h3, h⟩ := zif h
  obtain ⟨h4, h⟩ := zif h
  obtain ⟨M5, e6, h⟩ := zlet_ex h
  have h7 := k_i e6 h1
  have h8 := k_i e6 h3
  refine r_iast C (z_d dd_Mo_block 110 rfl) h3 h4 e6 ?_
  refine r_aload_n C (z_d dd_Mo_block 111 rfl) rfl ?_
  refine r_dupP C (z_d dd_Mo_block 112 rfl) ?_
  obtain ⟨h9, h⟩ := zif h
  refine r_getI C (z_d dd_Mo_block 113 rfl) lk_Mo_213 rfl h9 rfl ?_
  refine r_iconst (v := (1 : Int32)) C (z_d dd_Mo_block 114 rfl) (by decide) ?_
  refine r_iadd C (z_d dd_Mo_block 115 rfl) ?_
  obtain ⟨M10, e11, h⟩ := zlet_ex h
  have h12 := k_i e11 h7
  have h13 := k_i e11 h8
  have h14 := k_i e11 h9
  refine r_putI C (z_d dd_Mo_block 116 rfl) lp_Mo_213 rfl h9 e11 ?_
  obtain ⟨v15, e16, h⟩ := zlet_ex h
  refine r_iinc (v := v15) (lv' := [some (zP l0), none, none, some (zI l3), some (zI l4), none, some (zI l6), some (zI v15)]) C (z_d dd_Mo_block 117 rfl) rfl (Nat.le_of_ble_eq_true rfl) (by rw [e16]; rfl) rfl ?_
  refine r_goto C 151 (z_d dd_Mo_block 118 rfl) (by decide) ?_
  exact hk151 l0 l3 l4 l6 v15 M10 h
def f_Mo_block_151 (O : zO) : Nat → Nat → Int32 → Int32 → Int32 → Int32 → zM → Option (Int32 × zM)
  | 0, _, _, _, _, _, _ => none
  | n + 1, l0, l3, l4, l6, l7, M =>
    if l4 ≤ l7 then
    f_Mo_block_207 O n l0 l6 M
    else
    if z_k M l0 = 13 then
    if l3 = (1 : Int32) then
    f_Mo_block_189 O (f_Mo_block_151 O n) n l0 l3 l4 l6 l7 (z_p M l0 40) (z_i M l0 30) (z_p M l0 0) (z_i M l0 28) M
    else
    f_Mo_block_189 O (f_Mo_block_151 O n) n l0 l3 l4 l6 l7 (z_p M l0 40) (z_i M l0 30) (z_p M l0 0) ((z_i M l0 28) + l7) M
    else none
set_option maxRecDepth 100000 in
set_option maxHeartbeats 4000000 in
theorem s_Mo_block_151 {X : zX} {q : Int32 × zM} (C : zC X zR12 prog_14_method_36_code 8 { frames := 7, cells := 0, slots := 0, locals := 190 }) (hr : zRt X (some .boolean)) (E : zE X (some (zI q.1)) q.2 0 0) : ∀ (n : Nat) (l0 : Nat) (l3 : Int32) (l4 : Int32) (l6 : Int32) (l7 : Int32) (M : zM), f_Mo_block_151 (zOD X) n l0 l3 l4 l6 l7 M = some q → zW X 0 0 151 [some (zP l0), none, none, some (zI l3), some (zI l4), none, some (zI l6), some (zI l7)] [] M := by
  intro n
  induction n with
  | zero => intro l0 l3 l4 l6 l7 M h; rw [f_Mo_block_151] at h; cases h
  | succ n ih =>
    intro l0 l3 l4 l6 l7 M h
    rw [f_Mo_block_151] at h
    refine r_iload C (z_d dd_Mo_block 90 rfl) rfl ?_
    refine r_iload C (z_d dd_Mo_block 91 rfl) rfl ?_
    refine r_icmp_ge C 207 (z_d dd_Mo_block 92 rfl) (by decide) (fun c3 => ?_) (fun c3 => ?_)
    · have h := zift h c3
      refine r_mk [true, false, false, false, false, false, true, false] ?_
      exact s_Mo_block_207 C hr E n l0 l6 M h
    · have h := ziff h c3
      refine r_aload_n C (z_d dd_Mo_block 93 rfl) rfl ?_
      obtain ⟨h1, h⟩ := zif h
      refine r_getP C (z_d dd_Mo_block 94 rfl) lk_Mo_75 rfl h1 rfl ?_
      refine r_aload_n C (z_d dd_Mo_block 95 rfl) rfl ?_
      refine r_getI C (z_d dd_Mo_block 96 rfl) lk_Mo_213 rfl h1 rfl ?_
      refine r_aload_n C (z_d dd_Mo_block 97 rfl) rfl ?_
      refine r_getP C (z_d dd_Mo_block 98 rfl) lk_Mo_7 rfl h1 rfl ?_
      refine r_iload_n C (z_d dd_Mo_block 99 rfl) rfl ?_
      refine r_iconst (v := (1 : Int32)) C (z_d dd_Mo_block 100 rfl) (by decide) ?_
      refine r_icmp_ne C 182 (z_d dd_Mo_block 101 rfl) (by decide) (fun c2 => ?_) (fun c2 => ?_)
      · have h := ziff h c2
        refine r_aload_n C (z_d dd_Mo_block 105 rfl) rfl ?_
        refine r_getI C (z_d dd_Mo_block 106 rfl) lk_Mo_204 rfl h1 rfl ?_
        refine r_iload C (z_d dd_Mo_block 107 rfl) rfl ?_
        refine r_iadd C (z_d dd_Mo_block 108 rfl) ?_
        exact s_Mo_block_189 C hr E ih n l0 l3 l4 l6 l7 (z_p M l0 40) (z_i M l0 30) (z_p M l0 0) ((z_i M l0 28) + l7) M h
      · have h := zift h c2
        refine r_aload_n C (z_d dd_Mo_block 102 rfl) rfl ?_
        refine r_getI C (z_d dd_Mo_block 103 rfl) lk_Mo_204 rfl h1 rfl ?_
        refine r_goto C 189 (z_d dd_Mo_block 104 rfl) (by decide) ?_
        exact s_Mo_block_189 C hr E ih n l0 l3 l4 l6 l7 (z_p M l0 40) (z_i M l0 30) (z_p M l0 0) (z_i M l0 28) M h
def f_Mo_block_88 (O : zO) (n : Nat) (l0 : Nat) (l1 : Int32) (l3 : Int32) (l4 : Int32) (s0 : Int32) (M : zM) : Option (Int32 × zM) :=
  if z_k M l0 = 13 then
  (F_Mo_has O n l0 s0 M).bind fun q2 =>
  if q2.1 = 0 then
  some ((0 : Int32), q2.2)
  else
  if z_k q2.2 l0 = 13 then
  zlet ((z_i q2.2 l0 28) + s0) fun v5 =>
  if l3 = (2 : Int32) then
  (F_Mo_packed O n l0 v5 q2.2).bind fun q11 =>
  if q11.1 = 0 then
  some ((0 : Int32), q11.2)
  else
  f_Mo_block_207 O n l0 v5 q11.2
  else
  if l4 ≤ ((z_i q2.2 l0 29) - (z_i q2.2 l0 30)) then
  f_Mo_block_151 O n l0 l3 l4 v5 (0 : Int32) q2.2
  else
  (F_Mo_wrong O n l0 (7 : Int32) l1 q2.2).bind fun q7 =>
  if q7.1 = 0 ∨ q7.1 = 1 then
  some (q7.1, q7.2)
  else none
  else none
  else none
set_option maxRecDepth 100000 in
set_option maxHeartbeats 4000000 in
theorem s_Mo_block_88 {X : zX} {q : Int32 × zM} (C : zC X zR12 prog_14_method_36_code 8 { frames := 7, cells := 0, slots := 0, locals := 190 }) (hr : zRt X (some .boolean)) (E : zE X (some (zI q.1)) q.2 0 0) : ∀ (n : Nat) (l0 : Nat) (l1 : Int32) (l3 : Int32) (l4 : Int32) (s0 : Int32) (M : zM), f_Mo_block_88 (zOD X) n l0 l1 l3 l4 s0 M = some q → zW X 0 0 88 [some (zP l0), some (zI l1), none, some (zI l3), some (zI l4), none, none, none] [zI s0] M := by
  intro n l0 l1 l3 l4 s0 M h
  rw [f_Mo_block_88] at h
  refine r_istore (lv' := [some (zP l0), some (zI l1), none, some (zI l3), some (zI l4), some (zI s0), none, none]) C (z_d dd_Mo_block 55 rfl) (Nat.le_of_ble_eq_true rfl) rfl ?_
  refine r_aload_n C (z_d dd_Mo_block 56 rfl) rfl ?_
  refine r_iload C (z_d dd_Mo_block 57 rfl) rfl ?_
  obtain ⟨h1, h⟩ := zif h
  obtain ⟨q2, c3, h⟩ := zbd h
  refine r_invV (as := [zI s0]) C 12 (S_Mo_has c3) (z_d dd_Mo_block 58 rfl) ok_Mo_has iv_Mo_has se_Mo_has ml_Mo_235 rfl rfl h1 rfl rfl rfl (Nat.le_of_ble_eq_true rfl) ⟨(Nat.le_of_ble_eq_true rfl), (Nat.le_of_ble_eq_true rfl)⟩ ⟨(Nat.le_of_ble_eq_true rfl), (Nat.le_of_ble_eq_true rfl)⟩ ?_
  refine r_if_ne C 101 (z_d dd_Mo_block 59 rfl) (by decide) (fun c15 => ?_) (fun c15 => ?_)
  · have h := ziff h c15
    refine r_aload_n C (z_d dd_Mo_block 62 rfl) rfl ?_
    obtain ⟨h4, h⟩ := zif h
    refine r_getI C (z_d dd_Mo_block 63 rfl) lk_Mo_204 rfl h4 rfl ?_
    refine r_iload C (z_d dd_Mo_block 64 rfl) rfl ?_
    refine r_iadd C (z_d dd_Mo_block 65 rfl) ?_
    obtain ⟨v5, e6, h⟩ := zlet_ex h
    refine r_nmI e6 ?_
    refine r_istore (lv' := [some (zP l0), some (zI l1), none, some (zI l3), some (zI l4), some (zI s0), some (zI v5), none]) C (z_d dd_Mo_block 66 rfl) (Nat.le_of_ble_eq_true rfl) rfl ?_
    refine r_iload_n C (z_d dd_Mo_block 67 rfl) rfl ?_
    refine r_iconst (v := (2 : Int32)) C (z_d dd_Mo_block 68 rfl) (by decide) ?_
    refine r_icmp_ne C 126 (z_d dd_Mo_block 69 rfl) (by decide) (fun c14 => ?_) (fun c14 => ?_)
    · have h := ziff h c14
      refine r_iload C (z_d dd_Mo_block 76 rfl) rfl ?_
      refine r_aload_n C (z_d dd_Mo_block 77 rfl) rfl ?_
      refine r_getI C (z_d dd_Mo_block 78 rfl) lk_Mo_210 rfl h4 rfl ?_
      refine r_aload_n C (z_d dd_Mo_block 79 rfl) rfl ?_
      refine r_getI C (z_d dd_Mo_block 80 rfl) lk_Mo_213 rfl h4 rfl ?_
      refine r_isub C (z_d dd_Mo_block 81 rfl) ?_
      refine r_icmp_le C 148 (z_d dd_Mo_block 82 rfl) (by decide) (fun c10 => ?_) (fun c10 => ?_)
      · have h := zift h c10
        refine r_iconst (v := (0 : Int32)) C (z_d dd_Mo_block 88 rfl) (by decide) ?_
        refine r_istore (lv' := [some (zP l0), some (zI l1), none, some (zI l3), some (zI l4), some (zI s0), some (zI v5), some (zI (0 : Int32))]) C (z_d dd_Mo_block 89 rfl) (Nat.le_of_ble_eq_true rfl) rfl ?_
        refine r_mk [true, false, false, true, true, false, true, true] ?_
        exact s_Mo_block_151 C hr E n l0 l3 l4 v5 (0 : Int32) q2.2 h
      · have h := ziff h c10
        refine r_aload_n C (z_d dd_Mo_block 83 rfl) rfl ?_
        refine r_bipush (v := (7 : Int32)) C (z_d dd_Mo_block 84 rfl) (by decide) ?_
        refine r_iload_n C (z_d dd_Mo_block 85 rfl) rfl ?_
        obtain ⟨q7, c8, h⟩ := zbd h
        refine r_invV (as := [zI (7 : Int32), zI l1]) C 12 (S_Mo_wrong c8) (z_d dd_Mo_block 86 rfl) ok_Mo_wrong iv_Mo_wrong se_Mo_wrong ml_Mo_207 rfl rfl h4 rfl rfl rfl (Nat.le_of_ble_eq_true rfl) ⟨(Nat.le_of_ble_eq_true rfl), (Nat.le_of_ble_eq_true rfl)⟩ ⟨(Nat.le_of_ble_eq_true rfl), (Nat.le_of_ble_eq_true rfl)⟩ ?_
        obtain ⟨h9, h⟩ := zif h
        obtain rfl := z_res h
        exact r_iretZ C E hr (z_d dd_Mo_block 87 rfl) h9 (Nat.le_of_ble_eq_true rfl) (Nat.le_of_ble_eq_true rfl)
    · have h := zift h c14
      refine r_aload_n C (z_d dd_Mo_block 70 rfl) rfl ?_
      refine r_iload C (z_d dd_Mo_block 71 rfl) rfl ?_
      obtain ⟨q11, c12, h⟩ := zbd h
      refine r_invV (as := [zI v5]) C 12 (S_Mo_packed c12) (z_d dd_Mo_block 72 rfl) ok_Mo_packed iv_Mo_packed se_Mo_packed ml_Mo_270 rfl rfl h4 rfl rfl rfl (Nat.le_of_ble_eq_true rfl) ⟨(Nat.le_of_ble_eq_true rfl), (Nat.le_of_ble_eq_true rfl)⟩ ⟨(Nat.le_of_ble_eq_true rfl), (Nat.le_of_ble_eq_true rfl)⟩ ?_
      refine r_if_ne C 207 (z_d dd_Mo_block 73 rfl) (by decide) (fun c13 => ?_) (fun c13 => ?_)
      · have h := ziff h c13
        refine r_mk [true, false, false, false, false, false, true, false] ?_
        exact s_Mo_block_207 C hr E n l0 v5 q11.2 h
      · have h := zift h c13
        refine r_iconst (v := (0 : Int32)) C (z_d dd_Mo_block 74 rfl) (by decide) ?_
        obtain rfl := z_res h
        exact r_iretZ C E hr (z_d dd_Mo_block 75 rfl) (by decide) (Nat.le_of_ble_eq_true rfl) (Nat.le_of_ble_eq_true rfl)
  · have h := zift h c15
    refine r_iconst (v := (0 : Int32)) C (z_d dd_Mo_block 60 rfl) (by decide) ?_
    obtain rfl := z_res h
    exact r_iretZ C E hr (z_d dd_Mo_block 61 rfl) (by decide) (Nat.le_of_ble_eq_true rfl) (Nat.le_of_ble_eq_true rfl)
def f_Mo_block_0 (O : zO) (n : Nat) (l0 : Nat) (M : zM) : Option (Int32 × zM) :=
  if z_k M l0 = 13 then
  zlet (w_i M l0 36 ((z_i M l0 36) + (1 : Int32))) fun M2 =>
  zlet (z_i M2 l0 28) fun v5 =>
  (F_Mo_number O n l0 (z_i M2 l0 28) (3 : Int32) M2).bind fun q7 =>
  zlet q7.1.toInt32 fun v9 =>
  zlet ((v9 / (2 : Int32)) - (v9 / (2 : Int32)) / (4 : Int32) * (4 : Int32)) fun v11 =>
  zlet (v9 / (8 : Int32)) fun v13 =>
  if v11 = (3 : Int32) then
  if z_k q7.2 l0 = 13 then
  (F_Mo_wrong O n l0 (5 : Int32) v5 q7.2).bind fun q25 =>
  if q25.1 = 0 ∨ q25.1 = 1 then
  some (q25.1, q25.2)
  else none
  else none
  else
  if z_k q7.2 l0 = 13 then
  if v13 ≤ (z_i q7.2 l0 32) then
  zlet (w_i q7.2 l0 28 ((z_i q7.2 l0 28) + (3 : Int32))) fun M16 =>
  if v11 = (1 : Int32) then
  f_Mo_block_88 O n l0 v5 v11 v13 (1 : Int32) M16
  else
  f_Mo_block_88 O n l0 v5 v11 v13 v13 M16
  else
  (F_Mo_wrong O n l0 (6 : Int32) v5 q7.2).bind fun q20 =>
  if q20.1 = 0 ∨ q20.1 = 1 then
  some (q20.1, q20.2)
  else none
  else none
  else none
set_option maxRecDepth 100000 in
set_option maxHeartbeats 4000000 in
theorem s_Mo_block_0 {X : zX} {q : Int32 × zM} (C : zC X zR12 prog_14_method_36_code 8 { frames := 7, cells := 0, slots := 0, locals := 190 }) (hr : zRt X (some .boolean)) (E : zE X (some (zI q.1)) q.2 0 0) : ∀ (n : Nat) (l0 : Nat) (M : zM), f_Mo_block_0 (zOD X) n l0 M = some q → zW X 0 0 0 [some (zP l0), none, none, none, none, none, none, none] [] M := by
  intro n l0 M h
  rw [f_Mo_block_0] at h
  refine r_aload_n C (z_d dd_Mo_block 0 rfl) rfl ?_
  refine r_dupP C (z_d dd_Mo_block 1 rfl) ?_
  obtain ⟨h1, h⟩ := zif h
  refine r_getI C (z_d dd_Mo_block 2 rfl) lk_Mo_219 rfl h1 rfl ?_
  refine r_iconst (v := (1 : Int32)) C (z_d dd_Mo_block 3 rfl) (by decide) ?_
  refine r_iadd C (z_d dd_Mo_block 4 rfl) ?_
  obtain ⟨M2, e3, h⟩ := zlet_ex h
  have h4 := k_i e3 h1
  refine r_putI C (z_d dd_Mo_block 5 rfl) lp_Mo_219 rfl h1 e3 ?_
  refine r_aload_n C (z_d dd_Mo_block 6 rfl) rfl ?_
  refine r_getI C (z_d dd_Mo_block 7 rfl) lk_Mo_204 rfl h4 rfl ?_
  obtain ⟨v5, e6, h⟩ := zlet_ex h
  refine r_nmI e6 ?_
  refine r_istore_n (lv' := [some (zP l0), some (zI v5), none, none, none, none, none, none]) C (z_d dd_Mo_block 8 rfl) (Nat.le_of_ble_eq_true rfl) rfl ?_
  refine r_aload_n C (z_d dd_Mo_block 9 rfl) rfl ?_
  refine r_aload_n C (z_d dd_Mo_block 10 rfl) rfl ?_
  refine r_getI C (z_d dd_Mo_block 11 rfl) lk_Mo_204 rfl h4 rfl ?_
  refine r_iconst (v := (3 : Int32)) C (z_d dd_Mo_block 12 rfl) (by decide) ?_
  obtain ⟨q7, c8, h⟩ := zbd h
  refine r_invV (as := [zI (z_i M2 l0 28), zI (3 : Int32)]) C 12 (S_Mo_number c8) (z_d dd_Mo_block 13 rfl) ok_Mo_number iv_Mo_number se_Mo_number ml_Mo_172 rfl rfl h4 rfl rfl rfl (Nat.le_of_ble_eq_true rfl) ⟨(Nat.le_of_ble_eq_true rfl), (Nat.le_of_ble_eq_true rfl)⟩ ⟨(Nat.le_of_ble_eq_true rfl), (Nat.le_of_ble_eq_true rfl)⟩ ?_
  refine r_l2i C (z_d dd_Mo_block 14 rfl) ?_
  obtain ⟨v9, e10, h⟩ := zlet_ex h
  refine r_nmI e10 ?_
  refine r_istore_n (lv' := [some (zP l0), some (zI v5), some (zI v9), none, none, none, none, none]) C (z_d dd_Mo_block 15 rfl) (Nat.le_of_ble_eq_true rfl) rfl ?_
  refine r_iload_n C (z_d dd_Mo_block 16 rfl) rfl ?_
  refine r_iconst (v := (2 : Int32)) C (z_d dd_Mo_block 17 rfl) (by decide) ?_
  refine r_idiv C (z_d dd_Mo_block 18 rfl) (by decide) ?_
  refine r_iconst (v := (4 : Int32)) C (z_d dd_Mo_block 19 rfl) (by decide) ?_
  refine r_irem C (z_d dd_Mo_block 20 rfl) (by decide) ?_
  obtain ⟨v11, e12, h⟩ := zlet_ex h
  refine r_nmI e12 ?_
  refine r_istore_n (lv' := [some (zP l0), some (zI v5), some (zI v9), some (zI v11), none, none, none, none]) C (z_d dd_Mo_block 21 rfl) (Nat.le_of_ble_eq_true rfl) rfl ?_
  refine r_iload_n C (z_d dd_Mo_block 22 rfl) rfl ?_
  refine r_bipush (v := (8 : Int32)) C (z_d dd_Mo_block 23 rfl) (by decide) ?_
  refine r_idiv C (z_d dd_Mo_block 24 rfl) (by decide) ?_
  obtain ⟨v13, e14, h⟩ := zlet_ex h
  refine r_nmI e14 ?_
  refine r_istore (lv' := [some (zP l0), some (zI v5), some (zI v9), some (zI v11), some (zI v13), none, none, none]) C (z_d dd_Mo_block 25 rfl) (Nat.le_of_ble_eq_true rfl) rfl ?_
  refine r_iload_n C (z_d dd_Mo_block 26 rfl) rfl ?_
  refine r_iconst (v := (3 : Int32)) C (z_d dd_Mo_block 27 rfl) (by decide) ?_
  refine r_icmp_ne C 50 (z_d dd_Mo_block 28 rfl) (by decide) (fun c28 => ?_) (fun c28 => ?_)
  · have h := ziff h c28
    refine r_iload C (z_d dd_Mo_block 34 rfl) rfl ?_
    refine r_aload_n C (z_d dd_Mo_block 35 rfl) rfl ?_
    obtain ⟨h15, h⟩ := zif h
    refine r_getI C (z_d dd_Mo_block 36 rfl) lk_Mo_252 rfl h15 rfl ?_
    refine r_icmp_le C 67 (z_d dd_Mo_block 37 rfl) (by decide) (fun c23 => ?_) (fun c23 => ?_)
    · have h := zift h c23
      refine r_aload_n C (z_d dd_Mo_block 43 rfl) rfl ?_
      refine r_dupP C (z_d dd_Mo_block 44 rfl) ?_
      refine r_getI C (z_d dd_Mo_block 45 rfl) lk_Mo_204 rfl h15 rfl ?_
      refine r_iconst (v := (3 : Int32)) C (z_d dd_Mo_block 46 rfl) (by decide) ?_
      refine r_iadd C (z_d dd_Mo_block 47 rfl) ?_
      obtain ⟨M16, e17, h⟩ := zlet_ex h
      have h18 := k_i e17 h15
      refine r_putI C (z_d dd_Mo_block 48 rfl) lp_Mo_204 rfl h15 e17 ?_
      refine r_iload_n C (z_d dd_Mo_block 49 rfl) rfl ?_
      refine r_iconst (v := (1 : Int32)) C (z_d dd_Mo_block 50 rfl) (by decide) ?_
      refine r_icmp_ne C 86 (z_d dd_Mo_block 51 rfl) (by decide) (fun c19 => ?_) (fun c19 => ?_)
      · have h := ziff h c19
        refine r_iload C (z_d dd_Mo_block 54 rfl) rfl ?_
        refine r_mk [true, true, false, true, true, false, false, false] ?_
        exact s_Mo_block_88 C hr E n l0 v5 v11 v13 v13 M16 h
      · have h := zift h c19
        refine r_iconst (v := (1 : Int32)) C (z_d dd_Mo_block 52 rfl) (by decide) ?_
        refine r_goto C 88 (z_d dd_Mo_block 53 rfl) (by decide) ?_
        refine r_mk [true, true, false, true, true, false, false, false] ?_
        exact s_Mo_block_88 C hr E n l0 v5 v11 v13 (1 : Int32) M16 h
    · have h := ziff h c23
      refine r_aload_n C (z_d dd_Mo_block 38 rfl) rfl ?_
      refine r_bipush (v := (6 : Int32)) C (z_d dd_Mo_block 39 rfl) (by decide) ?_
      refine r_iload_n C (z_d dd_Mo_block 40 rfl) rfl ?_
      obtain ⟨q20, c21, h⟩ := zbd h
      refine r_invV (as := [zI (6 : Int32), zI v5]) C 12 (S_Mo_wrong c21) (z_d dd_Mo_block 41 rfl) ok_Mo_wrong iv_Mo_wrong se_Mo_wrong ml_Mo_207 rfl rfl h15 rfl rfl rfl (Nat.le_of_ble_eq_true rfl) ⟨(Nat.le_of_ble_eq_true rfl), (Nat.le_of_ble_eq_true rfl)⟩ ⟨(Nat.le_of_ble_eq_true rfl), (Nat.le_of_ble_eq_true rfl)⟩ ?_
      obtain ⟨h22, h⟩ := zif h
      obtain rfl := z_res h
      exact r_iretZ C E hr (z_d dd_Mo_block 42 rfl) h22 (Nat.le_of_ble_eq_true rfl) (Nat.le_of_ble_eq_true rfl)
  · have h := zift h c28
    refine r_aload_n C (z_d dd_Mo_block 29 rfl) rfl ?_
    refine r_iconst (v := (5 : Int32)) C (z_d dd_Mo_block 30 rfl) (by decide) ?_
    refine r_iload_n C (z_d dd_Mo_block 31 rfl) rfl ?_
    obtain ⟨h24, h⟩ := zif h
    obtain ⟨q25, c26, h⟩ := zbd h
    refine r_invV (as := [zI (5 : Int32), zI v5]) C 12 (S_Mo_wrong c26) (z_d dd_Mo_block 32 rfl) ok_Mo_wrong iv_Mo_wrong se_Mo_wrong ml_Mo_207 rfl rfl h24 rfl rfl rfl (Nat.le_of_ble_eq_true rfl) ⟨(Nat.le_of_ble_eq_true rfl), (Nat.le_of_ble_eq_true rfl)⟩ ⟨(Nat.le_of_ble_eq_true rfl), (Nat.le_of_ble_eq_true rfl)⟩ ?_
    obtain ⟨h27, h⟩ := zif h
    obtain rfl := z_res h
    exact r_iretZ C E hr (z_d dd_Mo_block 33 rfl) h27 (Nat.le_of_ble_eq_true rfl) (Nat.le_of_ble_eq_true rfl)
def F_Mo_block (O : zO) (n : Nat) (l0 : Nat) (M : zM) : Option (Int32 × zM) := f_Mo_block_0 O n l0 M
theorem S_Mo_block {l : Launch} {D : zD} {n : Nat} {l0 : Nat} {M : zM} {q : Int32 × zM} (h : F_Mo_block D.2.2.2.2 n l0 M = some q) : zMet l D mi_Mo_block [zP l0] M (some (zI q.1)) q.2 :=
  z_met (by decide) (Nat.le_of_ble_eq_true rfl) (fun X C E hr hin hD hl => by
    subst hD
    exact s_Mo_block_0 C hr E n l0 M h)

def f_Mo_byteOf_0 (O : zO) (n : Nat) (l0 : Nat) (l1 : Int32) (M : zM) : Option (Int64 × zM) :=
  if z_k M l0 = 13 then
  if z_k M (z_p M l0 40) = 100 then
  if zin l1 (z_n M (z_p M l0 40)) = true then
  some ((z_i M (z_p M l0 40) l1.toNatClampNeg).toInt64, M)
  else none
  else none
  else none
set_option maxRecDepth 100000 in
set_option maxHeartbeats 4000000 in
theorem s_Mo_byteOf_0 {X : zX} {q : Int64 × zM} (C : zC X zR12 prog_14_method_27_code 2 { frames := 0, cells := 0, slots := 0, locals := 0 }) (hr : zRt X (some .long)) (E : zE X (some (zL q.1)) q.2 0 0) : ∀ (n : Nat) (l0 : Nat) (l1 : Int32) (M : zM), f_Mo_byteOf_0 (zOD X) n l0 l1 M = some q → zW X 0 0 0 [some (zP l0), some (zI l1)] [] M := by
  intro n l0 l1 M h
  rw [f_Mo_byteOf_0] at h
  refine r_aload_n C (z_d dd_Mo_byteOf 0 rfl) rfl ?_
  obtain ⟨h1, h⟩ := zif h
  refine r_getP C (z_d dd_Mo_byteOf 1 rfl) lk_Mo_75 rfl h1 rfl ?_
  refine r_iload_n C (z_d dd_Mo_byteOf 2 rfl) rfl ?_
  obtain ⟨h2, h⟩ := zif h
  obtain ⟨h3, h⟩ := zif h
  refine r_iald C (z_d dd_Mo_byteOf 3 rfl) h2 h3 rfl ?_
  refine r_i2l C (z_d dd_Mo_byteOf 4 rfl) ?_
  obtain rfl := z_res h
  exact r_lret C E hr (z_d dd_Mo_byteOf 5 rfl) (Nat.le_of_ble_eq_true rfl) (Nat.le_of_ble_eq_true rfl)
def F_Mo_byteOf (O : zO) (n : Nat) (l0 : Nat) (l1 : Int32) (M : zM) : Option (Int64 × zM) := f_Mo_byteOf_0 O n l0 l1 M
theorem S_Mo_byteOf {l : Launch} {D : zD} {n : Nat} {l0 : Nat} {l1 : Int32} {M : zM} {q : Int64 × zM} (h : F_Mo_byteOf D.2.2.2.2 n l0 l1 M = some q) : zMet l D mi_Mo_byteOf [zP l0, zI l1] M (some (zL q.1)) q.2 :=
  z_met (by decide) (Nat.le_of_ble_eq_true rfl) (fun X C E hr hin hD hl => by
    subst hD
    exact s_Mo_byteOf_0 C hr E n l0 l1 M h)

def f_Mo_numberOf_7 (O : zO) : Nat → Nat → Int32 → Int64 → Int32 → zM → Option (Int64 × zM)
  | 0, _, _, _, _, _ => none
  | n + 1, l0, l1, l3, l5, M =>
    if l5 < 0 then
    some (l3, M)
    else
    if z_k M l0 = 13 then
    (F_Mo_byteOf O n l0 (l1 + l5) M).bind fun q2 =>
    zlet ((l3 <<< ((8 : Int32).toInt64 &&& 63)) ||| q2.1) fun v4 =>
    zlet (l5 + (-1 : Int32)) fun v6 =>
    f_Mo_numberOf_7 O n l0 l1 v4 v6 q2.2
    else none
set_option maxRecDepth 100000 in
set_option maxHeartbeats 4000000 in
theorem s_Mo_numberOf_7 {X : zX} {q : Int64 × zM} (C : zC X zR12 prog_14_method_28_code 6 { frames := 1, cells := 0, slots := 0, locals := 21 }) (hr : zRt X (some .long)) (E : zE X (some (zL q.1)) q.2 0 0) : ∀ (n : Nat) (l0 : Nat) (l1 : Int32) (l3 : Int64) (l5 : Int32) (M : zM), f_Mo_numberOf_7 (zOD X) n l0 l1 l3 l5 M = some q → zW X 0 0 7 [some (zP l0), some (zI l1), none, some (zL l3), none, some (zI l5)] [] M := by
  intro n
  induction n with
  | zero => intro l0 l1 l3 l5 M h; rw [f_Mo_numberOf_7] at h; cases h
  | succ n ih =>
    intro l0 l1 l3 l5 M h
    rw [f_Mo_numberOf_7] at h
    refine r_iload C (z_d dd_Mo_numberOf 6 rfl) rfl ?_
    refine r_if_lt C 32 (z_d dd_Mo_numberOf 7 rfl) (by decide) (fun c8 => ?_) (fun c8 => ?_)
    · have h := zift h c8
      refine r_lload_n C (z_d dd_Mo_numberOf 20 rfl) rfl ?_
      obtain rfl := z_res h
      exact r_lret C E hr (z_d dd_Mo_numberOf 21 rfl) (Nat.le_of_ble_eq_true rfl) (Nat.le_of_ble_eq_true rfl)
    · have h := ziff h c8
      refine r_lload_n C (z_d dd_Mo_numberOf 8 rfl) rfl ?_
      refine r_bipush (v := (8 : Int32)) C (z_d dd_Mo_numberOf 9 rfl) (by decide) ?_
      refine r_lshl C (z_d dd_Mo_numberOf 10 rfl) ?_
      refine r_aload_n C (z_d dd_Mo_numberOf 11 rfl) rfl ?_
      refine r_iload_n C (z_d dd_Mo_numberOf 12 rfl) rfl ?_
      refine r_iload C (z_d dd_Mo_numberOf 13 rfl) rfl ?_
      refine r_iadd C (z_d dd_Mo_numberOf 14 rfl) ?_
      obtain ⟨h1, h⟩ := zif h
      obtain ⟨q2, c3, h⟩ := zbd h
      refine r_invV (as := [zI (l1 + l5)]) C 12 (S_Mo_byteOf c3) (z_d dd_Mo_numberOf 15 rfl) ok_Mo_byteOf iv_Mo_byteOf se_Mo_byteOf ml_Mo_178 rfl rfl h1 rfl rfl rfl (Nat.le_of_ble_eq_true rfl) ⟨(Nat.le_of_ble_eq_true rfl), (Nat.le_of_ble_eq_true rfl)⟩ ⟨(Nat.le_of_ble_eq_true rfl), (Nat.le_of_ble_eq_true rfl)⟩ ?_
      refine r_lor C (z_d dd_Mo_numberOf 16 rfl) ?_
      obtain ⟨v4, e5, h⟩ := zlet_ex h
      refine r_nmL e5 ?_
      refine r_lstore_n (lv' := [some (zP l0), some (zI l1), none, some (zL v4), none, some (zI l5)]) C (z_d dd_Mo_numberOf 17 rfl) (Nat.le_of_ble_eq_true rfl) rfl ?_
      obtain ⟨v6, e7, h⟩ := zlet_ex h
      refine r_iinc (v := v6) (lv' := [some (zP l0), some (zI l1), none, some (zL v4), none, some (zI v6)]) C (z_d dd_Mo_numberOf 18 rfl) rfl (Nat.le_of_ble_eq_true rfl) (by rw [e7]; rfl) rfl ?_
      refine r_goto C 7 (z_d dd_Mo_numberOf 19 rfl) (by decide) ?_
      exact ih l0 l1 v4 v6 q2.2 h
def f_Mo_numberOf_0 (O : zO) (n : Nat) (l0 : Nat) (l1 : Int32) (l2 : Int32) (M : zM) : Option (Int64 × zM) :=
  zlet (l2 - (1 : Int32)) fun v1 =>
  f_Mo_numberOf_7 O n l0 l1 (0 : Int64) v1 M
set_option maxRecDepth 100000 in
set_option maxHeartbeats 4000000 in
theorem s_Mo_numberOf_0 {X : zX} {q : Int64 × zM} (C : zC X zR12 prog_14_method_28_code 6 { frames := 1, cells := 0, slots := 0, locals := 21 }) (hr : zRt X (some .long)) (E : zE X (some (zL q.1)) q.2 0 0) : ∀ (n : Nat) (l0 : Nat) (l1 : Int32) (l2 : Int32) (M : zM), f_Mo_numberOf_0 (zOD X) n l0 l1 l2 M = some q → zW X 0 0 0 [some (zP l0), some (zI l1), some (zI l2), none, none, none] [] M := by
  intro n l0 l1 l2 M h
  rw [f_Mo_numberOf_0] at h
  refine r_lconst (v := (0 : Int64)) C (z_d dd_Mo_numberOf 0 rfl) (by decide) ?_
  refine r_lstore_n (lv' := [some (zP l0), some (zI l1), some (zI l2), some (zL (0 : Int64)), none, none]) C (z_d dd_Mo_numberOf 1 rfl) (Nat.le_of_ble_eq_true rfl) rfl ?_
  refine r_iload_n C (z_d dd_Mo_numberOf 2 rfl) rfl ?_
  refine r_iconst (v := (1 : Int32)) C (z_d dd_Mo_numberOf 3 rfl) (by decide) ?_
  refine r_isub C (z_d dd_Mo_numberOf 4 rfl) ?_
  obtain ⟨v1, e2, h⟩ := zlet_ex h
  refine r_nmI e2 ?_
  refine r_istore (lv' := [some (zP l0), some (zI l1), some (zI l2), some (zL (0 : Int64)), none, some (zI v1)]) C (z_d dd_Mo_numberOf 5 rfl) (Nat.le_of_ble_eq_true rfl) rfl ?_
  refine r_mk [true, true, false, true, false, true] ?_
  exact s_Mo_numberOf_7 C hr E n l0 l1 (0 : Int64) v1 M h
def F_Mo_numberOf (O : zO) (n : Nat) (l0 : Nat) (l1 : Int32) (l2 : Int32) (M : zM) : Option (Int64 × zM) := f_Mo_numberOf_0 O n l0 l1 l2 M
theorem S_Mo_numberOf {l : Launch} {D : zD} {n : Nat} {l0 : Nat} {l1 : Int32} {l2 : Int32} {M : zM} {q : Int64 × zM} (h : F_Mo_numberOf D.2.2.2.2 n l0 l1 l2 M = some q) : zMet l D mi_Mo_numberOf [zP l0, zI l1, zI l2] M (some (zL q.1)) q.2 :=
  z_met (by decide) (Nat.le_of_ble_eq_true rfl) (fun X C E hr hin hD hl => by
    subst hD
    exact s_Mo_numberOf_0 C hr E n l0 l1 l2 M h)

def f_Mo_rotated_0 (O : zO) (n : Nat) (l0 : Int64) (l2 : Int32) (M : zM) : Option (Int64 × zM) :=
  some (((l0 <<< (l2.toInt64 &&& 63)) ||| (l0.toUInt64 >>> (((64 : Int32) - l2).toInt64.toUInt64 &&& Int64.toUInt64 63)).toInt64), M)
set_option maxRecDepth 100000 in
set_option maxHeartbeats 4000000 in
theorem s_Mo_rotated_0 {X : zX} {q : Int64 × zM} (C : zC X zR12 prog_14_method_26_code 3 { frames := 0, cells := 0, slots := 0, locals := 0 }) (hr : zRt X (some .long)) (E : zE X (some (zL q.1)) q.2 0 0) : ∀ (n : Nat) (l0 : Int64) (l2 : Int32) (M : zM), f_Mo_rotated_0 (zOD X) n l0 l2 M = some q → zW X 0 0 0 [some (zL l0), none, some (zI l2)] [] M := by
  intro n l0 l2 M h
  rw [f_Mo_rotated_0] at h
  refine r_lload_n C (z_d dd_Mo_rotated 0 rfl) rfl ?_
  refine r_iload_n C (z_d dd_Mo_rotated 1 rfl) rfl ?_
  refine r_lshl C (z_d dd_Mo_rotated 2 rfl) ?_
  refine r_lload_n C (z_d dd_Mo_rotated 3 rfl) rfl ?_
  refine r_bipush (v := (64 : Int32)) C (z_d dd_Mo_rotated 4 rfl) (by decide) ?_
  refine r_iload_n C (z_d dd_Mo_rotated 5 rfl) rfl ?_
  refine r_isub C (z_d dd_Mo_rotated 6 rfl) ?_
  refine r_lushr C (z_d dd_Mo_rotated 7 rfl) ?_
  refine r_lor C (z_d dd_Mo_rotated 8 rfl) ?_
  obtain rfl := z_res h
  exact r_lret C E hr (z_d dd_Mo_rotated 9 rfl) (Nat.le_of_ble_eq_true rfl) (Nat.le_of_ble_eq_true rfl)
def F_Mo_rotated (O : zO) (n : Nat) (l0 : Int64) (l2 : Int32) (M : zM) : Option (Int64 × zM) := f_Mo_rotated_0 O n l0 l2 M
theorem S_Mo_rotated {l : Launch} {D : zD} {n : Nat} {l0 : Int64} {l2 : Int32} {M : zM} {q : Int64 × zM} (h : F_Mo_rotated D.2.2.2.2 n l0 l2 M = some q) : zMet l D mi_Mo_rotated [zL l0, zI l2] M (some (zL q.1)) q.2 :=
  z_met (by decide) (Nat.le_of_ble_eq_true rfl) (fun X C E hr hin hD hl => by
    subst hD
    exact s_Mo_rotated_0 C hr E n l0 l2 M h)

def f_Mo_sum_324 (O : zO) : Nat → Nat → Int32 → Int64 → Int64 → Int64 → Int64 → Int32 → Int64 → zM → Option (Int64 × zM)
  | 0, _, _, _, _, _, _, _, _, _ => none
  | n + 1, l0, l2, l3, l5, l7, l11, l13, l14, M =>
    if l2 ≤ l13 then
    zlet ((l14 ^^^ (l14.toUInt64 >>> ((33 : Int32).toInt64.toUInt64 &&& Int64.toUInt64 63)).toInt64) * l5) fun v1 =>
    zlet ((v1 ^^^ (v1.toUInt64 >>> ((29 : Int32).toInt64.toUInt64 &&& Int64.toUInt64 63)).toInt64) * l7) fun v3 =>
    some ((v3 ^^^ (v3.toUInt64 >>> ((32 : Int32).toInt64.toUInt64 &&& Int64.toUInt64 63)).toInt64), M)
    else
    if z_k M l0 = 13 then
    (F_Mo_byteOf O n l0 l13 M).bind fun q6 =>
    (F_Mo_rotated O n (l14 ^^^ (q6.1 * l11)) (11 : Int32) q6.2).bind fun q8 =>
    zlet (q8.1 * l3) fun v10 =>
    zlet (l13 + (1 : Int32)) fun v12 =>
    f_Mo_sum_324 O n l0 l2 l3 l5 l7 l11 v12 v10 q8.2
    else none
set_option maxRecDepth 100000 in
set_option maxHeartbeats 4000000 in
theorem s_Mo_sum_324 {X : zX} {q : Int64 × zM} (C : zC X zR12 prog_14_method_29_code 17 { frames := 2, cells := 0, slots := 0, locals := 46 }) (hr : zRt X (some .long)) (E : zE X (some (zL q.1)) q.2 0 0) : ∀ (n : Nat) (l0 : Nat) (l2 : Int32) (l3 : Int64) (l5 : Int64) (l7 : Int64) (l11 : Int64) (l13 : Int32) (l14 : Int64) (M : zM), f_Mo_sum_324 (zOD X) n l0 l2 l3 l5 l7 l11 l13 l14 M = some q → zW X 0 0 324 [some (zP l0), none, some (zI l2), some (zL l3), none, some (zL l5), none, some (zL l7), none, none, none, some (zL l11), none, some (zI l13), some (zL l14), none, none] [] M := by
  intro n
  induction n with
  | zero => intro l0 l2 l3 l5 l7 l11 l13 l14 M h; rw [f_Mo_sum_324] at h; cases h
  | succ n ih =>
    intro l0 l2 l3 l5 l7 l11 l13 l14 M h
    rw [f_Mo_sum_324] at h
    refine r_iload C (z_d dd_Mo_sum 185 rfl) rfl ?_
    refine r_iload_n C (z_d dd_Mo_sum 186 rfl) rfl ?_
    refine r_icmp_ge C 357 (z_d dd_Mo_sum 187 rfl) (by decide) (fun c14 => ?_) (fun c14 => ?_)
    · have h := zift h c14
      refine r_lload C (z_d dd_Mo_sum 202 rfl) rfl ?_
      refine r_lload C (z_d dd_Mo_sum 203 rfl) rfl ?_
      refine r_bipush (v := (33 : Int32)) C (z_d dd_Mo_sum 204 rfl) (by decide) ?_
      refine r_lushr C (z_d dd_Mo_sum 205 rfl) ?_
      refine r_lxor C (z_d dd_Mo_sum 206 rfl) ?_
      refine r_lload C (z_d dd_Mo_sum 207 rfl) rfl ?_
      refine r_lmul C (z_d dd_Mo_sum 208 rfl) ?_
      obtain ⟨v1, e2, h⟩ := zlet_ex h
      refine r_nmL e2 ?_
      refine r_lstore (lv' := [some (zP l0), none, some (zI l2), some (zL l3), none, some (zL l5), none, some (zL l7), none, none, none, some (zL l11), none, some (zI l13), some (zL v1), none, none]) C (z_d dd_Mo_sum 209 rfl) (Nat.le_of_ble_eq_true rfl) rfl ?_
      refine r_lload C (z_d dd_Mo_sum 210 rfl) rfl ?_
      refine r_lload C (z_d dd_Mo_sum 211 rfl) rfl ?_
      refine r_bipush (v := (29 : Int32)) C (z_d dd_Mo_sum 212 rfl) (by decide) ?_
      refine r_lushr C (z_d dd_Mo_sum 213 rfl) ?_
      refine r_lxor C (z_d dd_Mo_sum 214 rfl) ?_
      refine r_lload C (z_d dd_Mo_sum 215 rfl) rfl ?_
      refine r_lmul C (z_d dd_Mo_sum 216 rfl) ?_
      obtain ⟨v3, e4, h⟩ := zlet_ex h
      refine r_nmL e4 ?_
      refine r_lstore (lv' := [some (zP l0), none, some (zI l2), some (zL l3), none, some (zL l5), none, some (zL l7), none, none, none, some (zL l11), none, some (zI l13), some (zL v3), none, none]) C (z_d dd_Mo_sum 217 rfl) (Nat.le_of_ble_eq_true rfl) rfl ?_
      refine r_lload C (z_d dd_Mo_sum 218 rfl) rfl ?_
      refine r_lload C (z_d dd_Mo_sum 219 rfl) rfl ?_
      refine r_bipush (v := (32 : Int32)) C (z_d dd_Mo_sum 220 rfl) (by decide) ?_
      refine r_lushr C (z_d dd_Mo_sum 221 rfl) ?_
      refine r_lxor C (z_d dd_Mo_sum 222 rfl) ?_
      obtain rfl := z_res h
      exact r_lret C E hr (z_d dd_Mo_sum 223 rfl) (Nat.le_of_ble_eq_true rfl) (Nat.le_of_ble_eq_true rfl)
    · have h := ziff h c14
      refine r_lload C (z_d dd_Mo_sum 188 rfl) rfl ?_
      refine r_aload_n C (z_d dd_Mo_sum 189 rfl) rfl ?_
      refine r_iload C (z_d dd_Mo_sum 190 rfl) rfl ?_
      obtain ⟨h5, h⟩ := zif h
      obtain ⟨q6, c7, h⟩ := zbd h
      refine r_invV (as := [zI l13]) C 12 (S_Mo_byteOf c7) (z_d dd_Mo_sum 191 rfl) ok_Mo_byteOf iv_Mo_byteOf se_Mo_byteOf ml_Mo_178 rfl rfl h5 rfl rfl rfl (Nat.le_of_ble_eq_true rfl) ⟨(Nat.le_of_ble_eq_true rfl), (Nat.le_of_ble_eq_true rfl)⟩ ⟨(Nat.le_of_ble_eq_true rfl), (Nat.le_of_ble_eq_true rfl)⟩ ?_
      refine r_lload C (z_d dd_Mo_sum 192 rfl) rfl ?_
      refine r_lmul C (z_d dd_Mo_sum 193 rfl) ?_
      refine r_lxor C (z_d dd_Mo_sum 194 rfl) ?_
      refine r_bipush (v := (11 : Int32)) C (z_d dd_Mo_sum 195 rfl) (by decide) ?_
      obtain ⟨q8, c9, h⟩ := zbd h
      refine r_invS (as := [zL (l14 ^^^ (q6.1 * l11)), zI (11 : Int32)]) C (S_Mo_rotated c9) (z_d dd_Mo_sum 196 rfl) ok_Mo_rotated sv_Mo_rotated ml_Mo_194 rfl rfl rfl (Nat.le_of_ble_eq_true rfl) ⟨(Nat.le_of_ble_eq_true rfl), (Nat.le_of_ble_eq_true rfl)⟩ ⟨(Nat.le_of_ble_eq_true rfl), (Nat.le_of_ble_eq_true rfl)⟩ ?_
      refine r_lload_n C (z_d dd_Mo_sum 197 rfl) rfl ?_
      refine r_lmul C (z_d dd_Mo_sum 198 rfl) ?_
      obtain ⟨v10, e11, h⟩ := zlet_ex h
      refine r_nmL e11 ?_
      refine r_lstore (lv' := [some (zP l0), none, some (zI l2), some (zL l3), none, some (zL l5), none, some (zL l7), none, none, none, some (zL l11), none, some (zI l13), some (zL v10), none, none]) C (z_d dd_Mo_sum 199 rfl) (Nat.le_of_ble_eq_true rfl) rfl ?_
      obtain ⟨v12, e13, h⟩ := zlet_ex h
      refine r_iinc (v := v12) (lv' := [some (zP l0), none, some (zI l2), some (zL l3), none, some (zL l5), none, some (zL l7), none, none, none, some (zL l11), none, some (zI v12), some (zL v10), none, none]) C (z_d dd_Mo_sum 200 rfl) rfl (Nat.le_of_ble_eq_true rfl) (by rw [e13]; rfl) rfl ?_
      refine r_goto C 324 (z_d dd_Mo_sum 201 rfl) (by decide) ?_
      exact ih l0 l2 l3 l5 l7 l11 v12 v10 q8.2 h
def f_Mo_sum_240 (O : zO) : Nat → Nat → Int32 → Int64 → Int64 → Int64 → Int64 → Int64 → Int32 → Int64 → zM → Option (Int64 × zM)
  | 0, _, _, _, _, _, _, _, _, _, _ => none
  | n + 1, l0, l2, l3, l5, l7, l9, l11, l13, l14, M =>
    if (l2 - l13) < (8 : Int32) then
    if (l2 - l13) < (4 : Int32) then
    f_Mo_sum_324 O n l0 l2 l3 l5 l7 l11 l13 l14 M
    else
    if z_k M l0 = 13 then
    (F_Mo_numberOf O n l0 l13 (4 : Int32) M).bind fun q2 =>
    (F_Mo_rotated O n (l14 ^^^ (q2.1 * l3)) (23 : Int32) q2.2).bind fun q4 =>
    zlet ((q4.1 * l5) + l7) fun v6 =>
    zlet (l13 + (4 : Int32)) fun v8 =>
    f_Mo_sum_324 O n l0 l2 l3 l5 l7 l11 v8 v6 q4.2
    else none
    else
    if z_k M l0 = 13 then
    (F_Mo_numberOf O n l0 l13 (8 : Int32) M).bind fun q12 =>
    (F_Mo_rotated O n (q12.1 * l5) (31 : Int32) q12.2).bind fun q14 =>
    (F_Mo_rotated O n (l14 ^^^ (q14.1 * l3)) (27 : Int32) q14.2).bind fun q16 =>
    zlet ((q16.1 * l3) + l9) fun v18 =>
    zlet (l13 + (8 : Int32)) fun v20 =>
    f_Mo_sum_240 O n l0 l2 l3 l5 l7 l9 l11 v20 v18 q16.2
    else none
set_option maxRecDepth 100000 in
set_option maxHeartbeats 4000000 in
theorem s_Mo_sum_240 {X : zX} {q : Int64 × zM} (C : zC X zR12 prog_14_method_29_code 17 { frames := 2, cells := 0, slots := 0, locals := 46 }) (hr : zRt X (some .long)) (E : zE X (some (zL q.1)) q.2 0 0) : ∀ (n : Nat) (l0 : Nat) (l2 : Int32) (l3 : Int64) (l5 : Int64) (l7 : Int64) (l9 : Int64) (l11 : Int64) (l13 : Int32) (l14 : Int64) (M : zM), f_Mo_sum_240 (zOD X) n l0 l2 l3 l5 l7 l9 l11 l13 l14 M = some q → zW X 0 0 240 [some (zP l0), none, some (zI l2), some (zL l3), none, some (zL l5), none, some (zL l7), none, some (zL l9), none, some (zL l11), none, some (zI l13), some (zL l14), none, none] [] M := by
  intro n
  induction n with
  | zero => intro l0 l2 l3 l5 l7 l9 l11 l13 l14 M h; rw [f_Mo_sum_240] at h; cases h
  | succ n ih =>
    intro l0 l2 l3 l5 l7 l9 l11 l13 l14 M h
    rw [f_Mo_sum_240] at h
    refine r_iload_n C (z_d dd_Mo_sum 138 rfl) rfl ?_
    refine r_iload C (z_d dd_Mo_sum 139 rfl) rfl ?_
    refine r_isub C (z_d dd_Mo_sum 140 rfl) ?_
    refine r_bipush (v := (8 : Int32)) C (z_d dd_Mo_sum 141 rfl) (by decide) ?_
    refine r_icmp_lt C 288 (z_d dd_Mo_sum 142 rfl) (by decide) (fun c22 => ?_) (fun c22 => ?_)
    · have h := zift h c22
      refine r_iload_n C (z_d dd_Mo_sum 164 rfl) rfl ?_
      refine r_iload C (z_d dd_Mo_sum 165 rfl) rfl ?_
      refine r_isub C (z_d dd_Mo_sum 166 rfl) ?_
      refine r_iconst (v := (4 : Int32)) C (z_d dd_Mo_sum 167 rfl) (by decide) ?_
      refine r_icmp_lt C 324 (z_d dd_Mo_sum 168 rfl) (by decide) (fun c10 => ?_) (fun c10 => ?_)
      · have h := zift h c10
        refine r_mk [true, false, true, true, false, true, false, true, false, false, false, true, false, true, true, false, false] ?_
        exact s_Mo_sum_324 C hr E n l0 l2 l3 l5 l7 l11 l13 l14 M h
      · have h := ziff h c10
        refine r_lload C (z_d dd_Mo_sum 169 rfl) rfl ?_
        refine r_aload_n C (z_d dd_Mo_sum 170 rfl) rfl ?_
        refine r_iload C (z_d dd_Mo_sum 171 rfl) rfl ?_
        refine r_iconst (v := (4 : Int32)) C (z_d dd_Mo_sum 172 rfl) (by decide) ?_
        obtain ⟨h1, h⟩ := zif h
        obtain ⟨q2, c3, h⟩ := zbd h
        refine r_invV (as := [zI l13, zI (4 : Int32)]) C 12 (S_Mo_numberOf c3) (z_d dd_Mo_sum 173 rfl) ok_Mo_numberOf iv_Mo_numberOf se_Mo_numberOf ml_Mo_191 rfl rfl h1 rfl rfl rfl (Nat.le_of_ble_eq_true rfl) ⟨(Nat.le_of_ble_eq_true rfl), (Nat.le_of_ble_eq_true rfl)⟩ ⟨(Nat.le_of_ble_eq_true rfl), (Nat.le_of_ble_eq_true rfl)⟩ ?_
        refine r_lload_n C (z_d dd_Mo_sum 174 rfl) rfl ?_
        refine r_lmul C (z_d dd_Mo_sum 175 rfl) ?_
        refine r_lxor C (z_d dd_Mo_sum 176 rfl) ?_
        refine r_bipush (v := (23 : Int32)) C (z_d dd_Mo_sum 177 rfl) (by decide) ?_
        obtain ⟨q4, c5, h⟩ := zbd h
        refine r_invS (as := [zL (l14 ^^^ (q2.1 * l3)), zI (23 : Int32)]) C (S_Mo_rotated c5) (z_d dd_Mo_sum 178 rfl) ok_Mo_rotated sv_Mo_rotated ml_Mo_194 rfl rfl rfl (Nat.le_of_ble_eq_true rfl) ⟨(Nat.le_of_ble_eq_true rfl), (Nat.le_of_ble_eq_true rfl)⟩ ⟨(Nat.le_of_ble_eq_true rfl), (Nat.le_of_ble_eq_true rfl)⟩ ?_
        refine r_lload C (z_d dd_Mo_sum 179 rfl) rfl ?_
        refine r_lmul C (z_d dd_Mo_sum 180 rfl) ?_
        refine r_lload C (z_d dd_Mo_sum 181 rfl) rfl ?_
        refine r_ladd C (z_d dd_Mo_sum 182 rfl) ?_
        obtain ⟨v6, e7, h⟩ := zlet_ex h
        refine r_nmL e7 ?_
        refine r_lstore (lv' := [some (zP l0), none, some (zI l2), some (zL l3), none, some (zL l5), none, some (zL l7), none, some (zL l9), none, some (zL l11), none, some (zI l13), some (zL v6), none, none]) C (z_d dd_Mo_sum 183 rfl) (Nat.le_of_ble_eq_true rfl) rfl ?_
        obtain ⟨v8, e9, h⟩ := zlet_ex h
        refine r_iinc (v := v8) (lv' := [some (zP l0), none, some (zI l2), some (zL l3), none, some (zL l5), none, some (zL l7), none, some (zL l9), none, some (zL l11), none, some (zI v8), some (zL v6), none, none]) C (z_d dd_Mo_sum 184 rfl) rfl (Nat.le_of_ble_eq_true rfl) (by rw [e9]; rfl) rfl ?_
        refine r_mk [true, false, true, true, false, true, false, true, false, false, false, true, false, true, true, false, false] ?_
        exact s_Mo_sum_324 C hr E n l0 l2 l3 l5 l7 l11 v8 v6 q4.2 h
    · have h := ziff h c22
      refine r_lload C (z_d dd_Mo_sum 143 rfl) rfl ?_
      refine r_aload_n C (z_d dd_Mo_sum 144 rfl) rfl ?_
      refine r_iload C (z_d dd_Mo_sum 145 rfl) rfl ?_
      refine r_bipush (v := (8 : Int32)) C (z_d dd_Mo_sum 146 rfl) (by decide) ?_
      obtain ⟨h11, h⟩ := zif h
      obtain ⟨q12, c13, h⟩ := zbd h
      refine r_invV (as := [zI l13, zI (8 : Int32)]) C 12 (S_Mo_numberOf c13) (z_d dd_Mo_sum 147 rfl) ok_Mo_numberOf iv_Mo_numberOf se_Mo_numberOf ml_Mo_191 rfl rfl h11 rfl rfl rfl (Nat.le_of_ble_eq_true rfl) ⟨(Nat.le_of_ble_eq_true rfl), (Nat.le_of_ble_eq_true rfl)⟩ ⟨(Nat.le_of_ble_eq_true rfl), (Nat.le_of_ble_eq_true rfl)⟩ ?_
      refine r_lload C (z_d dd_Mo_sum 148 rfl) rfl ?_
      refine r_lmul C (z_d dd_Mo_sum 149 rfl) ?_
      refine r_bipush (v := (31 : Int32)) C (z_d dd_Mo_sum 150 rfl) (by decide) ?_
      obtain ⟨q14, c15, h⟩ := zbd h
      refine r_invS (as := [zL (q12.1 * l5), zI (31 : Int32)]) C (S_Mo_rotated c15) (z_d dd_Mo_sum 151 rfl) ok_Mo_rotated sv_Mo_rotated ml_Mo_194 rfl rfl rfl (Nat.le_of_ble_eq_true rfl) ⟨(Nat.le_of_ble_eq_true rfl), (Nat.le_of_ble_eq_true rfl)⟩ ⟨(Nat.le_of_ble_eq_true rfl), (Nat.le_of_ble_eq_true rfl)⟩ ?_
      refine r_lload_n C (z_d dd_Mo_sum 152 rfl) rfl ?_
      refine r_lmul C (z_d dd_Mo_sum 153 rfl) ?_
      refine r_lxor C (z_d dd_Mo_sum 154 rfl) ?_
      refine r_bipush (v := (27 : Int32)) C (z_d dd_Mo_sum 155 rfl) (by decide) ?_
      obtain ⟨q16, c17, h⟩ := zbd h
      refine r_invS (as := [zL (l14 ^^^ (q14.1 * l3)), zI (27 : Int32)]) C (S_Mo_rotated c17) (z_d dd_Mo_sum 156 rfl) ok_Mo_rotated sv_Mo_rotated ml_Mo_194 rfl rfl rfl (Nat.le_of_ble_eq_true rfl) ⟨(Nat.le_of_ble_eq_true rfl), (Nat.le_of_ble_eq_true rfl)⟩ ⟨(Nat.le_of_ble_eq_true rfl), (Nat.le_of_ble_eq_true rfl)⟩ ?_
      refine r_lload_n C (z_d dd_Mo_sum 157 rfl) rfl ?_
      refine r_lmul C (z_d dd_Mo_sum 158 rfl) ?_
      refine r_lload C (z_d dd_Mo_sum 159 rfl) rfl ?_
      refine r_ladd C (z_d dd_Mo_sum 160 rfl) ?_
      obtain ⟨v18, e19, h⟩ := zlet_ex h
      refine r_nmL e19 ?_
      refine r_lstore (lv' := [some (zP l0), none, some (zI l2), some (zL l3), none, some (zL l5), none, some (zL l7), none, some (zL l9), none, some (zL l11), none, some (zI l13), some (zL v18), none, none]) C (z_d dd_Mo_sum 161 rfl) (Nat.le_of_ble_eq_true rfl) rfl ?_
      obtain ⟨v20, e21, h⟩ := zlet_ex h
      refine r_iinc (v := v20) (lv' := [some (zP l0), none, some (zI l2), some (zL l3), none, some (zL l5), none, some (zL l7), none, some (zL l9), none, some (zL l11), none, some (zI v20), some (zL v18), none, none]) C (z_d dd_Mo_sum 162 rfl) rfl (Nat.le_of_ble_eq_true rfl) (by rw [e21]; rfl) rfl ?_
      refine r_goto C 240 (z_d dd_Mo_sum 163 rfl) (by decide) ?_
      exact ih l0 l2 l3 l5 l7 l9 l11 v20 v18 q16.2 h
def f_Mo_sum_231 (O : zO) (n : Nat) (l0 : Nat) (l1 : Int32) (l2 : Int32) (l3 : Int64) (l5 : Int64) (l7 : Int64) (l9 : Int64) (l11 : Int64) (l13 : Int32) (l14 : Int64) (M : zM) : Option (Int64 × zM) :=
  zlet (l14 + (l2 - l1).toInt64) fun v1 =>
  f_Mo_sum_240 O n l0 l2 l3 l5 l7 l9 l11 l13 v1 M
set_option maxRecDepth 100000 in
set_option maxHeartbeats 4000000 in
theorem s_Mo_sum_231 {X : zX} {q : Int64 × zM} (C : zC X zR12 prog_14_method_29_code 17 { frames := 2, cells := 0, slots := 0, locals := 46 }) (hr : zRt X (some .long)) (E : zE X (some (zL q.1)) q.2 0 0) : ∀ (n : Nat) (l0 : Nat) (l1 : Int32) (l2 : Int32) (l3 : Int64) (l5 : Int64) (l7 : Int64) (l9 : Int64) (l11 : Int64) (l13 : Int32) (l14 : Int64) (M : zM), f_Mo_sum_231 (zOD X) n l0 l1 l2 l3 l5 l7 l9 l11 l13 l14 M = some q → zW X 0 0 231 [some (zP l0), some (zI l1), some (zI l2), some (zL l3), none, some (zL l5), none, some (zL l7), none, some (zL l9), none, some (zL l11), none, some (zI l13), some (zL l14), none, none] [] M := by
  intro n l0 l1 l2 l3 l5 l7 l9 l11 l13 l14 M h
  rw [f_Mo_sum_231] at h
  refine r_lload C (z_d dd_Mo_sum 131 rfl) rfl ?_
  refine r_iload_n C (z_d dd_Mo_sum 132 rfl) rfl ?_
  refine r_iload_n C (z_d dd_Mo_sum 133 rfl) rfl ?_
  refine r_isub C (z_d dd_Mo_sum 134 rfl) ?_
  refine r_i2l C (z_d dd_Mo_sum 135 rfl) ?_
  refine r_ladd C (z_d dd_Mo_sum 136 rfl) ?_
  obtain ⟨v1, e2, h⟩ := zlet_ex h
  refine r_nmL e2 ?_
  refine r_lstore (lv' := [some (zP l0), some (zI l1), some (zI l2), some (zL l3), none, some (zL l5), none, some (zL l7), none, some (zL l9), none, some (zL l11), none, some (zI l13), some (zL v1), none, none]) C (z_d dd_Mo_sum 137 rfl) (Nat.le_of_ble_eq_true rfl) rfl ?_
  refine r_mk [true, false, true, true, false, true, false, true, false, true, false, true, false, true, true, false, false] ?_
  exact s_Mo_sum_240 C hr E n l0 l2 l3 l5 l7 l9 l11 l13 v1 M h
def f_Mo_sum_192 (O : zO) : Nat → Nat → Int32 → Int32 → Int64 → Int64 → Int64 → Int64 → Int64 → Int32 → Int64 → Int32 → zM → Option (Int64 × zM)
  | 0, _, _, _, _, _, _, _, _, _, _, _, _ => none
  | n + 1, l0, l1, l2, l3, l5, l7, l9, l11, l13, l14, l16, M =>
    if (4 : Int32) ≤ l16 then
    f_Mo_sum_231 O n l0 l1 l2 l3 l5 l7 l9 l11 l13 l14 M
    else
    if z_k M l0 = 13 then
    if z_k M (z_p M l0 49) = 103 then
    if zin l16 (z_n M (z_p M l0 49)) = true then
    (F_Mo_rotated O n ((z_j M (z_p M l0 49) l16.toNatClampNeg) * l5) (31 : Int32) M).bind fun q4 =>
    zlet (((l14 ^^^ (q4.1 * l3)) * l3) + l9) fun v6 =>
    zlet (l16 + (1 : Int32)) fun v8 =>
    f_Mo_sum_192 O n l0 l1 l2 l3 l5 l7 l9 l11 l13 v6 v8 q4.2
    else none
    else none
    else none
set_option maxRecDepth 100000 in
set_option maxHeartbeats 4000000 in
theorem s_Mo_sum_192 {X : zX} {q : Int64 × zM} (C : zC X zR12 prog_14_method_29_code 17 { frames := 2, cells := 0, slots := 0, locals := 46 }) (hr : zRt X (some .long)) (E : zE X (some (zL q.1)) q.2 0 0) : ∀ (n : Nat) (l0 : Nat) (l1 : Int32) (l2 : Int32) (l3 : Int64) (l5 : Int64) (l7 : Int64) (l9 : Int64) (l11 : Int64) (l13 : Int32) (l14 : Int64) (l16 : Int32) (M : zM), f_Mo_sum_192 (zOD X) n l0 l1 l2 l3 l5 l7 l9 l11 l13 l14 l16 M = some q → zW X 0 0 192 [some (zP l0), some (zI l1), some (zI l2), some (zL l3), none, some (zL l5), none, some (zL l7), none, some (zL l9), none, some (zL l11), none, some (zI l13), some (zL l14), none, some (zI l16)] [] M := by
  intro n
  induction n with
  | zero => intro l0 l1 l2 l3 l5 l7 l9 l11 l13 l14 l16 M h; rw [f_Mo_sum_192] at h; cases h
  | succ n ih =>
    intro l0 l1 l2 l3 l5 l7 l9 l11 l13 l14 l16 M h
    rw [f_Mo_sum_192] at h
    refine r_iload C (z_d dd_Mo_sum 109 rfl) rfl ?_
    refine r_iconst (v := (4 : Int32)) C (z_d dd_Mo_sum 110 rfl) (by decide) ?_
    refine r_icmp_ge C 231 (z_d dd_Mo_sum 111 rfl) (by decide) (fun c10 => ?_) (fun c10 => ?_)
    · have h := zift h c10
      refine r_mk [true, true, true, true, false, true, false, true, false, true, false, true, false, true, true, false, false] ?_
      exact s_Mo_sum_231 C hr E n l0 l1 l2 l3 l5 l7 l9 l11 l13 l14 M h
    · have h := ziff h c10
      refine r_lload C (z_d dd_Mo_sum 112 rfl) rfl ?_
      refine r_aload_n C (z_d dd_Mo_sum 113 rfl) rfl ?_
      obtain ⟨h1, h⟩ := zif h
      refine r_getP C (z_d dd_Mo_sum 114 rfl) lk_Mo_82 rfl h1 rfl ?_
      refine r_iload C (z_d dd_Mo_sum 115 rfl) rfl ?_
      obtain ⟨h2, h⟩ := zif h
      obtain ⟨h3, h⟩ := zif h
      refine r_lald C (z_d dd_Mo_sum 116 rfl) h2 h3 rfl ?_
      refine r_lload C (z_d dd_Mo_sum 117 rfl) rfl ?_
      refine r_lmul C (z_d dd_Mo_sum 118 rfl) ?_
      refine r_bipush (v := (31 : Int32)) C (z_d dd_Mo_sum 119 rfl) (by decide) ?_
      obtain ⟨q4, c5, h⟩ := zbd h
      refine r_invS (as := [zL ((z_j M (z_p M l0 49) l16.toNatClampNeg) * l5), zI (31 : Int32)]) C (S_Mo_rotated c5) (z_d dd_Mo_sum 120 rfl) ok_Mo_rotated sv_Mo_rotated ml_Mo_194 rfl rfl rfl (Nat.le_of_ble_eq_true rfl) ⟨(Nat.le_of_ble_eq_true rfl), (Nat.le_of_ble_eq_true rfl)⟩ ⟨(Nat.le_of_ble_eq_true rfl), (Nat.le_of_ble_eq_true rfl)⟩ ?_
      refine r_lload_n C (z_d dd_Mo_sum 121 rfl) rfl ?_
      refine r_lmul C (z_d dd_Mo_sum 122 rfl) ?_
      refine r_lxor C (z_d dd_Mo_sum 123 rfl) ?_
      refine r_lload_n C (z_d dd_Mo_sum 124 rfl) rfl ?_
      refine r_lmul C (z_d dd_Mo_sum 125 rfl) ?_
      refine r_lload C (z_d dd_Mo_sum 126 rfl) rfl ?_
      refine r_ladd C (z_d dd_Mo_sum 127 rfl) ?_
      obtain ⟨v6, e7, h⟩ := zlet_ex h
      refine r_nmL e7 ?_
      refine r_lstore (lv' := [some (zP l0), some (zI l1), some (zI l2), some (zL l3), none, some (zL l5), none, some (zL l7), none, some (zL l9), none, some (zL l11), none, some (zI l13), some (zL v6), none, some (zI l16)]) C (z_d dd_Mo_sum 128 rfl) (Nat.le_of_ble_eq_true rfl) rfl ?_
      obtain ⟨v8, e9, h⟩ := zlet_ex h
      refine r_iinc (v := v8) (lv' := [some (zP l0), some (zI l1), some (zI l2), some (zL l3), none, some (zL l5), none, some (zL l7), none, some (zL l9), none, some (zL l11), none, some (zI l13), some (zL v6), none, some (zI v8)]) C (z_d dd_Mo_sum 129 rfl) rfl (Nat.le_of_ble_eq_true rfl) (by rw [e9]; rfl) rfl ?_
      refine r_goto C 192 (z_d dd_Mo_sum 130 rfl) (by decide) ?_
      exact ih l0 l1 l2 l3 l5 l7 l9 l11 l13 v6 v8 q4.2 h
def f_Mo_sum_84 (O : zO) (k72 : Nat → Int32 → Int32 → Int64 → Int64 → Int64 → Int64 → Int64 → Int32 → zM → Option (Int64 × zM)) : Nat → Nat → Int32 → Int32 → Int64 → Int64 → Int64 → Int64 → Int64 → Int32 → Int32 → zM → Option (Int64 × zM)
  | 0, _, _, _, _, _, _, _, _, _, _, _ => none
  | n + 1, l0, l1, l2, l3, l5, l7, l9, l11, l13, l16, M =>
    if (4 : Int32) ≤ l16 then
    zlet (l13 + (32 : Int32)) fun v1 =>
    k72 l0 l1 l2 l3 l5 l7 l9 l11 v1 M
    else
    if z_k M l0 = 13 then
    if z_k M (z_p M l0 49) = 103 then
    if zin l16 (z_n M (z_p M l0 49)) = true then
    (F_Mo_numberOf O n l0 (l13 + ((8 : Int32) * l16)) (8 : Int32) M).bind fun q6 =>
    (F_Mo_rotated O n ((z_j M (z_p M l0 49) l16.toNatClampNeg) + (q6.1 * l5)) (31 : Int32) q6.2).bind fun q8 =>
    if z_k q8.2 (z_p M l0 49) = 103 then
    if zin l16 (z_n q8.2 (z_p M l0 49)) = true then
    zlet (w_j q8.2 (z_p M l0 49) l16.toNatClampNeg (q8.1 * l3)) fun M12 =>
    zlet (l16 + (1 : Int32)) fun v15 =>
    f_Mo_sum_84 O k72 n l0 l1 l2 l3 l5 l7 l9 l11 l13 v15 M12
    else none
    else none
    else none
    else none
    else none
set_option maxRecDepth 100000 in
set_option maxHeartbeats 4000000 in
theorem s_Mo_sum_84 {X : zX} {q : Int64 × zM} (C : zC X zR12 prog_14_method_29_code 17 { frames := 2, cells := 0, slots := 0, locals := 46 }) (hr : zRt X (some .long)) (E : zE X (some (zL q.1)) q.2 0 0) {k72 : Nat → Int32 → Int32 → Int64 → Int64 → Int64 → Int64 → Int64 → Int32 → zM → Option (Int64 × zM)} (hk72 : ∀ (l0 : Nat) (l1 : Int32) (l2 : Int32) (l3 : Int64) (l5 : Int64) (l7 : Int64) (l9 : Int64) (l11 : Int64) (l13 : Int32) (M : zM), k72 l0 l1 l2 l3 l5 l7 l9 l11 l13 M = some q → zW X 0 0 72 [some (zP l0), some (zI l1), some (zI l2), some (zL l3), none, some (zL l5), none, some (zL l7), none, some (zL l9), none, some (zL l11), none, some (zI l13), none, none, none] [] M) : ∀ (n : Nat) (l0 : Nat) (l1 : Int32) (l2 : Int32) (l3 : Int64) (l5 : Int64) (l7 : Int64) (l9 : Int64) (l11 : Int64) (l13 : Int32) (l16 : Int32) (M : zM), f_Mo_sum_84 (zOD X) k72 n l0 l1 l2 l3 l5 l7 l9 l11 l13 l16 M = some q → zW X 0 0 84 [some (zP l0), some (zI l1), some (zI l2), some (zL l3), none, some (zL l5), none, some (zL l7), none, some (zL l9), none, some (zL l11), none, some (zI l13), none, none, some (zI l16)] [] M := by
  intro n
  induction n with
  | zero => intro l0 l1 l2 l3 l5 l7 l9 l11 l13 l16 M h; rw [f_Mo_sum_84] at h; cases h
  | succ n ih =>
    intro l0 l1 l2 l3 l5 l7 l9 l11 l13 l16 M h
    rw [f_Mo_sum_84] at h
    refine r_iload C (z_d dd_Mo_sum 49 rfl) rfl ?_
    refine r_iconst (v := (4 : Int32)) C (z_d dd_Mo_sum 50 rfl) (by decide) ?_
    refine r_icmp_ge C 135 (z_d dd_Mo_sum 51 rfl) (by decide) (fun c17 => ?_) (fun c17 => ?_)
    · have h := zift h c17
      obtain ⟨v1, e2, h⟩ := zlet_ex h
      refine r_iinc (v := v1) (lv' := [some (zP l0), some (zI l1), some (zI l2), some (zL l3), none, some (zL l5), none, some (zL l7), none, some (zL l9), none, some (zL l11), none, some (zI v1), none, none, some (zI l16)]) C (z_d dd_Mo_sum 77 rfl) rfl (Nat.le_of_ble_eq_true rfl) (by rw [e2]; rfl) rfl ?_
      refine r_goto C 72 (z_d dd_Mo_sum 78 rfl) (by decide) ?_
      refine r_mk [true, true, true, true, false, true, false, true, false, true, false, true, false, true, false, false, false] ?_
      exact hk72 l0 l1 l2 l3 l5 l7 l9 l11 v1 M h
    · have h := ziff h c17
      refine r_aload_n C (z_d dd_Mo_sum 52 rfl) rfl ?_
      obtain ⟨h3, h⟩ := zif h
      refine r_getP C (z_d dd_Mo_sum 53 rfl) lk_Mo_82 rfl h3 rfl ?_
      refine r_iload C (z_d dd_Mo_sum 54 rfl) rfl ?_
      refine r_aload_n C (z_d dd_Mo_sum 55 rfl) rfl ?_
      refine r_getP C (z_d dd_Mo_sum 56 rfl) lk_Mo_82 rfl h3 rfl ?_
      refine r_iload C (z_d dd_Mo_sum 57 rfl) rfl ?_
      obtain ⟨h4, h⟩ := zif h
      obtain ⟨h5, h⟩ := zif h
      refine r_lald C (z_d dd_Mo_sum 58 rfl) h4 h5 rfl ?_
      refine r_aload_n C (z_d dd_Mo_sum 59 rfl) rfl ?_
      refine r_iload C (z_d dd_Mo_sum 60 rfl) rfl ?_
      refine r_bipush (v := (8 : Int32)) C (z_d dd_Mo_sum 61 rfl) (by decide) ?_
      refine r_iload C (z_d dd_Mo_sum 62 rfl) rfl ?_
      refine r_imul C (z_d dd_Mo_sum 63 rfl) ?_
      refine r_iadd C (z_d dd_Mo_sum 64 rfl) ?_
      refine r_bipush (v := (8 : Int32)) C (z_d dd_Mo_sum 65 rfl) (by decide) ?_
      obtain ⟨q6, c7, h⟩ := zbd h
      refine r_invV (as := [zI (l13 + ((8 : Int32) * l16)), zI (8 : Int32)]) C 12 (S_Mo_numberOf c7) (z_d dd_Mo_sum 66 rfl) ok_Mo_numberOf iv_Mo_numberOf se_Mo_numberOf ml_Mo_191 rfl rfl h3 rfl rfl rfl (Nat.le_of_ble_eq_true rfl) ⟨(Nat.le_of_ble_eq_true rfl), (Nat.le_of_ble_eq_true rfl)⟩ ⟨(Nat.le_of_ble_eq_true rfl), (Nat.le_of_ble_eq_true rfl)⟩ ?_
      refine r_lload C (z_d dd_Mo_sum 67 rfl) rfl ?_
      refine r_lmul C (z_d dd_Mo_sum 68 rfl) ?_
      refine r_ladd C (z_d dd_Mo_sum 69 rfl) ?_
      refine r_bipush (v := (31 : Int32)) C (z_d dd_Mo_sum 70 rfl) (by decide) ?_
      obtain ⟨q8, c9, h⟩ := zbd h
      refine r_invS (as := [zL ((z_j M (z_p M l0 49) l16.toNatClampNeg) + (q6.1 * l5)), zI (31 : Int32)]) C (S_Mo_rotated c9) (z_d dd_Mo_sum 71 rfl) ok_Mo_rotated sv_Mo_rotated ml_Mo_194 rfl rfl rfl (Nat.le_of_ble_eq_true rfl) ⟨(Nat.le_of_ble_eq_true rfl), (Nat.le_of_ble_eq_true rfl)⟩ ⟨(Nat.le_of_ble_eq_true rfl), (Nat.le_of_ble_eq_true rfl)⟩ ?_
      refine r_lload_n C (z_d dd_Mo_sum 72 rfl) rfl ?_
      refine r_lmul C (z_d dd_Mo_sum 73 rfl) ?_
      obtain ⟨h10, h⟩ := zif h
      obtain ⟨h11, h⟩ := zif h
      obtain ⟨M12, e13, h⟩ := zlet_ex h
      have h14 := k_j e13 h10
      refine r_last C (z_d dd_Mo_sum 74 rfl) h10 h11 e13 ?_
      obtain ⟨v15, e16, h⟩ := zlet_ex h
      refine r_iinc (v := v15) (lv' := [some (zP l0), some (zI l1), some (zI l2), some (zL l3), none, some (zL l5), none, some (zL l7), none, some (zL l9), none, some (zL l11), none, some (zI l13), none, none, some (zI v15)]) C (z_d dd_Mo_sum 75 rfl) rfl (Nat.le_of_ble_eq_true rfl) (by rw [e16]; rfl) rfl ?_
      refine r_goto C 84 (z_d dd_Mo_sum 76 rfl) (by decide) ?_
      exact ih l0 l1 l2 l3 l5 l7 l9 l11 l13 v15 M12 h
def f_Mo_sum_72 (O : zO) : Nat → Nat → Int32 → Int32 → Int64 → Int64 → Int64 → Int64 → Int64 → Int32 → zM → Option (Int64 × zM)
  | 0, _, _, _, _, _, _, _, _, _, _ => none
  | n + 1, l0, l1, l2, l3, l5, l7, l9, l11, l13, M =>
    if (l2 - l13) < (32 : Int32) then
    if z_k M l0 = 13 then
    if z_k M (z_p M l0 49) = 103 then
    if zin (0 : Int32) (z_n M (z_p M l0 49)) = true then
    (F_Mo_rotated O n (z_j M (z_p M l0 49) (0 : Int32).toNatClampNeg) (1 : Int32) M).bind fun q4 =>
    if z_k q4.2 l0 = 13 then
    if z_k q4.2 (z_p q4.2 l0 49) = 103 then
    if zin (1 : Int32) (z_n q4.2 (z_p q4.2 l0 49)) = true then
    (F_Mo_rotated O n (z_j q4.2 (z_p q4.2 l0 49) (1 : Int32).toNatClampNeg) (7 : Int32) q4.2).bind fun q9 =>
    if z_k q9.2 l0 = 13 then
    if z_k q9.2 (z_p q9.2 l0 49) = 103 then
    if zin (2 : Int32) (z_n q9.2 (z_p q9.2 l0 49)) = true then
    (F_Mo_rotated O n (z_j q9.2 (z_p q9.2 l0 49) (2 : Int32).toNatClampNeg) (12 : Int32) q9.2).bind fun q14 =>
    if z_k q14.2 l0 = 13 then
    if z_k q14.2 (z_p q14.2 l0 49) = 103 then
    if zin (3 : Int32) (z_n q14.2 (z_p q14.2 l0 49)) = true then
    (F_Mo_rotated O n (z_j q14.2 (z_p q14.2 l0 49) (3 : Int32).toNatClampNeg) (18 : Int32) q14.2).bind fun q19 =>
    zlet (((q4.1 + q9.1) + q14.1) + q19.1) fun v21 =>
    f_Mo_sum_192 O n l0 l1 l2 l3 l5 l7 l9 l11 l13 v21 (0 : Int32) q19.2
    else none
    else none
    else none
    else none
    else none
    else none
    else none
    else none
    else none
    else none
    else none
    else none
    else
    f_Mo_sum_84 O (f_Mo_sum_72 O n) n l0 l1 l2 l3 l5 l7 l9 l11 l13 (0 : Int32) M
set_option maxRecDepth 100000 in
set_option maxHeartbeats 4000000 in
theorem s_Mo_sum_72 {X : zX} {q : Int64 × zM} (C : zC X zR12 prog_14_method_29_code 17 { frames := 2, cells := 0, slots := 0, locals := 46 }) (hr : zRt X (some .long)) (E : zE X (some (zL q.1)) q.2 0 0) : ∀ (n : Nat) (l0 : Nat) (l1 : Int32) (l2 : Int32) (l3 : Int64) (l5 : Int64) (l7 : Int64) (l9 : Int64) (l11 : Int64) (l13 : Int32) (M : zM), f_Mo_sum_72 (zOD X) n l0 l1 l2 l3 l5 l7 l9 l11 l13 M = some q → zW X 0 0 72 [some (zP l0), some (zI l1), some (zI l2), some (zL l3), none, some (zL l5), none, some (zL l7), none, some (zL l9), none, some (zL l11), none, some (zI l13), none, none, none] [] M := by
  intro n
  induction n with
  | zero => intro l0 l1 l2 l3 l5 l7 l9 l11 l13 M h; rw [f_Mo_sum_72] at h; cases h
  | succ n ih =>
    intro l0 l1 l2 l3 l5 l7 l9 l11 l13 M h
    rw [f_Mo_sum_72] at h
    refine r_iload_n C (z_d dd_Mo_sum 42 rfl) rfl ?_
    refine r_iload C (z_d dd_Mo_sum 43 rfl) rfl ?_
    refine r_isub C (z_d dd_Mo_sum 44 rfl) ?_
    refine r_bipush (v := (32 : Int32)) C (z_d dd_Mo_sum 45 rfl) (by decide) ?_
    refine r_icmp_lt C 141 (z_d dd_Mo_sum 46 rfl) (by decide) (fun c23 => ?_) (fun c23 => ?_)
    · have h := zift h c23
      refine r_aload_n C (z_d dd_Mo_sum 79 rfl) rfl ?_
      obtain ⟨h1, h⟩ := zif h
      refine r_getP C (z_d dd_Mo_sum 80 rfl) lk_Mo_82 rfl h1 rfl ?_
      refine r_iconst (v := (0 : Int32)) C (z_d dd_Mo_sum 81 rfl) (by decide) ?_
      obtain ⟨h2, h⟩ := zif h
      obtain ⟨h3, h⟩ := zif h
      refine r_lald C (z_d dd_Mo_sum 82 rfl) h2 h3 rfl ?_
      refine r_iconst (v := (1 : Int32)) C (z_d dd_Mo_sum 83 rfl) (by decide) ?_
      obtain ⟨q4, c5, h⟩ := zbd h
      refine r_invS (as := [zL (z_j M (z_p M l0 49) (0 : Int32).toNatClampNeg), zI (1 : Int32)]) C (S_Mo_rotated c5) (z_d dd_Mo_sum 84 rfl) ok_Mo_rotated sv_Mo_rotated ml_Mo_194 rfl rfl rfl (Nat.le_of_ble_eq_true rfl) ⟨(Nat.le_of_ble_eq_true rfl), (Nat.le_of_ble_eq_true rfl)⟩ ⟨(Nat.le_of_ble_eq_true rfl), (Nat.le_of_ble_eq_true rfl)⟩ ?_
      refine r_aload_n C (z_d dd_Mo_sum 85 rfl) rfl ?_
      obtain ⟨h6, h⟩ := zif h
      refine r_getP C (z_d dd_Mo_sum 86 rfl) lk_Mo_82 rfl h6 rfl ?_
      refine r_iconst (v := (1 : Int32)) C (z_d dd_Mo_sum 87 rfl) (by decide) ?_
      obtain ⟨h7, h⟩ := zif h
      obtain ⟨h8, h⟩ := zif h
      refine r_lald C (z_d dd_Mo_sum 88 rfl) h7 h8 rfl ?_
      refine r_bipush (v := (7 : Int32)) C (z_d dd_Mo_sum 89 rfl) (by decide) ?_
      obtain ⟨q9, c10, h⟩ := zbd h
      refine r_invS (as := [zL (z_j q4.2 (z_p q4.2 l0 49) (1 : Int32).toNatClampNeg), zI (7 : Int32)]) C (S_Mo_rotated c10) (z_d dd_Mo_sum 90 rfl) ok_Mo_rotated sv_Mo_rotated ml_Mo_194 rfl rfl rfl (Nat.le_of_ble_eq_true rfl) ⟨(Nat.le_of_ble_eq_true rfl), (Nat.le_of_ble_eq_true rfl)⟩ ⟨(Nat.le_of_ble_eq_true rfl), (Nat.le_of_ble_eq_true rfl)⟩ ?_
      refine r_ladd C (z_d dd_Mo_sum 91 rfl) ?_
      refine r_aload_n C (z_d dd_Mo_sum 92 rfl) rfl ?_
      obtain ⟨h11, h⟩ := zif h
      refine r_getP C (z_d dd_Mo_sum 93 rfl) lk_Mo_82 rfl h11 rfl ?_
      refine r_iconst (v := (2 : Int32)) C (z_d dd_Mo_sum 94 rfl) (by decide) ?_
      obtain ⟨h12, h⟩ := zif h
      obtain ⟨h13, h⟩ := zif h
      refine r_lald C (z_d dd_Mo_sum 95 rfl) h12 h13 rfl ?_
      refine r_bipush (v := (12 : Int32)) C (z_d dd_Mo_sum 96 rfl) (by decide) ?_
      obtain ⟨q14, c15, h⟩ := zbd h
      refine r_invS (as := [zL (z_j q9.2 (z_p q9.2 l0 49) (2 : Int32).toNatClampNeg), zI (12 : Int32)]) C (S_Mo_rotated c15) (z_d dd_Mo_sum 97 rfl) ok_Mo_rotated sv_Mo_rotated ml_Mo_194 rfl rfl rfl (Nat.le_of_ble_eq_true rfl) ⟨(Nat.le_of_ble_eq_true rfl), (Nat.le_of_ble_eq_true rfl)⟩ ⟨(Nat.le_of_ble_eq_true rfl), (Nat.le_of_ble_eq_true rfl)⟩ ?_
      refine r_ladd C (z_d dd_Mo_sum 98 rfl) ?_
      refine r_aload_n C (z_d dd_Mo_sum 99 rfl) rfl ?_
      obtain ⟨h16, h⟩ := zif h
      refine r_getP C (z_d dd_Mo_sum 100 rfl) lk_Mo_82 rfl h16 rfl ?_
      refine r_iconst (v := (3 : Int32)) C (z_d dd_Mo_sum 101 rfl) (by decide) ?_
      obtain ⟨h17, h⟩ := zif h
      obtain ⟨h18, h⟩ := zif h
      refine r_lald C (z_d dd_Mo_sum 102 rfl) h17 h18 rfl ?_
      refine r_bipush (v := (18 : Int32)) C (z_d dd_Mo_sum 103 rfl) (by decide) ?_
      obtain ⟨q19, c20, h⟩ := zbd h
      refine r_invS (as := [zL (z_j q14.2 (z_p q14.2 l0 49) (3 : Int32).toNatClampNeg), zI (18 : Int32)]) C (S_Mo_rotated c20) (z_d dd_Mo_sum 104 rfl) ok_Mo_rotated sv_Mo_rotated ml_Mo_194 rfl rfl rfl (Nat.le_of_ble_eq_true rfl) ⟨(Nat.le_of_ble_eq_true rfl), (Nat.le_of_ble_eq_true rfl)⟩ ⟨(Nat.le_of_ble_eq_true rfl), (Nat.le_of_ble_eq_true rfl)⟩ ?_
      refine r_ladd C (z_d dd_Mo_sum 105 rfl) ?_
      obtain ⟨v21, e22, h⟩ := zlet_ex h
      refine r_nmL e22 ?_
      refine r_lstore (lv' := [some (zP l0), some (zI l1), some (zI l2), some (zL l3), none, some (zL l5), none, some (zL l7), none, some (zL l9), none, some (zL l11), none, some (zI l13), some (zL v21), none, none]) C (z_d dd_Mo_sum 106 rfl) (Nat.le_of_ble_eq_true rfl) rfl ?_
      refine r_iconst (v := (0 : Int32)) C (z_d dd_Mo_sum 107 rfl) (by decide) ?_
      refine r_istore (lv' := [some (zP l0), some (zI l1), some (zI l2), some (zL l3), none, some (zL l5), none, some (zL l7), none, some (zL l9), none, some (zL l11), none, some (zI l13), some (zL v21), none, some (zI (0 : Int32))]) C (z_d dd_Mo_sum 108 rfl) (Nat.le_of_ble_eq_true rfl) rfl ?_
      exact s_Mo_sum_192 C hr E n l0 l1 l2 l3 l5 l7 l9 l11 l13 v21 (0 : Int32) q19.2 h
    · have h := ziff h c23
      refine r_iconst (v := (0 : Int32)) C (z_d dd_Mo_sum 47 rfl) (by decide) ?_
      refine r_istore (lv' := [some (zP l0), some (zI l1), some (zI l2), some (zL l3), none, some (zL l5), none, some (zL l7), none, some (zL l9), none, some (zL l11), none, some (zI l13), none, none, some (zI (0 : Int32))]) C (z_d dd_Mo_sum 48 rfl) (Nat.le_of_ble_eq_true rfl) rfl ?_
      exact s_Mo_sum_84 C hr E ih n l0 l1 l2 l3 l5 l7 l9 l11 l13 (0 : Int32) M h
def f_Mo_sum_0 (O : zO) (n : Nat) (l0 : Nat) (l1 : Int32) (l2 : Int32) (M : zM) : Option (Int64 × zM) :=
  if (l2 - l1) < (32 : Int32) then
  f_Mo_sum_231 O n l0 l1 l2 (-7046029288634856825 : Int64) (-4417276706812531889 : Int64) (1609587929392839161 : Int64) (-8796714831421723037 : Int64) (2870177450012600261 : Int64) l1 (2870177450012600261 : Int64) M
  else
  if z_k M l0 = 13 then
  if z_k M (z_p M l0 49) = 103 then
  if zin (0 : Int32) (z_n M (z_p M l0 49)) = true then
  zlet (w_j M (z_p M l0 49) (0 : Int32).toNatClampNeg ((-7046029288634856825 : Int64) + (-4417276706812531889 : Int64))) fun M4 =>
  if z_k M4 (z_p M4 l0 49) = 103 then
  if zin (1 : Int32) (z_n M4 (z_p M4 l0 49)) = true then
  zlet (w_j M4 (z_p M4 l0 49) (1 : Int32).toNatClampNeg (-4417276706812531889 : Int64)) fun M10 =>
  if z_k M10 (z_p M10 l0 49) = 103 then
  if zin (2 : Int32) (z_n M10 (z_p M10 l0 49)) = true then
  zlet (w_j M10 (z_p M10 l0 49) (2 : Int32).toNatClampNeg (0 : Int64)) fun M17 =>
  if z_k M17 (z_p M17 l0 49) = 103 then
  if zin (3 : Int32) (z_n M17 (z_p M17 l0 49)) = true then
  zlet (w_j M17 (z_p M17 l0 49) (3 : Int32).toNatClampNeg (-(-7046029288634856825 : Int64))) fun M25 =>
  f_Mo_sum_72 O n l0 l1 l2 (-7046029288634856825 : Int64) (-4417276706812531889 : Int64) (1609587929392839161 : Int64) (-8796714831421723037 : Int64) (2870177450012600261 : Int64) l1 M25
  else none
  else none
  else none
  else none
  else none
  else none
  else none
  else none
  else none
set_option maxRecDepth 100000 in
set_option maxHeartbeats 4000000 in
theorem s_Mo_sum_0 {X : zX} {q : Int64 × zM} (C : zC X zR12 prog_14_method_29_code 17 { frames := 2, cells := 0, slots := 0, locals := 46 }) (hr : zRt X (some .long)) (E : zE X (some (zL q.1)) q.2 0 0) : ∀ (n : Nat) (l0 : Nat) (l1 : Int32) (l2 : Int32) (M : zM), f_Mo_sum_0 (zOD X) n l0 l1 l2 M = some q → zW X 0 0 0 [some (zP l0), some (zI l1), some (zI l2), none, none, none, none, none, none, none, none, none, none, none, none, none, none] [] M := by
  intro n l0 l1 l2 M h
  rw [f_Mo_sum_0] at h
  refine r_ldc2 (v := (-7046029288634856825 : Int64)) C (z_d dd_Mo_sum 0 rfl) kl_Mo_181 ?_
  refine r_lstore_n (lv' := [some (zP l0), some (zI l1), some (zI l2), some (zL (-7046029288634856825 : Int64)), none, none, none, none, none, none, none, none, none, none, none, none, none]) C (z_d dd_Mo_sum 1 rfl) (Nat.le_of_ble_eq_true rfl) rfl ?_
  refine r_ldc2 (v := (-4417276706812531889 : Int64)) C (z_d dd_Mo_sum 2 rfl) kl_Mo_183 ?_
  refine r_lstore (lv' := [some (zP l0), some (zI l1), some (zI l2), some (zL (-7046029288634856825 : Int64)), none, some (zL (-4417276706812531889 : Int64)), none, none, none, none, none, none, none, none, none, none, none]) C (z_d dd_Mo_sum 3 rfl) (Nat.le_of_ble_eq_true rfl) rfl ?_
  refine r_ldc2 (v := (1609587929392839161 : Int64)) C (z_d dd_Mo_sum 4 rfl) kl_Mo_185 ?_
  refine r_lstore (lv' := [some (zP l0), some (zI l1), some (zI l2), some (zL (-7046029288634856825 : Int64)), none, some (zL (-4417276706812531889 : Int64)), none, some (zL (1609587929392839161 : Int64)), none, none, none, none, none, none, none, none, none]) C (z_d dd_Mo_sum 5 rfl) (Nat.le_of_ble_eq_true rfl) rfl ?_
  refine r_ldc2 (v := (-8796714831421723037 : Int64)) C (z_d dd_Mo_sum 6 rfl) kl_Mo_187 ?_
  refine r_lstore (lv' := [some (zP l0), some (zI l1), some (zI l2), some (zL (-7046029288634856825 : Int64)), none, some (zL (-4417276706812531889 : Int64)), none, some (zL (1609587929392839161 : Int64)), none, some (zL (-8796714831421723037 : Int64)), none, none, none, none, none, none, none]) C (z_d dd_Mo_sum 7 rfl) (Nat.le_of_ble_eq_true rfl) rfl ?_
  refine r_ldc2 (v := (2870177450012600261 : Int64)) C (z_d dd_Mo_sum 8 rfl) kl_Mo_189 ?_
  refine r_lstore (lv' := [some (zP l0), some (zI l1), some (zI l2), some (zL (-7046029288634856825 : Int64)), none, some (zL (-4417276706812531889 : Int64)), none, some (zL (1609587929392839161 : Int64)), none, some (zL (-8796714831421723037 : Int64)), none, some (zL (2870177450012600261 : Int64)), none, none, none, none, none]) C (z_d dd_Mo_sum 9 rfl) (Nat.le_of_ble_eq_true rfl) rfl ?_
  refine r_iload_n C (z_d dd_Mo_sum 10 rfl) rfl ?_
  refine r_istore (lv' := [some (zP l0), some (zI l1), some (zI l2), some (zL (-7046029288634856825 : Int64)), none, some (zL (-4417276706812531889 : Int64)), none, some (zL (1609587929392839161 : Int64)), none, some (zL (-8796714831421723037 : Int64)), none, some (zL (2870177450012600261 : Int64)), none, some (zI l1), none, none, none]) C (z_d dd_Mo_sum 11 rfl) (Nat.le_of_ble_eq_true rfl) rfl ?_
  refine r_lload C (z_d dd_Mo_sum 12 rfl) rfl ?_
  refine r_lstore (lv' := [some (zP l0), some (zI l1), some (zI l2), some (zL (-7046029288634856825 : Int64)), none, some (zL (-4417276706812531889 : Int64)), none, some (zL (1609587929392839161 : Int64)), none, some (zL (-8796714831421723037 : Int64)), none, some (zL (2870177450012600261 : Int64)), none, some (zI l1), some (zL (2870177450012600261 : Int64)), none, none]) C (z_d dd_Mo_sum 13 rfl) (Nat.le_of_ble_eq_true rfl) rfl ?_
  refine r_iload_n C (z_d dd_Mo_sum 14 rfl) rfl ?_
  refine r_iload_n C (z_d dd_Mo_sum 15 rfl) rfl ?_
  refine r_isub C (z_d dd_Mo_sum 16 rfl) ?_
  refine r_bipush (v := (32 : Int32)) C (z_d dd_Mo_sum 17 rfl) (by decide) ?_
  refine r_icmp_lt C 231 (z_d dd_Mo_sum 18 rfl) (by decide) (fun c32 => ?_) (fun c32 => ?_)
  · have h := zift h c32
    exact s_Mo_sum_231 C hr E n l0 l1 l2 (-7046029288634856825 : Int64) (-4417276706812531889 : Int64) (1609587929392839161 : Int64) (-8796714831421723037 : Int64) (2870177450012600261 : Int64) l1 (2870177450012600261 : Int64) M h
  · have h := ziff h c32
    refine r_aload_n C (z_d dd_Mo_sum 19 rfl) rfl ?_
    obtain ⟨h1, h⟩ := zif h
    refine r_getP C (z_d dd_Mo_sum 20 rfl) lk_Mo_82 rfl h1 rfl ?_
    refine r_iconst (v := (0 : Int32)) C (z_d dd_Mo_sum 21 rfl) (by decide) ?_
    refine r_lload_n C (z_d dd_Mo_sum 22 rfl) rfl ?_
    refine r_lload C (z_d dd_Mo_sum 23 rfl) rfl ?_
    refine r_ladd C (z_d dd_Mo_sum 24 rfl) ?_
    obtain ⟨h2, h⟩ := zif h
    obtain ⟨h3, h⟩ := zif h
    obtain ⟨M4, e5, h⟩ := zlet_ex h
    have h6 := k_j e5 h1
    have h7 := k_j e5 h2
    refine r_last C (z_d dd_Mo_sum 25 rfl) h2 h3 e5 ?_
    refine r_aload_n C (z_d dd_Mo_sum 26 rfl) rfl ?_
    refine r_getP C (z_d dd_Mo_sum 27 rfl) lk_Mo_82 rfl h6 rfl ?_
    refine r_iconst (v := (1 : Int32)) C (z_d dd_Mo_sum 28 rfl) (by decide) ?_
    refine r_lload C (z_d dd_Mo_sum 29 rfl) rfl ?_
    obtain ⟨h8, h⟩ := zif h
    obtain ⟨h9, h⟩ := zif h
    obtain ⟨M10, e11, h⟩ := zlet_ex h
    have h12 := k_j e11 h6
    have h13 := k_j e11 h7
    have h14 := k_j e11 h8
    refine r_last C (z_d dd_Mo_sum 30 rfl) h8 h9 e11 ?_
    refine r_aload_n C (z_d dd_Mo_sum 31 rfl) rfl ?_
    refine r_getP C (z_d dd_Mo_sum 32 rfl) lk_Mo_82 rfl h12 rfl ?_
    refine r_iconst (v := (2 : Int32)) C (z_d dd_Mo_sum 33 rfl) (by decide) ?_
    refine r_lconst (v := (0 : Int64)) C (z_d dd_Mo_sum 34 rfl) (by decide) ?_
    obtain ⟨h15, h⟩ := zif h
    obtain ⟨h16, h⟩ := zif h
    obtain ⟨M17, e18, h⟩ := zlet_ex h
    have h19 := k_j e18 h12
    have h20 := k_j e18 h13
    have h21 := k_j e18 h14
    have h22 := k_j e18 h15
    refine r_last C (z_d dd_Mo_sum 35 rfl) h15 h16 e18 ?_
    refine r_aload_n C (z_d dd_Mo_sum 36 rfl) rfl ?_
    refine r_getP C (z_d dd_Mo_sum 37 rfl) lk_Mo_82 rfl h19 rfl ?_
    refine r_iconst (v := (3 : Int32)) C (z_d dd_Mo_sum 38 rfl) (by decide) ?_
    refine r_lload_n C (z_d dd_Mo_sum 39 rfl) rfl ?_
    refine r_lneg C (z_d dd_Mo_sum 40 rfl) ?_
    obtain ⟨h23, h⟩ := zif h
    obtain ⟨h24, h⟩ := zif h
    obtain ⟨M25, e26, h⟩ := zlet_ex h
    have h27 := k_j e26 h19
    have h28 := k_j e26 h20
    have h29 := k_j e26 h21
    have h30 := k_j e26 h22
    have h31 := k_j e26 h23
    refine r_last C (z_d dd_Mo_sum 41 rfl) h23 h24 e26 ?_
    refine r_mk [true, true, true, true, false, true, false, true, false, true, false, true, false, true, false, false, false] ?_
    exact s_Mo_sum_72 C hr E n l0 l1 l2 (-7046029288634856825 : Int64) (-4417276706812531889 : Int64) (1609587929392839161 : Int64) (-8796714831421723037 : Int64) (2870177450012600261 : Int64) l1 M25 h
def F_Mo_sum (O : zO) (n : Nat) (l0 : Nat) (l1 : Int32) (l2 : Int32) (M : zM) : Option (Int64 × zM) := f_Mo_sum_0 O n l0 l1 l2 M
theorem S_Mo_sum {l : Launch} {D : zD} {n : Nat} {l0 : Nat} {l1 : Int32} {l2 : Int32} {M : zM} {q : Int64 × zM} (h : F_Mo_sum D.2.2.2.2 n l0 l1 l2 M = some q) : zMet l D mi_Mo_sum [zP l0, zI l1, zI l2] M (some (zL q.1)) q.2 :=
  z_met (by decide) (Nat.le_of_ble_eq_true rfl) (fun X C E hr hin hD hl => by
    subst hD
    exact s_Mo_sum_0 C hr E n l0 l1 l2 M h)

def f_Mo_frame_524 (O : zO) (n : Nat) (s0 : Int32) (M : zM) : Option (Int32 × zM) :=
  if s0 = 0 ∨ s0 = 1 then
  some (s0, M)
  else none
set_option maxRecDepth 100000 in
set_option maxHeartbeats 4000000 in
theorem s_Mo_frame_524 {X : zX} {q : Int32 × zM} (C : zC X zR12 prog_14_method_34_code 11 { frames := 8, cells := 0, slots := 0, locals := 217 }) (hr : zRt X (some .boolean)) (E : zE X (some (zI q.1)) q.2 0 0) : ∀ (n : Nat) (s0 : Int32) (M : zM), f_Mo_frame_524 (zOD X) n s0 M = some q → zW X 0 0 524 [none, none, none, none, none, none, none, none, none, none, none] [zI s0] M := by
  intro n s0 M h
  rw [f_Mo_frame_524] at h
  obtain ⟨h1, h⟩ := zif h
  obtain rfl := z_res h
  exact r_iretZ C E hr (z_d dd_Mo_frame 302 rfl) h1 (Nat.le_of_ble_eq_true rfl) (Nat.le_of_ble_eq_true rfl)
def f_Mo_frame_519 (O : zO) (n : Nat) (M : zM) : Option (Int32 × zM) :=
  f_Mo_frame_524 O n (1 : Int32) M
set_option maxRecDepth 100000 in
set_option maxHeartbeats 4000000 in
theorem s_Mo_frame_519 {X : zX} {q : Int32 × zM} (C : zC X zR12 prog_14_method_34_code 11 { frames := 8, cells := 0, slots := 0, locals := 217 }) (hr : zRt X (some .boolean)) (E : zE X (some (zI q.1)) q.2 0 0) : ∀ (n : Nat) (M : zM), f_Mo_frame_519 (zOD X) n M = some q → zW X 0 0 519 [none, none, none, none, none, none, none, none, none, none, none] [] M := by
  intro n M h
  rw [f_Mo_frame_519] at h
  refine r_iconst (v := (1 : Int32)) C (z_d dd_Mo_frame 299 rfl) (by decide) ?_
  refine r_goto C 524 (z_d dd_Mo_frame 300 rfl) (by decide) ?_
  exact s_Mo_frame_524 C hr E n (1 : Int32) M h
def f_Mo_frame_487 (O : zO) (n : Nat) (l0 : Nat) (l6 : Int32) (l7 : Int64) (l9 : Int32) (M : zM) : Option (Int32 × zM) :=
  if l6 = 0 then
  f_Mo_frame_519 O n M
  else
  if z_k M l0 = 13 then
  if (lg_cmp l7 ((z_i M l0 30) - (z_i M l0 31)).toInt64) = 0 then
  f_Mo_frame_519 O n M
  else
  (F_Mo_wrong O n l0 (9 : Int32) l9 M).bind fun q2 =>
  if q2.1 = 0 then
  f_Mo_frame_524 O n (0 : Int32) q2.2
  else
  f_Mo_frame_519 O n q2.2
  else none
set_option maxRecDepth 100000 in
set_option maxHeartbeats 4000000 in
theorem s_Mo_frame_487 {X : zX} {q : Int32 × zM} (C : zC X zR12 prog_14_method_34_code 11 { frames := 8, cells := 0, slots := 0, locals := 217 }) (hr : zRt X (some .boolean)) (E : zE X (some (zI q.1)) q.2 0 0) : ∀ (n : Nat) (l0 : Nat) (l6 : Int32) (l7 : Int64) (l9 : Int32) (M : zM), f_Mo_frame_487 (zOD X) n l0 l6 l7 l9 M = some q → zW X 0 0 487 [some (zP l0), none, none, none, none, none, some (zI l6), some (zL l7), none, some (zI l9), none] [] M := by
  intro n l0 l6 l7 l9 M h
  rw [f_Mo_frame_487] at h
  refine r_iload C (z_d dd_Mo_frame 283 rfl) rfl ?_
  refine r_if_eq C 519 (z_d dd_Mo_frame 284 rfl) (by decide) (fun c6 => ?_) (fun c6 => ?_)
  · have h := zift h c6
    refine r_mk [false, false, false, false, false, false, false, false, false, false, false] ?_
    exact s_Mo_frame_519 C hr E n M h
  · have h := ziff h c6
    refine r_lload C (z_d dd_Mo_frame 285 rfl) rfl ?_
    refine r_aload_n C (z_d dd_Mo_frame 286 rfl) rfl ?_
    obtain ⟨h1, h⟩ := zif h
    refine r_getI C (z_d dd_Mo_frame 287 rfl) lk_Mo_213 rfl h1 rfl ?_
    refine r_aload_n C (z_d dd_Mo_frame 288 rfl) rfl ?_
    refine r_getI C (z_d dd_Mo_frame 289 rfl) lk_Mo_258 rfl h1 rfl ?_
    refine r_isub C (z_d dd_Mo_frame 290 rfl) ?_
    refine r_i2l C (z_d dd_Mo_frame 291 rfl) ?_
    refine r_lcmp C (z_d dd_Mo_frame 292 rfl) ?_
    refine r_if_eq C 519 (z_d dd_Mo_frame 293 rfl) (by decide) (fun c5 => ?_) (fun c5 => ?_)
    · have h := zift h c5
      refine r_mk [false, false, false, false, false, false, false, false, false, false, false] ?_
      exact s_Mo_frame_519 C hr E n M h
    · have h := ziff h c5
      refine r_aload_n C (z_d dd_Mo_frame 294 rfl) rfl ?_
      refine r_bipush (v := (9 : Int32)) C (z_d dd_Mo_frame 295 rfl) (by decide) ?_
      refine r_iload C (z_d dd_Mo_frame 296 rfl) rfl ?_
      obtain ⟨q2, c3, h⟩ := zbd h
      refine r_invV (as := [zI (9 : Int32), zI l9]) C 12 (S_Mo_wrong c3) (z_d dd_Mo_frame 297 rfl) ok_Mo_wrong iv_Mo_wrong se_Mo_wrong ml_Mo_207 rfl rfl h1 rfl rfl rfl (Nat.le_of_ble_eq_true rfl) ⟨(Nat.le_of_ble_eq_true rfl), (Nat.le_of_ble_eq_true rfl)⟩ ⟨(Nat.le_of_ble_eq_true rfl), (Nat.le_of_ble_eq_true rfl)⟩ ?_
      refine r_if_eq C 523 (z_d dd_Mo_frame 298 rfl) (by decide) (fun c4 => ?_) (fun c4 => ?_)
      · have h := zift h c4
        refine r_iconst (v := (0 : Int32)) C (z_d dd_Mo_frame 301 rfl) (by decide) ?_
        refine r_mk [false, false, false, false, false, false, false, false, false, false, false] ?_
        exact s_Mo_frame_524 C hr E n (0 : Int32) q2.2 h
      · have h := ziff h c4
        refine r_mk [false, false, false, false, false, false, false, false, false, false, false] ?_
        exact s_Mo_frame_519 C hr E n q2.2 h
def f_Mo_frame_410 (O : zO) (k375 : Nat → Int32 → Int32 → Int64 → Int32 → Int32 → zM → Option (Int32 × zM)) (n : Nat) (l0 : Nat) (l1 : Int32) (l6 : Int32) (l7 : Int64) (l9 : Int32) (s0 : Int32) (M : zM) : Option (Int32 × zM) :=
  if z_k M l0 = 13 then
  (F_Mo_block O n l0 M).bind fun q2 =>
  if q2.1 = 0 then
  some ((0 : Int32), q2.2)
  else
  k375 l0 l1 l6 l7 l9 s0 q2.2
  else none
set_option maxRecDepth 100000 in
set_option maxHeartbeats 4000000 in
theorem s_Mo_frame_410 {X : zX} {q : Int32 × zM} (C : zC X zR12 prog_14_method_34_code 11 { frames := 8, cells := 0, slots := 0, locals := 217 }) (hr : zRt X (some .boolean)) (E : zE X (some (zI q.1)) q.2 0 0) {k375 : Nat → Int32 → Int32 → Int64 → Int32 → Int32 → zM → Option (Int32 × zM)} (hk375 : ∀ (l0 : Nat) (l1 : Int32) (l6 : Int32) (l7 : Int64) (l9 : Int32) (l10 : Int32) (M : zM), k375 l0 l1 l6 l7 l9 l10 M = some q → zW X 0 0 375 [some (zP l0), some (zI l1), none, none, none, none, some (zI l6), some (zL l7), none, some (zI l9), some (zI l10)] [] M) : ∀ (n : Nat) (l0 : Nat) (l1 : Int32) (l6 : Int32) (l7 : Int64) (l9 : Int32) (s0 : Int32) (M : zM), f_Mo_frame_410 (zOD X) k375 n l0 l1 l6 l7 l9 s0 M = some q → zW X 0 0 410 [some (zP l0), some (zI l1), none, none, none, none, some (zI l6), some (zL l7), none, some (zI l9), none] [zI s0] M := by
  intro n l0 l1 l6 l7 l9 s0 M h
  rw [f_Mo_frame_410] at h
  refine r_istore (lv' := [some (zP l0), some (zI l1), none, none, none, none, some (zI l6), some (zL l7), none, some (zI l9), some (zI s0)]) C (z_d dd_Mo_frame 238 rfl) (Nat.le_of_ble_eq_true rfl) rfl ?_
  refine r_aload_n C (z_d dd_Mo_frame 239 rfl) rfl ?_
  obtain ⟨h1, h⟩ := zif h
  obtain ⟨q2, c3, h⟩ := zbd h
  refine r_invV (as := []) C 12 (S_Mo_block c3) (z_d dd_Mo_frame 240 rfl) ok_Mo_block iv_Mo_block se_Mo_block ml_Mo_261 rfl rfl h1 rfl rfl rfl (Nat.le_of_ble_eq_true rfl) ⟨(Nat.le_of_ble_eq_true rfl), (Nat.le_of_ble_eq_true rfl)⟩ ⟨(Nat.le_of_ble_eq_true rfl), (Nat.le_of_ble_eq_true rfl)⟩ ?_
  refine r_if_ne C 375 (z_d dd_Mo_frame 241 rfl) (by decide) (fun c4 => ?_) (fun c4 => ?_)
  · have h := ziff h c4
    exact hk375 l0 l1 l6 l7 l9 s0 q2.2 h
  · have h := zift h c4
    refine r_iconst (v := (0 : Int32)) C (z_d dd_Mo_frame 242 rfl) (by decide) ?_
    obtain rfl := z_res h
    exact r_iretZ C E hr (z_d dd_Mo_frame 243 rfl) (by decide) (Nat.le_of_ble_eq_true rfl) (Nat.le_of_ble_eq_true rfl)
def f_Mo_frame_375 (O : zO) : Nat → Nat → Int32 → Int32 → Int64 → Int32 → Int32 → zM → Option (Int32 × zM)
  | 0, _, _, _, _, _, _, _ => none
  | n + 1, l0, l1, l6, l7, l9, l10, M =>
    if l10 = 0 then
    if z_k M l0 = 13 then
    (F_Mo_has O n l0 (3 : Int32) M).bind fun q22 =>
    if q22.1 = 0 then
    some ((0 : Int32), q22.2)
    else
    if z_k q22.2 l0 = 13 then
    if z_k q22.2 (z_p q22.2 l0 0) = 100 then
    if zin (z_i q22.2 l0 28) (z_n q22.2 (z_p q22.2 l0 0)) = true then
    if ((z_i q22.2 (z_p q22.2 l0 0) (z_i q22.2 l0 28).toNatClampNeg) - (z_i q22.2 (z_p q22.2 l0 0) (z_i q22.2 l0 28).toNatClampNeg) / (2 : Int32) * (2 : Int32)) = (1 : Int32) then
    f_Mo_frame_410 O (f_Mo_frame_375 O n) n l0 l1 l6 l7 l9 (1 : Int32) q22.2
    else
    f_Mo_frame_410 O (f_Mo_frame_375 O n) n l0 l1 l6 l7 l9 (0 : Int32) q22.2
    else none
    else none
    else none
    else none
    else
    if ((l1 / (4 : Int32)) - (l1 / (4 : Int32)) / (2 : Int32) * (2 : Int32)) = (1 : Int32) then
    if z_k M l0 = 13 then
    (F_Mo_has O n l0 (4 : Int32) M).bind fun q2 =>
    if q2.1 = 0 then
    some ((0 : Int32), q2.2)
    else
    if z_k q2.2 l0 = 13 then
    (F_Mo_number O n l0 (z_i q2.2 l0 28) (4 : Int32) q2.2).bind fun q5 =>
    if z_k q5.2 l0 = 13 then
    (F_Mo_sum O n l0 (z_i q5.2 l0 31) (z_i q5.2 l0 30) q5.2).bind fun q8 =>
    if q5.1.toInt32 = q8.1.toInt32 then
    if z_k q8.2 l0 = 13 then
    zlet (w_i q8.2 l0 28 ((z_i q8.2 l0 28) + (4 : Int32))) fun M11 =>
    f_Mo_frame_487 O n l0 l6 l7 l9 M11
    else none
    else
    if z_k q8.2 l0 = 13 then
    (F_Mo_wrong O n l0 (8 : Int32) (z_i q8.2 l0 28) q8.2).bind fun q15 =>
    if q15.1 = 0 ∨ q15.1 = 1 then
    some (q15.1, q15.2)
    else none
    else none
    else none
    else none
    else none
    else
    f_Mo_frame_487 O n l0 l6 l7 l9 M
set_option maxRecDepth 100000 in
set_option maxHeartbeats 4000000 in
theorem s_Mo_frame_375 {X : zX} {q : Int32 × zM} (C : zC X zR12 prog_14_method_34_code 11 { frames := 8, cells := 0, slots := 0, locals := 217 }) (hr : zRt X (some .boolean)) (E : zE X (some (zI q.1)) q.2 0 0) : ∀ (n : Nat) (l0 : Nat) (l1 : Int32) (l6 : Int32) (l7 : Int64) (l9 : Int32) (l10 : Int32) (M : zM), f_Mo_frame_375 (zOD X) n l0 l1 l6 l7 l9 l10 M = some q → zW X 0 0 375 [some (zP l0), some (zI l1), none, none, none, none, some (zI l6), some (zL l7), none, some (zI l9), some (zI l10)] [] M := by
  intro n
  induction n with
  | zero => intro l0 l1 l6 l7 l9 l10 M h; rw [f_Mo_frame_375] at h; cases h
  | succ n ih =>
    intro l0 l1 l6 l7 l9 l10 M h
    rw [f_Mo_frame_375] at h
    refine r_iload C (z_d dd_Mo_frame 218 rfl) rfl ?_
    refine r_if_ne C 421 (z_d dd_Mo_frame 219 rfl) (by decide) (fun c29 => ?_) (fun c29 => ?_)
    · have h := ziff h c29
      refine r_iload_n C (z_d dd_Mo_frame 244 rfl) rfl ?_
      refine r_iconst (v := (4 : Int32)) C (z_d dd_Mo_frame 245 rfl) (by decide) ?_
      refine r_idiv C (z_d dd_Mo_frame 246 rfl) (by decide) ?_
      refine r_iconst (v := (2 : Int32)) C (z_d dd_Mo_frame 247 rfl) (by decide) ?_
      refine r_irem C (z_d dd_Mo_frame 248 rfl) (by decide) ?_
      refine r_iconst (v := (1 : Int32)) C (z_d dd_Mo_frame 249 rfl) (by decide) ?_
      refine r_icmp_ne C 487 (z_d dd_Mo_frame 250 rfl) (by decide) (fun c20 => ?_) (fun c20 => ?_)
      · have h := ziff h c20
        refine r_mk [true, false, false, false, false, false, true, true, false, true, false] ?_
        exact s_Mo_frame_487 C hr E n l0 l6 l7 l9 M h
      · have h := zift h c20
        refine r_aload_n C (z_d dd_Mo_frame 251 rfl) rfl ?_
        refine r_iconst (v := (4 : Int32)) C (z_d dd_Mo_frame 252 rfl) (by decide) ?_
        obtain ⟨h1, h⟩ := zif h
        obtain ⟨q2, c3, h⟩ := zbd h
        refine r_invV (as := [zI (4 : Int32)]) C 12 (S_Mo_has c3) (z_d dd_Mo_frame 253 rfl) ok_Mo_has iv_Mo_has se_Mo_has ml_Mo_235 rfl rfl h1 rfl rfl rfl (Nat.le_of_ble_eq_true rfl) ⟨(Nat.le_of_ble_eq_true rfl), (Nat.le_of_ble_eq_true rfl)⟩ ⟨(Nat.le_of_ble_eq_true rfl), (Nat.le_of_ble_eq_true rfl)⟩ ?_
        refine r_if_ne C 440 (z_d dd_Mo_frame 254 rfl) (by decide) (fun c19 => ?_) (fun c19 => ?_)
        · have h := ziff h c19
          refine r_aload_n C (z_d dd_Mo_frame 257 rfl) rfl ?_
          refine r_aload_n C (z_d dd_Mo_frame 258 rfl) rfl ?_
          obtain ⟨h4, h⟩ := zif h
          refine r_getI C (z_d dd_Mo_frame 259 rfl) lk_Mo_204 rfl h4 rfl ?_
          refine r_iconst (v := (4 : Int32)) C (z_d dd_Mo_frame 260 rfl) (by decide) ?_
          obtain ⟨q5, c6, h⟩ := zbd h
          refine r_invV (as := [zI (z_i q2.2 l0 28), zI (4 : Int32)]) C 12 (S_Mo_number c6) (z_d dd_Mo_frame 261 rfl) ok_Mo_number iv_Mo_number se_Mo_number ml_Mo_172 rfl rfl h4 rfl rfl rfl (Nat.le_of_ble_eq_true rfl) ⟨(Nat.le_of_ble_eq_true rfl), (Nat.le_of_ble_eq_true rfl)⟩ ⟨(Nat.le_of_ble_eq_true rfl), (Nat.le_of_ble_eq_true rfl)⟩ ?_
          refine r_l2i C (z_d dd_Mo_frame 262 rfl) ?_
          refine r_aload_n C (z_d dd_Mo_frame 263 rfl) rfl ?_
          refine r_aload_n C (z_d dd_Mo_frame 264 rfl) rfl ?_
          obtain ⟨h7, h⟩ := zif h
          refine r_getI C (z_d dd_Mo_frame 265 rfl) lk_Mo_258 rfl h7 rfl ?_
          refine r_aload_n C (z_d dd_Mo_frame 266 rfl) rfl ?_
          refine r_getI C (z_d dd_Mo_frame 267 rfl) lk_Mo_213 rfl h7 rfl ?_
          obtain ⟨q8, c9, h⟩ := zbd h
          refine r_invV (as := [zI (z_i q5.2 l0 31), zI (z_i q5.2 l0 30)]) C 12 (S_Mo_sum c9) (z_d dd_Mo_frame 268 rfl) ok_Mo_sum iv_Mo_sum se_Mo_sum ml_Mo_264 rfl rfl h7 rfl rfl rfl (Nat.le_of_ble_eq_true rfl) ⟨(Nat.le_of_ble_eq_true rfl), (Nat.le_of_ble_eq_true rfl)⟩ ⟨(Nat.le_of_ble_eq_true rfl), (Nat.le_of_ble_eq_true rfl)⟩ ?_
          refine r_l2i C (z_d dd_Mo_frame 269 rfl) ?_
          refine r_icmp_eq C 477 (z_d dd_Mo_frame 270 rfl) (by decide) (fun c18 => ?_) (fun c18 => ?_)
          · have h := zift h c18
            refine r_aload_n C (z_d dd_Mo_frame 277 rfl) rfl ?_
            refine r_dupP C (z_d dd_Mo_frame 278 rfl) ?_
            obtain ⟨h10, h⟩ := zif h
            refine r_getI C (z_d dd_Mo_frame 279 rfl) lk_Mo_204 rfl h10 rfl ?_
            refine r_iconst (v := (4 : Int32)) C (z_d dd_Mo_frame 280 rfl) (by decide) ?_
            refine r_iadd C (z_d dd_Mo_frame 281 rfl) ?_
            obtain ⟨M11, e12, h⟩ := zlet_ex h
            have h13 := k_i e12 h10
            refine r_putI C (z_d dd_Mo_frame 282 rfl) lp_Mo_204 rfl h10 e12 ?_
            refine r_mk [true, false, false, false, false, false, true, true, false, true, false] ?_
            exact s_Mo_frame_487 C hr E n l0 l6 l7 l9 M11 h
          · have h := ziff h c18
            refine r_aload_n C (z_d dd_Mo_frame 271 rfl) rfl ?_
            refine r_bipush (v := (8 : Int32)) C (z_d dd_Mo_frame 272 rfl) (by decide) ?_
            refine r_aload_n C (z_d dd_Mo_frame 273 rfl) rfl ?_
            obtain ⟨h14, h⟩ := zif h
            refine r_getI C (z_d dd_Mo_frame 274 rfl) lk_Mo_204 rfl h14 rfl ?_
            obtain ⟨q15, c16, h⟩ := zbd h
            refine r_invV (as := [zI (8 : Int32), zI (z_i q8.2 l0 28)]) C 12 (S_Mo_wrong c16) (z_d dd_Mo_frame 275 rfl) ok_Mo_wrong iv_Mo_wrong se_Mo_wrong ml_Mo_207 rfl rfl h14 rfl rfl rfl (Nat.le_of_ble_eq_true rfl) ⟨(Nat.le_of_ble_eq_true rfl), (Nat.le_of_ble_eq_true rfl)⟩ ⟨(Nat.le_of_ble_eq_true rfl), (Nat.le_of_ble_eq_true rfl)⟩ ?_
            obtain ⟨h17, h⟩ := zif h
            obtain rfl := z_res h
            exact r_iretZ C E hr (z_d dd_Mo_frame 276 rfl) h17 (Nat.le_of_ble_eq_true rfl) (Nat.le_of_ble_eq_true rfl)
        · have h := zift h c19
          refine r_iconst (v := (0 : Int32)) C (z_d dd_Mo_frame 255 rfl) (by decide) ?_
          obtain rfl := z_res h
          exact r_iretZ C E hr (z_d dd_Mo_frame 256 rfl) (by decide) (Nat.le_of_ble_eq_true rfl) (Nat.le_of_ble_eq_true rfl)
    · have h := zift h c29
      refine r_aload_n C (z_d dd_Mo_frame 220 rfl) rfl ?_
      refine r_iconst (v := (3 : Int32)) C (z_d dd_Mo_frame 221 rfl) (by decide) ?_
      obtain ⟨h21, h⟩ := zif h
      obtain ⟨q22, c23, h⟩ := zbd h
      refine r_invV (as := [zI (3 : Int32)]) C 12 (S_Mo_has c23) (z_d dd_Mo_frame 222 rfl) ok_Mo_has iv_Mo_has se_Mo_has ml_Mo_235 rfl rfl h21 rfl rfl rfl (Nat.le_of_ble_eq_true rfl) ⟨(Nat.le_of_ble_eq_true rfl), (Nat.le_of_ble_eq_true rfl)⟩ ⟨(Nat.le_of_ble_eq_true rfl), (Nat.le_of_ble_eq_true rfl)⟩ ?_
      refine r_if_ne C 390 (z_d dd_Mo_frame 223 rfl) (by decide) (fun c28 => ?_) (fun c28 => ?_)
      · have h := ziff h c28
        refine r_aload_n C (z_d dd_Mo_frame 226 rfl) rfl ?_
        obtain ⟨h24, h⟩ := zif h
        refine r_getP C (z_d dd_Mo_frame 227 rfl) lk_Mo_7 rfl h24 rfl ?_
        refine r_aload_n C (z_d dd_Mo_frame 228 rfl) rfl ?_
        refine r_getI C (z_d dd_Mo_frame 229 rfl) lk_Mo_204 rfl h24 rfl ?_
        obtain ⟨h25, h⟩ := zif h
        obtain ⟨h26, h⟩ := zif h
        refine r_iald C (z_d dd_Mo_frame 230 rfl) h25 h26 rfl ?_
        refine r_iconst (v := (2 : Int32)) C (z_d dd_Mo_frame 231 rfl) (by decide) ?_
        refine r_irem C (z_d dd_Mo_frame 232 rfl) (by decide) ?_
        refine r_iconst (v := (1 : Int32)) C (z_d dd_Mo_frame 233 rfl) (by decide) ?_
        refine r_icmp_ne C 409 (z_d dd_Mo_frame 234 rfl) (by decide) (fun c27 => ?_) (fun c27 => ?_)
        · have h := ziff h c27
          refine r_iconst (v := (0 : Int32)) C (z_d dd_Mo_frame 237 rfl) (by decide) ?_
          refine r_mk [true, true, false, false, false, false, true, true, false, true, false] ?_
          exact s_Mo_frame_410 C hr E ih n l0 l1 l6 l7 l9 (0 : Int32) q22.2 h
        · have h := zift h c27
          refine r_iconst (v := (1 : Int32)) C (z_d dd_Mo_frame 235 rfl) (by decide) ?_
          refine r_goto C 410 (z_d dd_Mo_frame 236 rfl) (by decide) ?_
          refine r_mk [true, true, false, false, false, false, true, true, false, true, false] ?_
          exact s_Mo_frame_410 C hr E ih n l0 l1 l6 l7 l9 (1 : Int32) q22.2 h
      · have h := zift h c28
        refine r_iconst (v := (0 : Int32)) C (z_d dd_Mo_frame 224 rfl) (by decide) ?_
        obtain rfl := z_res h
        exact r_iretZ C E hr (z_d dd_Mo_frame 225 rfl) (by decide) (Nat.le_of_ble_eq_true rfl) (Nat.le_of_ble_eq_true rfl)
def f_Mo_frame_357 (O : zO) (n : Nat) (l0 : Nat) (l1 : Int32) (l6 : Int32) (l7 : Int64) (l9 : Int32) (s0 : Nat) (s1 : Int32) (M : zM) : Option (Int32 × zM) :=
  if z_k M s0 = 13 then
  zlet (w_i M s0 32 s1) fun M2 =>
  if z_k M2 l0 = 13 then
  (F_Mo_beginFrame O n l0 M2).bind fun q6 =>
  if z_k q6.2 l0 = 13 then
  zlet (w_i q6.2 l0 31 (z_i q6.2 l0 30)) fun M9 =>
  f_Mo_frame_375 O n l0 l1 l6 l7 l9 (0 : Int32) M9
  else none
  else none
  else none
set_option maxRecDepth 100000 in
set_option maxHeartbeats 4000000 in
theorem s_Mo_frame_357 {X : zX} {q : Int32 × zM} (C : zC X zR12 prog_14_method_34_code 11 { frames := 8, cells := 0, slots := 0, locals := 217 }) (hr : zRt X (some .boolean)) (E : zE X (some (zI q.1)) q.2 0 0) : ∀ (n : Nat) (l0 : Nat) (l1 : Int32) (l6 : Int32) (l7 : Int64) (l9 : Int32) (s0 : Nat) (s1 : Int32) (M : zM), f_Mo_frame_357 (zOD X) n l0 l1 l6 l7 l9 s0 s1 M = some q → zW X 0 0 357 [some (zP l0), some (zI l1), none, none, none, none, some (zI l6), some (zL l7), none, some (zI l9), none] [zI s1, zP s0] M := by
  intro n l0 l1 l6 l7 l9 s0 s1 M h
  rw [f_Mo_frame_357] at h
  obtain ⟨h1, h⟩ := zif h
  obtain ⟨M2, e3, h⟩ := zlet_ex h
  have h4 := k_i e3 h1
  refine r_putI C (z_d dd_Mo_frame 209 rfl) lp_Mo_252 rfl h1 e3 ?_
  refine r_aload_n C (z_d dd_Mo_frame 210 rfl) rfl ?_
  obtain ⟨h5, h⟩ := zif h
  obtain ⟨q6, c7, h⟩ := zbd h
  refine r_invV (as := []) C 12 (S_Mo_beginFrame c7) (z_d dd_Mo_frame 211 rfl) ok_Mo_beginFrame iv_Mo_beginFrame se_Mo_beginFrame ml_Mo_255 rfl rfl h5 rfl rfl rfl (Nat.le_of_ble_eq_true rfl) ⟨(Nat.le_of_ble_eq_true rfl), (Nat.le_of_ble_eq_true rfl)⟩ ⟨(Nat.le_of_ble_eq_true rfl), (Nat.le_of_ble_eq_true rfl)⟩ ?_
  refine r_aload_n C (z_d dd_Mo_frame 212 rfl) rfl ?_
  refine r_aload_n C (z_d dd_Mo_frame 213 rfl) rfl ?_
  obtain ⟨h8, h⟩ := zif h
  refine r_getI C (z_d dd_Mo_frame 214 rfl) lk_Mo_213 rfl h8 rfl ?_
  obtain ⟨M9, e10, h⟩ := zlet_ex h
  have h11 := k_i e10 h8
  refine r_putI C (z_d dd_Mo_frame 215 rfl) lp_Mo_258 rfl h8 e10 ?_
  refine r_iconst (v := (0 : Int32)) C (z_d dd_Mo_frame 216 rfl) (by decide) ?_
  refine r_istore (lv' := [some (zP l0), some (zI l1), none, none, none, none, some (zI l6), some (zL l7), none, some (zI l9), some (zI (0 : Int32))]) C (z_d dd_Mo_frame 217 rfl) (Nat.le_of_ble_eq_true rfl) rfl ?_
  exact s_Mo_frame_375 C hr E n l0 l1 l6 l7 l9 (0 : Int32) M9 h
def f_Mo_frame_347 (O : zO) (n : Nat) (l0 : Nat) (l1 : Int32) (l6 : Int32) (l7 : Int64) (l9 : Int32) (s0 : Nat) (M : zM) : Option (Int32 × zM) :=
  f_Mo_frame_357 O n l0 l1 l6 l7 l9 s0 (131072 : Int32) M
set_option maxRecDepth 100000 in
set_option maxHeartbeats 4000000 in
theorem s_Mo_frame_347 {X : zX} {q : Int32 × zM} (C : zC X zR12 prog_14_method_34_code 11 { frames := 8, cells := 0, slots := 0, locals := 217 }) (hr : zRt X (some .boolean)) (E : zE X (some (zI q.1)) q.2 0 0) : ∀ (n : Nat) (l0 : Nat) (l1 : Int32) (l6 : Int32) (l7 : Int64) (l9 : Int32) (s0 : Nat) (M : zM), f_Mo_frame_347 (zOD X) n l0 l1 l6 l7 l9 s0 M = some q → zW X 0 0 347 [some (zP l0), some (zI l1), none, none, none, none, some (zI l6), some (zL l7), none, some (zI l9), none] [zP s0] M := by
  intro n l0 l1 l6 l7 l9 s0 M h
  rw [f_Mo_frame_347] at h
  refine r_ldc (v := (131072 : Int32)) C (z_d dd_Mo_frame 204 rfl) ki_Mo_78 ?_
  refine r_goto C 357 (z_d dd_Mo_frame 205 rfl) (by decide) ?_
  exact s_Mo_frame_357 C hr E n l0 l1 l6 l7 l9 s0 (131072 : Int32) M h
def f_Mo_frame_326 (O : zO) (n : Nat) (l0 : Nat) (l1 : Int32) (l6 : Int32) (l7 : Int64) (l9 : Int32) (M : zM) : Option (Int32 × zM) :=
  if z_k M l0 = 13 then
  if (lg_cmp (z_j M l0 38) (0 : Int64)) < 0 then
  f_Mo_frame_347 O n l0 l1 l6 l7 l9 l0 M
  else
  if (lg_cmp (z_j M l0 38) (131072 : Int64)) ≤ 0 then
  f_Mo_frame_357 O n l0 l1 l6 l7 l9 l0 (z_j M l0 38).toInt32 M
  else
  f_Mo_frame_347 O n l0 l1 l6 l7 l9 l0 M
  else none
set_option maxRecDepth 100000 in
set_option maxHeartbeats 4000000 in
theorem s_Mo_frame_326 {X : zX} {q : Int32 × zM} (C : zC X zR12 prog_14_method_34_code 11 { frames := 8, cells := 0, slots := 0, locals := 217 }) (hr : zRt X (some .boolean)) (E : zE X (some (zI q.1)) q.2 0 0) : ∀ (n : Nat) (l0 : Nat) (l1 : Int32) (l6 : Int32) (l7 : Int64) (l9 : Int32) (M : zM), f_Mo_frame_326 (zOD X) n l0 l1 l6 l7 l9 M = some q → zW X 0 0 326 [some (zP l0), some (zI l1), none, none, none, none, some (zI l6), some (zL l7), none, some (zI l9), none] [] M := by
  intro n l0 l1 l6 l7 l9 M h
  rw [f_Mo_frame_326] at h
  refine r_aload_n C (z_d dd_Mo_frame 193 rfl) rfl ?_
  refine r_aload_n C (z_d dd_Mo_frame 194 rfl) rfl ?_
  obtain ⟨h1, h⟩ := zif h
  refine r_getL C (z_d dd_Mo_frame 195 rfl) lk_Mo_241 rfl h1 rfl ?_
  refine r_lconst (v := (0 : Int64)) C (z_d dd_Mo_frame 196 rfl) (by decide) ?_
  refine r_lcmp C (z_d dd_Mo_frame 197 rfl) ?_
  refine r_if_lt C 347 (z_d dd_Mo_frame 198 rfl) (by decide) (fun c3 => ?_) (fun c3 => ?_)
  · have h := zift h c3
    exact s_Mo_frame_347 C hr E n l0 l1 l6 l7 l9 l0 M h
  · have h := ziff h c3
    refine r_aload_n C (z_d dd_Mo_frame 199 rfl) rfl ?_
    refine r_getL C (z_d dd_Mo_frame 200 rfl) lk_Mo_241 rfl h1 rfl ?_
    refine r_ldc2 (v := (131072 : Int64)) C (z_d dd_Mo_frame 201 rfl) kl_Mo_250 ?_
    refine r_lcmp C (z_d dd_Mo_frame 202 rfl) ?_
    refine r_if_le C 352 (z_d dd_Mo_frame 203 rfl) (by decide) (fun c2 => ?_) (fun c2 => ?_)
    · have h := zift h c2
      refine r_aload_n C (z_d dd_Mo_frame 206 rfl) rfl ?_
      refine r_getL C (z_d dd_Mo_frame 207 rfl) lk_Mo_241 rfl h1 rfl ?_
      refine r_l2i C (z_d dd_Mo_frame 208 rfl) ?_
      exact s_Mo_frame_357 C hr E n l0 l1 l6 l7 l9 l0 (z_j M l0 38).toInt32 M h
    · have h := ziff h c2
      exact s_Mo_frame_347 C hr E n l0 l1 l6 l7 l9 l0 M h
def f_Mo_frame_292 (O : zO) (n : Nat) (l0 : Nat) (l1 : Int32) (l2 : Int32) (l6 : Int32) (s0 : Int64) (s1 : Int64) (M : zM) : Option (Int32 × zM) :=
  zlet (s0 + s1) fun v1 =>
  if z_k M l0 = 13 then
  zlet (z_i M l0 28) fun v4 =>
  zlet (w_i M l0 28 ((z_i M l0 28) + l6)) fun M6 =>
  if l2 = 0 then
  f_Mo_frame_326 O n l0 l1 l6 v1 v4 M6
  else
  zlet (w_j M6 l0 38 v1) fun M9 =>
  (F_Mo_tell O n l0 M9).bind fun q12 =>
  f_Mo_frame_326 O n l0 l1 l6 v1 v4 q12.2
  else none
set_option maxRecDepth 100000 in
set_option maxHeartbeats 4000000 in
theorem s_Mo_frame_292 {X : zX} {q : Int32 × zM} (C : zC X zR12 prog_14_method_34_code 11 { frames := 8, cells := 0, slots := 0, locals := 217 }) (hr : zRt X (some .boolean)) (E : zE X (some (zI q.1)) q.2 0 0) : ∀ (n : Nat) (l0 : Nat) (l1 : Int32) (l2 : Int32) (l6 : Int32) (s0 : Int64) (s1 : Int64) (M : zM), f_Mo_frame_292 (zOD X) n l0 l1 l2 l6 s0 s1 M = some q → zW X 0 0 292 [some (zP l0), some (zI l1), some (zI l2), none, none, none, some (zI l6), none, none, none, none] [zL s1, zL s0] M := by
  intro n l0 l1 l2 l6 s0 s1 M h
  rw [f_Mo_frame_292] at h
  refine r_ladd C (z_d dd_Mo_frame 175 rfl) ?_
  obtain ⟨v1, e2, h⟩ := zlet_ex h
  refine r_nmL e2 ?_
  refine r_lstore (lv' := [some (zP l0), some (zI l1), some (zI l2), none, none, none, some (zI l6), some (zL v1), none, none, none]) C (z_d dd_Mo_frame 176 rfl) (Nat.le_of_ble_eq_true rfl) rfl ?_
  refine r_aload_n C (z_d dd_Mo_frame 177 rfl) rfl ?_
  obtain ⟨h3, h⟩ := zif h
  refine r_getI C (z_d dd_Mo_frame 178 rfl) lk_Mo_204 rfl h3 rfl ?_
  obtain ⟨v4, e5, h⟩ := zlet_ex h
  refine r_nmI e5 ?_
  refine r_istore (lv' := [some (zP l0), some (zI l1), some (zI l2), none, none, none, some (zI l6), some (zL v1), none, some (zI v4), none]) C (z_d dd_Mo_frame 179 rfl) (Nat.le_of_ble_eq_true rfl) rfl ?_
  refine r_aload_n C (z_d dd_Mo_frame 180 rfl) rfl ?_
  refine r_dupP C (z_d dd_Mo_frame 181 rfl) ?_
  refine r_getI C (z_d dd_Mo_frame 182 rfl) lk_Mo_204 rfl h3 rfl ?_
  refine r_iload C (z_d dd_Mo_frame 183 rfl) rfl ?_
  refine r_iadd C (z_d dd_Mo_frame 184 rfl) ?_
  obtain ⟨M6, e7, h⟩ := zlet_ex h
  have h8 := k_i e7 h3
  refine r_putI C (z_d dd_Mo_frame 185 rfl) lp_Mo_204 rfl h3 e7 ?_
  refine r_iload_n C (z_d dd_Mo_frame 186 rfl) rfl ?_
  refine r_if_eq C 326 (z_d dd_Mo_frame 187 rfl) (by decide) (fun c14 => ?_) (fun c14 => ?_)
  · have h := zift h c14
    refine r_mk [true, true, false, false, false, false, true, true, false, true, false] ?_
    exact s_Mo_frame_326 C hr E n l0 l1 l6 v1 v4 M6 h
  · have h := ziff h c14
    refine r_aload_n C (z_d dd_Mo_frame 188 rfl) rfl ?_
    refine r_lload C (z_d dd_Mo_frame 189 rfl) rfl ?_
    obtain ⟨M9, e10, h⟩ := zlet_ex h
    have h11 := k_j e10 h8
    refine r_putL C (z_d dd_Mo_frame 190 rfl) lp_Mo_241 rfl h8 e10 ?_
    refine r_aload_n C (z_d dd_Mo_frame 191 rfl) rfl ?_
    obtain ⟨q12, c13, h⟩ := zbd h
    refine r_invV (as := []) C 12 (S_Mo_tell c13) (z_d dd_Mo_frame 192 rfl) ok_Mo_tell iv_Mo_tell se_Mo_tell ml_Mo_245 rfl rfl h11 rfl rfl rfl (Nat.le_of_ble_eq_true rfl) ⟨(Nat.le_of_ble_eq_true rfl), (Nat.le_of_ble_eq_true rfl)⟩ ⟨(Nat.le_of_ble_eq_true rfl), (Nat.le_of_ble_eq_true rfl)⟩ ?_
    refine r_mk [true, true, false, false, false, false, true, true, false, true, false] ?_
    exact s_Mo_frame_326 C hr E n l0 l1 l6 v1 v4 q12.2 h
def f_Mo_frame_256 (O : zO) (n : Nat) (l0 : Nat) (l1 : Int32) (l2 : Int32) (s0 : Int32) (M : zM) : Option (Int32 × zM) :=
  if z_k M l0 = 13 then
  (F_Mo_has O n l0 s0 M).bind fun q2 =>
  if q2.1 = 0 then
  some ((0 : Int32), q2.2)
  else
  if z_k q2.2 l0 = 13 then
  (F_Mo_number O n l0 (z_i q2.2 l0 28) s0 q2.2).bind fun q5 =>
  if s0 = (2 : Int32) then
  f_Mo_frame_292 O n l0 l1 l2 s0 q5.1 (256 : Int64) q5.2
  else
  f_Mo_frame_292 O n l0 l1 l2 s0 q5.1 (0 : Int64) q5.2
  else none
  else none
set_option maxRecDepth 100000 in
set_option maxHeartbeats 4000000 in
theorem s_Mo_frame_256 {X : zX} {q : Int32 × zM} (C : zC X zR12 prog_14_method_34_code 11 { frames := 8, cells := 0, slots := 0, locals := 217 }) (hr : zRt X (some .boolean)) (E : zE X (some (zI q.1)) q.2 0 0) : ∀ (n : Nat) (l0 : Nat) (l1 : Int32) (l2 : Int32) (s0 : Int32) (M : zM), f_Mo_frame_256 (zOD X) n l0 l1 l2 s0 M = some q → zW X 0 0 256 [some (zP l0), some (zI l1), some (zI l2), none, none, none, none, none, none, none, none] [zI s0] M := by
  intro n l0 l1 l2 s0 M h
  rw [f_Mo_frame_256] at h
  refine r_istore (lv' := [some (zP l0), some (zI l1), some (zI l2), none, none, none, some (zI s0), none, none, none, none]) C (z_d dd_Mo_frame 157 rfl) (Nat.le_of_ble_eq_true rfl) rfl ?_
  refine r_aload_n C (z_d dd_Mo_frame 158 rfl) rfl ?_
  refine r_iload C (z_d dd_Mo_frame 159 rfl) rfl ?_
  obtain ⟨h1, h⟩ := zif h
  obtain ⟨q2, c3, h⟩ := zbd h
  refine r_invV (as := [zI s0]) C 12 (S_Mo_has c3) (z_d dd_Mo_frame 160 rfl) ok_Mo_has iv_Mo_has se_Mo_has ml_Mo_235 rfl rfl h1 rfl rfl rfl (Nat.le_of_ble_eq_true rfl) ⟨(Nat.le_of_ble_eq_true rfl), (Nat.le_of_ble_eq_true rfl)⟩ ⟨(Nat.le_of_ble_eq_true rfl), (Nat.le_of_ble_eq_true rfl)⟩ ?_
  refine r_if_ne C 269 (z_d dd_Mo_frame 161 rfl) (by decide) (fun c8 => ?_) (fun c8 => ?_)
  · have h := ziff h c8
    refine r_aload_n C (z_d dd_Mo_frame 164 rfl) rfl ?_
    refine r_aload_n C (z_d dd_Mo_frame 165 rfl) rfl ?_
    obtain ⟨h4, h⟩ := zif h
    refine r_getI C (z_d dd_Mo_frame 166 rfl) lk_Mo_204 rfl h4 rfl ?_
    refine r_iload C (z_d dd_Mo_frame 167 rfl) rfl ?_
    obtain ⟨q5, c6, h⟩ := zbd h
    refine r_invV (as := [zI (z_i q2.2 l0 28), zI s0]) C 12 (S_Mo_number c6) (z_d dd_Mo_frame 168 rfl) ok_Mo_number iv_Mo_number se_Mo_number ml_Mo_172 rfl rfl h4 rfl rfl rfl (Nat.le_of_ble_eq_true rfl) ⟨(Nat.le_of_ble_eq_true rfl), (Nat.le_of_ble_eq_true rfl)⟩ ⟨(Nat.le_of_ble_eq_true rfl), (Nat.le_of_ble_eq_true rfl)⟩ ?_
    refine r_iload C (z_d dd_Mo_frame 169 rfl) rfl ?_
    refine r_iconst (v := (2 : Int32)) C (z_d dd_Mo_frame 170 rfl) (by decide) ?_
    refine r_icmp_ne C 291 (z_d dd_Mo_frame 171 rfl) (by decide) (fun c7 => ?_) (fun c7 => ?_)
    · have h := ziff h c7
      refine r_lconst (v := (0 : Int64)) C (z_d dd_Mo_frame 174 rfl) (by decide) ?_
      exact s_Mo_frame_292 C hr E n l0 l1 l2 s0 q5.1 (0 : Int64) q5.2 h
    · have h := zift h c7
      refine r_ldc2 (v := (256 : Int64)) C (z_d dd_Mo_frame 172 rfl) kl_Mo_248 ?_
      refine r_goto C 292 (z_d dd_Mo_frame 173 rfl) (by decide) ?_
      exact s_Mo_frame_292 C hr E n l0 l1 l2 s0 q5.1 (256 : Int64) q5.2 h
  · have h := zift h c8
    refine r_iconst (v := (0 : Int32)) C (z_d dd_Mo_frame 162 rfl) (by decide) ?_
    obtain rfl := z_res h
    exact r_iretZ C E hr (z_d dd_Mo_frame 163 rfl) (by decide) (Nat.le_of_ble_eq_true rfl) (Nat.le_of_ble_eq_true rfl)
def f_Mo_frame_219 (O : zO) (n : Nat) (l0 : Nat) (l1 : Int32) (l2 : Int32) (l3 : Int32) (M : zM) : Option (Int32 × zM) :=
  if z_k M l0 = 13 then
  zlet (w_i M l0 28 ((z_i M l0 28) + l3)) fun M2 =>
  zlet (l1 / (64 : Int32)) fun v5 =>
  if v5 = 0 then
  if l2 = 0 then
  f_Mo_frame_256 O n l0 l1 l2 (0 : Int32) M2
  else
  f_Mo_frame_256 O n l0 l1 l2 (1 : Int32) M2
  else
  f_Mo_frame_256 O n l0 l1 l2 ((1 : Int32) <<< (v5 &&& 31)) M2
  else none
set_option maxRecDepth 100000 in
set_option maxHeartbeats 4000000 in
theorem s_Mo_frame_219 {X : zX} {q : Int32 × zM} (C : zC X zR12 prog_14_method_34_code 11 { frames := 8, cells := 0, slots := 0, locals := 217 }) (hr : zRt X (some .boolean)) (E : zE X (some (zI q.1)) q.2 0 0) : ∀ (n : Nat) (l0 : Nat) (l1 : Int32) (l2 : Int32) (l3 : Int32) (M : zM), f_Mo_frame_219 (zOD X) n l0 l1 l2 l3 M = some q → zW X 0 0 219 [some (zP l0), some (zI l1), some (zI l2), some (zI l3), none, none, none, none, none, none, none] [] M := by
  intro n l0 l1 l2 l3 M h
  rw [f_Mo_frame_219] at h
  refine r_aload_n C (z_d dd_Mo_frame 136 rfl) rfl ?_
  refine r_dupP C (z_d dd_Mo_frame 137 rfl) ?_
  obtain ⟨h1, h⟩ := zif h
  refine r_getI C (z_d dd_Mo_frame 138 rfl) lk_Mo_204 rfl h1 rfl ?_
  refine r_iload_n C (z_d dd_Mo_frame 139 rfl) rfl ?_
  refine r_iadd C (z_d dd_Mo_frame 140 rfl) ?_
  obtain ⟨M2, e3, h⟩ := zlet_ex h
  have h4 := k_i e3 h1
  refine r_putI C (z_d dd_Mo_frame 141 rfl) lp_Mo_204 rfl h1 e3 ?_
  refine r_iload_n C (z_d dd_Mo_frame 142 rfl) rfl ?_
  refine r_bipush (v := (64 : Int32)) C (z_d dd_Mo_frame 143 rfl) (by decide) ?_
  refine r_idiv C (z_d dd_Mo_frame 144 rfl) (by decide) ?_
  obtain ⟨v5, e6, h⟩ := zlet_ex h
  refine r_nmI e6 ?_
  refine r_istore (lv' := [some (zP l0), some (zI l1), some (zI l2), some (zI l3), none, some (zI v5), none, none, none, none, none]) C (z_d dd_Mo_frame 145 rfl) (Nat.le_of_ble_eq_true rfl) rfl ?_
  refine r_iload C (z_d dd_Mo_frame 146 rfl) rfl ?_
  refine r_if_ne C 252 (z_d dd_Mo_frame 147 rfl) (by decide) (fun c8 => ?_) (fun c8 => ?_)
  · have h := ziff h c8
    refine r_iconst (v := (1 : Int32)) C (z_d dd_Mo_frame 154 rfl) (by decide) ?_
    refine r_iload C (z_d dd_Mo_frame 155 rfl) rfl ?_
    refine r_ishl C (z_d dd_Mo_frame 156 rfl) ?_
    refine r_mk [true, true, true, false, false, false, false, false, false, false, false] ?_
    exact s_Mo_frame_256 C hr E n l0 l1 l2 ((1 : Int32) <<< (v5 &&& 31)) M2 h
  · have h := zift h c8
    refine r_iload_n C (z_d dd_Mo_frame 148 rfl) rfl ?_
    refine r_if_eq C 248 (z_d dd_Mo_frame 149 rfl) (by decide) (fun c7 => ?_) (fun c7 => ?_)
    · have h := zift h c7
      refine r_iconst (v := (0 : Int32)) C (z_d dd_Mo_frame 152 rfl) (by decide) ?_
      refine r_goto C 256 (z_d dd_Mo_frame 153 rfl) (by decide) ?_
      refine r_mk [true, true, true, false, false, false, false, false, false, false, false] ?_
      exact s_Mo_frame_256 C hr E n l0 l1 l2 (0 : Int32) M2 h
    · have h := ziff h c7
      refine r_iconst (v := (1 : Int32)) C (z_d dd_Mo_frame 150 rfl) (by decide) ?_
      refine r_goto C 256 (z_d dd_Mo_frame 151 rfl) (by decide) ?_
      refine r_mk [true, true, true, false, false, false, false, false, false, false, false] ?_
      exact s_Mo_frame_256 C hr E n l0 l1 l2 (1 : Int32) M2 h
def f_Mo_frame_172 (O : zO) (n : Nat) (l0 : Nat) (l1 : Int32) (l2 : Int32) (s0 : Int32) (M : zM) : Option (Int32 × zM) :=
  if z_k M l0 = 13 then
  (F_Mo_has O n l0 s0 M).bind fun q2 =>
  if q2.1 = 0 then
  some ((0 : Int32), q2.2)
  else
  if z_k q2.2 l0 = 13 then
  (F_Mo_number O n l0 (z_i q2.2 l0 28) s0 q2.2).bind fun q5 =>
  zlet q5.1.toInt32 fun v7 =>
  if v7 = 0 then
  f_Mo_frame_219 O n l0 l1 l2 s0 q5.2
  else
  if z_k q5.2 l0 = 13 then
  if v7 = (z_i q5.2 l0 6) then
  f_Mo_frame_219 O n l0 l1 l2 s0 q5.2
  else
  (F_Mo_wrong O n l0 (4 : Int32) (z_i q5.2 l0 28) q5.2).bind fun q10 =>
  if q10.1 = 0 ∨ q10.1 = 1 then
  some (q10.1, q10.2)
  else none
  else none
  else none
  else none
set_option maxRecDepth 100000 in
set_option maxHeartbeats 4000000 in
theorem s_Mo_frame_172 {X : zX} {q : Int32 × zM} (C : zC X zR12 prog_14_method_34_code 11 { frames := 8, cells := 0, slots := 0, locals := 217 }) (hr : zRt X (some .boolean)) (E : zE X (some (zI q.1)) q.2 0 0) : ∀ (n : Nat) (l0 : Nat) (l1 : Int32) (l2 : Int32) (s0 : Int32) (M : zM), f_Mo_frame_172 (zOD X) n l0 l1 l2 s0 M = some q → zW X 0 0 172 [some (zP l0), some (zI l1), some (zI l2), none, none, none, none, none, none, none, none] [zI s0] M := by
  intro n l0 l1 l2 s0 M h
  rw [f_Mo_frame_172] at h
  refine r_istore_n (lv' := [some (zP l0), some (zI l1), some (zI l2), some (zI s0), none, none, none, none, none, none, none]) C (z_d dd_Mo_frame 110 rfl) (Nat.le_of_ble_eq_true rfl) rfl ?_
  refine r_aload_n C (z_d dd_Mo_frame 111 rfl) rfl ?_
  refine r_iload_n C (z_d dd_Mo_frame 112 rfl) rfl ?_
  obtain ⟨h1, h⟩ := zif h
  obtain ⟨q2, c3, h⟩ := zbd h
  refine r_invV (as := [zI s0]) C 12 (S_Mo_has c3) (z_d dd_Mo_frame 113 rfl) ok_Mo_has iv_Mo_has se_Mo_has ml_Mo_235 rfl rfl h1 rfl rfl rfl (Nat.le_of_ble_eq_true rfl) ⟨(Nat.le_of_ble_eq_true rfl), (Nat.le_of_ble_eq_true rfl)⟩ ⟨(Nat.le_of_ble_eq_true rfl), (Nat.le_of_ble_eq_true rfl)⟩ ?_
  refine r_if_ne C 183 (z_d dd_Mo_frame 114 rfl) (by decide) (fun c15 => ?_) (fun c15 => ?_)
  · have h := ziff h c15
    refine r_aload_n C (z_d dd_Mo_frame 117 rfl) rfl ?_
    refine r_aload_n C (z_d dd_Mo_frame 118 rfl) rfl ?_
    obtain ⟨h4, h⟩ := zif h
    refine r_getI C (z_d dd_Mo_frame 119 rfl) lk_Mo_204 rfl h4 rfl ?_
    refine r_iload_n C (z_d dd_Mo_frame 120 rfl) rfl ?_
    obtain ⟨q5, c6, h⟩ := zbd h
    refine r_invV (as := [zI (z_i q2.2 l0 28), zI s0]) C 12 (S_Mo_number c6) (z_d dd_Mo_frame 121 rfl) ok_Mo_number iv_Mo_number se_Mo_number ml_Mo_172 rfl rfl h4 rfl rfl rfl (Nat.le_of_ble_eq_true rfl) ⟨(Nat.le_of_ble_eq_true rfl), (Nat.le_of_ble_eq_true rfl)⟩ ⟨(Nat.le_of_ble_eq_true rfl), (Nat.le_of_ble_eq_true rfl)⟩ ?_
    refine r_l2i C (z_d dd_Mo_frame 122 rfl) ?_
    obtain ⟨v7, e8, h⟩ := zlet_ex h
    refine r_nmI e8 ?_
    refine r_istore (lv' := [some (zP l0), some (zI l1), some (zI l2), some (zI s0), some (zI v7), none, none, none, none, none, none]) C (z_d dd_Mo_frame 123 rfl) (Nat.le_of_ble_eq_true rfl) rfl ?_
    refine r_iload C (z_d dd_Mo_frame 124 rfl) rfl ?_
    refine r_if_eq C 219 (z_d dd_Mo_frame 125 rfl) (by decide) (fun c14 => ?_) (fun c14 => ?_)
    · have h := zift h c14
      refine r_mk [true, true, true, true, false, false, false, false, false, false, false] ?_
      exact s_Mo_frame_219 C hr E n l0 l1 l2 s0 q5.2 h
    · have h := ziff h c14
      refine r_iload C (z_d dd_Mo_frame 126 rfl) rfl ?_
      refine r_aload_n C (z_d dd_Mo_frame 127 rfl) rfl ?_
      obtain ⟨h9, h⟩ := zif h
      refine r_getI C (z_d dd_Mo_frame 128 rfl) lk_Mo_152 rfl h9 rfl ?_
      refine r_icmp_eq C 219 (z_d dd_Mo_frame 129 rfl) (by decide) (fun c13 => ?_) (fun c13 => ?_)
      · have h := zift h c13
        refine r_mk [true, true, true, true, false, false, false, false, false, false, false] ?_
        exact s_Mo_frame_219 C hr E n l0 l1 l2 s0 q5.2 h
      · have h := ziff h c13
        refine r_aload_n C (z_d dd_Mo_frame 130 rfl) rfl ?_
        refine r_iconst (v := (4 : Int32)) C (z_d dd_Mo_frame 131 rfl) (by decide) ?_
        refine r_aload_n C (z_d dd_Mo_frame 132 rfl) rfl ?_
        refine r_getI C (z_d dd_Mo_frame 133 rfl) lk_Mo_204 rfl h9 rfl ?_
        obtain ⟨q10, c11, h⟩ := zbd h
        refine r_invV (as := [zI (4 : Int32), zI (z_i q5.2 l0 28)]) C 12 (S_Mo_wrong c11) (z_d dd_Mo_frame 134 rfl) ok_Mo_wrong iv_Mo_wrong se_Mo_wrong ml_Mo_207 rfl rfl h9 rfl rfl rfl (Nat.le_of_ble_eq_true rfl) ⟨(Nat.le_of_ble_eq_true rfl), (Nat.le_of_ble_eq_true rfl)⟩ ⟨(Nat.le_of_ble_eq_true rfl), (Nat.le_of_ble_eq_true rfl)⟩ ?_
        obtain ⟨h12, h⟩ := zif h
        obtain rfl := z_res h
        exact r_iretZ C E hr (z_d dd_Mo_frame 135 rfl) h12 (Nat.le_of_ble_eq_true rfl) (Nat.le_of_ble_eq_true rfl)
  · have h := zift h c15
    refine r_iconst (v := (0 : Int32)) C (z_d dd_Mo_frame 115 rfl) (by decide) ?_
    obtain rfl := z_res h
    exact r_iretZ C E hr (z_d dd_Mo_frame 116 rfl) (by decide) (Nat.le_of_ble_eq_true rfl) (Nat.le_of_ble_eq_true rfl)
def f_Mo_frame_158 (O : zO) (n : Nat) (l0 : Nat) (l1 : Int32) (l2 : Int32) (M : zM) : Option (Int32 × zM) :=
  if (l1 - l1 / (4 : Int32) * (4 : Int32)) = (3 : Int32) then
  f_Mo_frame_172 O n l0 l1 l2 (4 : Int32) M
  else
  f_Mo_frame_172 O n l0 l1 l2 (l1 - l1 / (4 : Int32) * (4 : Int32)) M
set_option maxRecDepth 100000 in
set_option maxHeartbeats 4000000 in
theorem s_Mo_frame_158 {X : zX} {q : Int32 × zM} (C : zC X zR12 prog_14_method_34_code 11 { frames := 8, cells := 0, slots := 0, locals := 217 }) (hr : zRt X (some .boolean)) (E : zE X (some (zI q.1)) q.2 0 0) : ∀ (n : Nat) (l0 : Nat) (l1 : Int32) (l2 : Int32) (M : zM), f_Mo_frame_158 (zOD X) n l0 l1 l2 M = some q → zW X 0 0 158 [some (zP l0), some (zI l1), some (zI l2), none, none, none, none, none, none, none, none] [] M := by
  intro n l0 l1 l2 M h
  rw [f_Mo_frame_158] at h
  refine r_iload_n C (z_d dd_Mo_frame 100 rfl) rfl ?_
  refine r_iconst (v := (4 : Int32)) C (z_d dd_Mo_frame 101 rfl) (by decide) ?_
  refine r_irem C (z_d dd_Mo_frame 102 rfl) (by decide) ?_
  refine r_iconst (v := (3 : Int32)) C (z_d dd_Mo_frame 103 rfl) (by decide) ?_
  refine r_icmp_ne C 169 (z_d dd_Mo_frame 104 rfl) (by decide) (fun c1 => ?_) (fun c1 => ?_)
  · have h := ziff h c1
    refine r_iload_n C (z_d dd_Mo_frame 107 rfl) rfl ?_
    refine r_iconst (v := (4 : Int32)) C (z_d dd_Mo_frame 108 rfl) (by decide) ?_
    refine r_irem C (z_d dd_Mo_frame 109 rfl) (by decide) ?_
    exact s_Mo_frame_172 C hr E n l0 l1 l2 (l1 - l1 / (4 : Int32) * (4 : Int32)) M h
  · have h := zift h c1
    refine r_iconst (v := (4 : Int32)) C (z_d dd_Mo_frame 105 rfl) (by decide) ?_
    refine r_goto C 172 (z_d dd_Mo_frame 106 rfl) (by decide) ?_
    exact s_Mo_frame_172 C hr E n l0 l1 l2 (4 : Int32) M h
def f_Mo_frame_85 (O : zO) (n : Nat) (l0 : Nat) (l1 : Int32) (s0 : Int32) (M : zM) : Option (Int32 × zM) :=
  if s0 = 0 then
  if z_k M l0 = 13 then
  (F_Mo_has O n l0 (1 : Int32) M).bind fun q2 =>
  if q2.1 = 0 then
  some ((0 : Int32), q2.2)
  else
  if z_k q2.2 l0 = 13 then
  if z_k q2.2 (z_p q2.2 l0 0) = 100 then
  if zin (z_i q2.2 l0 28) (z_n q2.2 (z_p q2.2 l0 0)) = true then
  zlet ((z_i q2.2 (z_p q2.2 l0 0) (z_i q2.2 l0 28).toNatClampNeg) / (8 : Int32)) fun v7 =>
  if zin (z_i q2.2 l0 28) (z_n q2.2 (z_p q2.2 l0 0)) = true then
  zlet (w_j q2.2 l0 38 (((1 : Int64) <<< (((10 : Int32) + v7).toInt64 &&& 63)) + (((1 : Int64) <<< (((7 : Int32) + v7).toInt64 &&& 63)) * ((z_i q2.2 (z_p q2.2 l0 0) (z_i q2.2 l0 28).toNatClampNeg) - (z_i q2.2 (z_p q2.2 l0 0) (z_i q2.2 l0 28).toNatClampNeg) / (8 : Int32) * (8 : Int32)).toInt64))) fun M10 =>
  (F_Mo_tell O n l0 M10).bind fun q14 =>
  if z_k q14.2 l0 = 13 then
  zlet (w_i q14.2 l0 28 ((z_i q14.2 l0 28) + (1 : Int32))) fun M17 =>
  f_Mo_frame_158 O n l0 l1 s0 M17
  else none
  else none
  else none
  else none
  else none
  else none
  else
  f_Mo_frame_158 O n l0 l1 s0 M
set_option maxRecDepth 100000 in
set_option maxHeartbeats 4000000 in
theorem s_Mo_frame_85 {X : zX} {q : Int32 × zM} (C : zC X zR12 prog_14_method_34_code 11 { frames := 8, cells := 0, slots := 0, locals := 217 }) (hr : zRt X (some .boolean)) (E : zE X (some (zI q.1)) q.2 0 0) : ∀ (n : Nat) (l0 : Nat) (l1 : Int32) (s0 : Int32) (M : zM), f_Mo_frame_85 (zOD X) n l0 l1 s0 M = some q → zW X 0 0 85 [some (zP l0), some (zI l1), none, none, none, none, none, none, none, none, none] [zI s0] M := by
  intro n l0 l1 s0 M h
  rw [f_Mo_frame_85] at h
  refine r_istore_n (lv' := [some (zP l0), some (zI l1), some (zI s0), none, none, none, none, none, none, none, none]) C (z_d dd_Mo_frame 53 rfl) (Nat.le_of_ble_eq_true rfl) rfl ?_
  refine r_iload_n C (z_d dd_Mo_frame 54 rfl) rfl ?_
  refine r_if_ne C 158 (z_d dd_Mo_frame 55 rfl) (by decide) (fun c21 => ?_) (fun c21 => ?_)
  · have h := ziff h c21
    exact s_Mo_frame_158 C hr E n l0 l1 s0 M h
  · have h := zift h c21
    refine r_aload_n C (z_d dd_Mo_frame 56 rfl) rfl ?_
    refine r_iconst (v := (1 : Int32)) C (z_d dd_Mo_frame 57 rfl) (by decide) ?_
    obtain ⟨h1, h⟩ := zif h
    obtain ⟨q2, c3, h⟩ := zbd h
    refine r_invV (as := [zI (1 : Int32)]) C 12 (S_Mo_has c3) (z_d dd_Mo_frame 58 rfl) ok_Mo_has iv_Mo_has se_Mo_has ml_Mo_235 rfl rfl h1 rfl rfl rfl (Nat.le_of_ble_eq_true rfl) ⟨(Nat.le_of_ble_eq_true rfl), (Nat.le_of_ble_eq_true rfl)⟩ ⟨(Nat.le_of_ble_eq_true rfl), (Nat.le_of_ble_eq_true rfl)⟩ ?_
    refine r_if_ne C 100 (z_d dd_Mo_frame 59 rfl) (by decide) (fun c20 => ?_) (fun c20 => ?_)
    · have h := ziff h c20
      refine r_aload_n C (z_d dd_Mo_frame 62 rfl) rfl ?_
      obtain ⟨h4, h⟩ := zif h
      refine r_getP C (z_d dd_Mo_frame 63 rfl) lk_Mo_7 rfl h4 rfl ?_
      refine r_aload_n C (z_d dd_Mo_frame 64 rfl) rfl ?_
      refine r_getI C (z_d dd_Mo_frame 65 rfl) lk_Mo_204 rfl h4 rfl ?_
      obtain ⟨h5, h⟩ := zif h
      obtain ⟨h6, h⟩ := zif h
      refine r_iald C (z_d dd_Mo_frame 66 rfl) h5 h6 rfl ?_
      refine r_bipush (v := (8 : Int32)) C (z_d dd_Mo_frame 67 rfl) (by decide) ?_
      refine r_idiv C (z_d dd_Mo_frame 68 rfl) (by decide) ?_
      obtain ⟨v7, e8, h⟩ := zlet_ex h
      refine r_nmI e8 ?_
      refine r_istore_n (lv' := [some (zP l0), some (zI l1), some (zI s0), some (zI v7), none, none, none, none, none, none, none]) C (z_d dd_Mo_frame 69 rfl) (Nat.le_of_ble_eq_true rfl) rfl ?_
      refine r_aload_n C (z_d dd_Mo_frame 70 rfl) rfl ?_
      refine r_lconst (v := (1 : Int64)) C (z_d dd_Mo_frame 71 rfl) (by decide) ?_
      refine r_bipush (v := (10 : Int32)) C (z_d dd_Mo_frame 72 rfl) (by decide) ?_
      refine r_iload_n C (z_d dd_Mo_frame 73 rfl) rfl ?_
      refine r_iadd C (z_d dd_Mo_frame 74 rfl) ?_
      refine r_lshl C (z_d dd_Mo_frame 75 rfl) ?_
      refine r_lconst (v := (1 : Int64)) C (z_d dd_Mo_frame 76 rfl) (by decide) ?_
      refine r_bipush (v := (7 : Int32)) C (z_d dd_Mo_frame 77 rfl) (by decide) ?_
      refine r_iload_n C (z_d dd_Mo_frame 78 rfl) rfl ?_
      refine r_iadd C (z_d dd_Mo_frame 79 rfl) ?_
      refine r_lshl C (z_d dd_Mo_frame 80 rfl) ?_
      refine r_aload_n C (z_d dd_Mo_frame 81 rfl) rfl ?_
      refine r_getP C (z_d dd_Mo_frame 82 rfl) lk_Mo_7 rfl h4 rfl ?_
      refine r_aload_n C (z_d dd_Mo_frame 83 rfl) rfl ?_
      refine r_getI C (z_d dd_Mo_frame 84 rfl) lk_Mo_204 rfl h4 rfl ?_
      obtain ⟨h9, h⟩ := zif h
      refine r_iald C (z_d dd_Mo_frame 85 rfl) h5 h9 rfl ?_
      refine r_bipush (v := (8 : Int32)) C (z_d dd_Mo_frame 86 rfl) (by decide) ?_
      refine r_irem C (z_d dd_Mo_frame 87 rfl) (by decide) ?_
      refine r_i2l C (z_d dd_Mo_frame 88 rfl) ?_
      refine r_lmul C (z_d dd_Mo_frame 89 rfl) ?_
      refine r_ladd C (z_d dd_Mo_frame 90 rfl) ?_
      obtain ⟨M10, e11, h⟩ := zlet_ex h
      have h12 := k_j e11 h4
      have h13 := k_j e11 h5
      refine r_putL C (z_d dd_Mo_frame 91 rfl) lp_Mo_241 rfl h4 e11 ?_
      refine r_aload_n C (z_d dd_Mo_frame 92 rfl) rfl ?_
      obtain ⟨q14, c15, h⟩ := zbd h
      refine r_invV (as := []) C 12 (S_Mo_tell c15) (z_d dd_Mo_frame 93 rfl) ok_Mo_tell iv_Mo_tell se_Mo_tell ml_Mo_245 rfl rfl h12 rfl rfl rfl (Nat.le_of_ble_eq_true rfl) ⟨(Nat.le_of_ble_eq_true rfl), (Nat.le_of_ble_eq_true rfl)⟩ ⟨(Nat.le_of_ble_eq_true rfl), (Nat.le_of_ble_eq_true rfl)⟩ ?_
      refine r_aload_n C (z_d dd_Mo_frame 94 rfl) rfl ?_
      refine r_dupP C (z_d dd_Mo_frame 95 rfl) ?_
      obtain ⟨h16, h⟩ := zif h
      refine r_getI C (z_d dd_Mo_frame 96 rfl) lk_Mo_204 rfl h16 rfl ?_
      refine r_iconst (v := (1 : Int32)) C (z_d dd_Mo_frame 97 rfl) (by decide) ?_
      refine r_iadd C (z_d dd_Mo_frame 98 rfl) ?_
      obtain ⟨M17, e18, h⟩ := zlet_ex h
      have h19 := k_i e18 h16
      refine r_putI C (z_d dd_Mo_frame 99 rfl) lp_Mo_204 rfl h16 e18 ?_
      refine r_mk [true, true, true, false, false, false, false, false, false, false, false] ?_
      exact s_Mo_frame_158 C hr E n l0 l1 s0 M17 h
    · have h := zift h c20
      refine r_iconst (v := (0 : Int32)) C (z_d dd_Mo_frame 60 rfl) (by decide) ?_
      obtain rfl := z_res h
      exact r_iretZ C E hr (z_d dd_Mo_frame 61 rfl) (by decide) (Nat.le_of_ble_eq_true rfl) (Nat.le_of_ble_eq_true rfl)
def f_Mo_frame_0 (O : zO) (n : Nat) (l0 : Nat) (M : zM) : Option (Int32 × zM) :=
  if z_k M l0 = 13 then
  zlet (w_i M l0 28 ((z_i M l0 28) + (4 : Int32))) fun M2 =>
  (F_Mo_has O n l0 (1 : Int32) M2).bind fun q5 =>
  if q5.1 = 0 then
  some ((0 : Int32), q5.2)
  else
  if z_k q5.2 l0 = 13 then
  zlet (w_i q5.2 l0 35 ((z_i q5.2 l0 35) + (1 : Int32))) fun M8 =>
  if z_k M8 (z_p M8 l0 0) = 100 then
  if zin (z_i M8 l0 28) (z_n M8 (z_p M8 l0 0)) = true then
  zlet (z_i M8 (z_p M8 l0 0) (z_i M8 l0 28).toNatClampNeg) fun v13 =>
  if ((v13 / (8 : Int32)) - (v13 / (8 : Int32)) / (2 : Int32) * (2 : Int32)) = (1 : Int32) then
  (F_Mo_wrong O n l0 (3 : Int32) (z_i M8 l0 28) M8).bind fun q20 =>
  if q20.1 = 0 ∨ q20.1 = 1 then
  some (q20.1, q20.2)
  else none
  else
  zlet (w_i M8 l0 28 ((z_i M8 l0 28) + (1 : Int32))) fun M15 =>
  if ((v13 / (32 : Int32)) - (v13 / (32 : Int32)) / (2 : Int32) * (2 : Int32)) = (1 : Int32) then
  f_Mo_frame_85 O n l0 v13 (1 : Int32) M15
  else
  f_Mo_frame_85 O n l0 v13 (0 : Int32) M15
  else none
  else none
  else none
  else none
set_option maxRecDepth 100000 in
set_option maxHeartbeats 4000000 in
theorem s_Mo_frame_0 {X : zX} {q : Int32 × zM} (C : zC X zR12 prog_14_method_34_code 11 { frames := 8, cells := 0, slots := 0, locals := 217 }) (hr : zRt X (some .boolean)) (E : zE X (some (zI q.1)) q.2 0 0) : ∀ (n : Nat) (l0 : Nat) (M : zM), f_Mo_frame_0 (zOD X) n l0 M = some q → zW X 0 0 0 [some (zP l0), none, none, none, none, none, none, none, none, none, none] [] M := by
  intro n l0 M h
  rw [f_Mo_frame_0] at h
  refine r_aload_n C (z_d dd_Mo_frame 0 rfl) rfl ?_
  refine r_dupP C (z_d dd_Mo_frame 1 rfl) ?_
  obtain ⟨h1, h⟩ := zif h
  refine r_getI C (z_d dd_Mo_frame 2 rfl) lk_Mo_204 rfl h1 rfl ?_
  refine r_iconst (v := (4 : Int32)) C (z_d dd_Mo_frame 3 rfl) (by decide) ?_
  refine r_iadd C (z_d dd_Mo_frame 4 rfl) ?_
  obtain ⟨M2, e3, h⟩ := zlet_ex h
  have h4 := k_i e3 h1
  refine r_putI C (z_d dd_Mo_frame 5 rfl) lp_Mo_204 rfl h1 e3 ?_
  refine r_aload_n C (z_d dd_Mo_frame 6 rfl) rfl ?_
  refine r_iconst (v := (1 : Int32)) C (z_d dd_Mo_frame 7 rfl) (by decide) ?_
  obtain ⟨q5, c6, h⟩ := zbd h
  refine r_invV (as := [zI (1 : Int32)]) C 12 (S_Mo_has c6) (z_d dd_Mo_frame 8 rfl) ok_Mo_has iv_Mo_has se_Mo_has ml_Mo_235 rfl rfl h4 rfl rfl rfl (Nat.le_of_ble_eq_true rfl) ⟨(Nat.le_of_ble_eq_true rfl), (Nat.le_of_ble_eq_true rfl)⟩ ⟨(Nat.le_of_ble_eq_true rfl), (Nat.le_of_ble_eq_true rfl)⟩ ?_
  refine r_if_ne C 20 (z_d dd_Mo_frame 9 rfl) (by decide) (fun c24 => ?_) (fun c24 => ?_)
  · have h := ziff h c24
    refine r_aload_n C (z_d dd_Mo_frame 12 rfl) rfl ?_
    refine r_dupP C (z_d dd_Mo_frame 13 rfl) ?_
    obtain ⟨h7, h⟩ := zif h
    refine r_getI C (z_d dd_Mo_frame 14 rfl) lk_Mo_216 rfl h7 rfl ?_
    refine r_iconst (v := (1 : Int32)) C (z_d dd_Mo_frame 15 rfl) (by decide) ?_
    refine r_iadd C (z_d dd_Mo_frame 16 rfl) ?_
    obtain ⟨M8, e9, h⟩ := zlet_ex h
    have h10 := k_i e9 h7
    refine r_putI C (z_d dd_Mo_frame 17 rfl) lp_Mo_216 rfl h7 e9 ?_
    refine r_aload_n C (z_d dd_Mo_frame 18 rfl) rfl ?_
    refine r_getP C (z_d dd_Mo_frame 19 rfl) lk_Mo_7 rfl h10 rfl ?_
    refine r_aload_n C (z_d dd_Mo_frame 20 rfl) rfl ?_
    refine r_getI C (z_d dd_Mo_frame 21 rfl) lk_Mo_204 rfl h10 rfl ?_
    obtain ⟨h11, h⟩ := zif h
    obtain ⟨h12, h⟩ := zif h
    refine r_iald C (z_d dd_Mo_frame 22 rfl) h11 h12 rfl ?_
    obtain ⟨v13, e14, h⟩ := zlet_ex h
    refine r_nmI e14 ?_
    refine r_istore_n (lv' := [some (zP l0), some (zI v13), none, none, none, none, none, none, none, none, none]) C (z_d dd_Mo_frame 23 rfl) (Nat.le_of_ble_eq_true rfl) rfl ?_
    refine r_iload_n C (z_d dd_Mo_frame 24 rfl) rfl ?_
    refine r_bipush (v := (8 : Int32)) C (z_d dd_Mo_frame 25 rfl) (by decide) ?_
    refine r_idiv C (z_d dd_Mo_frame 26 rfl) (by decide) ?_
    refine r_iconst (v := (2 : Int32)) C (z_d dd_Mo_frame 27 rfl) (by decide) ?_
    refine r_irem C (z_d dd_Mo_frame 28 rfl) (by decide) ?_
    refine r_iconst (v := (1 : Int32)) C (z_d dd_Mo_frame 29 rfl) (by decide) ?_
    refine r_icmp_ne C 60 (z_d dd_Mo_frame 30 rfl) (by decide) (fun c23 => ?_) (fun c23 => ?_)
    · have h := ziff h c23
      refine r_aload_n C (z_d dd_Mo_frame 37 rfl) rfl ?_
      refine r_dupP C (z_d dd_Mo_frame 38 rfl) ?_
      refine r_getI C (z_d dd_Mo_frame 39 rfl) lk_Mo_204 rfl h10 rfl ?_
      refine r_iconst (v := (1 : Int32)) C (z_d dd_Mo_frame 40 rfl) (by decide) ?_
      refine r_iadd C (z_d dd_Mo_frame 41 rfl) ?_
      obtain ⟨M15, e16, h⟩ := zlet_ex h
      have h17 := k_i e16 h10
      have h18 := k_i e16 h11
      refine r_putI C (z_d dd_Mo_frame 42 rfl) lp_Mo_204 rfl h10 e16 ?_
      refine r_iload_n C (z_d dd_Mo_frame 43 rfl) rfl ?_
      refine r_bipush (v := (32 : Int32)) C (z_d dd_Mo_frame 44 rfl) (by decide) ?_
      refine r_idiv C (z_d dd_Mo_frame 45 rfl) (by decide) ?_
      refine r_iconst (v := (2 : Int32)) C (z_d dd_Mo_frame 46 rfl) (by decide) ?_
      refine r_irem C (z_d dd_Mo_frame 47 rfl) (by decide) ?_
      refine r_iconst (v := (1 : Int32)) C (z_d dd_Mo_frame 48 rfl) (by decide) ?_
      refine r_icmp_ne C 84 (z_d dd_Mo_frame 49 rfl) (by decide) (fun c19 => ?_) (fun c19 => ?_)
      · have h := ziff h c19
        refine r_iconst (v := (0 : Int32)) C (z_d dd_Mo_frame 52 rfl) (by decide) ?_
        exact s_Mo_frame_85 C hr E n l0 v13 (0 : Int32) M15 h
      · have h := zift h c19
        refine r_iconst (v := (1 : Int32)) C (z_d dd_Mo_frame 50 rfl) (by decide) ?_
        refine r_goto C 85 (z_d dd_Mo_frame 51 rfl) (by decide) ?_
        exact s_Mo_frame_85 C hr E n l0 v13 (1 : Int32) M15 h
    · have h := zift h c23
      refine r_aload_n C (z_d dd_Mo_frame 31 rfl) rfl ?_
      refine r_iconst (v := (3 : Int32)) C (z_d dd_Mo_frame 32 rfl) (by decide) ?_
      refine r_aload_n C (z_d dd_Mo_frame 33 rfl) rfl ?_
      refine r_getI C (z_d dd_Mo_frame 34 rfl) lk_Mo_204 rfl h10 rfl ?_
      obtain ⟨q20, c21, h⟩ := zbd h
      refine r_invV (as := [zI (3 : Int32), zI (z_i M8 l0 28)]) C 12 (S_Mo_wrong c21) (z_d dd_Mo_frame 35 rfl) ok_Mo_wrong iv_Mo_wrong se_Mo_wrong ml_Mo_207 rfl rfl h10 rfl rfl rfl (Nat.le_of_ble_eq_true rfl) ⟨(Nat.le_of_ble_eq_true rfl), (Nat.le_of_ble_eq_true rfl)⟩ ⟨(Nat.le_of_ble_eq_true rfl), (Nat.le_of_ble_eq_true rfl)⟩ ?_
      obtain ⟨h22, h⟩ := zif h
      obtain rfl := z_res h
      exact r_iretZ C E hr (z_d dd_Mo_frame 36 rfl) h22 (Nat.le_of_ble_eq_true rfl) (Nat.le_of_ble_eq_true rfl)
  · have h := zift h c24
    refine r_iconst (v := (0 : Int32)) C (z_d dd_Mo_frame 10 rfl) (by decide) ?_
    obtain rfl := z_res h
    exact r_iretZ C E hr (z_d dd_Mo_frame 11 rfl) (by decide) (Nat.le_of_ble_eq_true rfl) (Nat.le_of_ble_eq_true rfl)
def F_Mo_frame (O : zO) (n : Nat) (l0 : Nat) (M : zM) : Option (Int32 × zM) := f_Mo_frame_0 O n l0 M
theorem S_Mo_frame {l : Launch} {D : zD} {n : Nat} {l0 : Nat} {M : zM} {q : Int32 × zM} (h : F_Mo_frame D.2.2.2.2 n l0 M = some q) : zMet l D mi_Mo_frame [zP l0] M (some (zI q.1)) q.2 :=
  z_met (by decide) (Nat.le_of_ble_eq_true rfl) (fun X C E hr hin hD hl => by
    subst hD
    exact s_Mo_frame_0 C hr E n l0 M h)
