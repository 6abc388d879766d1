def f_Mo_run_3 (O : zO) : Nat → Nat → Int32 → Int32 → Int32 → Int32 → Int32 → zM → Option (Int32 × zM)
  | 0, _, _, _, _, _, _, _ => none
  | n + 1, l0, l1, l2, l3, l4, l5, M =>
    if l3 ≤ l5 then
    some ((l2 + l3), M)
    else
    if z_k M l0 = 13 then
    if z_k M (z_p M l0 15) = 100 then
    if zin ((((64 : Int32) * l1) + l2) + l5) (z_n M (z_p M l0 15)) = true then
    zlet (w_i M (z_p M l0 15) ((((64 : Int32) * l1) + l2) + l5).toNatClampNeg l4) fun M4 =>
    zlet (l5 + (1 : Int32)) fun v8 =>
    f_Mo_run_3 O n l0 l1 l2 l3 l4 v8 M4
    else none
    else none
    else none
set_option maxRecDepth 100000 in
set_option maxHeartbeats 4000000 in
theorem s_Mo_run_3 {X : zX} {q : Int32 × zM} (C : zC X zR12 prog_14_method_13_code 6 { frames := 0, cells := 0, slots := 0, locals := 0 }) (hr : zRt X (some .int)) (E : zE X (some (zI q.1)) q.2 0 0) : ∀ (n : Nat) (l0 : Nat) (l1 : Int32) (l2 : Int32) (l3 : Int32) (l4 : Int32) (l5 : Int32) (M : zM), f_Mo_run_3 (zOD X) n l0 l1 l2 l3 l4 l5 M = some q → zW X 0 0 3 [some (zP l0), some (zI l1), some (zI l2), some (zI l3), some (zI l4), some (zI l5)] [] M := by
  intro n
  induction n with
  | zero => intro l0 l1 l2 l3 l4 l5 M h; rw [f_Mo_run_3] at h; cases h
  | succ n ih =>
    intro l0 l1 l2 l3 l4 l5 M h
    rw [f_Mo_run_3] at h
    refine r_iload C (z_d dd_Mo_run 2 rfl) rfl ?_
    refine r_iload_n C (z_d dd_Mo_run 3 rfl) rfl ?_
    refine r_icmp_ge C 31 (z_d dd_Mo_run 4 rfl) (by decide) (fun c10 => ?_) (fun c10 => ?_)
    · have h := zift h c10
      refine r_iload_n C (z_d dd_Mo_run 18 rfl) rfl ?_
      refine r_iload_n C (z_d dd_Mo_run 19 rfl) rfl ?_
      refine r_iadd C (z_d dd_Mo_run 20 rfl) ?_
      obtain rfl := z_res h
      exact r_iretI C E hr (z_d dd_Mo_run 21 rfl) (Nat.le_of_ble_eq_true rfl) (Nat.le_of_ble_eq_true rfl)
    · have h := ziff h c10
      refine r_aload_n C (z_d dd_Mo_run 5 rfl) rfl ?_
      obtain ⟨h1, h⟩ := zif h
      refine r_getP C (z_d dd_Mo_run 6 rfl) lk_Mo_39 rfl h1 rfl ?_
      refine r_bipush (v := (64 : Int32)) C (z_d dd_Mo_run 7 rfl) (by decide) ?_
      refine r_iload_n C (z_d dd_Mo_run 8 rfl) rfl ?_
      refine r_imul C (z_d dd_Mo_run 9 rfl) ?_
      refine r_iload_n C (z_d dd_Mo_run 10 rfl) rfl ?_
      refine r_iadd C (z_d dd_Mo_run 11 rfl) ?_
      refine r_iload C (z_d dd_Mo_run 12 rfl) rfl ?_
      refine r_iadd C (z_d dd_Mo_run 13 rfl) ?_
      refine r_iload C (z_d dd_Mo_run 14 rfl) rfl ?_
      obtain ⟨h2, h⟩ := zif h
      obtain ⟨h3, h⟩ := zif h
      obtain ⟨M4, e5, h⟩ := zlet_ex h
      have h6 := k_i e5 h1
      have h7 := k_i e5 h2
      refine r_iast C (z_d dd_Mo_run 15 rfl) h2 h3 e5 ?_
      obtain ⟨v8, e9, h⟩ := zlet_ex h
      refine r_iinc (v := v8) (lv' := [some (zP l0), some (zI l1), some (zI l2), some (zI l3), some (zI l4), some (zI v8)]) C (z_d dd_Mo_run 16 rfl) rfl (Nat.le_of_ble_eq_true rfl) (by rw [e9]; rfl) rfl ?_
      refine r_goto C 3 (z_d dd_Mo_run 17 rfl) (by decide) ?_
      exact ih l0 l1 l2 l3 l4 v8 M4 h
def f_Mo_run_0 (O : zO) (n : Nat) (l0 : Nat) (l1 : Int32) (l2 : Int32) (l3 : Int32) (l4 : Int32) (M : zM) : Option (Int32 × zM) :=
  f_Mo_run_3 O n l0 l1 l2 l3 l4 (0 : Int32) M
set_option maxRecDepth 100000 in
set_option maxHeartbeats 4000000 in
theorem s_Mo_run_0 {X : zX} {q : Int32 × zM} (C : zC X zR12 prog_14_method_13_code 6 { frames := 0, cells := 0, slots := 0, locals := 0 }) (hr : zRt X (some .int)) (E : zE X (some (zI q.1)) q.2 0 0) : ∀ (n : Nat) (l0 : Nat) (l1 : Int32) (l2 : Int32) (l3 : Int32) (l4 : Int32) (M : zM), f_Mo_run_0 (zOD X) n l0 l1 l2 l3 l4 M = some q → zW X 0 0 0 [some (zP l0), some (zI l1), some (zI l2), some (zI l3), some (zI l4), none] [] M := by
  intro n l0 l1 l2 l3 l4 M h
  rw [f_Mo_run_0] at h
  refine r_iconst (v := (0 : Int32)) C (z_d dd_Mo_run 0 rfl) (by decide) ?_
  refine r_istore (lv' := [some (zP l0), some (zI l1), some (zI l2), some (zI l3), some (zI l4), some (zI (0 : Int32))]) C (z_d dd_Mo_run 1 rfl) (Nat.le_of_ble_eq_true rfl) rfl ?_
  exact s_Mo_run_3 C hr E n l0 l1 l2 l3 l4 (0 : Int32) M h
def F_Mo_run (O : zO) (n : Nat) (l0 : Nat) (l1 : Int32) (l2 : Int32) (l3 : Int32) (l4 : Int32) (M : zM) : Option (Int32 × zM) := f_Mo_run_0 O n l0 l1 l2 l3 l4 M
theorem S_Mo_run {l : Launch} {D : zD} {n : Nat} {l0 : Nat} {l1 : Int32} {l2 : Int32} {l3 : Int32} {l4 : Int32} {M : zM} {q : Int32 × zM} (h : F_Mo_run D.2.2.2.2 n l0 l1 l2 l3 l4 M = some q) : zMet l D mi_Mo_run [zP l0, zI l1, zI l2, zI l3, zI l4] M (some (zI q.1)) q.2 :=
  z_met (by decide) (Nat.le_of_ble_eq_true rfl) (fun X C E hr hin hD hl => by
    subst hD
    exact s_Mo_run_0 C hr E n l0 l1 l2 l3 l4 M h)

def f_Mo_know_193 (O : zO) (n : Nat) (l0 : Nat) (l1 : Int32) (s0 : Nat) (s1 : Int32) (s2 : Int32) (M : zM) : Option (Unit × zM) :=
  if z_k M s0 = 100 then
  if zin s1 (z_n M s0) = true then
  zlet (w_i M s0 s1.toNatClampNeg s2) fun M3 =>
  if z_k M3 l0 = 13 then
  (F_Mo_layTable O n l0 l1 M3).bind fun q7 =>
  some ((), q7.2)
  else none
  else none
  else none
set_option maxRecDepth 100000 in
set_option maxHeartbeats 4000000 in
theorem s_Mo_know_193 {X : zX} {q : Unit × zM} (C : zC X zR12 prog_14_method_14_code 3 { frames := 3, cells := 0, slots := 0, locals := 79 }) (hr : zRt X none) (E : zE X none q.2 0 0) : ∀ (n : Nat) (l0 : Nat) (l1 : Int32) (s0 : Nat) (s1 : Int32) (s2 : Int32) (M : zM), f_Mo_know_193 (zOD X) n l0 l1 s0 s1 s2 M = some q → zW X 0 0 193 [some (zP l0), some (zI l1), none] [zI s2, zI s1, zP s0] M := by
  intro n l0 l1 s0 s1 s2 M h
  rw [f_Mo_know_193] at h
  obtain ⟨h1, h⟩ := zif h
  obtain ⟨h2, h⟩ := zif h
  obtain ⟨M3, e4, h⟩ := zlet_ex h
  have h5 := k_i e4 h1
  refine r_iast C (z_d dd_Mo_know 130 rfl) h1 h2 e4 ?_
  refine r_aload_n C (z_d dd_Mo_know 131 rfl) rfl ?_
  refine r_iload_n C (z_d dd_Mo_know 132 rfl) rfl ?_
  obtain ⟨h6, h⟩ := zif h
  obtain ⟨q7, c8, h⟩ := zbd h
  refine r_invV (as := [zI l1]) C 12 (S_Mo_layTable c8) (z_d dd_Mo_know 133 rfl) ok_Mo_layTable iv_Mo_layTable se_Mo_layTable ml_Mo_105 rfl rfl h6 rfl rfl rfl (Nat.le_of_ble_eq_true rfl) ⟨(Nat.le_of_ble_eq_true rfl), (Nat.le_of_ble_eq_true rfl)⟩ ⟨(Nat.le_of_ble_eq_true rfl), (Nat.le_of_ble_eq_true rfl)⟩ ?_
  obtain rfl := z_res h
  exact r_vret C E hr (z_d dd_Mo_know 134 rfl) (Nat.le_of_ble_eq_true rfl) (Nat.le_of_ble_eq_true rfl)
def f_Mo_know_177 (O : zO) (n : Nat) (l0 : Nat) (l1 : Int32) (M : zM) : Option (Unit × zM) :=
  if z_k M l0 = 13 then
  if l1 = (1 : Int32) then
  f_Mo_know_193 O n l0 l1 (z_p M l0 16) l1 (5 : Int32) M
  else
  f_Mo_know_193 O n l0 l1 (z_p M l0 16) l1 (6 : Int32) M
  else none
set_option maxRecDepth 100000 in
set_option maxHeartbeats 4000000 in
theorem s_Mo_know_177 {X : zX} {q : Unit × zM} (C : zC X zR12 prog_14_method_14_code 3 { frames := 3, cells := 0, slots := 0, locals := 79 }) (hr : zRt X none) (E : zE X none q.2 0 0) : ∀ (n : Nat) (l0 : Nat) (l1 : Int32) (M : zM), f_Mo_know_177 (zOD X) n l0 l1 M = some q → zW X 0 0 177 [some (zP l0), some (zI l1), none] [] M := by
  intro n l0 l1 M h
  rw [f_Mo_know_177] at h
  refine r_aload_n C (z_d dd_Mo_know 121 rfl) rfl ?_
  obtain ⟨h1, h⟩ := zif h
  refine r_getP C (z_d dd_Mo_know 122 rfl) lk_Mo_42 rfl h1 rfl ?_
  refine r_iload_n C (z_d dd_Mo_know 123 rfl) rfl ?_
  refine r_iload_n C (z_d dd_Mo_know 124 rfl) rfl ?_
  refine r_iconst (v := (1 : Int32)) C (z_d dd_Mo_know 125 rfl) (by decide) ?_
  refine r_icmp_ne C 191 (z_d dd_Mo_know 126 rfl) (by decide) (fun c2 => ?_) (fun c2 => ?_)
  · have h := ziff h c2
    refine r_bipush (v := (6 : Int32)) C (z_d dd_Mo_know 129 rfl) (by decide) ?_
    exact s_Mo_know_193 C hr E n l0 l1 (z_p M l0 16) l1 (6 : Int32) M h
  · have h := zift h c2
    refine r_iconst (v := (5 : Int32)) C (z_d dd_Mo_know 127 rfl) (by decide) ?_
    refine r_goto C 193 (z_d dd_Mo_know 128 rfl) (by decide) ?_
    exact s_Mo_know_193 C hr E n l0 l1 (z_p M l0 16) l1 (5 : Int32) M h
def f_Mo_know_0 (O : zO) (n : Nat) (l0 : Nat) (l1 : Int32) (M : zM) : Option (Unit × zM) :=
  if z_k M l0 = 13 then
  (F_Mo_run O n l0 l1 (0 : Int32) (64 : Int32) (0 : Int32) M).bind fun q2 =>
  if l1 = 0 then
  if z_k q2.2 l0 = 13 then
  (F_Mo_run O n l0 l1 (0 : Int32) (1 : Int32) (4 : Int32) q2.2).bind fun q36 =>
  if z_k q36.2 l0 = 13 then
  (F_Mo_run O n l0 l1 q36.1 (1 : Int32) (3 : Int32) q36.2).bind fun q39 =>
  if z_k q39.2 l0 = 13 then
  (F_Mo_run O n l0 l1 q39.1 (11 : Int32) (2 : Int32) q39.2).bind fun q42 =>
  if z_k q42.2 l0 = 13 then
  (F_Mo_run O n l0 l1 q42.1 (3 : Int32) (1 : Int32) q42.2).bind fun q45 =>
  if z_k q45.2 l0 = 13 then
  (F_Mo_run O n l0 l1 q45.1 (9 : Int32) (2 : Int32) q45.2).bind fun q48 =>
  if z_k q48.2 l0 = 13 then
  (F_Mo_run O n l0 l1 q48.1 (1 : Int32) (3 : Int32) q48.2).bind fun q51 =>
  if z_k q51.2 l0 = 13 then
  (F_Mo_run O n l0 l1 q51.1 (1 : Int32) (2 : Int32) q51.2).bind fun q54 =>
  if z_k q54.2 l0 = 13 then
  (F_Mo_run O n l0 l1 q54.1 (5 : Int32) (1 : Int32) q54.2).bind fun q57 =>
  if z_k q57.2 l0 = 13 then
  (F_Mo_run O n l0 l1 q57.1 (4 : Int32) (-1 : Int32) q57.2).bind fun q60 =>
  f_Mo_know_177 O n l0 l1 q60.2
  else none
  else none
  else none
  else none
  else none
  else none
  else none
  else none
  else none
  else
  if l1 = (1 : Int32) then
  if z_k q2.2 l0 = 13 then
  (F_Mo_run O n l0 l1 (0 : Int32) (6 : Int32) (1 : Int32) q2.2).bind fun q23 =>
  if z_k q23.2 l0 = 13 then
  (F_Mo_run O n l0 l1 q23.1 (3 : Int32) (2 : Int32) q23.2).bind fun q26 =>
  if z_k q26.2 l0 = 13 then
  (F_Mo_run O n l0 l1 q26.1 (15 : Int32) (1 : Int32) q26.2).bind fun q29 =>
  if z_k q29.2 l0 = 13 then
  (F_Mo_run O n l0 l1 q29.1 (5 : Int32) (-1 : Int32) q29.2).bind fun q32 =>
  f_Mo_know_177 O n l0 l1 q32.2
  else none
  else none
  else none
  else none
  else
  if z_k q2.2 l0 = 13 then
  (F_Mo_run O n l0 l1 (0 : Int32) (1 : Int32) (1 : Int32) q2.2).bind fun q5 =>
  if z_k q5.2 l0 = 13 then
  (F_Mo_run O n l0 l1 q5.1 (1 : Int32) (4 : Int32) q5.2).bind fun q8 =>
  if z_k q8.2 l0 = 13 then
  (F_Mo_run O n l0 l1 q8.1 (1 : Int32) (3 : Int32) q8.2).bind fun q11 =>
  if z_k q11.2 l0 = 13 then
  (F_Mo_run O n l0 l1 q11.1 (6 : Int32) (2 : Int32) q11.2).bind fun q14 =>
  if z_k q14.2 l0 = 13 then
  (F_Mo_run O n l0 l1 q14.1 (37 : Int32) (1 : Int32) q14.2).bind fun q17 =>
  if z_k q17.2 l0 = 13 then
  (F_Mo_run O n l0 l1 q17.1 (7 : Int32) (-1 : Int32) q17.2).bind fun q20 =>
  f_Mo_know_177 O n l0 l1 q20.2
  else none
  else none
  else none
  else none
  else none
  else none
  else none
set_option maxRecDepth 100000 in
set_option maxHeartbeats 4000000 in
theorem s_Mo_know_0 {X : zX} {q : Unit × zM} (C : zC X zR12 prog_14_method_14_code 3 { frames := 3, cells := 0, slots := 0, locals := 79 }) (hr : zRt X none) (E : zE X none q.2 0 0) : ∀ (n : Nat) (l0 : Nat) (l1 : Int32) (M : zM), f_Mo_know_0 (zOD X) n l0 l1 M = some q → zW X 0 0 0 [some (zP l0), some (zI l1), none] [] M := by
  intro n l0 l1 M h
  rw [f_Mo_know_0] at h
  refine r_aload_n C (z_d dd_Mo_know 0 rfl) rfl ?_
  refine r_iload_n C (z_d dd_Mo_know 1 rfl) rfl ?_
  refine r_iconst (v := (0 : Int32)) C (z_d dd_Mo_know 2 rfl) (by decide) ?_
  refine r_bipush (v := (64 : Int32)) C (z_d dd_Mo_know 3 rfl) (by decide) ?_
  refine r_iconst (v := (0 : Int32)) C (z_d dd_Mo_know 4 rfl) (by decide) ?_
  obtain ⟨h1, h⟩ := zif h
  obtain ⟨q2, c3, h⟩ := zbd h
  refine r_invV (as := [zI l1, zI (0 : Int32), zI (64 : Int32), zI (0 : Int32)]) C 12 (S_Mo_run c3) (z_d dd_Mo_know 5 rfl) ok_Mo_run iv_Mo_run se_Mo_run ml_Mo_109 rfl rfl h1 rfl rfl rfl (Nat.le_of_ble_eq_true rfl) ⟨(Nat.le_of_ble_eq_true rfl), (Nat.le_of_ble_eq_true rfl)⟩ ⟨(Nat.le_of_ble_eq_true rfl), (Nat.le_of_ble_eq_true rfl)⟩ ?_
  refine r_istore_n (lv' := [some (zP l0), some (zI l1), some (zI q2.1)]) C (z_d dd_Mo_know 6 rfl) (Nat.le_of_ble_eq_true rfl) rfl ?_
  refine r_iload_n C (z_d dd_Mo_know 7 rfl) rfl ?_
  refine r_if_ne C 88 (z_d dd_Mo_know 8 rfl) (by decide) (fun c62 => ?_) (fun c62 => ?_)
  · have h := ziff h c62
    refine r_iload_n C (z_d dd_Mo_know 61 rfl) rfl ?_
    refine r_iconst (v := (1 : Int32)) C (z_d dd_Mo_know 62 rfl) (by decide) ?_
    refine r_icmp_ne C 128 (z_d dd_Mo_know 63 rfl) (by decide) (fun c34 => ?_) (fun c34 => ?_)
    · have h := ziff h c34
      refine r_aload_n C (z_d dd_Mo_know 87 rfl) rfl ?_
      refine r_iload_n C (z_d dd_Mo_know 88 rfl) rfl ?_
      refine r_aload_n C (z_d dd_Mo_know 89 rfl) rfl ?_
      refine r_iload_n C (z_d dd_Mo_know 90 rfl) rfl ?_
      refine r_aload_n C (z_d dd_Mo_know 91 rfl) rfl ?_
      refine r_iload_n C (z_d dd_Mo_know 92 rfl) rfl ?_
      refine r_iconst (v := (0 : Int32)) C (z_d dd_Mo_know 93 rfl) (by decide) ?_
      refine r_iconst (v := (1 : Int32)) C (z_d dd_Mo_know 94 rfl) (by decide) ?_
      refine r_iconst (v := (1 : Int32)) C (z_d dd_Mo_know 95 rfl) (by decide) ?_
      obtain ⟨h4, h⟩ := zif h
      obtain ⟨q5, c6, h⟩ := zbd h
      refine r_invV (as := [zI l1, zI (0 : Int32), zI (1 : Int32), zI (1 : Int32)]) C 12 (S_Mo_run c6) (z_d dd_Mo_know 96 rfl) ok_Mo_run iv_Mo_run se_Mo_run ml_Mo_109 rfl rfl h4 rfl rfl rfl (Nat.le_of_ble_eq_true rfl) ⟨(Nat.le_of_ble_eq_true rfl), (Nat.le_of_ble_eq_true rfl)⟩ ⟨(Nat.le_of_ble_eq_true rfl), (Nat.le_of_ble_eq_true rfl)⟩ ?_
      refine r_iconst (v := (1 : Int32)) C (z_d dd_Mo_know 97 rfl) (by decide) ?_
      refine r_iconst (v := (4 : Int32)) C (z_d dd_Mo_know 98 rfl) (by decide) ?_
      obtain ⟨h7, h⟩ := zif h
      obtain ⟨q8, c9, h⟩ := zbd h
      refine r_invV (as := [zI l1, zI q5.1, zI (1 : Int32), zI (4 : Int32)]) C 12 (S_Mo_run c9) (z_d dd_Mo_know 99 rfl) ok_Mo_run iv_Mo_run se_Mo_run ml_Mo_109 rfl rfl h7 rfl rfl rfl (Nat.le_of_ble_eq_true rfl) ⟨(Nat.le_of_ble_eq_true rfl), (Nat.le_of_ble_eq_true rfl)⟩ ⟨(Nat.le_of_ble_eq_true rfl), (Nat.le_of_ble_eq_true rfl)⟩ ?_
      refine r_iconst (v := (1 : Int32)) C (z_d dd_Mo_know 100 rfl) (by decide) ?_
      refine r_iconst (v := (3 : Int32)) C (z_d dd_Mo_know 101 rfl) (by decide) ?_
      obtain ⟨h10, h⟩ := zif h
      obtain ⟨q11, c12, h⟩ := zbd h
      refine r_invV (as := [zI l1, zI q8.1, zI (1 : Int32), zI (3 : Int32)]) C 12 (S_Mo_run c12) (z_d dd_Mo_know 102 rfl) ok_Mo_run iv_Mo_run se_Mo_run ml_Mo_109 rfl rfl h10 rfl rfl rfl (Nat.le_of_ble_eq_true rfl) ⟨(Nat.le_of_ble_eq_true rfl), (Nat.le_of_ble_eq_true rfl)⟩ ⟨(Nat.le_of_ble_eq_true rfl), (Nat.le_of_ble_eq_true rfl)⟩ ?_
      refine r_istore_n (lv' := [some (zP l0), some (zI l1), some (zI q11.1)]) C (z_d dd_Mo_know 103 rfl) (Nat.le_of_ble_eq_true rfl) rfl ?_
      refine r_aload_n C (z_d dd_Mo_know 104 rfl) rfl ?_
      refine r_iload_n C (z_d dd_Mo_know 105 rfl) rfl ?_
      refine r_aload_n C (z_d dd_Mo_know 106 rfl) rfl ?_
      refine r_iload_n C (z_d dd_Mo_know 107 rfl) rfl ?_
      refine r_aload_n C (z_d dd_Mo_know 108 rfl) rfl ?_
      refine r_iload_n C (z_d dd_Mo_know 109 rfl) rfl ?_
      refine r_iload_n C (z_d dd_Mo_know 110 rfl) rfl ?_
      refine r_bipush (v := (6 : Int32)) C (z_d dd_Mo_know 111 rfl) (by decide) ?_
      refine r_iconst (v := (2 : Int32)) C (z_d dd_Mo_know 112 rfl) (by decide) ?_
      obtain ⟨h13, h⟩ := zif h
      obtain ⟨q14, c15, h⟩ := zbd h
      refine r_invV (as := [zI l1, zI q11.1, zI (6 : Int32), zI (2 : Int32)]) C 12 (S_Mo_run c15) (z_d dd_Mo_know 113 rfl) ok_Mo_run iv_Mo_run se_Mo_run ml_Mo_109 rfl rfl h13 rfl rfl rfl (Nat.le_of_ble_eq_true rfl) ⟨(Nat.le_of_ble_eq_true rfl), (Nat.le_of_ble_eq_true rfl)⟩ ⟨(Nat.le_of_ble_eq_true rfl), (Nat.le_of_ble_eq_true rfl)⟩ ?_
      refine r_bipush (v := (37 : Int32)) C (z_d dd_Mo_know 114 rfl) (by decide) ?_
      refine r_iconst (v := (1 : Int32)) C (z_d dd_Mo_know 115 rfl) (by decide) ?_
      obtain ⟨h16, h⟩ := zif h
      obtain ⟨q17, c18, h⟩ := zbd h
      refine r_invV (as := [zI l1, zI q14.1, zI (37 : Int32), zI (1 : Int32)]) C 12 (S_Mo_run c18) (z_d dd_Mo_know 116 rfl) ok_Mo_run iv_Mo_run se_Mo_run ml_Mo_109 rfl rfl h16 rfl rfl rfl (Nat.le_of_ble_eq_true rfl) ⟨(Nat.le_of_ble_eq_true rfl), (Nat.le_of_ble_eq_true rfl)⟩ ⟨(Nat.le_of_ble_eq_true rfl), (Nat.le_of_ble_eq_true rfl)⟩ ?_
      refine r_bipush (v := (7 : Int32)) C (z_d dd_Mo_know 117 rfl) (by decide) ?_
      refine r_iconst (v := (-1 : Int32)) C (z_d dd_Mo_know 118 rfl) (by decide) ?_
      obtain ⟨h19, h⟩ := zif h
      obtain ⟨q20, c21, h⟩ := zbd h
      refine r_invV (as := [zI l1, zI q17.1, zI (7 : Int32), zI (-1 : Int32)]) C 12 (S_Mo_run c21) (z_d dd_Mo_know 119 rfl) ok_Mo_run iv_Mo_run se_Mo_run ml_Mo_109 rfl rfl h19 rfl rfl rfl (Nat.le_of_ble_eq_true rfl) ⟨(Nat.le_of_ble_eq_true rfl), (Nat.le_of_ble_eq_true rfl)⟩ ⟨(Nat.le_of_ble_eq_true rfl), (Nat.le_of_ble_eq_true rfl)⟩ ?_
      refine r_istore_n (lv' := [some (zP l0), some (zI l1), some (zI q20.1)]) C (z_d dd_Mo_know 120 rfl) (Nat.le_of_ble_eq_true rfl) rfl ?_
      refine r_mk [true, true, false] ?_
      exact s_Mo_know_177 C hr E n l0 l1 q20.2 h
    · have h := zift h c34
      refine r_aload_n C (z_d dd_Mo_know 64 rfl) rfl ?_
      refine r_iload_n C (z_d dd_Mo_know 65 rfl) rfl ?_
      refine r_aload_n C (z_d dd_Mo_know 66 rfl) rfl ?_
      refine r_iload_n C (z_d dd_Mo_know 67 rfl) rfl ?_
      refine r_aload_n C (z_d dd_Mo_know 68 rfl) rfl ?_
      refine r_iload_n C (z_d dd_Mo_know 69 rfl) rfl ?_
      refine r_aload_n C (z_d dd_Mo_know 70 rfl) rfl ?_
      refine r_iload_n C (z_d dd_Mo_know 71 rfl) rfl ?_
      refine r_iconst (v := (0 : Int32)) C (z_d dd_Mo_know 72 rfl) (by decide) ?_
      refine r_bipush (v := (6 : Int32)) C (z_d dd_Mo_know 73 rfl) (by decide) ?_
      refine r_iconst (v := (1 : Int32)) C (z_d dd_Mo_know 74 rfl) (by decide) ?_
      obtain ⟨h22, h⟩ := zif h
      obtain ⟨q23, c24, h⟩ := zbd h
      refine r_invV (as := [zI l1, zI (0 : Int32), zI (6 : Int32), zI (1 : Int32)]) C 12 (S_Mo_run c24) (z_d dd_Mo_know 75 rfl) ok_Mo_run iv_Mo_run se_Mo_run ml_Mo_109 rfl rfl h22 rfl rfl rfl (Nat.le_of_ble_eq_true rfl) ⟨(Nat.le_of_ble_eq_true rfl), (Nat.le_of_ble_eq_true rfl)⟩ ⟨(Nat.le_of_ble_eq_true rfl), (Nat.le_of_ble_eq_true rfl)⟩ ?_
      refine r_iconst (v := (3 : Int32)) C (z_d dd_Mo_know 76 rfl) (by decide) ?_
      refine r_iconst (v := (2 : Int32)) C (z_d dd_Mo_know 77 rfl) (by decide) ?_
      obtain ⟨h25, h⟩ := zif h
      obtain ⟨q26, c27, h⟩ := zbd h
      refine r_invV (as := [zI l1, zI q23.1, zI (3 : Int32), zI (2 : Int32)]) C 12 (S_Mo_run c27) (z_d dd_Mo_know 78 rfl) ok_Mo_run iv_Mo_run se_Mo_run ml_Mo_109 rfl rfl h25 rfl rfl rfl (Nat.le_of_ble_eq_true rfl) ⟨(Nat.le_of_ble_eq_true rfl), (Nat.le_of_ble_eq_true rfl)⟩ ⟨(Nat.le_of_ble_eq_true rfl), (Nat.le_of_ble_eq_true rfl)⟩ ?_
      refine r_bipush (v := (15 : Int32)) C (z_d dd_Mo_know 79 rfl) (by decide) ?_
      refine r_iconst (v := (1 : Int32)) C (z_d dd_Mo_know 80 rfl) (by decide) ?_
      obtain ⟨h28, h⟩ := zif h
      obtain ⟨q29, c30, h⟩ := zbd h
      refine r_invV (as := [zI l1, zI q26.1, zI (15 : Int32), zI (1 : Int32)]) C 12 (S_Mo_run c30) (z_d dd_Mo_know 81 rfl) ok_Mo_run iv_Mo_run se_Mo_run ml_Mo_109 rfl rfl h28 rfl rfl rfl (Nat.le_of_ble_eq_true rfl) ⟨(Nat.le_of_ble_eq_true rfl), (Nat.le_of_ble_eq_true rfl)⟩ ⟨(Nat.le_of_ble_eq_true rfl), (Nat.le_of_ble_eq_true rfl)⟩ ?_
      refine r_iconst (v := (5 : Int32)) C (z_d dd_Mo_know 82 rfl) (by decide) ?_
      refine r_iconst (v := (-1 : Int32)) C (z_d dd_Mo_know 83 rfl) (by decide) ?_
      obtain ⟨h31, h⟩ := zif h
      obtain ⟨q32, c33, h⟩ := zbd h
      refine r_invV (as := [zI l1, zI q29.1, zI (5 : Int32), zI (-1 : Int32)]) C 12 (S_Mo_run c33) (z_d dd_Mo_know 84 rfl) ok_Mo_run iv_Mo_run se_Mo_run ml_Mo_109 rfl rfl h31 rfl rfl rfl (Nat.le_of_ble_eq_true rfl) ⟨(Nat.le_of_ble_eq_true rfl), (Nat.le_of_ble_eq_true rfl)⟩ ⟨(Nat.le_of_ble_eq_true rfl), (Nat.le_of_ble_eq_true rfl)⟩ ?_
      refine r_istore_n (lv' := [some (zP l0), some (zI l1), some (zI q32.1)]) C (z_d dd_Mo_know 85 rfl) (Nat.le_of_ble_eq_true rfl) rfl ?_
      refine r_goto C 177 (z_d dd_Mo_know 86 rfl) (by decide) ?_
      refine r_mk [true, true, false] ?_
      exact s_Mo_know_177 C hr E n l0 l1 q32.2 h
  · have h := zift h c62
    refine r_aload_n C (z_d dd_Mo_know 9 rfl) rfl ?_
    refine r_iload_n C (z_d dd_Mo_know 10 rfl) rfl ?_
    refine r_aload_n C (z_d dd_Mo_know 11 rfl) rfl ?_
    refine r_iload_n C (z_d dd_Mo_know 12 rfl) rfl ?_
    refine r_aload_n C (z_d dd_Mo_know 13 rfl) rfl ?_
    refine r_iload_n C (z_d dd_Mo_know 14 rfl) rfl ?_
    refine r_iconst (v := (0 : Int32)) C (z_d dd_Mo_know 15 rfl) (by decide) ?_
    refine r_iconst (v := (1 : Int32)) C (z_d dd_Mo_know 16 rfl) (by decide) ?_
    refine r_iconst (v := (4 : Int32)) C (z_d dd_Mo_know 17 rfl) (by decide) ?_
    obtain ⟨h35, h⟩ := zif h
    obtain ⟨q36, c37, h⟩ := zbd h
    refine r_invV (as := [zI l1, zI (0 : Int32), zI (1 : Int32), zI (4 : Int32)]) C 12 (S_Mo_run c37) (z_d dd_Mo_know 18 rfl) ok_Mo_run iv_Mo_run se_Mo_run ml_Mo_109 rfl rfl h35 rfl rfl rfl (Nat.le_of_ble_eq_true rfl) ⟨(Nat.le_of_ble_eq_true rfl), (Nat.le_of_ble_eq_true rfl)⟩ ⟨(Nat.le_of_ble_eq_true rfl), (Nat.le_of_ble_eq_true rfl)⟩ ?_
    refine r_iconst (v := (1 : Int32)) C (z_d dd_Mo_know 19 rfl) (by decide) ?_
    refine r_iconst (v := (3 : Int32)) C (z_d dd_Mo_know 20 rfl) (by decide) ?_
    obtain ⟨h38, h⟩ := zif h
    obtain ⟨q39, c40, h⟩ := zbd h
    refine r_invV (as := [zI l1, zI q36.1, zI (1 : Int32), zI (3 : Int32)]) C 12 (S_Mo_run c40) (z_d dd_Mo_know 21 rfl) ok_Mo_run iv_Mo_run se_Mo_run ml_Mo_109 rfl rfl h38 rfl rfl rfl (Nat.le_of_ble_eq_true rfl) ⟨(Nat.le_of_ble_eq_true rfl), (Nat.le_of_ble_eq_true rfl)⟩ ⟨(Nat.le_of_ble_eq_true rfl), (Nat.le_of_ble_eq_true rfl)⟩ ?_
    refine r_bipush (v := (11 : Int32)) C (z_d dd_Mo_know 22 rfl) (by decide) ?_
    refine r_iconst (v := (2 : Int32)) C (z_d dd_Mo_know 23 rfl) (by decide) ?_
    obtain ⟨h41, h⟩ := zif h
    obtain ⟨q42, c43, h⟩ := zbd h
    refine r_invV (as := [zI l1, zI q39.1, zI (11 : Int32), zI (2 : Int32)]) C 12 (S_Mo_run c43) (z_d dd_Mo_know 24 rfl) ok_Mo_run iv_Mo_run se_Mo_run ml_Mo_109 rfl rfl h41 rfl rfl rfl (Nat.le_of_ble_eq_true rfl) ⟨(Nat.le_of_ble_eq_true rfl), (Nat.le_of_ble_eq_true rfl)⟩ ⟨(Nat.le_of_ble_eq_true rfl), (Nat.le_of_ble_eq_true rfl)⟩ ?_
    refine r_istore_n (lv' := [some (zP l0), some (zI l1), some (zI q42.1)]) C (z_d dd_Mo_know 25 rfl) (Nat.le_of_ble_eq_true rfl) rfl ?_
    refine r_aload_n C (z_d dd_Mo_know 26 rfl) rfl ?_
    refine r_iload_n C (z_d dd_Mo_know 27 rfl) rfl ?_
    refine r_aload_n C (z_d dd_Mo_know 28 rfl) rfl ?_
    refine r_iload_n C (z_d dd_Mo_know 29 rfl) rfl ?_
    refine r_aload_n C (z_d dd_Mo_know 30 rfl) rfl ?_
    refine r_iload_n C (z_d dd_Mo_know 31 rfl) rfl ?_
    refine r_aload_n C (z_d dd_Mo_know 32 rfl) rfl ?_
    refine r_iload_n C (z_d dd_Mo_know 33 rfl) rfl ?_
    refine r_iload_n C (z_d dd_Mo_know 34 rfl) rfl ?_
    refine r_iconst (v := (3 : Int32)) C (z_d dd_Mo_know 35 rfl) (by decide) ?_
    refine r_iconst (v := (1 : Int32)) C (z_d dd_Mo_know 36 rfl) (by decide) ?_
    obtain ⟨h44, h⟩ := zif h
    obtain ⟨q45, c46, h⟩ := zbd h
    refine r_invV (as := [zI l1, zI q42.1, zI (3 : Int32), zI (1 : Int32)]) C 12 (S_Mo_run c46) (z_d dd_Mo_know 37 rfl) ok_Mo_run iv_Mo_run se_Mo_run ml_Mo_109 rfl rfl h44 rfl rfl rfl (Nat.le_of_ble_eq_true rfl) ⟨(Nat.le_of_ble_eq_true rfl), (Nat.le_of_ble_eq_true rfl)⟩ ⟨(Nat.le_of_ble_eq_true rfl), (Nat.le_of_ble_eq_true rfl)⟩ ?_
    refine r_bipush (v := (9 : Int32)) C (z_d dd_Mo_know 38 rfl) (by decide) ?_
    refine r_iconst (v := (2 : Int32)) C (z_d dd_Mo_know 39 rfl) (by decide) ?_
    obtain ⟨h47, h⟩ := zif h
    obtain ⟨q48, c49, h⟩ := zbd h
    refine r_invV (as := [zI l1, zI q45.1, zI (9 : Int32), zI (2 : Int32)]) C 12 (S_Mo_run c49) (z_d dd_Mo_know 40 rfl) ok_Mo_run iv_Mo_run se_Mo_run ml_Mo_109 rfl rfl h47 rfl rfl rfl (Nat.le_of_ble_eq_true rfl) ⟨(Nat.le_of_ble_eq_true rfl), (Nat.le_of_ble_eq_true rfl)⟩ ⟨(Nat.le_of_ble_eq_true rfl), (Nat.le_of_ble_eq_true rfl)⟩ ?_
    refine r_iconst (v := (1 : Int32)) C (z_d dd_Mo_know 41 rfl) (by decide) ?_
    refine r_iconst (v := (3 : Int32)) C (z_d dd_Mo_know 42 rfl) (by decide) ?_
    obtain ⟨h50, h⟩ := zif h
    obtain ⟨q51, c52, h⟩ := zbd h
    refine r_invV (as := [zI l1, zI q48.1, zI (1 : Int32), zI (3 : Int32)]) C 12 (S_Mo_run c52) (z_d dd_Mo_know 43 rfl) ok_Mo_run iv_Mo_run se_Mo_run ml_Mo_109 rfl rfl h50 rfl rfl rfl (Nat.le_of_ble_eq_true rfl) ⟨(Nat.le_of_ble_eq_true rfl), (Nat.le_of_ble_eq_true rfl)⟩ ⟨(Nat.le_of_ble_eq_true rfl), (Nat.le_of_ble_eq_true rfl)⟩ ?_
    refine r_iconst (v := (1 : Int32)) C (z_d dd_Mo_know 44 rfl) (by decide) ?_
    refine r_iconst (v := (2 : Int32)) C (z_d dd_Mo_know 45 rfl) (by decide) ?_
    obtain ⟨h53, h⟩ := zif h
    obtain ⟨q54, c55, h⟩ := zbd h
    refine r_invV (as := [zI l1, zI q51.1, zI (1 : Int32), zI (2 : Int32)]) C 12 (S_Mo_run c55) (z_d dd_Mo_know 46 rfl) ok_Mo_run iv_Mo_run se_Mo_run ml_Mo_109 rfl rfl h53 rfl rfl rfl (Nat.le_of_ble_eq_true rfl) ⟨(Nat.le_of_ble_eq_true rfl), (Nat.le_of_ble_eq_true rfl)⟩ ⟨(Nat.le_of_ble_eq_true rfl), (Nat.le_of_ble_eq_true rfl)⟩ ?_
    refine r_istore_n (lv' := [some (zP l0), some (zI l1), some (zI q54.1)]) C (z_d dd_Mo_know 47 rfl) (Nat.le_of_ble_eq_true rfl) rfl ?_
    refine r_aload_n C (z_d dd_Mo_know 48 rfl) rfl ?_
    refine r_iload_n C (z_d dd_Mo_know 49 rfl) rfl ?_
    refine r_aload_n C (z_d dd_Mo_know 50 rfl) rfl ?_
    refine r_iload_n C (z_d dd_Mo_know 51 rfl) rfl ?_
    refine r_iload_n C (z_d dd_Mo_know 52 rfl) rfl ?_
    refine r_iconst (v := (5 : Int32)) C (z_d dd_Mo_know 53 rfl) (by decide) ?_
    refine r_iconst (v := (1 : Int32)) C (z_d dd_Mo_know 54 rfl) (by decide) ?_
    obtain ⟨h56, h⟩ := zif h
    obtain ⟨q57, c58, h⟩ := zbd h
    refine r_invV (as := [zI l1, zI q54.1, zI (5 : Int32), zI (1 : Int32)]) C 12 (S_Mo_run c58) (z_d dd_Mo_know 55 rfl) ok_Mo_run iv_Mo_run se_Mo_run ml_Mo_109 rfl rfl h56 rfl rfl rfl (Nat.le_of_ble_eq_true rfl) ⟨(Nat.le_of_ble_eq_true rfl), (Nat.le_of_ble_eq_true rfl)⟩ ⟨(Nat.le_of_ble_eq_true rfl), (Nat.le_of_ble_eq_true rfl)⟩ ?_
    refine r_iconst (v := (4 : Int32)) C (z_d dd_Mo_know 56 rfl) (by decide) ?_
    refine r_iconst (v := (-1 : Int32)) C (z_d dd_Mo_know 57 rfl) (by decide) ?_
    obtain ⟨h59, h⟩ := zif h
    obtain ⟨q60, c61, h⟩ := zbd h
    refine r_invV (as := [zI l1, zI q57.1, zI (4 : Int32), zI (-1 : Int32)]) C 12 (S_Mo_run c61) (z_d dd_Mo_know 58 rfl) ok_Mo_run iv_Mo_run se_Mo_run ml_Mo_109 rfl rfl h59 rfl rfl rfl (Nat.le_of_ble_eq_true rfl) ⟨(Nat.le_of_ble_eq_true rfl), (Nat.le_of_ble_eq_true rfl)⟩ ⟨(Nat.le_of_ble_eq_true rfl), (Nat.le_of_ble_eq_true rfl)⟩ ?_
    refine r_istore_n (lv' := [some (zP l0), some (zI l1), some (zI q60.1)]) C (z_d dd_Mo_know 59 rfl) (Nat.le_of_ble_eq_true rfl) rfl ?_
    refine r_goto C 177 (z_d dd_Mo_know 60 rfl) (by decide) ?_
    refine r_mk [true, true, false] ?_
    exact s_Mo_know_177 C hr E n l0 l1 q60.2 h
def F_Mo_know (O : zO) (n : Nat) (l0 : Nat) (l1 : Int32) (M : zM) : Option (Unit × zM) := f_Mo_know_0 O n l0 l1 M
theorem S_Mo_know {l : Launch} {D : zD} {n : Nat} {l0 : Nat} {l1 : Int32} {M : zM} {q : Unit × zM} (h : F_Mo_know D.2.2.2.2 n l0 l1 M = some q) : zMet l D mi_Mo_know [zP l0, zI l1] M none q.2 :=
  z_met (by decide) (Nat.le_of_ble_eq_true rfl) (fun X C E hr hin hD hl => by
    subst hD
    exact s_Mo_know_0 C hr E n l0 l1 M h)

def f_Mo_tables_322 (O : zO) (k58 : Nat → Int32 → Int32 → Int32 → Int32 → zM → Option (Int32 × zM)) (n : Nat) (l0 : Nat) (l1 : Int32) (l2 : Int32) (l3 : Int32) (l4 : Int32) (M : zM) : Option (Int32 × zM) :=
  zlet (l4 + (1 : Int32)) fun v1 =>
  k58 l0 l1 l2 l3 v1 M
set_option maxRecDepth 100000 in
set_option maxHeartbeats 4000000 in
theorem s_Mo_tables_322 {X : zX} {q : Int32 × zM} (C : zC X zR12 prog_14_method_41_code 8 { frames := 4, cells := 0, slots := 0, locals := 101 }) (hr : zRt X (some .boolean)) (E : zE X (some (zI q.1)) q.2 0 0) {k58 : Nat → Int32 → Int32 → Int32 → Int32 → zM → Option (Int32 × zM)} (hk58 : ∀ (l0 : Nat) (l1 : Int32) (l2 : Int32) (l3 : Int32) (l4 : Int32) (M : zM), k58 l0 l1 l2 l3 l4 M = some q → zW X 0 0 58 [some (zP l0), some (zI l1), some (zI l2), some (zI l3), some (zI l4), none, none, none] [] M) : ∀ (n : Nat) (l0 : Nat) (l1 : Int32) (l2 : Int32) (l3 : Int32) (l4 : Int32) (M : zM), f_Mo_tables_322 (zOD X) k58 n l0 l1 l2 l3 l4 M = some q → zW X 0 0 322 [some (zP l0), some (zI l1), some (zI l2), some (zI l3), some (zI l4), none, none, none] [] M := by
  intro n l0 l1 l2 l3 l4 M h
  rw [f_Mo_tables_322] at h
  obtain ⟨v1, e2, h⟩ := zlet_ex h
  refine r_iinc (v := v1) (lv' := [some (zP l0), some (zI l1), some (zI l2), some (zI l3), some (zI v1), none, none, none]) C (z_d dd_Mo_tables 176 rfl) rfl (Nat.le_of_ble_eq_true rfl) (by rw [e2]; rfl) rfl ?_
  refine r_goto C 58 (z_d dd_Mo_tables 177 rfl) (by decide) ?_
  exact hk58 l0 l1 l2 l3 v1 M h
def f_Mo_tables_266 (O : zO) (k58 : Nat → Int32 → Int32 → Int32 → Int32 → zM → Option (Int32 × zM)) (n : Nat) (l0 : Nat) (l1 : Int32) (l2 : Int32) (l3 : Int32) (l4 : Int32) (s0 : Nat) (s1 : Int32) (s2 : Int32) (s3 : Int32) (M : zM) : Option (Int32 × zM) :=
  (F_Mo_lastOf O n l4 M).bind fun q1 =>
  if z_k q1.2 s0 = 13 then
  (F_Mo_share O n s0 s1 s2 s3 q1.1 q1.2).bind fun q4 =>
  if 0 ≤ q4.1 then
  if z_k q4.2 l0 = 13 then
  (F_Mo_keepDraft O n l0 l4 q4.2).bind fun q7 =>
  if z_k q7.2 l0 = 13 then
  zlet (w_i q7.2 l0 28 q4.1) fun M10 =>
  f_Mo_tables_322 O k58 n l0 l1 l2 l3 l4 M10
  else none
  else none
  else
  if z_k q4.2 l0 = 13 then
  (F_Mo_wrong O n l0 (16 : Int32) l2 q4.2).bind fun q14 =>
  if q14.1 = 0 ∨ q14.1 = 1 then
  some (q14.1, q14.2)
  else none
  else none
  else none
set_option maxRecDepth 100000 in
set_option maxHeartbeats 4000000 in
theorem s_Mo_tables_266 {X : zX} {q : Int32 × zM} (C : zC X zR12 prog_14_method_41_code 8 { frames := 4, cells := 0, slots := 0, locals := 101 }) (hr : zRt X (some .boolean)) (E : zE X (some (zI q.1)) q.2 0 0) {k58 : Nat → Int32 → Int32 → Int32 → Int32 → zM → Option (Int32 × zM)} (hk58 : ∀ (l0 : Nat) (l1 : Int32) (l2 : Int32) (l3 : Int32) (l4 : Int32) (M : zM), k58 l0 l1 l2 l3 l4 M = some q → zW X 0 0 58 [some (zP l0), some (zI l1), some (zI l2), some (zI l3), some (zI l4), none, none, none] [] M) : ∀ (n : Nat) (l0 : Nat) (l1 : Int32) (l2 : Int32) (l3 : Int32) (l4 : Int32) (s0 : Nat) (s1 : Int32) (s2 : Int32) (s3 : Int32) (M : zM), f_Mo_tables_266 (zOD X) k58 n l0 l1 l2 l3 l4 s0 s1 s2 s3 M = some q → zW X 0 0 266 [some (zP l0), some (zI l1), some (zI l2), some (zI l3), some (zI l4), none, none, none] [zI s3, zI s2, zI s1, zP s0] M := by
  intro n l0 l1 l2 l3 l4 s0 s1 s2 s3 M h
  rw [f_Mo_tables_266] at h
  refine r_iload C (z_d dd_Mo_tables 148 rfl) rfl ?_
  obtain ⟨q1, c2, h⟩ := zbd h
  refine r_invS (as := [zI l4]) C (S_Mo_lastOf c2) (z_d dd_Mo_tables 149 rfl) ok_Mo_lastOf sv_Mo_lastOf ml_Mo_166 rfl rfl rfl (Nat.le_of_ble_eq_true rfl) ⟨(Nat.le_of_ble_eq_true rfl), (Nat.le_of_ble_eq_true rfl)⟩ ⟨(Nat.le_of_ble_eq_true rfl), (Nat.le_of_ble_eq_true rfl)⟩ ?_
  obtain ⟨h3, h⟩ := zif h
  obtain ⟨q4, c5, h⟩ := zbd h
  refine r_invV (as := [zI s1, zI s2, zI s3, zI q1.1]) C 12 (S_Mo_share c5) (z_d dd_Mo_tables 150 rfl) ok_Mo_share iv_Mo_share se_Mo_share ml_Mo_135 rfl rfl h3 rfl rfl rfl (Nat.le_of_ble_eq_true rfl) ⟨(Nat.le_of_ble_eq_true rfl), (Nat.le_of_ble_eq_true rfl)⟩ ⟨(Nat.le_of_ble_eq_true rfl), (Nat.le_of_ble_eq_true rfl)⟩ ?_
  refine r_istore (lv' := [some (zP l0), some (zI l1), some (zI l2), some (zI l3), some (zI l4), none, some (zI q4.1), none]) C (z_d dd_Mo_tables 151 rfl) (Nat.le_of_ble_eq_true rfl) rfl ?_
  refine r_iload C (z_d dd_Mo_tables 152 rfl) rfl ?_
  refine r_if_ge C 289 (z_d dd_Mo_tables 153 rfl) (by decide) (fun c17 => ?_) (fun c17 => ?_)
  · have h := zift h c17
    refine r_aload_n C (z_d dd_Mo_tables 159 rfl) rfl ?_
    refine r_iload C (z_d dd_Mo_tables 160 rfl) rfl ?_
    obtain ⟨h6, h⟩ := zif h
    obtain ⟨q7, c8, h⟩ := zbd h
    refine r_invV (as := [zI l4]) C 12 (S_Mo_keepDraft c8) (z_d dd_Mo_tables 161 rfl) ok_Mo_keepDraft iv_Mo_keepDraft se_Mo_keepDraft ml_Mo_169 rfl rfl h6 rfl rfl rfl (Nat.le_of_ble_eq_true rfl) ⟨(Nat.le_of_ble_eq_true rfl), (Nat.le_of_ble_eq_true rfl)⟩ ⟨(Nat.le_of_ble_eq_true rfl), (Nat.le_of_ble_eq_true rfl)⟩ ?_
    refine r_aload_n C (z_d dd_Mo_tables 162 rfl) rfl ?_
    refine r_iload C (z_d dd_Mo_tables 163 rfl) rfl ?_
    obtain ⟨h9, h⟩ := zif h
    obtain ⟨M10, e11, h⟩ := zlet_ex h
    have h12 := k_i e11 h9
    refine r_putI C (z_d dd_Mo_tables 164 rfl) lp_Mo_204 rfl h9 e11 ?_
    refine r_goto C 322 (z_d dd_Mo_tables 165 rfl) (by decide) ?_
    refine r_mk [true, true, true, true, true, false, false, false] ?_
    exact s_Mo_tables_322 C hr E hk58 n l0 l1 l2 l3 l4 M10 h
  · have h := ziff h c17
    refine r_aload_n C (z_d dd_Mo_tables 154 rfl) rfl ?_
    refine r_bipush (v := (16 : Int32)) C (z_d dd_Mo_tables 155 rfl) (by decide) ?_
    refine r_iload_n C (z_d dd_Mo_tables 156 rfl) rfl ?_
    obtain ⟨h13, h⟩ := zif h
    obtain ⟨q14, c15, h⟩ := zbd h
    refine r_invV (as := [zI (16 : Int32), zI l2]) C 12 (S_Mo_wrong c15) (z_d dd_Mo_tables 157 rfl) ok_Mo_wrong iv_Mo_wrong se_Mo_wrong ml_Mo_207 rfl rfl h13 rfl rfl rfl (Nat.le_of_ble_eq_true rfl) ⟨(Nat.le_of_ble_eq_true rfl), (Nat.le_of_ble_eq_true rfl)⟩ ⟨(Nat.le_of_ble_eq_true rfl), (Nat.le_of_ble_eq_true rfl)⟩ ?_
    obtain ⟨h16, h⟩ := zif h
    obtain rfl := z_res h
    exact r_iretZ C E hr (z_d dd_Mo_tables 158 rfl) h16 (Nat.le_of_ble_eq_true rfl) (Nat.le_of_ble_eq_true rfl)
def f_Mo_tables_194 (O : zO) (k58 : Nat → Int32 → Int32 → Int32 → Int32 → zM → Option (Int32 × zM)) (k163 : Nat → Int32 → Int32 → Int32 → Int32 → Int32 → Int32 → zM → Option (Int32 × zM)) (n : Nat) (l0 : Nat) (l1 : Int32) (l2 : Int32) (l3 : Int32) (l4 : Int32) (l6 : Int32) (l7 : Int32) (s0 : Nat) (s1 : Int32) (s2 : Int32) (M : zM) : Option (Int32 × zM) :=
  if z_k M s0 = 100 then
  if zin s1 (z_n M s0) = true then
  zlet (w_i M s0 s1.toNatClampNeg s2) fun M3 =>
  zlet (l7 + (1 : Int32)) fun v6 =>
  k163 l0 l1 l2 l3 l4 l6 v6 M3
  else none
  else none
set_option maxRecDepth 100000 in
set_option maxHeartbeats 4000000 in
theorem s_Mo_tables_194 {X : zX} {q : Int32 × zM} (C : zC X zR12 prog_14_method_41_code 8 { frames := 4, cells := 0, slots := 0, locals := 101 }) (hr : zRt X (some .boolean)) (E : zE X (some (zI q.1)) q.2 0 0) {k58 : Nat → Int32 → Int32 → Int32 → Int32 → zM → Option (Int32 × zM)} (hk58 : ∀ (l0 : Nat) (l1 : Int32) (l2 : Int32) (l3 : Int32) (l4 : Int32) (M : zM), k58 l0 l1 l2 l3 l4 M = some q → zW X 0 0 58 [some (zP l0), some (zI l1), some (zI l2), some (zI l3), some (zI l4), none, none, none] [] M) {k163 : Nat → Int32 → Int32 → Int32 → Int32 → Int32 → Int32 → zM → Option (Int32 × zM)} (hk163 : ∀ (l0 : Nat) (l1 : Int32) (l2 : Int32) (l3 : Int32) (l4 : Int32) (l6 : Int32) (l7 : Int32) (M : zM), k163 l0 l1 l2 l3 l4 l6 l7 M = some q → zW X 0 0 163 [some (zP l0), some (zI l1), some (zI l2), some (zI l3), some (zI l4), none, some (zI l6), some (zI l7)] [] M) : ∀ (n : Nat) (l0 : Nat) (l1 : Int32) (l2 : Int32) (l3 : Int32) (l4 : Int32) (l6 : Int32) (l7 : Int32) (s0 : Nat) (s1 : Int32) (s2 : Int32) (M : zM), f_Mo_tables_194 (zOD X) k58 k163 n l0 l1 l2 l3 l4 l6 l7 s0 s1 s2 M = some q → zW X 0 0 194 [some (zP l0), some (zI l1), some (zI l2), some (zI l3), some (zI l4), none, some (zI l6), some (zI l7)] [zI s2, zI s1, zP s0] M := by
  intro n l0 l1 l2 l3 l4 l6 l7 s0 s1 s2 M h
  rw [f_Mo_tables_194] at h
  obtain ⟨h1, h⟩ := zif h
  obtain ⟨h2, h⟩ := zif h
  obtain ⟨M3, e4, h⟩ := zlet_ex h
  have h5 := k_i e4 h1
  refine r_iast C (z_d dd_Mo_tables 110 rfl) h1 h2 e4 ?_
  obtain ⟨v6, e7, h⟩ := zlet_ex h
  refine r_iinc (v := v6) (lv' := [some (zP l0), some (zI l1), some (zI l2), some (zI l3), some (zI l4), none, some (zI l6), some (zI v6)]) C (z_d dd_Mo_tables 111 rfl) rfl (Nat.le_of_ble_eq_true rfl) (by rw [e7]; rfl) rfl ?_
  refine r_goto C 163 (z_d dd_Mo_tables 112 rfl) (by decide) ?_
  exact hk163 l0 l1 l2 l3 l4 l6 v6 M3 h
def f_Mo_tables_163 (O : zO) (k58 : Nat → Int32 → Int32 → Int32 → Int32 → zM → Option (Int32 × zM)) : Nat → Nat → Int32 → Int32 → Int32 → Int32 → Int32 → Int32 → zM → Option (Int32 × zM)
  | 0, _, _, _, _, _, _, _, _ => none
  | n + 1, l0, l1, l2, l3, l4, l6, l7, M =>
    if (64 : Int32) ≤ l7 then
    if z_k M l0 = 13 then
    if z_k M (z_p M l0 17) = 100 then
    if zin ((512 : Int32) * l4) (z_n M (z_p M l0 17)) = true then
    zlet (w_i M (z_p M l0 17) ((512 : Int32) * l4).toNatClampNeg l6) fun M4 =>
    if z_k M4 (z_p M4 l0 18) = 100 then
    if zin ((512 : Int32) * l4) (z_n M4 (z_p M4 l0 18)) = true then
    zlet (w_i M4 (z_p M4 l0 18) ((512 : Int32) * l4).toNatClampNeg (0 : Int32)) fun M10 =>
    if z_k M10 (z_p M10 l0 19) = 100 then
    if zin ((512 : Int32) * l4) (z_n M10 (z_p M10 l0 19)) = true then
    zlet (w_i M10 (z_p M10 l0 19) ((512 : Int32) * l4).toNatClampNeg (0 : Int32)) fun M17 =>
    f_Mo_tables_322 O k58 n l0 l1 l2 l3 l4 M17
    else none
    else none
    else none
    else none
    else none
    else none
    else none
    else
    if z_k M l0 = 13 then
    if l7 = l6 then
    f_Mo_tables_194 O k58 (f_Mo_tables_163 O k58 n) n l0 l1 l2 l3 l4 l6 l7 (z_p M l0 15) (((64 : Int32) * l4) + l7) (1 : Int32) M
    else
    f_Mo_tables_194 O k58 (f_Mo_tables_163 O k58 n) n l0 l1 l2 l3 l4 l6 l7 (z_p M l0 15) (((64 : Int32) * l4) + l7) (0 : Int32) M
    else none
set_option maxRecDepth 100000 in
set_option maxHeartbeats 4000000 in
theorem s_Mo_tables_163 {X : zX} {q : Int32 × zM} (C : zC X zR12 prog_14_method_41_code 8 { frames := 4, cells := 0, slots := 0, locals := 101 }) (hr : zRt X (some .boolean)) (E : zE X (some (zI q.1)) q.2 0 0) {k58 : Nat → Int32 → Int32 → Int32 → Int32 → zM → Option (Int32 × zM)} (hk58 : ∀ (l0 : Nat) (l1 : Int32) (l2 : Int32) (l3 : Int32) (l4 : Int32) (M : zM), k58 l0 l1 l2 l3 l4 M = some q → zW X 0 0 58 [some (zP l0), some (zI l1), some (zI l2), some (zI l3), some (zI l4), none, none, none] [] M) : ∀ (n : Nat) (l0 : Nat) (l1 : Int32) (l2 : Int32) (l3 : Int32) (l4 : Int32) (l6 : Int32) (l7 : Int32) (M : zM), f_Mo_tables_163 (zOD X) k58 n l0 l1 l2 l3 l4 l6 l7 M = some q → zW X 0 0 163 [some (zP l0), some (zI l1), some (zI l2), some (zI l3), some (zI l4), none, some (zI l6), some (zI l7)] [] M := by
  intro n
  induction n with
  | zero => intro l0 l1 l2 l3 l4 l6 l7 M h; rw [f_Mo_tables_163] at h; cases h
  | succ n ih =>
    intro l0 l1 l2 l3 l4 l6 l7 M h
    rw [f_Mo_tables_163] at h
    refine r_iload C (z_d dd_Mo_tables 94 rfl) rfl ?_
    refine r_bipush (v := (64 : Int32)) C (z_d dd_Mo_tables 95 rfl) (by decide) ?_
    refine r_icmp_ge C 201 (z_d dd_Mo_tables 96 rfl) (by decide) (fun c25 => ?_) (fun c25 => ?_)
    · have h := zift h c25
      refine r_aload_n C (z_d dd_Mo_tables 113 rfl) rfl ?_
      obtain ⟨h1, h⟩ := zif h
      refine r_getP C (z_d dd_Mo_tables 114 rfl) lk_Mo_45 rfl h1 rfl ?_
      refine r_sipush (v := (512 : Int32)) C (z_d dd_Mo_tables 115 rfl) (by decide) ?_
      refine r_iload C (z_d dd_Mo_tables 116 rfl) rfl ?_
      refine r_imul C (z_d dd_Mo_tables 117 rfl) ?_
      refine r_iload C (z_d dd_Mo_tables 118 rfl) rfl ?_
      obtain ⟨h2, h⟩ := zif h
      obtain ⟨h3, h⟩ := zif h
      obtain ⟨M4, e5, h⟩ := zlet_ex h
      have h6 := k_i e5 h1
      have h7 := k_i e5 h2
      refine r_iast C (z_d dd_Mo_tables 119 rfl) h2 h3 e5 ?_
      refine r_aload_n C (z_d dd_Mo_tables 120 rfl) rfl ?_
      refine r_getP C (z_d dd_Mo_tables 121 rfl) lk_Mo_48 rfl h6 rfl ?_
      refine r_sipush (v := (512 : Int32)) C (z_d dd_Mo_tables 122 rfl) (by decide) ?_
      refine r_iload C (z_d dd_Mo_tables 123 rfl) rfl ?_
      refine r_imul C (z_d dd_Mo_tables 124 rfl) ?_
      refine r_iconst (v := (0 : Int32)) C (z_d dd_Mo_tables 125 rfl) (by decide) ?_
      obtain ⟨h8, h⟩ := zif h
      obtain ⟨h9, h⟩ := zif h
      obtain ⟨M10, e11, h⟩ := zlet_ex h
      have h12 := k_i e11 h6
      have h13 := k_i e11 h7
      have h14 := k_i e11 h8
      refine r_iast C (z_d dd_Mo_tables 126 rfl) h8 h9 e11 ?_
      refine r_aload_n C (z_d dd_Mo_tables 127 rfl) rfl ?_
      refine r_getP C (z_d dd_Mo_tables 128 rfl) lk_Mo_51 rfl h12 rfl ?_
      refine r_sipush (v := (512 : Int32)) C (z_d dd_Mo_tables 129 rfl) (by decide) ?_
      refine r_iload C (z_d dd_Mo_tables 130 rfl) rfl ?_
      refine r_imul C (z_d dd_Mo_tables 131 rfl) ?_
      refine r_iconst (v := (0 : Int32)) C (z_d dd_Mo_tables 132 rfl) (by decide) ?_
      obtain ⟨h15, h⟩ := zif h
      obtain ⟨h16, h⟩ := zif h
      obtain ⟨M17, e18, h⟩ := zlet_ex h
      have h19 := k_i e18 h12
      have h20 := k_i e18 h13
      have h21 := k_i e18 h14
      have h22 := k_i e18 h15
      refine r_iast C (z_d dd_Mo_tables 133 rfl) h15 h16 e18 ?_
      refine r_goto C 322 (z_d dd_Mo_tables 134 rfl) (by decide) ?_
      refine r_mk [true, true, true, true, true, false, false, false] ?_
      exact s_Mo_tables_322 C hr E hk58 n l0 l1 l2 l3 l4 M17 h
    · have h := ziff h c25
      refine r_aload_n C (z_d dd_Mo_tables 97 rfl) rfl ?_
      obtain ⟨h23, h⟩ := zif h
      refine r_getP C (z_d dd_Mo_tables 98 rfl) lk_Mo_39 rfl h23 rfl ?_
      refine r_bipush (v := (64 : Int32)) C (z_d dd_Mo_tables 99 rfl) (by decide) ?_
      refine r_iload C (z_d dd_Mo_tables 100 rfl) rfl ?_
      refine r_imul C (z_d dd_Mo_tables 101 rfl) ?_
      refine r_iload C (z_d dd_Mo_tables 102 rfl) rfl ?_
      refine r_iadd C (z_d dd_Mo_tables 103 rfl) ?_
      refine r_iload C (z_d dd_Mo_tables 104 rfl) rfl ?_
      refine r_iload C (z_d dd_Mo_tables 105 rfl) rfl ?_
      refine r_icmp_ne C 193 (z_d dd_Mo_tables 106 rfl) (by decide) (fun c24 => ?_) (fun c24 => ?_)
      · have h := ziff h c24
        refine r_iconst (v := (0 : Int32)) C (z_d dd_Mo_tables 109 rfl) (by decide) ?_
        exact s_Mo_tables_194 C hr E hk58 ih n l0 l1 l2 l3 l4 l6 l7 (z_p M l0 15) (((64 : Int32) * l4) + l7) (0 : Int32) M h
      · have h := zift h c24
        refine r_iconst (v := (1 : Int32)) C (z_d dd_Mo_tables 107 rfl) (by decide) ?_
        refine r_goto C 194 (z_d dd_Mo_tables 108 rfl) (by decide) ?_
        exact s_Mo_tables_194 C hr E hk58 ih n l0 l1 l2 l3 l4 l6 l7 (z_p M l0 15) (((64 : Int32) * l4) + l7) (1 : Int32) M h
def f_Mo_tables_58 (O : zO) : Nat → Nat → Int32 → Int32 → Int32 → Int32 → zM → Option (Int32 × zM)
  | 0, _, _, _, _, _, _ => none
  | n + 1, l0, l1, l2, l3, l4, M =>
    if (3 : Int32) ≤ l4 then
    some ((1 : Int32), M)
    else
    zlet ((l3 >>> (((6 : Int32) - ((2 : Int32) * l4)) &&& 31)) &&& (3 : Int32)) fun v1 =>
    if v1 = 0 then
    if z_k M l0 = 13 then
    (F_Mo_know O n l0 l4 M).bind fun q42 =>
    f_Mo_tables_322 O (f_Mo_tables_58 O n) n l0 l1 l2 l3 l4 q42.2
    else none
    else
    if v1 = (1 : Int32) then
    if z_k M l0 = 13 then
    if (z_i M l0 28) < l1 then
    if z_k M (z_p M l0 0) = 100 then
    if zin (z_i M l0 28) (z_n M (z_p M l0 0)) = true then
    zlet (z_i M (z_p M l0 0) (z_i M l0 28).toNatClampNeg) fun v16 =>
    zlet (w_i M l0 28 ((z_i M l0 28) + (1 : Int32))) fun M18 =>
    (F_Mo_lastOf O n l4 M18).bind fun q22 =>
    if v16 ≤ q22.1 then
    if z_k q22.2 l0 = 13 then
    if z_k q22.2 (z_p q22.2 l0 16) = 100 then
    if zin l4 (z_n q22.2 (z_p q22.2 l0 16)) = true then
    zlet (w_i q22.2 (z_p q22.2 l0 16) l4.toNatClampNeg (0 : Int32)) fun M27 =>
    f_Mo_tables_163 O (f_Mo_tables_58 O n) n l0 l1 l2 l3 l4 v16 (0 : Int32) M27
    else none
    else none
    else none
    else
    if z_k q22.2 l0 = 13 then
    (F_Mo_wrong O n l0 (16 : Int32) l2 q22.2).bind fun q32 =>
    if q32.1 = 0 ∨ q32.1 = 1 then
    some (q32.1, q32.2)
    else none
    else none
    else none
    else none
    else
    (F_Mo_wrong O n l0 (10 : Int32) l1 M).bind fun q36 =>
    if q36.1 = 0 ∨ q36.1 = 1 then
    some (q36.1, q36.2)
    else none
    else none
    else
    if v1 = (2 : Int32) then
    if z_k M l0 = 13 then
    if l4 = (1 : Int32) then
    f_Mo_tables_266 O (f_Mo_tables_58 O n) n l0 l1 l2 l3 l4 l0 (z_i M l0 28) l1 (8 : Int32) M
    else
    f_Mo_tables_266 O (f_Mo_tables_58 O n) n l0 l1 l2 l3 l4 l0 (z_i M l0 28) l1 (9 : Int32) M
    else none
    else
    if z_k M l0 = 13 then
    if z_k M (z_p M l0 16) = 100 then
    if zin l4 (z_n M (z_p M l0 16)) = true then
    if 0 ≤ (z_i M (z_p M l0 16) l4.toNatClampNeg) then
    f_Mo_tables_322 O (f_Mo_tables_58 O n) n l0 l1 l2 l3 l4 M
    else
    (F_Mo_wrong O n l0 (16 : Int32) l2 M).bind fun q6 =>
    if q6.1 = 0 ∨ q6.1 = 1 then
    some (q6.1, q6.2)
    else none
    else none
    else none
    else none
set_option maxRecDepth 100000 in
set_option maxHeartbeats 4000000 in
theorem s_Mo_tables_58 {X : zX} {q : Int32 × zM} (C : zC X zR12 prog_14_method_41_code 8 { frames := 4, cells := 0, slots := 0, locals := 101 }) (hr : zRt X (some .boolean)) (E : zE X (some (zI q.1)) q.2 0 0) : ∀ (n : Nat) (l0 : Nat) (l1 : Int32) (l2 : Int32) (l3 : Int32) (l4 : Int32) (M : zM), f_Mo_tables_58 (zOD X) n l0 l1 l2 l3 l4 M = some q → zW X 0 0 58 [some (zP l0), some (zI l1), some (zI l2), some (zI l3), some (zI l4), none, none, none] [] M := by
  intro n
  induction n with
  | zero => intro l0 l1 l2 l3 l4 M h; rw [f_Mo_tables_58] at h; cases h
  | succ n ih =>
    intro l0 l1 l2 l3 l4 M h
    rw [f_Mo_tables_58] at h
    refine r_iload C (z_d dd_Mo_tables 35 rfl) rfl ?_
    refine r_iconst (v := (3 : Int32)) C (z_d dd_Mo_tables 36 rfl) (by decide) ?_
    refine r_icmp_ge C 328 (z_d dd_Mo_tables 37 rfl) (by decide) (fun c45 => ?_) (fun c45 => ?_)
    · have h := zift h c45
      refine r_iconst (v := (1 : Int32)) C (z_d dd_Mo_tables 178 rfl) (by decide) ?_
      obtain rfl := z_res h
      exact r_iretZ C E hr (z_d dd_Mo_tables 179 rfl) (by decide) (Nat.le_of_ble_eq_true rfl) (Nat.le_of_ble_eq_true rfl)
    · have h := ziff h c45
      refine r_iload_n C (z_d dd_Mo_tables 38 rfl) rfl ?_
      refine r_bipush (v := (6 : Int32)) C (z_d dd_Mo_tables 39 rfl) (by decide) ?_
      refine r_iconst (v := (2 : Int32)) C (z_d dd_Mo_tables 40 rfl) (by decide) ?_
      refine r_iload C (z_d dd_Mo_tables 41 rfl) rfl ?_
      refine r_imul C (z_d dd_Mo_tables 42 rfl) ?_
      refine r_isub C (z_d dd_Mo_tables 43 rfl) ?_
      refine r_ishr C (z_d dd_Mo_tables 44 rfl) ?_
      refine r_iconst (v := (3 : Int32)) C (z_d dd_Mo_tables 45 rfl) (by decide) ?_
      refine r_iand C (z_d dd_Mo_tables 46 rfl) ?_
      obtain ⟨v1, e2, h⟩ := zlet_ex h
      refine r_nmI e2 ?_
      refine r_istore (lv' := [some (zP l0), some (zI l1), some (zI l2), some (zI l3), some (zI l4), some (zI v1), none, none]) C (z_d dd_Mo_tables 47 rfl) (Nat.le_of_ble_eq_true rfl) rfl ?_
      refine r_iload C (z_d dd_Mo_tables 48 rfl) rfl ?_
      refine r_if_ne C 91 (z_d dd_Mo_tables 49 rfl) (by decide) (fun c44 => ?_) (fun c44 => ?_)
      · have h := ziff h c44
        refine r_iload C (z_d dd_Mo_tables 54 rfl) rfl ?_
        refine r_iconst (v := (1 : Int32)) C (z_d dd_Mo_tables 55 rfl) (by decide) ?_
        refine r_icmp_ne C 241 (z_d dd_Mo_tables 56 rfl) (by decide) (fun c40 => ?_) (fun c40 => ?_)
        · have h := ziff h c40
          refine r_iload C (z_d dd_Mo_tables 135 rfl) rfl ?_
          refine r_iconst (v := (2 : Int32)) C (z_d dd_Mo_tables 136 rfl) (by decide) ?_
          refine r_icmp_ne C 304 (z_d dd_Mo_tables 137 rfl) (by decide) (fun c12 => ?_) (fun c12 => ?_)
          · have h := ziff h c12
            refine r_aload_n C (z_d dd_Mo_tables 166 rfl) rfl ?_
            obtain ⟨h3, h⟩ := zif h
            refine r_getP C (z_d dd_Mo_tables 167 rfl) lk_Mo_42 rfl h3 rfl ?_
            refine r_iload C (z_d dd_Mo_tables 168 rfl) rfl ?_
            obtain ⟨h4, h⟩ := zif h
            obtain ⟨h5, h⟩ := zif h
            refine r_iald C (z_d dd_Mo_tables 169 rfl) h4 h5 rfl ?_
            refine r_if_ge C 322 (z_d dd_Mo_tables 170 rfl) (by decide) (fun c9 => ?_) (fun c9 => ?_)
            · have h := zift h c9
              refine r_mk [true, true, true, true, true, false, false, false] ?_
              exact s_Mo_tables_322 C hr E ih n l0 l1 l2 l3 l4 M h
            · have h := ziff h c9
              refine r_aload_n C (z_d dd_Mo_tables 171 rfl) rfl ?_
              refine r_bipush (v := (16 : Int32)) C (z_d dd_Mo_tables 172 rfl) (by decide) ?_
              refine r_iload_n C (z_d dd_Mo_tables 173 rfl) rfl ?_
              obtain ⟨q6, c7, h⟩ := zbd h
              refine r_invV (as := [zI (16 : Int32), zI l2]) C 12 (S_Mo_wrong c7) (z_d dd_Mo_tables 174 rfl) ok_Mo_wrong iv_Mo_wrong se_Mo_wrong ml_Mo_207 rfl rfl h3 rfl rfl rfl (Nat.le_of_ble_eq_true rfl) ⟨(Nat.le_of_ble_eq_true rfl), (Nat.le_of_ble_eq_true rfl)⟩ ⟨(Nat.le_of_ble_eq_true rfl), (Nat.le_of_ble_eq_true rfl)⟩ ?_
              obtain ⟨h8, h⟩ := zif h
              obtain rfl := z_res h
              exact r_iretZ C E hr (z_d dd_Mo_tables 175 rfl) h8 (Nat.le_of_ble_eq_true rfl) (Nat.le_of_ble_eq_true rfl)
          · have h := zift h c12
            refine r_aload_n C (z_d dd_Mo_tables 138 rfl) rfl ?_
            refine r_aload_n C (z_d dd_Mo_tables 139 rfl) rfl ?_
            obtain ⟨h10, h⟩ := zif h
            refine r_getI C (z_d dd_Mo_tables 140 rfl) lk_Mo_204 rfl h10 rfl ?_
            refine r_iload_n C (z_d dd_Mo_tables 141 rfl) rfl ?_
            refine r_iload C (z_d dd_Mo_tables 142 rfl) rfl ?_
            refine r_iconst (v := (1 : Int32)) C (z_d dd_Mo_tables 143 rfl) (by decide) ?_
            refine r_icmp_ne C 264 (z_d dd_Mo_tables 144 rfl) (by decide) (fun c11 => ?_) (fun c11 => ?_)
            · have h := ziff h c11
              refine r_bipush (v := (9 : Int32)) C (z_d dd_Mo_tables 147 rfl) (by decide) ?_
              refine r_mk [true, true, true, true, true, false, false, false] ?_
              exact s_Mo_tables_266 C hr E ih n l0 l1 l2 l3 l4 l0 (z_i M l0 28) l1 (9 : Int32) M h
            · have h := zift h c11
              refine r_bipush (v := (8 : Int32)) C (z_d dd_Mo_tables 145 rfl) (by decide) ?_
              refine r_goto C 266 (z_d dd_Mo_tables 146 rfl) (by decide) ?_
              refine r_mk [true, true, true, true, true, false, false, false] ?_
              exact s_Mo_tables_266 C hr E ih n l0 l1 l2 l3 l4 l0 (z_i M l0 28) l1 (8 : Int32) M h
        · have h := zift h c40
          refine r_aload_n C (z_d dd_Mo_tables 57 rfl) rfl ?_
          obtain ⟨h13, h⟩ := zif h
          refine r_getI C (z_d dd_Mo_tables 58 rfl) lk_Mo_204 rfl h13 rfl ?_
          refine r_iload_n C (z_d dd_Mo_tables 59 rfl) rfl ?_
          refine r_icmp_lt C 113 (z_d dd_Mo_tables 60 rfl) (by decide) (fun c39 => ?_) (fun c39 => ?_)
          · have h := zift h c39
            refine r_aload_n C (z_d dd_Mo_tables 66 rfl) rfl ?_
            refine r_getP C (z_d dd_Mo_tables 67 rfl) lk_Mo_7 rfl h13 rfl ?_
            refine r_aload_n C (z_d dd_Mo_tables 68 rfl) rfl ?_
            refine r_getI C (z_d dd_Mo_tables 69 rfl) lk_Mo_204 rfl h13 rfl ?_
            obtain ⟨h14, h⟩ := zif h
            obtain ⟨h15, h⟩ := zif h
            refine r_iald C (z_d dd_Mo_tables 70 rfl) h14 h15 rfl ?_
            obtain ⟨v16, e17, h⟩ := zlet_ex h
            refine r_nmI e17 ?_
            refine r_istore (lv' := [some (zP l0), some (zI l1), some (zI l2), some (zI l3), some (zI l4), some (zI v1), some (zI v16), none]) C (z_d dd_Mo_tables 71 rfl) (Nat.le_of_ble_eq_true rfl) rfl ?_
            refine r_aload_n C (z_d dd_Mo_tables 72 rfl) rfl ?_
            refine r_dupP C (z_d dd_Mo_tables 73 rfl) ?_
            refine r_getI C (z_d dd_Mo_tables 74 rfl) lk_Mo_204 rfl h13 rfl ?_
            refine r_iconst (v := (1 : Int32)) C (z_d dd_Mo_tables 75 rfl) (by decide) ?_
            refine r_iadd C (z_d dd_Mo_tables 76 rfl) ?_
            obtain ⟨M18, e19, h⟩ := zlet_ex h
            have h20 := k_i e19 h13
            have h21 := k_i e19 h14
            refine r_putI C (z_d dd_Mo_tables 77 rfl) lp_Mo_204 rfl h13 e19 ?_
            refine r_iload C (z_d dd_Mo_tables 78 rfl) rfl ?_
            refine r_iload C (z_d dd_Mo_tables 79 rfl) rfl ?_
            obtain ⟨q22, c23, h⟩ := zbd h
            refine r_invS (as := [zI l4]) C (S_Mo_lastOf c23) (z_d dd_Mo_tables 80 rfl) ok_Mo_lastOf sv_Mo_lastOf ml_Mo_166 rfl rfl rfl (Nat.le_of_ble_eq_true rfl) ⟨(Nat.le_of_ble_eq_true rfl), (Nat.le_of_ble_eq_true rfl)⟩ ⟨(Nat.le_of_ble_eq_true rfl), (Nat.le_of_ble_eq_true rfl)⟩ ?_
            refine r_icmp_le C 152 (z_d dd_Mo_tables 81 rfl) (by decide) (fun c35 => ?_) (fun c35 => ?_)
            · have h := zift h c35
              refine r_aload_n C (z_d dd_Mo_tables 87 rfl) rfl ?_
              obtain ⟨h24, h⟩ := zif h
              refine r_getP C (z_d dd_Mo_tables 88 rfl) lk_Mo_42 rfl h24 rfl ?_
              refine r_iload C (z_d dd_Mo_tables 89 rfl) rfl ?_
              refine r_iconst (v := (0 : Int32)) C (z_d dd_Mo_tables 90 rfl) (by decide) ?_
              obtain ⟨h25, h⟩ := zif h
              obtain ⟨h26, h⟩ := zif h
              obtain ⟨M27, e28, h⟩ := zlet_ex h
              have h29 := k_i e28 h24
              have h30 := k_i e28 h25
              refine r_iast C (z_d dd_Mo_tables 91 rfl) h25 h26 e28 ?_
              refine r_iconst (v := (0 : Int32)) C (z_d dd_Mo_tables 92 rfl) (by decide) ?_
              refine r_istore (lv' := [some (zP l0), some (zI l1), some (zI l2), some (zI l3), some (zI l4), some (zI v1), some (zI v16), some (zI (0 : Int32))]) C (z_d dd_Mo_tables 93 rfl) (Nat.le_of_ble_eq_true rfl) rfl ?_
              refine r_mk [true, true, true, true, true, false, true, true] ?_
              exact s_Mo_tables_163 C hr E ih n l0 l1 l2 l3 l4 v16 (0 : Int32) M27 h
            · have h := ziff h c35
              refine r_aload_n C (z_d dd_Mo_tables 82 rfl) rfl ?_
              refine r_bipush (v := (16 : Int32)) C (z_d dd_Mo_tables 83 rfl) (by decide) ?_
              refine r_iload_n C (z_d dd_Mo_tables 84 rfl) rfl ?_
              obtain ⟨h31, h⟩ := zif h
              obtain ⟨q32, c33, h⟩ := zbd h
              refine r_invV (as := [zI (16 : Int32), zI l2]) C 12 (S_Mo_wrong c33) (z_d dd_Mo_tables 85 rfl) ok_Mo_wrong iv_Mo_wrong se_Mo_wrong ml_Mo_207 rfl rfl h31 rfl rfl rfl (Nat.le_of_ble_eq_true rfl) ⟨(Nat.le_of_ble_eq_true rfl), (Nat.le_of_ble_eq_true rfl)⟩ ⟨(Nat.le_of_ble_eq_true rfl), (Nat.le_of_ble_eq_true rfl)⟩ ?_
              obtain ⟨h34, h⟩ := zif h
              obtain rfl := z_res h
              exact r_iretZ C E hr (z_d dd_Mo_tables 86 rfl) h34 (Nat.le_of_ble_eq_true rfl) (Nat.le_of_ble_eq_true rfl)
          · have h := ziff h c39
            refine r_aload_n C (z_d dd_Mo_tables 61 rfl) rfl ?_
            refine r_bipush (v := (10 : Int32)) C (z_d dd_Mo_tables 62 rfl) (by decide) ?_
            refine r_iload_n C (z_d dd_Mo_tables 63 rfl) rfl ?_
            obtain ⟨q36, c37, h⟩ := zbd h
            refine r_invV (as := [zI (10 : Int32), zI l1]) C 12 (S_Mo_wrong c37) (z_d dd_Mo_tables 64 rfl) ok_Mo_wrong iv_Mo_wrong se_Mo_wrong ml_Mo_207 rfl rfl h13 rfl rfl rfl (Nat.le_of_ble_eq_true rfl) ⟨(Nat.le_of_ble_eq_true rfl), (Nat.le_of_ble_eq_true rfl)⟩ ⟨(Nat.le_of_ble_eq_true rfl), (Nat.le_of_ble_eq_true rfl)⟩ ?_
            obtain ⟨h38, h⟩ := zif h
            obtain rfl := z_res h
            exact r_iretZ C E hr (z_d dd_Mo_tables 65 rfl) h38 (Nat.le_of_ble_eq_true rfl) (Nat.le_of_ble_eq_true rfl)
      · have h := zift h c44
        refine r_aload_n C (z_d dd_Mo_tables 50 rfl) rfl ?_
        refine r_iload C (z_d dd_Mo_tables 51 rfl) rfl ?_
        obtain ⟨h41, h⟩ := zif h
        obtain ⟨q42, c43, h⟩ := zbd h
        refine r_invV (as := [zI l4]) C 12 (S_Mo_know c43) (z_d dd_Mo_tables 52 rfl) ok_Mo_know iv_Mo_know se_Mo_know ml_Mo_292 rfl rfl h41 rfl rfl rfl (Nat.le_of_ble_eq_true rfl) ⟨(Nat.le_of_ble_eq_true rfl), (Nat.le_of_ble_eq_true rfl)⟩ ⟨(Nat.le_of_ble_eq_true rfl), (Nat.le_of_ble_eq_true rfl)⟩ ?_
        refine r_goto C 322 (z_d dd_Mo_tables 53 rfl) (by decide) ?_
        refine r_mk [true, true, true, true, true, false, false, false] ?_
        exact s_Mo_tables_322 C hr E ih n l0 l1 l2 l3 l4 q42.2 h
def f_Mo_tables_0 (O : zO) (n : Nat) (l0 : Nat) (l1 : Int32) (M : zM) : Option (Int32 × zM) :=
  if z_k M l0 = 13 then
  zlet (z_i M l0 28) fun v2 =>
  if (z_i M l0 28) < l1 then
  if z_k M (z_p M l0 0) = 100 then
  if zin (z_i M l0 28) (z_n M (z_p M l0 0)) = true then
  zlet (z_i M (z_p M l0 0) (z_i M l0 28).toNatClampNeg) fun v6 =>
  zlet (w_i M l0 28 ((z_i M l0 28) + (1 : Int32))) fun M8 =>
  if (v6 - v6 / (4 : Int32) * (4 : Int32)) ≤ 0 then
  f_Mo_tables_58 O n l0 l1 v2 v6 (0 : Int32) M8
  else
  (F_Mo_wrong O n l0 (15 : Int32) v2 M8).bind fun q12 =>
  if q12.1 = 0 ∨ q12.1 = 1 then
  some (q12.1, q12.2)
  else none
  else none
  else none
  else
  (F_Mo_wrong O n l0 (10 : Int32) l1 M).bind fun q16 =>
  if q16.1 = 0 ∨ q16.1 = 1 then
  some (q16.1, q16.2)
  else none
  else none
set_option maxRecDepth 100000 in
set_option maxHeartbeats 4000000 in
theorem s_Mo_tables_0 {X : zX} {q : Int32 × zM} (C : zC X zR12 prog_14_method_41_code 8 { frames := 4, cells := 0, slots := 0, locals := 101 }) (hr : zRt X (some .boolean)) (E : zE X (some (zI q.1)) q.2 0 0) : ∀ (n : Nat) (l0 : Nat) (l1 : Int32) (M : zM), f_Mo_tables_0 (zOD X) n l0 l1 M = some q → zW X 0 0 0 [some (zP l0), some (zI l1), none, none, none, none, none, none] [] M := by
  intro n l0 l1 M h
  rw [f_Mo_tables_0] at h
  refine r_aload_n C (z_d dd_Mo_tables 0 rfl) rfl ?_
  obtain ⟨h1, h⟩ := zif h
  refine r_getI C (z_d dd_Mo_tables 1 rfl) lk_Mo_204 rfl h1 rfl ?_
  obtain ⟨v2, e3, h⟩ := zlet_ex h
  refine r_nmI e3 ?_
  refine r_istore_n (lv' := [some (zP l0), some (zI l1), some (zI v2), none, none, none, none, none]) C (z_d dd_Mo_tables 2 rfl) (Nat.le_of_ble_eq_true rfl) rfl ?_
  refine r_aload_n C (z_d dd_Mo_tables 3 rfl) rfl ?_
  refine r_getI C (z_d dd_Mo_tables 4 rfl) lk_Mo_204 rfl h1 rfl ?_
  refine r_iload_n C (z_d dd_Mo_tables 5 rfl) rfl ?_
  refine r_icmp_lt C 21 (z_d dd_Mo_tables 6 rfl) (by decide) (fun c19 => ?_) (fun c19 => ?_)
  · have h := zift h c19
    refine r_aload_n C (z_d dd_Mo_tables 12 rfl) rfl ?_
    refine r_getP C (z_d dd_Mo_tables 13 rfl) lk_Mo_7 rfl h1 rfl ?_
    refine r_aload_n C (z_d dd_Mo_tables 14 rfl) rfl ?_
    refine r_getI C (z_d dd_Mo_tables 15 rfl) lk_Mo_204 rfl h1 rfl ?_
    obtain ⟨h4, h⟩ := zif h
    obtain ⟨h5, h⟩ := zif h
    refine r_iald C (z_d dd_Mo_tables 16 rfl) h4 h5 rfl ?_
    obtain ⟨v6, e7, h⟩ := zlet_ex h
    refine r_nmI e7 ?_
    refine r_istore_n (lv' := [some (zP l0), some (zI l1), some (zI v2), some (zI v6), none, none, none, none]) C (z_d dd_Mo_tables 17 rfl) (Nat.le_of_ble_eq_true rfl) rfl ?_
    refine r_aload_n C (z_d dd_Mo_tables 18 rfl) rfl ?_
    refine r_dupP C (z_d dd_Mo_tables 19 rfl) ?_
    refine r_getI C (z_d dd_Mo_tables 20 rfl) lk_Mo_204 rfl h1 rfl ?_
    refine r_iconst (v := (1 : Int32)) C (z_d dd_Mo_tables 21 rfl) (by decide) ?_
    refine r_iadd C (z_d dd_Mo_tables 22 rfl) ?_
    obtain ⟨M8, e9, h⟩ := zlet_ex h
    have h10 := k_i e9 h1
    have h11 := k_i e9 h4
    refine r_putI C (z_d dd_Mo_tables 23 rfl) lp_Mo_204 rfl h1 e9 ?_
    refine r_iload_n C (z_d dd_Mo_tables 24 rfl) rfl ?_
    refine r_iconst (v := (4 : Int32)) C (z_d dd_Mo_tables 25 rfl) (by decide) ?_
    refine r_irem C (z_d dd_Mo_tables 26 rfl) (by decide) ?_
    refine r_if_le C 55 (z_d dd_Mo_tables 27 rfl) (by decide) (fun c15 => ?_) (fun c15 => ?_)
    · have h := zift h c15
      refine r_iconst (v := (0 : Int32)) C (z_d dd_Mo_tables 33 rfl) (by decide) ?_
      refine r_istore (lv' := [some (zP l0), some (zI l1), some (zI v2), some (zI v6), some (zI (0 : Int32)), none, none, none]) C (z_d dd_Mo_tables 34 rfl) (Nat.le_of_ble_eq_true rfl) rfl ?_
      exact s_Mo_tables_58 C hr E n l0 l1 v2 v6 (0 : Int32) M8 h
    · have h := ziff h c15
      refine r_aload_n C (z_d dd_Mo_tables 28 rfl) rfl ?_
      refine r_bipush (v := (15 : Int32)) C (z_d dd_Mo_tables 29 rfl) (by decide) ?_
      refine r_iload_n C (z_d dd_Mo_tables 30 rfl) rfl ?_
      obtain ⟨q12, c13, h⟩ := zbd h
      refine r_invV (as := [zI (15 : Int32), zI v2]) C 12 (S_Mo_wrong c13) (z_d dd_Mo_tables 31 rfl) ok_Mo_wrong iv_Mo_wrong se_Mo_wrong ml_Mo_207 rfl rfl h10 rfl rfl rfl (Nat.le_of_ble_eq_true rfl) ⟨(Nat.le_of_ble_eq_true rfl), (Nat.le_of_ble_eq_true rfl)⟩ ⟨(Nat.le_of_ble_eq_true rfl), (Nat.le_of_ble_eq_true rfl)⟩ ?_
      obtain ⟨h14, h⟩ := zif h
      obtain rfl := z_res h
      exact r_iretZ C E hr (z_d dd_Mo_tables 32 rfl) h14 (Nat.le_of_ble_eq_true rfl) (Nat.le_of_ble_eq_true rfl)
  · have h := ziff h c19
    refine r_aload_n C (z_d dd_Mo_tables 7 rfl) rfl ?_
    refine r_bipush (v := (10 : Int32)) C (z_d dd_Mo_tables 8 rfl) (by decide) ?_
    refine r_iload_n C (z_d dd_Mo_tables 9 rfl) rfl ?_
    obtain ⟨q16, c17, h⟩ := zbd h
    refine r_invV (as := [zI (10 : Int32), zI l1]) C 12 (S_Mo_wrong c17) (z_d dd_Mo_tables 10 rfl) ok_Mo_wrong iv_Mo_wrong se_Mo_wrong ml_Mo_207 rfl rfl h1 rfl rfl rfl (Nat.le_of_ble_eq_true rfl) ⟨(Nat.le_of_ble_eq_true rfl), (Nat.le_of_ble_eq_true rfl)⟩ ⟨(Nat.le_of_ble_eq_true rfl), (Nat.le_of_ble_eq_true rfl)⟩ ?_
    obtain ⟨h18, h⟩ := zif h
    obtain rfl := z_res h
    exact r_iretZ C E hr (z_d dd_Mo_tables 11 rfl) h18 (Nat.le_of_ble_eq_true rfl) (Nat.le_of_ble_eq_true rfl)
def F_Mo_tables (O : zO) (n : Nat) (l0 : Nat) (l1 : Int32) (M : zM) : Option (Int32 × zM) := f_Mo_tables_0 O n l0 l1 M
theorem S_Mo_tables {l : Launch} {D : zD} {n : Nat} {l0 : Nat} {l1 : Int32} {M : zM} {q : Int32 × zM} (h : F_Mo_tables D.2.2.2.2 n l0 l1 M = some q) : zMet l D mi_Mo_tables [zP l0, zI l1] M (some (zI q.1)) q.2 :=
  z_met (by decide) (Nat.le_of_ble_eq_true rfl) (fun X C E hr hin hD hl => by
    subst hD
    exact s_Mo_tables_0 C hr E n l0 l1 M h)

def f_Mo_matchBits_64 (O : zO) (n : Nat) (s0 : Int32) (M : zM) : Option (Int32 × zM) :=
  some (s0, M)
set_option maxRecDepth 100000 in
set_option maxHeartbeats 4000000 in
theorem s_Mo_matchBits_64 {X : zX} {q : Int32 × zM} (C : zC X zR12 prog_14_method_45_code 1 { frames := 0, cells := 0, slots := 0, locals := 0 }) (hr : zRt X (some .int)) (E : zE X (some (zI q.1)) q.2 0 0) : ∀ (n : Nat) (s0 : Int32) (M : zM), f_Mo_matchBits_64 (zOD X) n s0 M = some q → zW X 0 0 64 [none] [zI s0] M := by
  intro n s0 M h
  rw [f_Mo_matchBits_64] at h
  obtain rfl := z_res h
  exact r_iretI C E hr (z_d dd_Mo_matchBits 33 rfl) (Nat.le_of_ble_eq_true rfl) (Nat.le_of_ble_eq_true rfl)
def f_Mo_matchBits_0 (O : zO) (n : Nat) (l0 : Int32) (M : zM) : Option (Int32 × zM) :=
  if (32 : Int32) ≤ l0 then
  if (36 : Int32) ≤ l0 then
  if (38 : Int32) ≤ l0 then
  if (40 : Int32) ≤ l0 then
  if (42 : Int32) ≤ l0 then
  if l0 = (42 : Int32) then
  f_Mo_matchBits_64 O n (5 : Int32) M
  else
  f_Mo_matchBits_64 O n (l0 - (36 : Int32)) M
  else
  f_Mo_matchBits_64 O n (4 : Int32) M
  else
  f_Mo_matchBits_64 O n (3 : Int32) M
  else
  f_Mo_matchBits_64 O n (2 : Int32) M
  else
  f_Mo_matchBits_64 O n (1 : Int32) M
  else
  f_Mo_matchBits_64 O n (0 : Int32) M
set_option maxRecDepth 100000 in
set_option maxHeartbeats 4000000 in
theorem s_Mo_matchBits_0 {X : zX} {q : Int32 × zM} (C : zC X zR12 prog_14_method_45_code 1 { frames := 0, cells := 0, slots := 0, locals := 0 }) (hr : zRt X (some .int)) (E : zE X (some (zI q.1)) q.2 0 0) : ∀ (n : Nat) (l0 : Int32) (M : zM), f_Mo_matchBits_0 (zOD X) n l0 M = some q → zW X 0 0 0 [some (zI l0)] [] M := by
  intro n l0 M h
  rw [f_Mo_matchBits_0] at h
  refine r_iload_n C (z_d dd_Mo_matchBits 0 rfl) rfl ?_
  refine r_bipush (v := (32 : Int32)) C (z_d dd_Mo_matchBits 1 rfl) (by decide) ?_
  refine r_icmp_ge C 10 (z_d dd_Mo_matchBits 2 rfl) (by decide) (fun c6 => ?_) (fun c6 => ?_)
  · have h := zift h c6
    refine r_iload_n C (z_d dd_Mo_matchBits 5 rfl) rfl ?_
    refine r_bipush (v := (36 : Int32)) C (z_d dd_Mo_matchBits 6 rfl) (by decide) ?_
    refine r_icmp_ge C 20 (z_d dd_Mo_matchBits 7 rfl) (by decide) (fun c5 => ?_) (fun c5 => ?_)
    · have h := zift h c5
      refine r_iload_n C (z_d dd_Mo_matchBits 10 rfl) rfl ?_
      refine r_bipush (v := (38 : Int32)) C (z_d dd_Mo_matchBits 11 rfl) (by decide) ?_
      refine r_icmp_ge C 30 (z_d dd_Mo_matchBits 12 rfl) (by decide) (fun c4 => ?_) (fun c4 => ?_)
      · have h := zift h c4
        refine r_iload_n C (z_d dd_Mo_matchBits 15 rfl) rfl ?_
        refine r_bipush (v := (40 : Int32)) C (z_d dd_Mo_matchBits 16 rfl) (by decide) ?_
        refine r_icmp_ge C 40 (z_d dd_Mo_matchBits 17 rfl) (by decide) (fun c3 => ?_) (fun c3 => ?_)
        · have h := zift h c3
          refine r_iload_n C (z_d dd_Mo_matchBits 20 rfl) rfl ?_
          refine r_bipush (v := (42 : Int32)) C (z_d dd_Mo_matchBits 21 rfl) (by decide) ?_
          refine r_icmp_ge C 50 (z_d dd_Mo_matchBits 22 rfl) (by decide) (fun c2 => ?_) (fun c2 => ?_)
          · have h := zift h c2
            refine r_iload_n C (z_d dd_Mo_matchBits 25 rfl) rfl ?_
            refine r_bipush (v := (42 : Int32)) C (z_d dd_Mo_matchBits 26 rfl) (by decide) ?_
            refine r_icmp_ne C 60 (z_d dd_Mo_matchBits 27 rfl) (by decide) (fun c1 => ?_) (fun c1 => ?_)
            · have h := ziff h c1
              refine r_iload_n C (z_d dd_Mo_matchBits 30 rfl) rfl ?_
              refine r_bipush (v := (36 : Int32)) C (z_d dd_Mo_matchBits 31 rfl) (by decide) ?_
              refine r_isub C (z_d dd_Mo_matchBits 32 rfl) ?_
              refine r_mk [false] ?_
              exact s_Mo_matchBits_64 C hr E n (l0 - (36 : Int32)) M h
            · have h := zift h c1
              refine r_iconst (v := (5 : Int32)) C (z_d dd_Mo_matchBits 28 rfl) (by decide) ?_
              refine r_goto C 64 (z_d dd_Mo_matchBits 29 rfl) (by decide) ?_
              refine r_mk [false] ?_
              exact s_Mo_matchBits_64 C hr E n (5 : Int32) M h
          · have h := ziff h c2
            refine r_iconst (v := (4 : Int32)) C (z_d dd_Mo_matchBits 23 rfl) (by decide) ?_
            refine r_goto C 64 (z_d dd_Mo_matchBits 24 rfl) (by decide) ?_
            refine r_mk [false] ?_
            exact s_Mo_matchBits_64 C hr E n (4 : Int32) M h
        · have h := ziff h c3
          refine r_iconst (v := (3 : Int32)) C (z_d dd_Mo_matchBits 18 rfl) (by decide) ?_
          refine r_goto C 64 (z_d dd_Mo_matchBits 19 rfl) (by decide) ?_
          refine r_mk [false] ?_
          exact s_Mo_matchBits_64 C hr E n (3 : Int32) M h
      · have h := ziff h c4
        refine r_iconst (v := (2 : Int32)) C (z_d dd_Mo_matchBits 13 rfl) (by decide) ?_
        refine r_goto C 64 (z_d dd_Mo_matchBits 14 rfl) (by decide) ?_
        refine r_mk [false] ?_
        exact s_Mo_matchBits_64 C hr E n (2 : Int32) M h
    · have h := ziff h c5
      refine r_iconst (v := (1 : Int32)) C (z_d dd_Mo_matchBits 8 rfl) (by decide) ?_
      refine r_goto C 64 (z_d dd_Mo_matchBits 9 rfl) (by decide) ?_
      refine r_mk [false] ?_
      exact s_Mo_matchBits_64 C hr E n (1 : Int32) M h
  · have h := ziff h c6
    refine r_iconst (v := (0 : Int32)) C (z_d dd_Mo_matchBits 3 rfl) (by decide) ?_
    refine r_goto C 64 (z_d dd_Mo_matchBits 4 rfl) (by decide) ?_
    refine r_mk [false] ?_
    exact s_Mo_matchBits_64 C hr E n (0 : Int32) M h
def F_Mo_matchBits (O : zO) (n : Nat) (l0 : Int32) (M : zM) : Option (Int32 × zM) := f_Mo_matchBits_0 O n l0 M
theorem S_Mo_matchBits {l : Launch} {D : zD} {n : Nat} {l0 : Int32} {M : zM} {q : Int32 × zM} (h : F_Mo_matchBits D.2.2.2.2 n l0 M = some q) : zMet l D mi_Mo_matchBits [zI l0] M (some (zI q.1)) q.2 :=
  z_met (by decide) (Nat.le_of_ble_eq_true rfl) (fun X C E hr hin hD hl => by
    subst hD
    exact s_Mo_matchBits_0 C hr E n l0 M h)

def f_Mo_literalBits_54 (O : zO) (n : Nat) (s0 : Int32) (M : zM) : Option (Int32 × zM) :=
  some (s0, M)
set_option maxRecDepth 100000 in
set_option maxHeartbeats 4000000 in
theorem s_Mo_literalBits_54 {X : zX} {q : Int32 × zM} (C : zC X zR12 prog_14_method_43_code 1 { frames := 0, cells := 0, slots := 0, locals := 0 }) (hr : zRt X (some .int)) (E : zE X (some (zI q.1)) q.2 0 0) : ∀ (n : Nat) (s0 : Int32) (M : zM), f_Mo_literalBits_54 (zOD X) n s0 M = some q → zW X 0 0 54 [none] [zI s0] M := by
  intro n s0 M h
  rw [f_Mo_literalBits_54] at h
  obtain rfl := z_res h
  exact r_iretI C E hr (z_d dd_Mo_literalBits 28 rfl) (Nat.le_of_ble_eq_true rfl) (Nat.le_of_ble_eq_true rfl)
def f_Mo_literalBits_0 (O : zO) (n : Nat) (l0 : Int32) (M : zM) : Option (Int32 × zM) :=
  if (16 : Int32) ≤ l0 then
  if (20 : Int32) ≤ l0 then
  if (22 : Int32) ≤ l0 then
  if (24 : Int32) ≤ l0 then
  if l0 = (24 : Int32) then
  f_Mo_literalBits_54 O n (4 : Int32) M
  else
  f_Mo_literalBits_54 O n (l0 - (19 : Int32)) M
  else
  f_Mo_literalBits_54 O n (3 : Int32) M
  else
  f_Mo_literalBits_54 O n (2 : Int32) M
  else
  f_Mo_literalBits_54 O n (1 : Int32) M
  else
  f_Mo_literalBits_54 O n (0 : Int32) M
set_option maxRecDepth 100000 in
set_option maxHeartbeats 4000000 in
theorem s_Mo_literalBits_0 {X : zX} {q : Int32 × zM} (C : zC X zR12 prog_14_method_43_code 1 { frames := 0, cells := 0, slots := 0, locals := 0 }) (hr : zRt X (some .int)) (E : zE X (some (zI q.1)) q.2 0 0) : ∀ (n : Nat) (l0 : Int32) (M : zM), f_Mo_literalBits_0 (zOD X) n l0 M = some q → zW X 0 0 0 [some (zI l0)] [] M := by
  intro n l0 M h
  rw [f_Mo_literalBits_0] at h
  refine r_iload_n C (z_d dd_Mo_literalBits 0 rfl) rfl ?_
  refine r_bipush (v := (16 : Int32)) C (z_d dd_Mo_literalBits 1 rfl) (by decide) ?_
  refine r_icmp_ge C 10 (z_d dd_Mo_literalBits 2 rfl) (by decide) (fun c5 => ?_) (fun c5 => ?_)
  · have h := zift h c5
    refine r_iload_n C (z_d dd_Mo_literalBits 5 rfl) rfl ?_
    refine r_bipush (v := (20 : Int32)) C (z_d dd_Mo_literalBits 6 rfl) (by decide) ?_
    refine r_icmp_ge C 20 (z_d dd_Mo_literalBits 7 rfl) (by decide) (fun c4 => ?_) (fun c4 => ?_)
    · have h := zift h c4
      refine r_iload_n C (z_d dd_Mo_literalBits 10 rfl) rfl ?_
      refine r_bipush (v := (22 : Int32)) C (z_d dd_Mo_literalBits 11 rfl) (by decide) ?_
      refine r_icmp_ge C 30 (z_d dd_Mo_literalBits 12 rfl) (by decide) (fun c3 => ?_) (fun c3 => ?_)
      · have h := zift h c3
        refine r_iload_n C (z_d dd_Mo_literalBits 15 rfl) rfl ?_
        refine r_bipush (v := (24 : Int32)) C (z_d dd_Mo_literalBits 16 rfl) (by decide) ?_
        refine r_icmp_ge C 40 (z_d dd_Mo_literalBits 17 rfl) (by decide) (fun c2 => ?_) (fun c2 => ?_)
        · have h := zift h c2
          refine r_iload_n C (z_d dd_Mo_literalBits 20 rfl) rfl ?_
          refine r_bipush (v := (24 : Int32)) C (z_d dd_Mo_literalBits 21 rfl) (by decide) ?_
          refine r_icmp_ne C 50 (z_d dd_Mo_literalBits 22 rfl) (by decide) (fun c1 => ?_) (fun c1 => ?_)
          · have h := ziff h c1
            refine r_iload_n C (z_d dd_Mo_literalBits 25 rfl) rfl ?_
            refine r_bipush (v := (19 : Int32)) C (z_d dd_Mo_literalBits 26 rfl) (by decide) ?_
            refine r_isub C (z_d dd_Mo_literalBits 27 rfl) ?_
            refine r_mk [false] ?_
            exact s_Mo_literalBits_54 C hr E n (l0 - (19 : Int32)) M h
          · have h := zift h c1
            refine r_iconst (v := (4 : Int32)) C (z_d dd_Mo_literalBits 23 rfl) (by decide) ?_
            refine r_goto C 54 (z_d dd_Mo_literalBits 24 rfl) (by decide) ?_
            refine r_mk [false] ?_
            exact s_Mo_literalBits_54 C hr E n (4 : Int32) M h
        · have h := ziff h c2
          refine r_iconst (v := (3 : Int32)) C (z_d dd_Mo_literalBits 18 rfl) (by decide) ?_
          refine r_goto C 54 (z_d dd_Mo_literalBits 19 rfl) (by decide) ?_
          refine r_mk [false] ?_
          exact s_Mo_literalBits_54 C hr E n (3 : Int32) M h
      · have h := ziff h c3
        refine r_iconst (v := (2 : Int32)) C (z_d dd_Mo_literalBits 13 rfl) (by decide) ?_
        refine r_goto C 54 (z_d dd_Mo_literalBits 14 rfl) (by decide) ?_
        refine r_mk [false] ?_
        exact s_Mo_literalBits_54 C hr E n (2 : Int32) M h
    · have h := ziff h c4
      refine r_iconst (v := (1 : Int32)) C (z_d dd_Mo_literalBits 8 rfl) (by decide) ?_
      refine r_goto C 54 (z_d dd_Mo_literalBits 9 rfl) (by decide) ?_
      refine r_mk [false] ?_
      exact s_Mo_literalBits_54 C hr E n (1 : Int32) M h
  · have h := ziff h c5
    refine r_iconst (v := (0 : Int32)) C (z_d dd_Mo_literalBits 3 rfl) (by decide) ?_
    refine r_goto C 54 (z_d dd_Mo_literalBits 4 rfl) (by decide) ?_
    refine r_mk [false] ?_
    exact s_Mo_literalBits_54 C hr E n (0 : Int32) M h
def F_Mo_literalBits (O : zO) (n : Nat) (l0 : Int32) (M : zM) : Option (Int32 × zM) := f_Mo_literalBits_0 O n l0 M
theorem S_Mo_literalBits {l : Launch} {D : zD} {n : Nat} {l0 : Int32} {M : zM} {q : Int32 × zM} (h : F_Mo_literalBits D.2.2.2.2 n l0 M = some q) : zMet l D mi_Mo_literalBits [zI l0] M (some (zI q.1)) q.2 :=
  z_met (by decide) (Nat.le_of_ble_eq_true rfl) (fun X C E hr hin hD hl => by
    subst hD
    exact s_Mo_literalBits_0 C hr E n l0 M h)

def f_Mo_matchBase_95 (O : zO) (n : Nat) (s0 : Int32) (M : zM) : Option (Int32 × zM) :=
  some (s0, M)
set_option maxRecDepth 100000 in
set_option maxHeartbeats 4000000 in
theorem s_Mo_matchBase_95 {X : zX} {q : Int32 × zM} (C : zC X zR12 prog_14_method_44_code 1 { frames := 0, cells := 0, slots := 0, locals := 0 }) (hr : zRt X (some .int)) (E : zE X (some (zI q.1)) q.2 0 0) : ∀ (n : Nat) (s0 : Int32) (M : zM), f_Mo_matchBase_95 (zOD X) n s0 M = some q → zW X 0 0 95 [none] [zI s0] M := by
  intro n s0 M h
  rw [f_Mo_matchBase_95] at h
  obtain rfl := z_res h
  exact r_iretI C E hr (z_d dd_Mo_matchBase 63 rfl) (Nat.le_of_ble_eq_true rfl) (Nat.le_of_ble_eq_true rfl)
def f_Mo_matchBase_0 (O : zO) (n : Nat) (l0 : Int32) (M : zM) : Option (Int32 × zM) :=
  if (32 : Int32) ≤ l0 then
  if (36 : Int32) ≤ l0 then
  if (38 : Int32) ≤ l0 then
  if (40 : Int32) ≤ l0 then
  if (42 : Int32) ≤ l0 then
  if l0 = (42 : Int32) then
  f_Mo_matchBase_95 O n (99 : Int32) M
  else
  f_Mo_matchBase_95 O n (((1 : Int32) <<< ((l0 - (36 : Int32)) &&& 31)) + (3 : Int32)) M
  else
  some (((67 : Int32) + ((16 : Int32) * (l0 - (40 : Int32)))), M)
  else
  some (((51 : Int32) + ((8 : Int32) * (l0 - (38 : Int32)))), M)
  else
  some (((43 : Int32) + ((4 : Int32) * (l0 - (36 : Int32)))), M)
  else
  some (((35 : Int32) + ((2 : Int32) * (l0 - (32 : Int32)))), M)
  else
  some ((l0 + (3 : Int32)), M)
set_option maxRecDepth 100000 in
set_option maxHeartbeats 4000000 in
theorem s_Mo_matchBase_0 {X : zX} {q : Int32 × zM} (C : zC X zR12 prog_14_method_44_code 1 { frames := 0, cells := 0, slots := 0, locals := 0 }) (hr : zRt X (some .int)) (E : zE X (some (zI q.1)) q.2 0 0) : ∀ (n : Nat) (l0 : Int32) (M : zM), f_Mo_matchBase_0 (zOD X) n l0 M = some q → zW X 0 0 0 [some (zI l0)] [] M := by
  intro n l0 M h
  rw [f_Mo_matchBase_0] at h
  refine r_iload_n C (z_d dd_Mo_matchBase 0 rfl) rfl ?_
  refine r_bipush (v := (32 : Int32)) C (z_d dd_Mo_matchBase 1 rfl) (by decide) ?_
  refine r_icmp_ge C 10 (z_d dd_Mo_matchBase 2 rfl) (by decide) (fun c6 => ?_) (fun c6 => ?_)
  · have h := zift h c6
    refine r_iload_n C (z_d dd_Mo_matchBase 7 rfl) rfl ?_
    refine r_bipush (v := (36 : Int32)) C (z_d dd_Mo_matchBase 8 rfl) (by decide) ?_
    refine r_icmp_ge C 26 (z_d dd_Mo_matchBase 9 rfl) (by decide) (fun c5 => ?_) (fun c5 => ?_)
    · have h := zift h c5
      refine r_iload_n C (z_d dd_Mo_matchBase 18 rfl) rfl ?_
      refine r_bipush (v := (38 : Int32)) C (z_d dd_Mo_matchBase 19 rfl) (by decide) ?_
      refine r_icmp_ge C 42 (z_d dd_Mo_matchBase 20 rfl) (by decide) (fun c4 => ?_) (fun c4 => ?_)
      · have h := zift h c4
        refine r_iload_n C (z_d dd_Mo_matchBase 29 rfl) rfl ?_
        refine r_bipush (v := (40 : Int32)) C (z_d dd_Mo_matchBase 30 rfl) (by decide) ?_
        refine r_icmp_ge C 59 (z_d dd_Mo_matchBase 31 rfl) (by decide) (fun c3 => ?_) (fun c3 => ?_)
        · have h := zift h c3
          refine r_iload_n C (z_d dd_Mo_matchBase 40 rfl) rfl ?_
          refine r_bipush (v := (42 : Int32)) C (z_d dd_Mo_matchBase 41 rfl) (by decide) ?_
          refine r_icmp_ge C 76 (z_d dd_Mo_matchBase 42 rfl) (by decide) (fun c2 => ?_) (fun c2 => ?_)
          · have h := zift h c2
            refine r_iload_n C (z_d dd_Mo_matchBase 51 rfl) rfl ?_
            refine r_bipush (v := (42 : Int32)) C (z_d dd_Mo_matchBase 52 rfl) (by decide) ?_
            refine r_icmp_ne C 87 (z_d dd_Mo_matchBase 53 rfl) (by decide) (fun c1 => ?_) (fun c1 => ?_)
            · have h := ziff h c1
              refine r_iconst (v := (1 : Int32)) C (z_d dd_Mo_matchBase 56 rfl) (by decide) ?_
              refine r_iload_n C (z_d dd_Mo_matchBase 57 rfl) rfl ?_
              refine r_bipush (v := (36 : Int32)) C (z_d dd_Mo_matchBase 58 rfl) (by decide) ?_
              refine r_isub C (z_d dd_Mo_matchBase 59 rfl) ?_
              refine r_ishl C (z_d dd_Mo_matchBase 60 rfl) ?_
              refine r_iconst (v := (3 : Int32)) C (z_d dd_Mo_matchBase 61 rfl) (by decide) ?_
              refine r_iadd C (z_d dd_Mo_matchBase 62 rfl) ?_
              refine r_mk [false] ?_
              exact s_Mo_matchBase_95 C hr E n (((1 : Int32) <<< ((l0 - (36 : Int32)) &&& 31)) + (3 : Int32)) M h
            · have h := zift h c1
              refine r_bipush (v := (99 : Int32)) C (z_d dd_Mo_matchBase 54 rfl) (by decide) ?_
              refine r_goto C 95 (z_d dd_Mo_matchBase 55 rfl) (by decide) ?_
              refine r_mk [false] ?_
              exact s_Mo_matchBase_95 C hr E n (99 : Int32) M h
          · have h := ziff h c2
            refine r_bipush (v := (67 : Int32)) C (z_d dd_Mo_matchBase 43 rfl) (by decide) ?_
            refine r_bipush (v := (16 : Int32)) C (z_d dd_Mo_matchBase 44 rfl) (by decide) ?_
            refine r_iload_n C (z_d dd_Mo_matchBase 45 rfl) rfl ?_
            refine r_bipush (v := (40 : Int32)) C (z_d dd_Mo_matchBase 46 rfl) (by decide) ?_
            refine r_isub C (z_d dd_Mo_matchBase 47 rfl) ?_
            refine r_imul C (z_d dd_Mo_matchBase 48 rfl) ?_
            refine r_iadd C (z_d dd_Mo_matchBase 49 rfl) ?_
            obtain rfl := z_res h
            exact r_iretI C E hr (z_d dd_Mo_matchBase 50 rfl) (Nat.le_of_ble_eq_true rfl) (Nat.le_of_ble_eq_true rfl)
        · have h := ziff h c3
          refine r_bipush (v := (51 : Int32)) C (z_d dd_Mo_matchBase 32 rfl) (by decide) ?_
          refine r_bipush (v := (8 : Int32)) C (z_d dd_Mo_matchBase 33 rfl) (by decide) ?_
          refine r_iload_n C (z_d dd_Mo_matchBase 34 rfl) rfl ?_
          refine r_bipush (v := (38 : Int32)) C (z_d dd_Mo_matchBase 35 rfl) (by decide) ?_
          refine r_isub C (z_d dd_Mo_matchBase 36 rfl) ?_
          refine r_imul C (z_d dd_Mo_matchBase 37 rfl) ?_
          refine r_iadd C (z_d dd_Mo_matchBase 38 rfl) ?_
          obtain rfl := z_res h
          exact r_iretI C E hr (z_d dd_Mo_matchBase 39 rfl) (Nat.le_of_ble_eq_true rfl) (Nat.le_of_ble_eq_true rfl)
      · have h := ziff h c4
        refine r_bipush (v := (43 : Int32)) C (z_d dd_Mo_matchBase 21 rfl) (by decide) ?_
        refine r_iconst (v := (4 : Int32)) C (z_d dd_Mo_matchBase 22 rfl) (by decide) ?_
        refine r_iload_n C (z_d dd_Mo_matchBase 23 rfl) rfl ?_
        refine r_bipush (v := (36 : Int32)) C (z_d dd_Mo_matchBase 24 rfl) (by decide) ?_
        refine r_isub C (z_d dd_Mo_matchBase 25 rfl) ?_
        refine r_imul C (z_d dd_Mo_matchBase 26 rfl) ?_
        refine r_iadd C (z_d dd_Mo_matchBase 27 rfl) ?_
        obtain rfl := z_res h
        exact r_iretI C E hr (z_d dd_Mo_matchBase 28 rfl) (Nat.le_of_ble_eq_true rfl) (Nat.le_of_ble_eq_true rfl)
    · have h := ziff h c5
      refine r_bipush (v := (35 : Int32)) C (z_d dd_Mo_matchBase 10 rfl) (by decide) ?_
      refine r_iconst (v := (2 : Int32)) C (z_d dd_Mo_matchBase 11 rfl) (by decide) ?_
      refine r_iload_n C (z_d dd_Mo_matchBase 12 rfl) rfl ?_
      refine r_bipush (v := (32 : Int32)) C (z_d dd_Mo_matchBase 13 rfl) (by decide) ?_
      refine r_isub C (z_d dd_Mo_matchBase 14 rfl) ?_
      refine r_imul C (z_d dd_Mo_matchBase 15 rfl) ?_
      refine r_iadd C (z_d dd_Mo_matchBase 16 rfl) ?_
      obtain rfl := z_res h
      exact r_iretI C E hr (z_d dd_Mo_matchBase 17 rfl) (Nat.le_of_ble_eq_true rfl) (Nat.le_of_ble_eq_true rfl)
  · have h := ziff h c6
    refine r_iload_n C (z_d dd_Mo_matchBase 3 rfl) rfl ?_
    refine r_iconst (v := (3 : Int32)) C (z_d dd_Mo_matchBase 4 rfl) (by decide) ?_
    refine r_iadd C (z_d dd_Mo_matchBase 5 rfl) ?_
    obtain rfl := z_res h
    exact r_iretI C E hr (z_d dd_Mo_matchBase 6 rfl) (Nat.le_of_ble_eq_true rfl) (Nat.le_of_ble_eq_true rfl)
def F_Mo_matchBase (O : zO) (n : Nat) (l0 : Int32) (M : zM) : Option (Int32 × zM) := f_Mo_matchBase_0 O n l0 M
theorem S_Mo_matchBase {l : Launch} {D : zD} {n : Nat} {l0 : Int32} {M : zM} {q : Int32 × zM} (h : F_Mo_matchBase D.2.2.2.2 n l0 M = some q) : zMet l D mi_Mo_matchBase [zI l0] M (some (zI q.1)) q.2 :=
  z_met (by decide) (Nat.le_of_ble_eq_true rfl) (fun X C E hr hin hD hl => by
    subst hD
    exact s_Mo_matchBase_0 C hr E n l0 M h)

def f_Mo_literalBase_74 (O : zO) (n : Nat) (s0 : Int32) (M : zM) : Option (Int32 × zM) :=
  some (s0, M)
set_option maxRecDepth 100000 in
set_option maxHeartbeats 4000000 in
theorem s_Mo_literalBase_74 {X : zX} {q : Int32 × zM} (C : zC X zR12 prog_14_method_42_code 1 { frames := 0, cells := 0, slots := 0, locals := 0 }) (hr : zRt X (some .int)) (E : zE X (some (zI q.1)) q.2 0 0) : ∀ (n : Nat) (s0 : Int32) (M : zM), f_Mo_literalBase_74 (zOD X) n s0 M = some q → zW X 0 0 74 [none] [zI s0] M := by
  intro n s0 M h
  rw [f_Mo_literalBase_74] at h
  obtain rfl := z_res h
  exact r_iretI C E hr (z_d dd_Mo_literalBase 48 rfl) (Nat.le_of_ble_eq_true rfl) (Nat.le_of_ble_eq_true rfl)
def f_Mo_literalBase_0 (O : zO) (n : Nat) (l0 : Int32) (M : zM) : Option (Int32 × zM) :=
  if (16 : Int32) ≤ l0 then
  if (20 : Int32) ≤ l0 then
  if (22 : Int32) ≤ l0 then
  if (24 : Int32) ≤ l0 then
  if l0 = (24 : Int32) then
  f_Mo_literalBase_74 O n (48 : Int32) M
  else
  f_Mo_literalBase_74 O n ((1 : Int32) <<< ((l0 - (19 : Int32)) &&& 31)) M
  else
  some (((32 : Int32) + ((8 : Int32) * (l0 - (22 : Int32)))), M)
  else
  some (((24 : Int32) + ((4 : Int32) * (l0 - (20 : Int32)))), M)
  else
  some (((16 : Int32) + ((2 : Int32) * (l0 - (16 : Int32)))), M)
  else
  some (l0, M)
set_option maxRecDepth 100000 in
set_option maxHeartbeats 4000000 in
theorem s_Mo_literalBase_0 {X : zX} {q : Int32 × zM} (C : zC X zR12 prog_14_method_42_code 1 { frames := 0, cells := 0, slots := 0, locals := 0 }) (hr : zRt X (some .int)) (E : zE X (some (zI q.1)) q.2 0 0) : ∀ (n : Nat) (l0 : Int32) (M : zM), f_Mo_literalBase_0 (zOD X) n l0 M = some q → zW X 0 0 0 [some (zI l0)] [] M := by
  intro n l0 M h
  rw [f_Mo_literalBase_0] at h
  refine r_iload_n C (z_d dd_Mo_literalBase 0 rfl) rfl ?_
  refine r_bipush (v := (16 : Int32)) C (z_d dd_Mo_literalBase 1 rfl) (by decide) ?_
  refine r_icmp_ge C 8 (z_d dd_Mo_literalBase 2 rfl) (by decide) (fun c5 => ?_) (fun c5 => ?_)
  · have h := zift h c5
    refine r_iload_n C (z_d dd_Mo_literalBase 5 rfl) rfl ?_
    refine r_bipush (v := (20 : Int32)) C (z_d dd_Mo_literalBase 6 rfl) (by decide) ?_
    refine r_icmp_ge C 24 (z_d dd_Mo_literalBase 7 rfl) (by decide) (fun c4 => ?_) (fun c4 => ?_)
    · have h := zift h c4
      refine r_iload_n C (z_d dd_Mo_literalBase 16 rfl) rfl ?_
      refine r_bipush (v := (22 : Int32)) C (z_d dd_Mo_literalBase 17 rfl) (by decide) ?_
      refine r_icmp_ge C 40 (z_d dd_Mo_literalBase 18 rfl) (by decide) (fun c3 => ?_) (fun c3 => ?_)
      · have h := zift h c3
        refine r_iload_n C (z_d dd_Mo_literalBase 27 rfl) rfl ?_
        refine r_bipush (v := (24 : Int32)) C (z_d dd_Mo_literalBase 28 rfl) (by decide) ?_
        refine r_icmp_ge C 57 (z_d dd_Mo_literalBase 29 rfl) (by decide) (fun c2 => ?_) (fun c2 => ?_)
        · have h := zift h c2
          refine r_iload_n C (z_d dd_Mo_literalBase 38 rfl) rfl ?_
          refine r_bipush (v := (24 : Int32)) C (z_d dd_Mo_literalBase 39 rfl) (by decide) ?_
          refine r_icmp_ne C 68 (z_d dd_Mo_literalBase 40 rfl) (by decide) (fun c1 => ?_) (fun c1 => ?_)
          · have h := ziff h c1
            refine r_iconst (v := (1 : Int32)) C (z_d dd_Mo_literalBase 43 rfl) (by decide) ?_
            refine r_iload_n C (z_d dd_Mo_literalBase 44 rfl) rfl ?_
            refine r_bipush (v := (19 : Int32)) C (z_d dd_Mo_literalBase 45 rfl) (by decide) ?_
            refine r_isub C (z_d dd_Mo_literalBase 46 rfl) ?_
            refine r_ishl C (z_d dd_Mo_literalBase 47 rfl) ?_
            refine r_mk [false] ?_
            exact s_Mo_literalBase_74 C hr E n ((1 : Int32) <<< ((l0 - (19 : Int32)) &&& 31)) M h
          · have h := zift h c1
            refine r_bipush (v := (48 : Int32)) C (z_d dd_Mo_literalBase 41 rfl) (by decide) ?_
            refine r_goto C 74 (z_d dd_Mo_literalBase 42 rfl) (by decide) ?_
            refine r_mk [false] ?_
            exact s_Mo_literalBase_74 C hr E n (48 : Int32) M h
        · have h := ziff h c2
          refine r_bipush (v := (32 : Int32)) C (z_d dd_Mo_literalBase 30 rfl) (by decide) ?_
          refine r_bipush (v := (8 : Int32)) C (z_d dd_Mo_literalBase 31 rfl) (by decide) ?_
          refine r_iload_n C (z_d dd_Mo_literalBase 32 rfl) rfl ?_
          refine r_bipush (v := (22 : Int32)) C (z_d dd_Mo_literalBase 33 rfl) (by decide) ?_
          refine r_isub C (z_d dd_Mo_literalBase 34 rfl) ?_
          refine r_imul C (z_d dd_Mo_literalBase 35 rfl) ?_
          refine r_iadd C (z_d dd_Mo_literalBase 36 rfl) ?_
          obtain rfl := z_res h
          exact r_iretI C E hr (z_d dd_Mo_literalBase 37 rfl) (Nat.le_of_ble_eq_true rfl) (Nat.le_of_ble_eq_true rfl)
      · have h := ziff h c3
        refine r_bipush (v := (24 : Int32)) C (z_d dd_Mo_literalBase 19 rfl) (by decide) ?_
        refine r_iconst (v := (4 : Int32)) C (z_d dd_Mo_literalBase 20 rfl) (by decide) ?_
        refine r_iload_n C (z_d dd_Mo_literalBase 21 rfl) rfl ?_
        refine r_bipush (v := (20 : Int32)) C (z_d dd_Mo_literalBase 22 rfl) (by decide) ?_
        refine r_isub C (z_d dd_Mo_literalBase 23 rfl) ?_
        refine r_imul C (z_d dd_Mo_literalBase 24 rfl) ?_
        refine r_iadd C (z_d dd_Mo_literalBase 25 rfl) ?_
        obtain rfl := z_res h
        exact r_iretI C E hr (z_d dd_Mo_literalBase 26 rfl) (Nat.le_of_ble_eq_true rfl) (Nat.le_of_ble_eq_true rfl)
    · have h := ziff h c4
      refine r_bipush (v := (16 : Int32)) C (z_d dd_Mo_literalBase 8 rfl) (by decide) ?_
      refine r_iconst (v := (2 : Int32)) C (z_d dd_Mo_literalBase 9 rfl) (by decide) ?_
      refine r_iload_n C (z_d dd_Mo_literalBase 10 rfl) rfl ?_
      refine r_bipush (v := (16 : Int32)) C (z_d dd_Mo_literalBase 11 rfl) (by decide) ?_
      refine r_isub C (z_d dd_Mo_literalBase 12 rfl) ?_
      refine r_imul C (z_d dd_Mo_literalBase 13 rfl) ?_
      refine r_iadd C (z_d dd_Mo_literalBase 14 rfl) ?_
      obtain rfl := z_res h
      exact r_iretI C E hr (z_d dd_Mo_literalBase 15 rfl) (Nat.le_of_ble_eq_true rfl) (Nat.le_of_ble_eq_true rfl)
  · have h := ziff h c5
    refine r_iload_n C (z_d dd_Mo_literalBase 3 rfl) rfl ?_
    obtain rfl := z_res h
    exact r_iretI C E hr (z_d dd_Mo_literalBase 4 rfl) (Nat.le_of_ble_eq_true rfl) (Nat.le_of_ble_eq_true rfl)
def F_Mo_literalBase (O : zO) (n : Nat) (l0 : Int32) (M : zM) : Option (Int32 × zM) := f_Mo_literalBase_0 O n l0 M
theorem S_Mo_literalBase {l : Launch} {D : zD} {n : Nat} {l0 : Int32} {M : zM} {q : Int32 × zM} (h : F_Mo_literalBase D.2.2.2.2 n l0 M = some q) : zMet l D mi_Mo_literalBase [zI l0] M (some (zI q.1)) q.2 :=
  z_met (by decide) (Nat.le_of_ble_eq_true rfl) (fun X C E hr hin hD hl => by
    subst hD
    exact s_Mo_literalBase_0 C hr E n l0 M h)

def f_Mo_distanceOf_126 (O : zO) (n : Nat) (l0 : Nat) (l6 : Int64) (M : zM) : Option (Int64 × zM) :=
  if z_k M l0 = 13 then
  if z_k M (z_p M l0 20) = 103 then
  if zin (0 : Int32) (z_n M (z_p M l0 20)) = true then
  if zin (1 : Int32) (z_n M (z_p M l0 20)) = true then
  zlet (w_j M (z_p M l0 20) (1 : Int32).toNatClampNeg (z_j M (z_p M l0 20) (0 : Int32).toNatClampNeg)) fun M5 =>
  if z_k M5 (z_p M5 l0 20) = 103 then
  if zin (0 : Int32) (z_n M5 (z_p M5 l0 20)) = true then
  zlet (w_j M5 (z_p M5 l0 20) (0 : Int32).toNatClampNeg l6) fun M11 =>
  some (l6, M11)
  else none
  else none
  else none
  else none
  else none
  else none
set_option maxRecDepth 100000 in
set_option maxHeartbeats 4000000 in
theorem s_Mo_distanceOf_126 {X : zX} {q : Int64 × zM} (C : zC X zR12 prog_14_method_47_code 8 { frames := 0, cells := 0, slots := 0, locals := 0 }) (hr : zRt X (some .long)) (E : zE X (some (zL q.1)) q.2 0 0) : ∀ (n : Nat) (l0 : Nat) (l6 : Int64) (M : zM), f_Mo_distanceOf_126 (zOD X) n l0 l6 M = some q → zW X 0 0 126 [some (zP l0), none, none, none, none, none, some (zL l6), none] [] M := by
  intro n l0 l6 M h
  rw [f_Mo_distanceOf_126] at h
  refine r_aload_n C (z_d dd_Mo_distanceOf 70 rfl) rfl ?_
  obtain ⟨h1, h⟩ := zif h
  refine r_getP C (z_d dd_Mo_distanceOf 71 rfl) lk_Mo_54 rfl h1 rfl ?_
  refine r_iconst (v := (1 : Int32)) C (z_d dd_Mo_distanceOf 72 rfl) (by decide) ?_
  refine r_aload_n C (z_d dd_Mo_distanceOf 73 rfl) rfl ?_
  refine r_getP C (z_d dd_Mo_distanceOf 74 rfl) lk_Mo_54 rfl h1 rfl ?_
  refine r_iconst (v := (0 : Int32)) C (z_d dd_Mo_distanceOf 75 rfl) (by decide) ?_
  obtain ⟨h2, h⟩ := zif h
  obtain ⟨h3, h⟩ := zif h
  refine r_lald C (z_d dd_Mo_distanceOf 76 rfl) h2 h3 rfl ?_
  obtain ⟨h4, h⟩ := zif h
  obtain ⟨M5, e6, h⟩ := zlet_ex h
  have h7 := k_j e6 h1
  have h8 := k_j e6 h2
  refine r_last C (z_d dd_Mo_distanceOf 77 rfl) h2 h4 e6 ?_
  refine r_aload_n C (z_d dd_Mo_distanceOf 78 rfl) rfl ?_
  refine r_getP C (z_d dd_Mo_distanceOf 79 rfl) lk_Mo_54 rfl h7 rfl ?_
  refine r_iconst (v := (0 : Int32)) C (z_d dd_Mo_distanceOf 80 rfl) (by decide) ?_
  refine r_lload C (z_d dd_Mo_distanceOf 81 rfl) rfl ?_
  obtain ⟨h9, h⟩ := zif h
  obtain ⟨h10, h⟩ := zif h
  obtain ⟨M11, e12, h⟩ := zlet_ex h
  have h13 := k_j e12 h7
  have h14 := k_j e12 h8
  have h15 := k_j e12 h9
  refine r_last C (z_d dd_Mo_distanceOf 82 rfl) h9 h10 e12 ?_
  refine r_lload C (z_d dd_Mo_distanceOf 83 rfl) rfl ?_
  obtain rfl := z_res h
  exact r_lret C E hr (z_d dd_Mo_distanceOf 84 rfl) (Nat.le_of_ble_eq_true rfl) (Nat.le_of_ble_eq_true rfl)
def f_Mo_distanceOf_114 (O : zO) (n : Nat) (l0 : Nat) (l6 : Int64) (M : zM) : Option (Int64 × zM) :=
  if z_k M l0 = 13 then
  if z_k M (z_p M l0 20) = 103 then
  if zin (1 : Int32) (z_n M (z_p M l0 20)) = true then
  if zin (2 : Int32) (z_n M (z_p M l0 20)) = true then
  zlet (w_j M (z_p M l0 20) (2 : Int32).toNatClampNeg (z_j M (z_p M l0 20) (1 : Int32).toNatClampNeg)) fun M5 =>
  f_Mo_distanceOf_126 O n l0 l6 M5
  else none
  else none
  else none
  else none
set_option maxRecDepth 100000 in
set_option maxHeartbeats 4000000 in
theorem s_Mo_distanceOf_114 {X : zX} {q : Int64 × zM} (C : zC X zR12 prog_14_method_47_code 8 { frames := 0, cells := 0, slots := 0, locals := 0 }) (hr : zRt X (some .long)) (E : zE X (some (zL q.1)) q.2 0 0) : ∀ (n : Nat) (l0 : Nat) (l6 : Int64) (M : zM), f_Mo_distanceOf_114 (zOD X) n l0 l6 M = some q → zW X 0 0 114 [some (zP l0), none, none, none, none, none, some (zL l6), none] [] M := by
  intro n l0 l6 M h
  rw [f_Mo_distanceOf_114] at h
  refine r_aload_n C (z_d dd_Mo_distanceOf 62 rfl) rfl ?_
  obtain ⟨h1, h⟩ := zif h
  refine r_getP C (z_d dd_Mo_distanceOf 63 rfl) lk_Mo_54 rfl h1 rfl ?_
  refine r_iconst (v := (2 : Int32)) C (z_d dd_Mo_distanceOf 64 rfl) (by decide) ?_
  refine r_aload_n C (z_d dd_Mo_distanceOf 65 rfl) rfl ?_
  refine r_getP C (z_d dd_Mo_distanceOf 66 rfl) lk_Mo_54 rfl h1 rfl ?_
  refine r_iconst (v := (1 : Int32)) C (z_d dd_Mo_distanceOf 67 rfl) (by decide) ?_
  obtain ⟨h2, h⟩ := zif h
  obtain ⟨h3, h⟩ := zif h
  refine r_lald C (z_d dd_Mo_distanceOf 68 rfl) h2 h3 rfl ?_
  obtain ⟨h4, h⟩ := zif h
  obtain ⟨M5, e6, h⟩ := zlet_ex h
  have h7 := k_j e6 h1
  have h8 := k_j e6 h2
  refine r_last C (z_d dd_Mo_distanceOf 69 rfl) h2 h4 e6 ?_
  exact s_Mo_distanceOf_126 C hr E n l0 l6 M5 h
def f_Mo_distanceOf_95 (O : zO) (n : Nat) (l0 : Nat) (l1 : Int64) (l4 : Int64) (s0 : Int64) (M : zM) : Option (Int64 × zM) :=
  if 0 < (lg_cmp l1 (3 : Int64)) then
  f_Mo_distanceOf_114 O n l0 s0 M
  else
  if (lg_cmp l4 (2 : Int64)) ≤ 0 then
  f_Mo_distanceOf_126 O n l0 s0 M
  else
  f_Mo_distanceOf_114 O n l0 s0 M
set_option maxRecDepth 100000 in
set_option maxHeartbeats 4000000 in
theorem s_Mo_distanceOf_95 {X : zX} {q : Int64 × zM} (C : zC X zR12 prog_14_method_47_code 8 { frames := 0, cells := 0, slots := 0, locals := 0 }) (hr : zRt X (some .long)) (E : zE X (some (zL q.1)) q.2 0 0) : ∀ (n : Nat) (l0 : Nat) (l1 : Int64) (l4 : Int64) (s0 : Int64) (M : zM), f_Mo_distanceOf_95 (zOD X) n l0 l1 l4 s0 M = some q → zW X 0 0 95 [some (zP l0), some (zL l1), none, none, some (zL l4), none, none, none] [zL s0] M := by
  intro n l0 l1 l4 s0 M h
  rw [f_Mo_distanceOf_95] at h
  refine r_lstore (lv' := [some (zP l0), some (zL l1), none, none, some (zL l4), none, some (zL s0), none]) C (z_d dd_Mo_distanceOf 53 rfl) (Nat.le_of_ble_eq_true rfl) rfl ?_
  refine r_lload_n C (z_d dd_Mo_distanceOf 54 rfl) rfl ?_
  refine r_ldc2 (v := (3 : Int64)) C (z_d dd_Mo_distanceOf 55 rfl) kl_Mo_330 ?_
  refine r_lcmp C (z_d dd_Mo_distanceOf 56 rfl) ?_
  refine r_if_gt C 114 (z_d dd_Mo_distanceOf 57 rfl) (by decide) (fun c2 => ?_) (fun c2 => ?_)
  · have h := zift h c2
    refine r_mk [true, false, false, false, false, false, true, false] ?_
    exact s_Mo_distanceOf_114 C hr E n l0 s0 M h
  · have h := ziff h c2
    refine r_lload C (z_d dd_Mo_distanceOf 58 rfl) rfl ?_
    refine r_ldc2 (v := (2 : Int64)) C (z_d dd_Mo_distanceOf 59 rfl) kl_Mo_119 ?_
    refine r_lcmp C (z_d dd_Mo_distanceOf 60 rfl) ?_
    refine r_if_le C 126 (z_d dd_Mo_distanceOf 61 rfl) (by decide) (fun c1 => ?_) (fun c1 => ?_)
    · have h := zift h c1
      refine r_mk [true, false, false, false, false, false, true, false] ?_
      exact s_Mo_distanceOf_126 C hr E n l0 s0 M h
    · have h := ziff h c1
      refine r_mk [true, false, false, false, false, false, true, false] ?_
      exact s_Mo_distanceOf_114 C hr E n l0 s0 M h
def f_Mo_distanceOf_35 (O : zO) (n : Nat) (l0 : Nat) (l1 : Int64) (l4 : Int64) (M : zM) : Option (Int64 × zM) :=
  if (lg_cmp l1 (3 : Int64)) ≤ 0 then
  if (lg_cmp l4 (2 : Int64)) = 0 then
  if z_k M l0 = 13 then
  if z_k M (z_p M l0 20) = 103 then
  if zin (1 : Int32) (z_n M (z_p M l0 20)) = true then
  f_Mo_distanceOf_95 O n l0 l1 l4 (z_j M (z_p M l0 20) (1 : Int32).toNatClampNeg) M
  else none
  else none
  else none
  else
  if (lg_cmp l4 (3 : Int64)) = 0 then
  if z_k M l0 = 13 then
  if z_k M (z_p M l0 20) = 103 then
  if zin (2 : Int32) (z_n M (z_p M l0 20)) = true then
  f_Mo_distanceOf_95 O n l0 l1 l4 (z_j M (z_p M l0 20) (2 : Int32).toNatClampNeg) M
  else none
  else none
  else none
  else
  if z_k M l0 = 13 then
  if z_k M (z_p M l0 20) = 103 then
  if zin (0 : Int32) (z_n M (z_p M l0 20)) = true then
  f_Mo_distanceOf_95 O n l0 l1 l4 ((z_j M (z_p M l0 20) (0 : Int32).toNatClampNeg) - (1 : Int64)) M
  else none
  else none
  else none
  else
  f_Mo_distanceOf_95 O n l0 l1 l4 (l1 - (3 : Int64)) M
set_option maxRecDepth 100000 in
set_option maxHeartbeats 4000000 in
theorem s_Mo_distanceOf_35 {X : zX} {q : Int64 × zM} (C : zC X zR12 prog_14_method_47_code 8 { frames := 0, cells := 0, slots := 0, locals := 0 }) (hr : zRt X (some .long)) (E : zE X (some (zL q.1)) q.2 0 0) : ∀ (n : Nat) (l0 : Nat) (l1 : Int64) (l4 : Int64) (M : zM), f_Mo_distanceOf_35 (zOD X) n l0 l1 l4 M = some q → zW X 0 0 35 [some (zP l0), some (zL l1), none, none, some (zL l4), none, none, none] [] M := by
  intro n l0 l1 l4 M h
  rw [f_Mo_distanceOf_35] at h
  refine r_lload_n C (z_d dd_Mo_distanceOf 21 rfl) rfl ?_
  refine r_ldc2 (v := (3 : Int64)) C (z_d dd_Mo_distanceOf 22 rfl) kl_Mo_330 ?_
  refine r_lcmp C (z_d dd_Mo_distanceOf 23 rfl) ?_
  refine r_if_le C 51 (z_d dd_Mo_distanceOf 24 rfl) (by decide) (fun c12 => ?_) (fun c12 => ?_)
  · have h := zift h c12
    refine r_lload C (z_d dd_Mo_distanceOf 29 rfl) rfl ?_
    refine r_ldc2 (v := (2 : Int64)) C (z_d dd_Mo_distanceOf 30 rfl) kl_Mo_119 ?_
    refine r_lcmp C (z_d dd_Mo_distanceOf 31 rfl) ?_
    refine r_if_ne C 69 (z_d dd_Mo_distanceOf 32 rfl) (by decide) (fun c11 => ?_) (fun c11 => ?_)
    · have h := ziff h c11
      refine r_lload C (z_d dd_Mo_distanceOf 38 rfl) rfl ?_
      refine r_ldc2 (v := (3 : Int64)) C (z_d dd_Mo_distanceOf 39 rfl) kl_Mo_330 ?_
      refine r_lcmp C (z_d dd_Mo_distanceOf 40 rfl) ?_
      refine r_if_ne C 87 (z_d dd_Mo_distanceOf 41 rfl) (by decide) (fun c7 => ?_) (fun c7 => ?_)
      · have h := ziff h c7
        refine r_aload_n C (z_d dd_Mo_distanceOf 47 rfl) rfl ?_
        obtain ⟨h1, h⟩ := zif h
        refine r_getP C (z_d dd_Mo_distanceOf 48 rfl) lk_Mo_54 rfl h1 rfl ?_
        refine r_iconst (v := (0 : Int32)) C (z_d dd_Mo_distanceOf 49 rfl) (by decide) ?_
        obtain ⟨h2, h⟩ := zif h
        obtain ⟨h3, h⟩ := zif h
        refine r_lald C (z_d dd_Mo_distanceOf 50 rfl) h2 h3 rfl ?_
        refine r_lconst (v := (1 : Int64)) C (z_d dd_Mo_distanceOf 51 rfl) (by decide) ?_
        refine r_lsub C (z_d dd_Mo_distanceOf 52 rfl) ?_
        exact s_Mo_distanceOf_95 C hr E n l0 l1 l4 ((z_j M (z_p M l0 20) (0 : Int32).toNatClampNeg) - (1 : Int64)) M h
      · have h := zift h c7
        refine r_aload_n C (z_d dd_Mo_distanceOf 42 rfl) rfl ?_
        obtain ⟨h4, h⟩ := zif h
        refine r_getP C (z_d dd_Mo_distanceOf 43 rfl) lk_Mo_54 rfl h4 rfl ?_
        refine r_iconst (v := (2 : Int32)) C (z_d dd_Mo_distanceOf 44 rfl) (by decide) ?_
        obtain ⟨h5, h⟩ := zif h
        obtain ⟨h6, h⟩ := zif h
        refine r_lald C (z_d dd_Mo_distanceOf 45 rfl) h5 h6 rfl ?_
        refine r_goto C 95 (z_d dd_Mo_distanceOf 46 rfl) (by decide) ?_
        exact s_Mo_distanceOf_95 C hr E n l0 l1 l4 (z_j M (z_p M l0 20) (2 : Int32).toNatClampNeg) M h
    · have h := zift h c11
      refine r_aload_n C (z_d dd_Mo_distanceOf 33 rfl) rfl ?_
      obtain ⟨h8, h⟩ := zif h
      refine r_getP C (z_d dd_Mo_distanceOf 34 rfl) lk_Mo_54 rfl h8 rfl ?_
      refine r_iconst (v := (1 : Int32)) C (z_d dd_Mo_distanceOf 35 rfl) (by decide) ?_
      obtain ⟨h9, h⟩ := zif h
      obtain ⟨h10, h⟩ := zif h
      refine r_lald C (z_d dd_Mo_distanceOf 36 rfl) h9 h10 rfl ?_
      refine r_goto C 95 (z_d dd_Mo_distanceOf 37 rfl) (by decide) ?_
      exact s_Mo_distanceOf_95 C hr E n l0 l1 l4 (z_j M (z_p M l0 20) (1 : Int32).toNatClampNeg) M h
  · have h := ziff h c12
    refine r_lload_n C (z_d dd_Mo_distanceOf 25 rfl) rfl ?_
    refine r_ldc2 (v := (3 : Int64)) C (z_d dd_Mo_distanceOf 26 rfl) kl_Mo_330 ?_
    refine r_lsub C (z_d dd_Mo_distanceOf 27 rfl) ?_
    refine r_goto C 95 (z_d dd_Mo_distanceOf 28 rfl) (by decide) ?_
    exact s_Mo_distanceOf_95 C hr E n l0 l1 l4 (l1 - (3 : Int64)) M h
def f_Mo_distanceOf_11 (O : zO) (n : Nat) (l0 : Nat) (l1 : Int64) (s0 : Int64) (M : zM) : Option (Int64 × zM) :=
  if 0 < (lg_cmp l1 (3 : Int64)) then
  f_Mo_distanceOf_35 O n l0 l1 s0 M
  else
  if (lg_cmp s0 (1 : Int64)) = 0 then
  if z_k M l0 = 13 then
  if z_k M (z_p M l0 20) = 103 then
  if zin (0 : Int32) (z_n M (z_p M l0 20)) = true then
  some ((z_j M (z_p M l0 20) (0 : Int32).toNatClampNeg), M)
  else none
  else none
  else none
  else
  f_Mo_distanceOf_35 O n l0 l1 s0 M
set_option maxRecDepth 100000 in
set_option maxHeartbeats 4000000 in
theorem s_Mo_distanceOf_11 {X : zX} {q : Int64 × zM} (C : zC X zR12 prog_14_method_47_code 8 { frames := 0, cells := 0, slots := 0, locals := 0 }) (hr : zRt X (some .long)) (E : zE X (some (zL q.1)) q.2 0 0) : ∀ (n : Nat) (l0 : Nat) (l1 : Int64) (s0 : Int64) (M : zM), f_Mo_distanceOf_11 (zOD X) n l0 l1 s0 M = some q → zW X 0 0 11 [some (zP l0), some (zL l1), none, none, none, none, none, none] [zL s0] M := by
  intro n l0 l1 s0 M h
  rw [f_Mo_distanceOf_11] at h
  refine r_lstore (lv' := [some (zP l0), some (zL l1), none, none, some (zL s0), none, none, none]) C (z_d dd_Mo_distanceOf 7 rfl) (Nat.le_of_ble_eq_true rfl) rfl ?_
  refine r_lload_n C (z_d dd_Mo_distanceOf 8 rfl) rfl ?_
  refine r_ldc2 (v := (3 : Int64)) C (z_d dd_Mo_distanceOf 9 rfl) kl_Mo_330 ?_
  refine r_lcmp C (z_d dd_Mo_distanceOf 10 rfl) ?_
  refine r_if_gt C 35 (z_d dd_Mo_distanceOf 11 rfl) (by decide) (fun c5 => ?_) (fun c5 => ?_)
  · have h := zift h c5
    exact s_Mo_distanceOf_35 C hr E n l0 l1 s0 M h
  · have h := ziff h c5
    refine r_lload C (z_d dd_Mo_distanceOf 12 rfl) rfl ?_
    refine r_lconst (v := (1 : Int64)) C (z_d dd_Mo_distanceOf 13 rfl) (by decide) ?_
    refine r_lcmp C (z_d dd_Mo_distanceOf 14 rfl) ?_
    refine r_if_ne C 35 (z_d dd_Mo_distanceOf 15 rfl) (by decide) (fun c4 => ?_) (fun c4 => ?_)
    · have h := ziff h c4
      exact s_Mo_distanceOf_35 C hr E n l0 l1 s0 M h
    · have h := zift h c4
      refine r_aload_n C (z_d dd_Mo_distanceOf 16 rfl) rfl ?_
      obtain ⟨h1, h⟩ := zif h
      refine r_getP C (z_d dd_Mo_distanceOf 17 rfl) lk_Mo_54 rfl h1 rfl ?_
      refine r_iconst (v := (0 : Int32)) C (z_d dd_Mo_distanceOf 18 rfl) (by decide) ?_
      obtain ⟨h2, h⟩ := zif h
      obtain ⟨h3, h⟩ := zif h
      refine r_lald C (z_d dd_Mo_distanceOf 19 rfl) h2 h3 rfl ?_
      obtain rfl := z_res h
      exact r_lret C E hr (z_d dd_Mo_distanceOf 20 rfl) (Nat.le_of_ble_eq_true rfl) (Nat.le_of_ble_eq_true rfl)
def f_Mo_distanceOf_0 (O : zO) (n : Nat) (l0 : Nat) (l1 : Int64) (l3 : Int32) (M : zM) : Option (Int64 × zM) :=
  if l3 = 0 then
  f_Mo_distanceOf_11 O n l0 l1 (l1 + (1 : Int64)) M
  else
  f_Mo_distanceOf_11 O n l0 l1 l1 M
set_option maxRecDepth 100000 in
set_option maxHeartbeats 4000000 in
theorem s_Mo_distanceOf_0 {X : zX} {q : Int64 × zM} (C : zC X zR12 prog_14_method_47_code 8 { frames := 0, cells := 0, slots := 0, locals := 0 }) (hr : zRt X (some .long)) (E : zE X (some (zL q.1)) q.2 0 0) : ∀ (n : Nat) (l0 : Nat) (l1 : Int64) (l3 : Int32) (M : zM), f_Mo_distanceOf_0 (zOD X) n l0 l1 l3 M = some q → zW X 0 0 0 [some (zP l0), some (zL l1), none, some (zI l3), none, none, none, none] [] M := by
  intro n l0 l1 l3 M h
  rw [f_Mo_distanceOf_0] at h
  refine r_iload_n C (z_d dd_Mo_distanceOf 0 rfl) rfl ?_
  refine r_if_ne C 10 (z_d dd_Mo_distanceOf 1 rfl) (by decide) (fun c1 => ?_) (fun c1 => ?_)
  · have h := ziff h c1
    refine r_lload_n C (z_d dd_Mo_distanceOf 6 rfl) rfl ?_
    refine r_mk [true, true, false, false, false, false, false, false] ?_
    exact s_Mo_distanceOf_11 C hr E n l0 l1 l1 M h
  · have h := zift h c1
    refine r_lload_n C (z_d dd_Mo_distanceOf 2 rfl) rfl ?_
    refine r_lconst (v := (1 : Int64)) C (z_d dd_Mo_distanceOf 3 rfl) (by decide) ?_
    refine r_ladd C (z_d dd_Mo_distanceOf 4 rfl) ?_
    refine r_goto C 11 (z_d dd_Mo_distanceOf 5 rfl) (by decide) ?_
    refine r_mk [true, true, false, false, false, false, false, false] ?_
    exact s_Mo_distanceOf_11 C hr E n l0 l1 (l1 + (1 : Int64)) M h
def F_Mo_distanceOf (O : zO) (n : Nat) (l0 : Nat) (l1 : Int64) (l3 : Int32) (M : zM) : Option (Int64 × zM) := f_Mo_distanceOf_0 O n l0 l1 l3 M
theorem S_Mo_distanceOf {l : Launch} {D : zD} {n : Nat} {l0 : Nat} {l1 : Int64} {l3 : Int32} {M : zM} {q : Int64 × zM} (h : F_Mo_distanceOf D.2.2.2.2 n l0 l1 l3 M = some q) : zMet l D mi_Mo_distanceOf [zP l0, zL l1, zI l3] M (some (zL q.1)) q.2 :=
  z_met (by decide) (Nat.le_of_ble_eq_true rfl) (fun X C E hr hin hD hl => by
    subst hD
    exact s_Mo_distanceOf_0 C hr E n l0 l1 l3 M h)
