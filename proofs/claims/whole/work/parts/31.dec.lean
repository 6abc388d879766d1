def f_Mo_wrong_0 (O : zO) (n : Nat) (l0 : Nat) (l1 : Int32) (l2 : Int32) (M : zM) : Option (Int32 × zM) :=
  if z_k M l0 = 13 then
  zlet (w_i M l0 33 l1) fun M2 =>
  zlet (w_i M2 l0 34 l2) fun M5 =>
  some ((0 : Int32), M5)
  else none
set_option maxRecDepth 100000 in
set_option maxHeartbeats 4000000 in
theorem s_Mo_wrong_0 {X : zX} {q : Int32 × zM} (C : zC X zR12 prog_14_method_30_code 3 { frames := 0, cells := 0, slots := 0, locals := 0 }) (hr : zRt X (some .boolean)) (E : zE X (some (zI q.1)) q.2 0 0) : ∀ (n : Nat) (l0 : Nat) (l1 : Int32) (l2 : Int32) (M : zM), f_Mo_wrong_0 (zOD X) n l0 l1 l2 M = some q → zW X 0 0 0 [some (zP l0), some (zI l1), some (zI l2)] [] M := by
  intro n l0 l1 l2 M h
  rw [f_Mo_wrong_0] at h
  refine r_aload_n C (z_d dd_Mo_wrong 0 rfl) rfl ?_
  refine r_iload_n C (z_d dd_Mo_wrong 1 rfl) rfl ?_
  obtain ⟨h1, h⟩ := zif h
  obtain ⟨M2, e3, h⟩ := zlet_ex h
  have h4 := k_i e3 h1
  refine r_putI C (z_d dd_Mo_wrong 2 rfl) lp_Mo_198 rfl h1 e3 ?_
  refine r_aload_n C (z_d dd_Mo_wrong 3 rfl) rfl ?_
  refine r_iload_n C (z_d dd_Mo_wrong 4 rfl) rfl ?_
  obtain ⟨M5, e6, h⟩ := zlet_ex h
  have h7 := k_i e6 h4
  refine r_putI C (z_d dd_Mo_wrong 5 rfl) lp_Mo_201 rfl h4 e6 ?_
  refine r_iconst (v := (0 : Int32)) C (z_d dd_Mo_wrong 6 rfl) (by decide) ?_
  obtain rfl := z_res h
  exact r_iretZ C E hr (z_d dd_Mo_wrong 7 rfl) (by decide) (Nat.le_of_ble_eq_true rfl) (Nat.le_of_ble_eq_true rfl)
def F_Mo_wrong (O : zO) (n : Nat) (l0 : Nat) (l1 : Int32) (l2 : Int32) (M : zM) : Option (Int32 × zM) := f_Mo_wrong_0 O n l0 l1 l2 M
theorem S_Mo_wrong {l : Launch} {D : zD} {n : Nat} {l0 : Nat} {l1 : Int32} {l2 : Int32} {M : zM} {q : Int32 × zM} (h : F_Mo_wrong D.2.2.2.2 n l0 l1 l2 M = some q) : zMet l D mi_Mo_wrong [zP l0, zI l1, zI l2] M (some (zI q.1)) q.2 :=
  z_met (by decide) (Nat.le_of_ble_eq_true rfl) (fun X C E hr hin hD hl => by
    subst hD
    exact s_Mo_wrong_0 C hr E n l0 l1 l2 M h)

def f_Mo_has_30 (O : zO) (n : Nat) (s0 : Int32) (M : zM) : Option (Int32 × zM) :=
  if s0 = 0 ∨ s0 = 1 then
  some (s0, M)
  else none
set_option maxRecDepth 100000 in
set_option maxHeartbeats 4000000 in
theorem s_Mo_has_30 {X : zX} {q : Int32 × zM} (C : zC X zR12 prog_14_method_31_code 2 { frames := 1, cells := 0, slots := 0, locals := 22 }) (hr : zRt X (some .boolean)) (E : zE X (some (zI q.1)) q.2 0 0) : ∀ (n : Nat) (s0 : Int32) (M : zM), f_Mo_has_30 (zOD X) n s0 M = some q → zW X 0 0 30 [none, none] [zI s0] M := by
  intro n s0 M h
  rw [f_Mo_has_30] at h
  obtain ⟨h1, h⟩ := zif h
  obtain rfl := z_res h
  exact r_iretZ C E hr (z_d dd_Mo_has 16 rfl) h1 (Nat.le_of_ble_eq_true rfl) (Nat.le_of_ble_eq_true rfl)
def f_Mo_has_25 (O : zO) (n : Nat) (M : zM) : Option (Int32 × zM) :=
  f_Mo_has_30 O n (1 : Int32) M
set_option maxRecDepth 100000 in
set_option maxHeartbeats 4000000 in
theorem s_Mo_has_25 {X : zX} {q : Int32 × zM} (C : zC X zR12 prog_14_method_31_code 2 { frames := 1, cells := 0, slots := 0, locals := 22 }) (hr : zRt X (some .boolean)) (E : zE X (some (zI q.1)) q.2 0 0) : ∀ (n : Nat) (M : zM), f_Mo_has_25 (zOD X) n M = some q → zW X 0 0 25 [none, none] [] M := by
  intro n M h
  rw [f_Mo_has_25] at h
  refine r_iconst (v := (1 : Int32)) C (z_d dd_Mo_has 13 rfl) (by decide) ?_
  refine r_goto C 30 (z_d dd_Mo_has 14 rfl) (by decide) ?_
  exact s_Mo_has_30 C hr E n (1 : Int32) M h
def f_Mo_has_0 (O : zO) (n : Nat) (l0 : Nat) (l1 : Int32) (M : zM) : Option (Int32 × zM) :=
  if z_k M l0 = 13 then
  if l1 ≤ ((z_i M l0 1) - (z_i M l0 28)) then
  f_Mo_has_25 O n M
  else
  (F_Mo_wrong O n l0 (1 : Int32) (z_i M l0 1) M).bind fun q2 =>
  if q2.1 = 0 then
  f_Mo_has_30 O n (0 : Int32) q2.2
  else
  f_Mo_has_25 O n q2.2
  else none
set_option maxRecDepth 100000 in
set_option maxHeartbeats 4000000 in
theorem s_Mo_has_0 {X : zX} {q : Int32 × zM} (C : zC X zR12 prog_14_method_31_code 2 { frames := 1, cells := 0, slots := 0, locals := 22 }) (hr : zRt X (some .boolean)) (E : zE X (some (zI q.1)) q.2 0 0) : ∀ (n : Nat) (l0 : Nat) (l1 : Int32) (M : zM), f_Mo_has_0 (zOD X) n l0 l1 M = some q → zW X 0 0 0 [some (zP l0), some (zI l1)] [] M := by
  intro n l0 l1 M h
  rw [f_Mo_has_0] at h
  refine r_aload_n C (z_d dd_Mo_has 0 rfl) rfl ?_
  obtain ⟨h1, h⟩ := zif h
  refine r_getI C (z_d dd_Mo_has 1 rfl) lk_Mo_85 rfl h1 rfl ?_
  refine r_aload_n C (z_d dd_Mo_has 2 rfl) rfl ?_
  refine r_getI C (z_d dd_Mo_has 3 rfl) lk_Mo_204 rfl h1 rfl ?_
  refine r_isub C (z_d dd_Mo_has 4 rfl) ?_
  refine r_iload_n C (z_d dd_Mo_has 5 rfl) rfl ?_
  refine r_icmp_ge C 25 (z_d dd_Mo_has 6 rfl) (by decide) (fun c5 => ?_) (fun c5 => ?_)
  · have h := zift h c5
    refine r_mk [false, false] ?_
    exact s_Mo_has_25 C hr E n M h
  · have h := ziff h c5
    refine r_aload_n C (z_d dd_Mo_has 7 rfl) rfl ?_
    refine r_iconst (v := (1 : Int32)) C (z_d dd_Mo_has 8 rfl) (by decide) ?_
    refine r_aload_n C (z_d dd_Mo_has 9 rfl) rfl ?_
    refine r_getI C (z_d dd_Mo_has 10 rfl) lk_Mo_85 rfl h1 rfl ?_
    obtain ⟨q2, c3, h⟩ := zbd h
    refine r_invV (as := [zI (1 : Int32), zI (z_i M l0 1)]) C 12 (S_Mo_wrong c3) (z_d dd_Mo_has 11 rfl) ok_Mo_wrong iv_Mo_wrong se_Mo_wrong ml_Mo_207 rfl rfl h1 rfl rfl rfl (Nat.le_of_ble_eq_true rfl) ⟨(Nat.le_of_ble_eq_true rfl), (Nat.le_of_ble_eq_true rfl)⟩ ⟨(Nat.le_of_ble_eq_true rfl), (Nat.le_of_ble_eq_true rfl)⟩ ?_
    refine r_if_eq C 29 (z_d dd_Mo_has 12 rfl) (by decide) (fun c4 => ?_) (fun c4 => ?_)
    · have h := zift h c4
      refine r_iconst (v := (0 : Int32)) C (z_d dd_Mo_has 15 rfl) (by decide) ?_
      refine r_mk [false, false] ?_
      exact s_Mo_has_30 C hr E n (0 : Int32) q2.2 h
    · have h := ziff h c4
      refine r_mk [false, false] ?_
      exact s_Mo_has_25 C hr E n q2.2 h
def F_Mo_has (O : zO) (n : Nat) (l0 : Nat) (l1 : Int32) (M : zM) : Option (Int32 × zM) := f_Mo_has_0 O n l0 l1 M
theorem S_Mo_has {l : Launch} {D : zD} {n : Nat} {l0 : Nat} {l1 : Int32} {M : zM} {q : Int32 × zM} (h : F_Mo_has D.2.2.2.2 n l0 l1 M = some q) : zMet l D mi_Mo_has [zP l0, zI l1] M (some (zI q.1)) q.2 :=
  z_met (by decide) (Nat.le_of_ble_eq_true rfl) (fun X C E hr hin hD hl => by
    subst hD
    exact s_Mo_has_0 C hr E n l0 l1 M h)

def f_Mo_tell_32 (O : zO) (n : Nat) (s0 : Nat) (s1 : Int32) (M : zM) : Option (Unit × zM) :=
  if z_k M s0 = 13 then
  zlet (w_i M s0 39 s1) fun M2 =>
  some ((), M2)
  else none
set_option maxRecDepth 100000 in
set_option maxHeartbeats 4000000 in
theorem s_Mo_tell_32 {X : zX} {q : Unit × zM} (C : zC X zR12 prog_14_method_35_code 1 { frames := 0, cells := 0, slots := 0, locals := 0 }) (hr : zRt X none) (E : zE X none q.2 0 0) : ∀ (n : Nat) (s0 : Nat) (s1 : Int32) (M : zM), f_Mo_tell_32 (zOD X) n s0 s1 M = some q → zW X 0 0 32 [none] [zI s1, zP s0] M := by
  intro n s0 s1 M h
  rw [f_Mo_tell_32] at h
  obtain ⟨h1, h⟩ := zif h
  obtain ⟨M2, e3, h⟩ := zlet_ex h
  have h4 := k_i e3 h1
  refine r_putI C (z_d dd_Mo_tell 16 rfl) lp_Mo_225 rfl h1 e3 ?_
  obtain rfl := z_res h
  exact r_vret C E hr (z_d dd_Mo_tell 17 rfl) (Nat.le_of_ble_eq_true rfl) (Nat.le_of_ble_eq_true rfl)
def f_Mo_tell_21 (O : zO) (n : Nat) (s0 : Nat) (M : zM) : Option (Unit × zM) :=
  f_Mo_tell_32 O n s0 (2147483647 : Int32) M
set_option maxRecDepth 100000 in
set_option maxHeartbeats 4000000 in
theorem s_Mo_tell_21 {X : zX} {q : Unit × zM} (C : zC X zR12 prog_14_method_35_code 1 { frames := 0, cells := 0, slots := 0, locals := 0 }) (hr : zRt X none) (E : zE X none q.2 0 0) : ∀ (n : Nat) (s0 : Nat) (M : zM), f_Mo_tell_21 (zOD X) n s0 M = some q → zW X 0 0 21 [none] [zP s0] M := by
  intro n s0 M h
  rw [f_Mo_tell_21] at h
  refine r_ldcw (v := (2147483647 : Int32)) C (z_d dd_Mo_tell 11 rfl) ki_Mo_269 ?_
  refine r_goto C 32 (z_d dd_Mo_tell 12 rfl) (by decide) ?_
  exact s_Mo_tell_32 C hr E n s0 (2147483647 : Int32) M h
def f_Mo_tell_0 (O : zO) (n : Nat) (l0 : Nat) (M : zM) : Option (Unit × zM) :=
  if z_k M l0 = 13 then
  if (lg_cmp (z_j M l0 38) (0 : Int64)) < 0 then
  f_Mo_tell_21 O n l0 M
  else
  if (lg_cmp (z_j M l0 38) (2147483647 : Int64)) ≤ 0 then
  f_Mo_tell_32 O n l0 (z_j M l0 38).toInt32 M
  else
  f_Mo_tell_21 O n l0 M
  else none
set_option maxRecDepth 100000 in
set_option maxHeartbeats 4000000 in
theorem s_Mo_tell_0 {X : zX} {q : Unit × zM} (C : zC X zR12 prog_14_method_35_code 1 { frames := 0, cells := 0, slots := 0, locals := 0 }) (hr : zRt X none) (E : zE X none q.2 0 0) : ∀ (n : Nat) (l0 : Nat) (M : zM), f_Mo_tell_0 (zOD X) n l0 M = some q → zW X 0 0 0 [some (zP l0)] [] M := by
  intro n l0 M h
  rw [f_Mo_tell_0] at h
  refine r_aload_n C (z_d dd_Mo_tell 0 rfl) rfl ?_
  refine r_aload_n C (z_d dd_Mo_tell 1 rfl) rfl ?_
  obtain ⟨h1, h⟩ := zif h
  refine r_getL C (z_d dd_Mo_tell 2 rfl) lk_Mo_241 rfl h1 rfl ?_
  refine r_lconst (v := (0 : Int64)) C (z_d dd_Mo_tell 3 rfl) (by decide) ?_
  refine r_lcmp C (z_d dd_Mo_tell 4 rfl) ?_
  refine r_if_lt C 21 (z_d dd_Mo_tell 5 rfl) (by decide) (fun c3 => ?_) (fun c3 => ?_)
  · have h := zift h c3
    refine r_mk [false] ?_
    exact s_Mo_tell_21 C hr E n l0 M h
  · have h := ziff h c3
    refine r_aload_n C (z_d dd_Mo_tell 6 rfl) rfl ?_
    refine r_getL C (z_d dd_Mo_tell 7 rfl) lk_Mo_241 rfl h1 rfl ?_
    refine r_ldc2 (v := (2147483647 : Int64)) C (z_d dd_Mo_tell 8 rfl) kl_Mo_267 ?_
    refine r_lcmp C (z_d dd_Mo_tell 9 rfl) ?_
    refine r_if_le C 27 (z_d dd_Mo_tell 10 rfl) (by decide) (fun c2 => ?_) (fun c2 => ?_)
    · have h := zift h c2
      refine r_aload_n C (z_d dd_Mo_tell 13 rfl) rfl ?_
      refine r_getL C (z_d dd_Mo_tell 14 rfl) lk_Mo_241 rfl h1 rfl ?_
      refine r_l2i C (z_d dd_Mo_tell 15 rfl) ?_
      refine r_mk [false] ?_
      exact s_Mo_tell_32 C hr E n l0 (z_j M l0 38).toInt32 M h
    · have h := ziff h c2
      refine r_mk [false] ?_
      exact s_Mo_tell_21 C hr E n l0 M h
def F_Mo_tell (O : zO) (n : Nat) (l0 : Nat) (M : zM) : Option (Unit × zM) := f_Mo_tell_0 O n l0 M
theorem S_Mo_tell {l : Launch} {D : zD} {n : Nat} {l0 : Nat} {M : zM} {q : Unit × zM} (h : F_Mo_tell D.2.2.2.2 n l0 M = some q) : zMet l D mi_Mo_tell [zP l0] M none q.2 :=
  z_met (by decide) (Nat.le_of_ble_eq_true rfl) (fun X C E hr hin hD hl => by
    subst hD
    exact s_Mo_tell_0 C hr E n l0 M h)

def f_Mo_beginFrame_143 (O : zO) : Nat → Nat → Int32 → zM → Option (Unit × zM)
  | 0, _, _, _ => none
  | n + 1, l0, l1, M =>
    if (3 : Int32) ≤ l1 then
    some ((), M)
    else
    if z_k M l0 = 13 then
    if z_k M (z_p M l0 10) = 100 then
    if zin l1 (z_n M (z_p M l0 10)) = true then
    if z_k M (z_p M l0 16) = 100 then
    if zin l1 (z_n M (z_p M l0 16)) = true then
    zlet (w_i M (z_p M l0 16) l1.toNatClampNeg (z_i M (z_p M l0 10) l1.toNatClampNeg)) fun M6 =>
    if z_k M6 (z_p M6 l0 11) = 103 then
    if zin l1 (z_n M6 (z_p M6 l0 11)) = true then
    if z_k M6 (z_p M6 l0 20) = 103 then
    if zin l1 (z_n M6 (z_p M6 l0 20)) = true then
    zlet (w_j M6 (z_p M6 l0 20) l1.toNatClampNeg (z_j M6 (z_p M6 l0 11) l1.toNatClampNeg)) fun M15 =>
    (F_Mo_layTable O n l0 l1 M15).bind fun q22 =>
    zlet (l1 + (1 : Int32)) fun v24 =>
    f_Mo_beginFrame_143 O n l0 v24 q22.2
    else none
    else none
    else none
    else none
    else none
    else none
    else none
    else none
    else none
set_option maxRecDepth 100000 in
set_option maxHeartbeats 4000000 in
theorem s_Mo_beginFrame_143 {X : zX} {q : Unit × zM} (C : zC X zR12 prog_14_method_25_code 2 { frames := 3, cells := 0, slots := 0, locals := 79 }) (hr : zRt X none) (E : zE X none q.2 0 0) : ∀ (n : Nat) (l0 : Nat) (l1 : Int32) (M : zM), f_Mo_beginFrame_143 (zOD X) n l0 l1 M = some q → zW X 0 0 143 [some (zP l0), some (zI l1)] [] M := by
  intro n
  induction n with
  | zero => intro l0 l1 M h; rw [f_Mo_beginFrame_143] at h; cases h
  | succ n ih =>
    intro l0 l1 M h
    rw [f_Mo_beginFrame_143] at h
    refine r_iload_n C (z_d dd_Mo_beginFrame 81 rfl) rfl ?_
    refine r_iconst (v := (3 : Int32)) C (z_d dd_Mo_beginFrame 82 rfl) (by decide) ?_
    refine r_icmp_ge C 183 (z_d dd_Mo_beginFrame 83 rfl) (by decide) (fun c26 => ?_) (fun c26 => ?_)
    · have h := zift h c26
      obtain rfl := z_res h
      exact r_vret C E hr (z_d dd_Mo_beginFrame 105 rfl) (Nat.le_of_ble_eq_true rfl) (Nat.le_of_ble_eq_true rfl)
    · have h := ziff h c26
      refine r_aload_n C (z_d dd_Mo_beginFrame 84 rfl) rfl ?_
      obtain ⟨h1, h⟩ := zif h
      refine r_getP C (z_d dd_Mo_beginFrame 85 rfl) lk_Mo_42 rfl h1 rfl ?_
      refine r_iload_n C (z_d dd_Mo_beginFrame 86 rfl) rfl ?_
      refine r_aload_n C (z_d dd_Mo_beginFrame 87 rfl) rfl ?_
      refine r_getP C (z_d dd_Mo_beginFrame 88 rfl) lk_Mo_26 rfl h1 rfl ?_
      refine r_iload_n C (z_d dd_Mo_beginFrame 89 rfl) rfl ?_
      obtain ⟨h2, h⟩ := zif h
      obtain ⟨h3, h⟩ := zif h
      refine r_iald C (z_d dd_Mo_beginFrame 90 rfl) h2 h3 rfl ?_
      obtain ⟨h4, h⟩ := zif h
      obtain ⟨h5, h⟩ := zif h
      obtain ⟨M6, e7, h⟩ := zlet_ex h
      have h8 := k_i e7 h1
      have h9 := k_i e7 h2
      have h10 := k_i e7 h4
      refine r_iast C (z_d dd_Mo_beginFrame 91 rfl) h4 h5 e7 ?_
      refine r_aload_n C (z_d dd_Mo_beginFrame 92 rfl) rfl ?_
      refine r_getP C (z_d dd_Mo_beginFrame 93 rfl) lk_Mo_54 rfl h8 rfl ?_
      refine r_iload_n C (z_d dd_Mo_beginFrame 94 rfl) rfl ?_
      refine r_aload_n C (z_d dd_Mo_beginFrame 95 rfl) rfl ?_
      refine r_getP C (z_d dd_Mo_beginFrame 96 rfl) lk_Mo_29 rfl h8 rfl ?_
      refine r_iload_n C (z_d dd_Mo_beginFrame 97 rfl) rfl ?_
      obtain ⟨h11, h⟩ := zif h
      obtain ⟨h12, h⟩ := zif h
      refine r_lald C (z_d dd_Mo_beginFrame 98 rfl) h11 h12 rfl ?_
      obtain ⟨h13, h⟩ := zif h
      obtain ⟨h14, h⟩ := zif h
      obtain ⟨M15, e16, h⟩ := zlet_ex h
      have h17 := k_j e16 h8
      have h18 := k_j e16 h9
      have h19 := k_j e16 h10
      have h20 := k_j e16 h11
      have h21 := k_j e16 h13
      refine r_last C (z_d dd_Mo_beginFrame 99 rfl) h13 h14 e16 ?_
      refine r_aload_n C (z_d dd_Mo_beginFrame 100 rfl) rfl ?_
      refine r_iload_n C (z_d dd_Mo_beginFrame 101 rfl) rfl ?_
      obtain ⟨q22, c23, h⟩ := zbd h
      refine r_invV (as := [zI l1]) C 12 (S_Mo_layTable c23) (z_d dd_Mo_beginFrame 102 rfl) ok_Mo_layTable iv_Mo_layTable se_Mo_layTable ml_Mo_105 rfl rfl h17 rfl rfl rfl (Nat.le_of_ble_eq_true rfl) ⟨(Nat.le_of_ble_eq_true rfl), (Nat.le_of_ble_eq_true rfl)⟩ ⟨(Nat.le_of_ble_eq_true rfl), (Nat.le_of_ble_eq_true rfl)⟩ ?_
      obtain ⟨v24, e25, h⟩ := zlet_ex h
      refine r_iinc (v := v24) (lv' := [some (zP l0), some (zI v24)]) C (z_d dd_Mo_beginFrame 103 rfl) rfl (Nat.le_of_ble_eq_true rfl) (by rw [e25]; rfl) rfl ?_
      refine r_goto C 143 (z_d dd_Mo_beginFrame 104 rfl) (by decide) ?_
      exact ih l0 v24 q22.2 h
def f_Mo_beginFrame_116 (O : zO) : Nat → Nat → Int32 → zM → Option (Unit × zM)
  | 0, _, _, _ => none
  | n + 1, l0, l1, M =>
    if (192 : Int32) ≤ l1 then
    f_Mo_beginFrame_143 O n l0 (0 : Int32) M
    else
    if z_k M l0 = 13 then
    if z_k M (z_p M l0 9) = 100 then
    if zin l1 (z_n M (z_p M l0 9)) = true then
    if z_k M (z_p M l0 15) = 100 then
    if zin l1 (z_n M (z_p M l0 15)) = true then
    zlet (w_i M (z_p M l0 15) l1.toNatClampNeg (z_i M (z_p M l0 9) l1.toNatClampNeg)) fun M6 =>
    zlet (l1 + (1 : Int32)) fun v11 =>
    f_Mo_beginFrame_116 O n l0 v11 M6
    else none
    else none
    else none
    else none
    else none
set_option maxRecDepth 100000 in
set_option maxHeartbeats 4000000 in
theorem s_Mo_beginFrame_116 {X : zX} {q : Unit × zM} (C : zC X zR12 prog_14_method_25_code 2 { frames := 3, cells := 0, slots := 0, locals := 79 }) (hr : zRt X none) (E : zE X none q.2 0 0) : ∀ (n : Nat) (l0 : Nat) (l1 : Int32) (M : zM), f_Mo_beginFrame_116 (zOD X) n l0 l1 M = some q → zW X 0 0 116 [some (zP l0), some (zI l1)] [] M := by
  intro n
  induction n with
  | zero => intro l0 l1 M h; rw [f_Mo_beginFrame_116] at h; cases h
  | succ n ih =>
    intro l0 l1 M h
    rw [f_Mo_beginFrame_116] at h
    refine r_iload_n C (z_d dd_Mo_beginFrame 66 rfl) rfl ?_
    refine r_sipush (v := (192 : Int32)) C (z_d dd_Mo_beginFrame 67 rfl) (by decide) ?_
    refine r_icmp_ge C 141 (z_d dd_Mo_beginFrame 68 rfl) (by decide) (fun c13 => ?_) (fun c13 => ?_)
    · have h := zift h c13
      refine r_iconst (v := (0 : Int32)) C (z_d dd_Mo_beginFrame 79 rfl) (by decide) ?_
      refine r_istore_n (lv' := [some (zP l0), some (zI (0 : Int32))]) C (z_d dd_Mo_beginFrame 80 rfl) (Nat.le_of_ble_eq_true rfl) rfl ?_
      exact s_Mo_beginFrame_143 C hr E n l0 (0 : Int32) M h
    · have h := ziff h c13
      refine r_aload_n C (z_d dd_Mo_beginFrame 69 rfl) rfl ?_
      obtain ⟨h1, h⟩ := zif h
      refine r_getP C (z_d dd_Mo_beginFrame 70 rfl) lk_Mo_39 rfl h1 rfl ?_
      refine r_iload_n C (z_d dd_Mo_beginFrame 71 rfl) rfl ?_
      refine r_aload_n C (z_d dd_Mo_beginFrame 72 rfl) rfl ?_
      refine r_getP C (z_d dd_Mo_beginFrame 73 rfl) lk_Mo_23 rfl h1 rfl ?_
      refine r_iload_n C (z_d dd_Mo_beginFrame 74 rfl) rfl ?_
      obtain ⟨h2, h⟩ := zif h
      obtain ⟨h3, h⟩ := zif h
      refine r_iald C (z_d dd_Mo_beginFrame 75 rfl) h2 h3 rfl ?_
      obtain ⟨h4, h⟩ := zif h
      obtain ⟨h5, h⟩ := zif h
      obtain ⟨M6, e7, h⟩ := zlet_ex h
      have h8 := k_i e7 h1
      have h9 := k_i e7 h2
      have h10 := k_i e7 h4
      refine r_iast C (z_d dd_Mo_beginFrame 76 rfl) h4 h5 e7 ?_
      obtain ⟨v11, e12, h⟩ := zlet_ex h
      refine r_iinc (v := v11) (lv' := [some (zP l0), some (zI v11)]) C (z_d dd_Mo_beginFrame 77 rfl) rfl (Nat.le_of_ble_eq_true rfl) (by rw [e12]; rfl) rfl ?_
      refine r_goto C 116 (z_d dd_Mo_beginFrame 78 rfl) (by decide) ?_
      exact ih l0 v11 M6 h
def f_Mo_beginFrame_101 (O : zO) (k55 : Nat → Int32 → zM → Option (Unit × zM)) (n : Nat) (l0 : Nat) (l1 : Int32) (s0 : Nat) (s1 : Int32) (M : zM) : Option (Unit × zM) :=
  if z_k M s0 = 13 then
  zlet (w_i M s0 13 s1) fun M2 =>
  zlet (l1 + (1 : Int32)) fun v5 =>
  k55 l0 v5 M2
  else none
set_option maxRecDepth 100000 in
set_option maxHeartbeats 4000000 in
theorem s_Mo_beginFrame_101 {X : zX} {q : Unit × zM} (C : zC X zR12 prog_14_method_25_code 2 { frames := 3, cells := 0, slots := 0, locals := 79 }) (hr : zRt X none) (E : zE X none q.2 0 0) {k55 : Nat → Int32 → zM → Option (Unit × zM)} (hk55 : ∀ (l0 : Nat) (l1 : Int32) (M : zM), k55 l0 l1 M = some q → zW X 0 0 55 [some (zP l0), some (zI l1)] [] M) : ∀ (n : Nat) (l0 : Nat) (l1 : Int32) (s0 : Nat) (s1 : Int32) (M : zM), f_Mo_beginFrame_101 (zOD X) k55 n l0 l1 s0 s1 M = some q → zW X 0 0 101 [some (zP l0), some (zI l1)] [zI s1, zP s0] M := by
  intro n l0 l1 s0 s1 M h
  rw [f_Mo_beginFrame_101] at h
  obtain ⟨h1, h⟩ := zif h
  obtain ⟨M2, e3, h⟩ := zlet_ex h
  have h4 := k_i e3 h1
  refine r_putI C (z_d dd_Mo_beginFrame 59 rfl) lp_Mo_121 rfl h1 e3 ?_
  obtain ⟨v5, e6, h⟩ := zlet_ex h
  refine r_iinc (v := v5) (lv' := [some (zP l0), some (zI v5)]) C (z_d dd_Mo_beginFrame 60 rfl) rfl (Nat.le_of_ble_eq_true rfl) (by rw [e6]; rfl) rfl ?_
  refine r_goto C 55 (z_d dd_Mo_beginFrame 61 rfl) (by decide) ?_
  exact hk55 l0 v5 M2 h
def f_Mo_beginFrame_55 (O : zO) : Nat → Nat → Int32 → zM → Option (Unit × zM)
  | 0, _, _, _ => none
  | n + 1, l0, l1, M =>
    if (256 : Int32) ≤ l1 then
    if z_k M l0 = 13 then
    (F_Mo_layCells O n l0 M).bind fun q2 =>
    f_Mo_beginFrame_116 O n l0 (0 : Int32) q2.2
    else none
    else
    if z_k M l0 = 13 then
    if z_k M (z_p M l0 8) = 100 then
    if zin l1 (z_n M (z_p M l0 8)) = true then
    if z_k M (z_p M l0 12) = 100 then
    if zin l1 (z_n M (z_p M l0 12)) = true then
    zlet (w_i M (z_p M l0 12) l1.toNatClampNeg (z_i M (z_p M l0 8) l1.toNatClampNeg)) fun M9 =>
    if z_k M9 (z_p M9 l0 12) = 100 then
    if zin l1 (z_n M9 (z_p M9 l0 12)) = true then
    if (z_i M9 (z_p M9 l0 12) l1.toNatClampNeg) ≤ (z_i M9 l0 13) then
    f_Mo_beginFrame_101 O (f_Mo_beginFrame_55 O n) n l0 l1 l0 (z_i M9 l0 13) M9
    else
    if zin l1 (z_n M9 (z_p M9 l0 12)) = true then
    f_Mo_beginFrame_101 O (f_Mo_beginFrame_55 O n) n l0 l1 l0 (z_i M9 (z_p M9 l0 12) l1.toNatClampNeg) M9
    else none
    else none
    else none
    else none
    else none
    else none
    else none
    else none
set_option maxRecDepth 100000 in
set_option maxHeartbeats 4000000 in
theorem s_Mo_beginFrame_55 {X : zX} {q : Unit × zM} (C : zC X zR12 prog_14_method_25_code 2 { frames := 3, cells := 0, slots := 0, locals := 79 }) (hr : zRt X none) (E : zE X none q.2 0 0) : ∀ (n : Nat) (l0 : Nat) (l1 : Int32) (M : zM), f_Mo_beginFrame_55 (zOD X) n l0 l1 M = some q → zW X 0 0 55 [some (zP l0), some (zI l1)] [] M := by
  intro n
  induction n with
  | zero => intro l0 l1 M h; rw [f_Mo_beginFrame_55] at h; cases h
  | succ n ih =>
    intro l0 l1 M h
    rw [f_Mo_beginFrame_55] at h
    refine r_iload_n C (z_d dd_Mo_beginFrame 33 rfl) rfl ?_
    refine r_sipush (v := (256 : Int32)) C (z_d dd_Mo_beginFrame 34 rfl) (by decide) ?_
    refine r_icmp_ge C 110 (z_d dd_Mo_beginFrame 35 rfl) (by decide) (fun c18 => ?_) (fun c18 => ?_)
    · have h := zift h c18
      refine r_aload_n C (z_d dd_Mo_beginFrame 62 rfl) rfl ?_
      obtain ⟨h1, h⟩ := zif h
      obtain ⟨q2, c3, h⟩ := zbd h
      refine r_invV (as := []) C 12 (S_Mo_layCells c3) (z_d dd_Mo_beginFrame 63 rfl) ok_Mo_layCells iv_Mo_layCells se_Mo_layCells ml_Mo_132 rfl rfl h1 rfl rfl rfl (Nat.le_of_ble_eq_true rfl) ⟨(Nat.le_of_ble_eq_true rfl), (Nat.le_of_ble_eq_true rfl)⟩ ⟨(Nat.le_of_ble_eq_true rfl), (Nat.le_of_ble_eq_true rfl)⟩ ?_
      refine r_iconst (v := (0 : Int32)) C (z_d dd_Mo_beginFrame 64 rfl) (by decide) ?_
      refine r_istore_n (lv' := [some (zP l0), some (zI (0 : Int32))]) C (z_d dd_Mo_beginFrame 65 rfl) (Nat.le_of_ble_eq_true rfl) rfl ?_
      exact s_Mo_beginFrame_116 C hr E n l0 (0 : Int32) q2.2 h
    · have h := ziff h c18
      refine r_aload_n C (z_d dd_Mo_beginFrame 36 rfl) rfl ?_
      obtain ⟨h4, h⟩ := zif h
      refine r_getP C (z_d dd_Mo_beginFrame 37 rfl) lk_Mo_33 rfl h4 rfl ?_
      refine r_iload_n C (z_d dd_Mo_beginFrame 38 rfl) rfl ?_
      refine r_aload_n C (z_d dd_Mo_beginFrame 39 rfl) rfl ?_
      refine r_getP C (z_d dd_Mo_beginFrame 40 rfl) lk_Mo_20 rfl h4 rfl ?_
      refine r_iload_n C (z_d dd_Mo_beginFrame 41 rfl) rfl ?_
      obtain ⟨h5, h⟩ := zif h
      obtain ⟨h6, h⟩ := zif h
      refine r_iald C (z_d dd_Mo_beginFrame 42 rfl) h5 h6 rfl ?_
      obtain ⟨h7, h⟩ := zif h
      obtain ⟨h8, h⟩ := zif h
      obtain ⟨M9, e10, h⟩ := zlet_ex h
      have h11 := k_i e10 h4
      have h12 := k_i e10 h5
      have h13 := k_i e10 h7
      refine r_iast C (z_d dd_Mo_beginFrame 43 rfl) h7 h8 e10 ?_
      refine r_aload_n C (z_d dd_Mo_beginFrame 44 rfl) rfl ?_
      refine r_aload_n C (z_d dd_Mo_beginFrame 45 rfl) rfl ?_
      refine r_getP C (z_d dd_Mo_beginFrame 46 rfl) lk_Mo_33 rfl h11 rfl ?_
      refine r_iload_n C (z_d dd_Mo_beginFrame 47 rfl) rfl ?_
      obtain ⟨h14, h⟩ := zif h
      obtain ⟨h15, h⟩ := zif h
      refine r_iald C (z_d dd_Mo_beginFrame 48 rfl) h14 h15 rfl ?_
      refine r_aload_n C (z_d dd_Mo_beginFrame 49 rfl) rfl ?_
      refine r_getI C (z_d dd_Mo_beginFrame 50 rfl) lk_Mo_121 rfl h11 rfl ?_
      refine r_icmp_le C 97 (z_d dd_Mo_beginFrame 51 rfl) (by decide) (fun c17 => ?_) (fun c17 => ?_)
      · have h := zift h c17
        refine r_aload_n C (z_d dd_Mo_beginFrame 57 rfl) rfl ?_
        refine r_getI C (z_d dd_Mo_beginFrame 58 rfl) lk_Mo_121 rfl h11 rfl ?_
        exact s_Mo_beginFrame_101 C hr E ih n l0 l1 l0 (z_i M9 l0 13) M9 h
      · have h := ziff h c17
        refine r_aload_n C (z_d dd_Mo_beginFrame 52 rfl) rfl ?_
        refine r_getP C (z_d dd_Mo_beginFrame 53 rfl) lk_Mo_33 rfl h11 rfl ?_
        refine r_iload_n C (z_d dd_Mo_beginFrame 54 rfl) rfl ?_
        obtain ⟨h16, h⟩ := zif h
        refine r_iald C (z_d dd_Mo_beginFrame 55 rfl) h14 h16 rfl ?_
        refine r_goto C 101 (z_d dd_Mo_beginFrame 56 rfl) (by decide) ?_
        exact s_Mo_beginFrame_101 C hr E ih n l0 l1 l0 (z_i M9 (z_p M9 l0 12) l1.toNatClampNeg) M9 h
def f_Mo_beginFrame_38 (O : zO) (k7 : Nat → Int32 → zM → Option (Unit × zM)) (n : Nat) (l0 : Nat) (l1 : Int32) (s0 : Nat) (s1 : Int32) (s2 : Int64) (M : zM) : Option (Unit × zM) :=
  if z_k M s0 = 103 then
  if zin s1 (z_n M s0) = true then
  zlet (w_j M s0 s1.toNatClampNeg s2) fun M3 =>
  zlet (l1 + (1 : Int32)) fun v6 =>
  k7 l0 v6 M3
  else none
  else none
set_option maxRecDepth 100000 in
set_option maxHeartbeats 4000000 in
theorem s_Mo_beginFrame_38 {X : zX} {q : Unit × zM} (C : zC X zR12 prog_14_method_25_code 2 { frames := 3, cells := 0, slots := 0, locals := 79 }) (hr : zRt X none) (E : zE X none q.2 0 0) {k7 : Nat → Int32 → zM → Option (Unit × zM)} (hk7 : ∀ (l0 : Nat) (l1 : Int32) (M : zM), k7 l0 l1 M = some q → zW X 0 0 7 [some (zP l0), some (zI l1)] [] M) : ∀ (n : Nat) (l0 : Nat) (l1 : Int32) (s0 : Nat) (s1 : Int32) (s2 : Int64) (M : zM), f_Mo_beginFrame_38 (zOD X) k7 n l0 l1 s0 s1 s2 M = some q → zW X 0 0 38 [some (zP l0), some (zI l1)] [zL s2, zI s1, zP s0] M := by
  intro n l0 l1 s0 s1 s2 M h
  rw [f_Mo_beginFrame_38] at h
  obtain ⟨h1, h⟩ := zif h
  obtain ⟨h2, h⟩ := zif h
  obtain ⟨M3, e4, h⟩ := zlet_ex h
  have h5 := k_j e4 h1
  refine r_last C (z_d dd_Mo_beginFrame 24 rfl) h1 h2 e4 ?_
  obtain ⟨v6, e7, h⟩ := zlet_ex h
  refine r_iinc (v := v6) (lv' := [some (zP l0), some (zI v6)]) C (z_d dd_Mo_beginFrame 25 rfl) rfl (Nat.le_of_ble_eq_true rfl) (by rw [e7]; rfl) rfl ?_
  refine r_goto C 7 (z_d dd_Mo_beginFrame 26 rfl) (by decide) ?_
  exact hk7 l0 v6 M3 h
def f_Mo_beginFrame_7 (O : zO) : Nat → Nat → Int32 → zM → Option (Unit × zM)
  | 0, _, _, _ => none
  | n + 1, l0, l1, M =>
    if (3 : Int32) ≤ l1 then
    if z_k M l0 = 13 then
    if (z_i M l0 7) = 0 then
    some ((), M)
    else
    f_Mo_beginFrame_55 O n l0 (0 : Int32) M
    else none
    else
    if z_k M l0 = 13 then
    if z_k M (z_p M l0 16) = 100 then
    if zin l1 (z_n M (z_p M l0 16)) = true then
    zlet (w_i M (z_p M l0 16) l1.toNatClampNeg (-1 : Int32)) fun M6 =>
    if l1 = 0 then
    f_Mo_beginFrame_38 O (f_Mo_beginFrame_7 O n) n l0 l1 (z_p M6 l0 20) l1 (1 : Int64) M6
    else
    f_Mo_beginFrame_38 O (f_Mo_beginFrame_7 O n) n l0 l1 (z_p M6 l0 20) l1 ((4 : Int64) * l1.toInt64) M6
    else none
    else none
    else none
set_option maxRecDepth 100000 in
set_option maxHeartbeats 4000000 in
theorem s_Mo_beginFrame_7 {X : zX} {q : Unit × zM} (C : zC X zR12 prog_14_method_25_code 2 { frames := 3, cells := 0, slots := 0, locals := 79 }) (hr : zRt X none) (E : zE X none q.2 0 0) : ∀ (n : Nat) (l0 : Nat) (l1 : Int32) (M : zM), f_Mo_beginFrame_7 (zOD X) n l0 l1 M = some q → zW X 0 0 7 [some (zP l0), some (zI l1)] [] M := by
  intro n
  induction n with
  | zero => intro l0 l1 M h; rw [f_Mo_beginFrame_7] at h; cases h
  | succ n ih =>
    intro l0 l1 M h
    rw [f_Mo_beginFrame_7] at h
    refine r_iload_n C (z_d dd_Mo_beginFrame 5 rfl) rfl ?_
    refine r_iconst (v := (3 : Int32)) C (z_d dd_Mo_beginFrame 6 rfl) (by decide) ?_
    refine r_icmp_ge C 45 (z_d dd_Mo_beginFrame 7 rfl) (by decide) (fun c11 => ?_) (fun c11 => ?_)
    · have h := zift h c11
      refine r_aload_n C (z_d dd_Mo_beginFrame 27 rfl) rfl ?_
      obtain ⟨h1, h⟩ := zif h
      refine r_getI C (z_d dd_Mo_beginFrame 28 rfl) lk_Mo_155 rfl h1 rfl ?_
      refine r_if_ne C 53 (z_d dd_Mo_beginFrame 29 rfl) (by decide) (fun c2 => ?_) (fun c2 => ?_)
      · have h := ziff h c2
        refine r_iconst (v := (0 : Int32)) C (z_d dd_Mo_beginFrame 31 rfl) (by decide) ?_
        refine r_istore_n (lv' := [some (zP l0), some (zI (0 : Int32))]) C (z_d dd_Mo_beginFrame 32 rfl) (Nat.le_of_ble_eq_true rfl) rfl ?_
        exact s_Mo_beginFrame_55 C hr E n l0 (0 : Int32) M h
      · have h := zift h c2
        obtain rfl := z_res h
        exact r_vret C E hr (z_d dd_Mo_beginFrame 30 rfl) (Nat.le_of_ble_eq_true rfl) (Nat.le_of_ble_eq_true rfl)
    · have h := ziff h c11
      refine r_aload_n C (z_d dd_Mo_beginFrame 8 rfl) rfl ?_
      obtain ⟨h3, h⟩ := zif h
      refine r_getP C (z_d dd_Mo_beginFrame 9 rfl) lk_Mo_42 rfl h3 rfl ?_
      refine r_iload_n C (z_d dd_Mo_beginFrame 10 rfl) rfl ?_
      refine r_iconst (v := (-1 : Int32)) C (z_d dd_Mo_beginFrame 11 rfl) (by decide) ?_
      obtain ⟨h4, h⟩ := zif h
      obtain ⟨h5, h⟩ := zif h
      obtain ⟨M6, e7, h⟩ := zlet_ex h
      have h8 := k_i e7 h3
      have h9 := k_i e7 h4
      refine r_iast C (z_d dd_Mo_beginFrame 12 rfl) h4 h5 e7 ?_
      refine r_aload_n C (z_d dd_Mo_beginFrame 13 rfl) rfl ?_
      refine r_getP C (z_d dd_Mo_beginFrame 14 rfl) lk_Mo_54 rfl h8 rfl ?_
      refine r_iload_n C (z_d dd_Mo_beginFrame 15 rfl) rfl ?_
      refine r_iload_n C (z_d dd_Mo_beginFrame 16 rfl) rfl ?_
      refine r_if_ne C 32 (z_d dd_Mo_beginFrame 17 rfl) (by decide) (fun c10 => ?_) (fun c10 => ?_)
      · have h := ziff h c10
        refine r_ldc2 (v := (4 : Int64)) C (z_d dd_Mo_beginFrame 20 rfl) kl_Mo_176 ?_
        refine r_iload_n C (z_d dd_Mo_beginFrame 21 rfl) rfl ?_
        refine r_i2l C (z_d dd_Mo_beginFrame 22 rfl) ?_
        refine r_lmul C (z_d dd_Mo_beginFrame 23 rfl) ?_
        exact s_Mo_beginFrame_38 C hr E ih n l0 l1 (z_p M6 l0 20) l1 ((4 : Int64) * l1.toInt64) M6 h
      · have h := zift h c10
        refine r_lconst (v := (1 : Int64)) C (z_d dd_Mo_beginFrame 18 rfl) (by decide) ?_
        refine r_goto C 38 (z_d dd_Mo_beginFrame 19 rfl) (by decide) ?_
        exact s_Mo_beginFrame_38 C hr E ih n l0 l1 (z_p M6 l0 20) l1 (1 : Int64) M6 h
def f_Mo_beginFrame_0 (O : zO) (n : Nat) (l0 : Nat) (M : zM) : Option (Unit × zM) :=
  if z_k M l0 = 13 then
  zlet (w_i M l0 13 (0 : Int32)) fun M2 =>
  f_Mo_beginFrame_7 O n l0 (0 : Int32) M2
  else none
set_option maxRecDepth 100000 in
set_option maxHeartbeats 4000000 in
theorem s_Mo_beginFrame_0 {X : zX} {q : Unit × zM} (C : zC X zR12 prog_14_method_25_code 2 { frames := 3, cells := 0, slots := 0, locals := 79 }) (hr : zRt X none) (E : zE X none q.2 0 0) : ∀ (n : Nat) (l0 : Nat) (M : zM), f_Mo_beginFrame_0 (zOD X) n l0 M = some q → zW X 0 0 0 [some (zP l0), none] [] M := by
  intro n l0 M h
  rw [f_Mo_beginFrame_0] at h
  refine r_aload_n C (z_d dd_Mo_beginFrame 0 rfl) rfl ?_
  refine r_iconst (v := (0 : Int32)) C (z_d dd_Mo_beginFrame 1 rfl) (by decide) ?_
  obtain ⟨h1, h⟩ := zif h
  obtain ⟨M2, e3, h⟩ := zlet_ex h
  have h4 := k_i e3 h1
  refine r_putI C (z_d dd_Mo_beginFrame 2 rfl) lp_Mo_121 rfl h1 e3 ?_
  refine r_iconst (v := (0 : Int32)) C (z_d dd_Mo_beginFrame 3 rfl) (by decide) ?_
  refine r_istore_n (lv' := [some (zP l0), some (zI (0 : Int32))]) C (z_d dd_Mo_beginFrame 4 rfl) (Nat.le_of_ble_eq_true rfl) rfl ?_
  exact s_Mo_beginFrame_7 C hr E n l0 (0 : Int32) M2 h
def F_Mo_beginFrame (O : zO) (n : Nat) (l0 : Nat) (M : zM) : Option (Unit × zM) := f_Mo_beginFrame_0 O n l0 M
theorem S_Mo_beginFrame {l : Launch} {D : zD} {n : Nat} {l0 : Nat} {M : zM} {q : Unit × zM} (h : F_Mo_beginFrame D.2.2.2.2 n l0 M = some q) : zMet l D mi_Mo_beginFrame [zP l0] M none q.2 :=
  z_met (by decide) (Nat.le_of_ble_eq_true rfl) (fun X C E hr hin hD hl => by
    subst hD
    exact s_Mo_beginFrame_0 C hr E n l0 M h)

def f_Mo_decode_151 (O : zO) (n : Nat) (s0 : Int32) (M : zM) : Option (Int32 × zM) :=
  if s0 = 0 ∨ s0 = 1 then
  some (s0, M)
  else none
set_option maxRecDepth 100000 in
set_option maxHeartbeats 4000000 in
theorem s_Mo_decode_151 {X : zX} {q : Int32 × zM} (C : zC X zR12 prog_14_method_21_code 7 { frames := 2, cells := 0, slots := 0, locals := 44 }) (hr : zRt X (some .boolean)) (E : zE X (some (zI q.1)) q.2 0 0) : ∀ (n : Nat) (s0 : Int32) (M : zM), f_Mo_decode_151 (zOD X) n s0 M = some q → zW X 0 0 151 [none, none, none, none, none, none, none] [zI s0] M := by
  intro n s0 M h
  rw [f_Mo_decode_151] at h
  obtain ⟨h1, h⟩ := zif h
  obtain rfl := z_res h
  exact r_iretZ C E hr (z_d dd_Mo_decode 82 rfl) h1 (Nat.le_of_ble_eq_true rfl) (Nat.le_of_ble_eq_true rfl)
def f_Mo_decode_69 (O : zO) (k14 : Nat → Int32 → Int32 → zM → Option (Int32 × zM)) (k26 : Nat → Int32 → Int32 → Int32 → Int32 → zM → Option (Int32 × zM)) (n : Nat) (l0 : Nat) (l3 : Int32) (l4 : Int32) (l6 : Int32) (s0 : Int32) (s1 : Int32) (M : zM) : Option (Int32 × zM) :=
  zlet (s0 + s1) fun v1 =>
  zlet (l6 + (1 : Int32)) fun v3 =>
  k26 l0 l3 l4 v1 v3 M
set_option maxRecDepth 100000 in
set_option maxHeartbeats 4000000 in
theorem s_Mo_decode_69 {X : zX} {q : Int32 × zM} (C : zC X zR12 prog_14_method_21_code 7 { frames := 2, cells := 0, slots := 0, locals := 44 }) (hr : zRt X (some .boolean)) (E : zE X (some (zI q.1)) q.2 0 0) {k14 : Nat → Int32 → Int32 → zM → Option (Int32 × zM)} (hk14 : ∀ (l0 : Nat) (l3 : Int32) (l4 : Int32) (M : zM), k14 l0 l3 l4 M = some q → zW X 0 0 14 [some (zP l0), none, none, some (zI l3), some (zI l4), none, none] [] M) {k26 : Nat → Int32 → Int32 → Int32 → Int32 → zM → Option (Int32 × zM)} (hk26 : ∀ (l0 : Nat) (l3 : Int32) (l4 : Int32) (l5 : Int32) (l6 : Int32) (M : zM), k26 l0 l3 l4 l5 l6 M = some q → zW X 0 0 26 [some (zP l0), none, none, some (zI l3), some (zI l4), some (zI l5), some (zI l6)] [] M) : ∀ (n : Nat) (l0 : Nat) (l3 : Int32) (l4 : Int32) (l6 : Int32) (s0 : Int32) (s1 : Int32) (M : zM), f_Mo_decode_69 (zOD X) k14 k26 n l0 l3 l4 l6 s0 s1 M = some q → zW X 0 0 69 [some (zP l0), none, none, some (zI l3), some (zI l4), none, some (zI l6)] [zI s1, zI s0] M := by
  intro n l0 l3 l4 l6 s0 s1 M h
  rw [f_Mo_decode_69] at h
  refine r_iadd C (z_d dd_Mo_decode 39 rfl) ?_
  obtain ⟨v1, e2, h⟩ := zlet_ex h
  refine r_nmI e2 ?_
  refine r_istore (lv' := [some (zP l0), none, none, some (zI l3), some (zI l4), some (zI v1), some (zI l6)]) C (z_d dd_Mo_decode 40 rfl) (Nat.le_of_ble_eq_true rfl) rfl ?_
  obtain ⟨v3, e4, h⟩ := zlet_ex h
  refine r_iinc (v := v3) (lv' := [some (zP l0), none, none, some (zI l3), some (zI l4), some (zI v1), some (zI v3)]) C (z_d dd_Mo_decode 41 rfl) rfl (Nat.le_of_ble_eq_true rfl) (by rw [e4]; rfl) rfl ?_
  refine r_goto C 26 (z_d dd_Mo_decode 42 rfl) (by decide) ?_
  exact hk26 l0 l3 l4 v1 v3 M h
def f_Mo_decode_26 (O : zO) (k14 : Nat → Int32 → Int32 → zM → Option (Int32 × zM)) : Nat → Nat → Int32 → Int32 → Int32 → Int32 → zM → Option (Int32 × zM)
  | 0, _, _, _, _, _, _ => none
  | n + 1, l0, l3, l4, l5, l6, M =>
    if z_k M l0 = 13 then
    if (z_i M l0 13) < l6 then
    if z_k M (z_p M l0 14) = 100 then
    if zin l5 (z_n M (z_p M l0 14)) = true then
    zlet (z_i M (z_p M l0 14) l5.toNatClampNeg) fun v4 =>
    if z_k M (z_p M l0 12) = 100 then
    if zin v4 (z_n M (z_p M l0 12)) = true then
    zlet (w_i M l0 48 ((z_i M l0 48) - (z_i M (z_p M l0 12) v4.toNatClampNeg))) fun M8 =>
    if 0 ≤ (z_i M8 l0 48) then
    if z_k M8 (z_p M8 l0 41) = 100 then
    if zin (z_i M8 l0 42) (z_n M8 (z_p M8 l0 41)) = true then
    zlet (w_i M8 (z_p M8 l0 41) (z_i M8 l0 42).toNatClampNeg v4) fun M15 =>
    zlet (w_i M15 l0 42 ((z_i M15 l0 42) + (1 : Int32))) fun M21 =>
    zlet (l4 + (1 : Int32)) fun v27 =>
    k14 l0 l3 v27 M21
    else none
    else none
    else
    some ((0 : Int32), M8)
    else none
    else none
    else none
    else none
    else
    if ((z_i M l0 48) - l6) < 0 then
    f_Mo_decode_69 O k14 (f_Mo_decode_26 O k14 n) n l0 l3 l4 l6 ((2 : Int32) * l5) (0 : Int32) M
    else
    (F_Mo_bit O n l0 (((z_i M l0 47) + (z_i M l0 48)) - l6) M).bind fun q30 =>
    f_Mo_decode_69 O k14 (f_Mo_decode_26 O k14 n) n l0 l3 l4 l6 ((2 : Int32) * l5) q30.1 q30.2
    else none
set_option maxRecDepth 100000 in
set_option maxHeartbeats 4000000 in
theorem s_Mo_decode_26 {X : zX} {q : Int32 × zM} (C : zC X zR12 prog_14_method_21_code 7 { frames := 2, cells := 0, slots := 0, locals := 44 }) (hr : zRt X (some .boolean)) (E : zE X (some (zI q.1)) q.2 0 0) {k14 : Nat → Int32 → Int32 → zM → Option (Int32 × zM)} (hk14 : ∀ (l0 : Nat) (l3 : Int32) (l4 : Int32) (M : zM), k14 l0 l3 l4 M = some q → zW X 0 0 14 [some (zP l0), none, none, some (zI l3), some (zI l4), none, none] [] M) : ∀ (n : Nat) (l0 : Nat) (l3 : Int32) (l4 : Int32) (l5 : Int32) (l6 : Int32) (M : zM), f_Mo_decode_26 (zOD X) k14 n l0 l3 l4 l5 l6 M = some q → zW X 0 0 26 [some (zP l0), none, none, some (zI l3), some (zI l4), some (zI l5), some (zI l6)] [] M := by
  intro n
  induction n with
  | zero => intro l0 l3 l4 l5 l6 M h; rw [f_Mo_decode_26] at h; cases h
  | succ n ih =>
    intro l0 l3 l4 l5 l6 M h
    rw [f_Mo_decode_26] at h
    refine r_iload C (z_d dd_Mo_decode 16 rfl) rfl ?_
    refine r_aload_n C (z_d dd_Mo_decode 17 rfl) rfl ?_
    obtain ⟨h1, h⟩ := zif h
    refine r_getI C (z_d dd_Mo_decode 18 rfl) lk_Mo_121 rfl h1 rfl ?_
    refine r_icmp_gt C 78 (z_d dd_Mo_decode 19 rfl) (by decide) (fun c33 => ?_) (fun c33 => ?_)
    · have h := zift h c33
      refine r_aload_n C (z_d dd_Mo_decode 43 rfl) rfl ?_
      refine r_getP C (z_d dd_Mo_decode 44 rfl) lk_Mo_36 rfl h1 rfl ?_
      refine r_iload C (z_d dd_Mo_decode 45 rfl) rfl ?_
      obtain ⟨h2, h⟩ := zif h
      obtain ⟨h3, h⟩ := zif h
      refine r_iald C (z_d dd_Mo_decode 46 rfl) h2 h3 rfl ?_
      obtain ⟨v4, e5, h⟩ := zlet_ex h
      refine r_nmI e5 ?_
      refine r_istore (lv' := [some (zP l0), none, none, some (zI l3), some (zI l4), some (zI l5), some (zI v4)]) C (z_d dd_Mo_decode 47 rfl) (Nat.le_of_ble_eq_true rfl) rfl ?_
      refine r_aload_n C (z_d dd_Mo_decode 48 rfl) rfl ?_
      refine r_dupP C (z_d dd_Mo_decode 49 rfl) ?_
      refine r_getI C (z_d dd_Mo_decode 50 rfl) lk_Mo_116 rfl h1 rfl ?_
      refine r_aload_n C (z_d dd_Mo_decode 51 rfl) rfl ?_
      refine r_getP C (z_d dd_Mo_decode 52 rfl) lk_Mo_33 rfl h1 rfl ?_
      refine r_iload C (z_d dd_Mo_decode 53 rfl) rfl ?_
      obtain ⟨h6, h⟩ := zif h
      obtain ⟨h7, h⟩ := zif h
      refine r_iald C (z_d dd_Mo_decode 54 rfl) h6 h7 rfl ?_
      refine r_isub C (z_d dd_Mo_decode 55 rfl) ?_
      obtain ⟨M8, e9, h⟩ := zlet_ex h
      have h10 := k_i e9 h1
      have h11 := k_i e9 h2
      have h12 := k_i e9 h6
      refine r_putI C (z_d dd_Mo_decode 56 rfl) lp_Mo_116 rfl h1 e9 ?_
      refine r_aload_n C (z_d dd_Mo_decode 57 rfl) rfl ?_
      refine r_getI C (z_d dd_Mo_decode 58 rfl) lk_Mo_116 rfl h10 rfl ?_
      refine r_if_ge C 112 (z_d dd_Mo_decode 59 rfl) (by decide) (fun c29 => ?_) (fun c29 => ?_)
      · have h := zift h c29
        refine r_aload_n C (z_d dd_Mo_decode 62 rfl) rfl ?_
        refine r_getP C (z_d dd_Mo_decode 63 rfl) lk_Mo_79 rfl h10 rfl ?_
        refine r_aload_n C (z_d dd_Mo_decode 64 rfl) rfl ?_
        refine r_getI C (z_d dd_Mo_decode 65 rfl) lk_Mo_146 rfl h10 rfl ?_
        refine r_iload C (z_d dd_Mo_decode 66 rfl) rfl ?_
        obtain ⟨h13, h⟩ := zif h
        obtain ⟨h14, h⟩ := zif h
        obtain ⟨M15, e16, h⟩ := zlet_ex h
        have h17 := k_i e16 h10
        have h18 := k_i e16 h11
        have h19 := k_i e16 h12
        have h20 := k_i e16 h13
        refine r_iast C (z_d dd_Mo_decode 67 rfl) h13 h14 e16 ?_
        refine r_aload_n C (z_d dd_Mo_decode 68 rfl) rfl ?_
        refine r_dupP C (z_d dd_Mo_decode 69 rfl) ?_
        refine r_getI C (z_d dd_Mo_decode 70 rfl) lk_Mo_146 rfl h17 rfl ?_
        refine r_iconst (v := (1 : Int32)) C (z_d dd_Mo_decode 71 rfl) (by decide) ?_
        refine r_iadd C (z_d dd_Mo_decode 72 rfl) ?_
        obtain ⟨M21, e22, h⟩ := zlet_ex h
        have h23 := k_i e22 h17
        have h24 := k_i e22 h18
        have h25 := k_i e22 h19
        have h26 := k_i e22 h20
        refine r_putI C (z_d dd_Mo_decode 73 rfl) lp_Mo_146 rfl h17 e22 ?_
        obtain ⟨v27, e28, h⟩ := zlet_ex h
        refine r_iinc (v := v27) (lv' := [some (zP l0), none, none, some (zI l3), some (zI v27), some (zI l5), some (zI v4)]) C (z_d dd_Mo_decode 74 rfl) rfl (Nat.le_of_ble_eq_true rfl) (by rw [e28]; rfl) rfl ?_
        refine r_goto C 14 (z_d dd_Mo_decode 75 rfl) (by decide) ?_
        refine r_mk [true, false, false, true, true, false, false] ?_
        exact hk14 l0 l3 v27 M21 h
      · have h := ziff h c29
        refine r_iconst (v := (0 : Int32)) C (z_d dd_Mo_decode 60 rfl) (by decide) ?_
        obtain rfl := z_res h
        exact r_iretZ C E hr (z_d dd_Mo_decode 61 rfl) (by decide) (Nat.le_of_ble_eq_true rfl) (Nat.le_of_ble_eq_true rfl)
    · have h := ziff h c33
      refine r_iconst (v := (2 : Int32)) C (z_d dd_Mo_decode 20 rfl) (by decide) ?_
      refine r_iload C (z_d dd_Mo_decode 21 rfl) rfl ?_
      refine r_imul C (z_d dd_Mo_decode 22 rfl) ?_
      refine r_aload_n C (z_d dd_Mo_decode 23 rfl) rfl ?_
      refine r_getI C (z_d dd_Mo_decode 24 rfl) lk_Mo_116 rfl h1 rfl ?_
      refine r_iload C (z_d dd_Mo_decode 25 rfl) rfl ?_
      refine r_isub C (z_d dd_Mo_decode 26 rfl) ?_
      refine r_if_lt C 68 (z_d dd_Mo_decode 27 rfl) (by decide) (fun c32 => ?_) (fun c32 => ?_)
      · have h := zift h c32
        refine r_iconst (v := (0 : Int32)) C (z_d dd_Mo_decode 38 rfl) (by decide) ?_
        refine r_mk [true, false, false, true, true, false, true] ?_
        exact s_Mo_decode_69 C hr E hk14 ih n l0 l3 l4 l6 ((2 : Int32) * l5) (0 : Int32) M h
      · have h := ziff h c32
        refine r_aload_n C (z_d dd_Mo_decode 28 rfl) rfl ?_
        refine r_aload_n C (z_d dd_Mo_decode 29 rfl) rfl ?_
        refine r_getI C (z_d dd_Mo_decode 30 rfl) lk_Mo_113 rfl h1 rfl ?_
        refine r_aload_n C (z_d dd_Mo_decode 31 rfl) rfl ?_
        refine r_getI C (z_d dd_Mo_decode 32 rfl) lk_Mo_116 rfl h1 rfl ?_
        refine r_iadd C (z_d dd_Mo_decode 33 rfl) ?_
        refine r_iload C (z_d dd_Mo_decode 34 rfl) rfl ?_
        refine r_isub C (z_d dd_Mo_decode 35 rfl) ?_
        obtain ⟨q30, c31, h⟩ := zbd h
        refine r_invV (as := [zI (((z_i M l0 47) + (z_i M l0 48)) - l6)]) C 12 (S_Mo_bit c31) (z_d dd_Mo_decode 36 rfl) ok_Mo_bit iv_Mo_bit se_Mo_bit ml_Mo_91 rfl rfl h1 rfl rfl rfl (Nat.le_of_ble_eq_true rfl) ⟨(Nat.le_of_ble_eq_true rfl), (Nat.le_of_ble_eq_true rfl)⟩ ⟨(Nat.le_of_ble_eq_true rfl), (Nat.le_of_ble_eq_true rfl)⟩ ?_
        refine r_goto C 69 (z_d dd_Mo_decode 37 rfl) (by decide) ?_
        refine r_mk [true, false, false, true, true, false, true] ?_
        exact s_Mo_decode_69 C hr E hk14 ih n l0 l3 l4 l6 ((2 : Int32) * l5) q30.1 q30.2 h
def f_Mo_decode_14 (O : zO) : Nat → Nat → Int32 → Int32 → zM → Option (Int32 × zM)
  | 0, _, _, _, _ => none
  | n + 1, l0, l3, l4, M =>
    if l3 ≤ l4 then
    if z_k M l0 = 13 then
    if (z_i M l0 48) = 0 then
    f_Mo_decode_151 O n (1 : Int32) M
    else
    f_Mo_decode_151 O n (0 : Int32) M
    else none
    else
    f_Mo_decode_26 O (f_Mo_decode_14 O n) n l0 l3 l4 (0 : Int32) (1 : Int32) M
set_option maxRecDepth 100000 in
set_option maxHeartbeats 4000000 in
theorem s_Mo_decode_14 {X : zX} {q : Int32 × zM} (C : zC X zR12 prog_14_method_21_code 7 { frames := 2, cells := 0, slots := 0, locals := 44 }) (hr : zRt X (some .boolean)) (E : zE X (some (zI q.1)) q.2 0 0) : ∀ (n : Nat) (l0 : Nat) (l3 : Int32) (l4 : Int32) (M : zM), f_Mo_decode_14 (zOD X) n l0 l3 l4 M = some q → zW X 0 0 14 [some (zP l0), none, none, some (zI l3), some (zI l4), none, none] [] M := by
  intro n
  induction n with
  | zero => intro l0 l3 l4 M h; rw [f_Mo_decode_14] at h; cases h
  | succ n ih =>
    intro l0 l3 l4 M h
    rw [f_Mo_decode_14] at h
    refine r_iload C (z_d dd_Mo_decode 9 rfl) rfl ?_
    refine r_iload_n C (z_d dd_Mo_decode 10 rfl) rfl ?_
    refine r_icmp_ge C 139 (z_d dd_Mo_decode 11 rfl) (by decide) (fun c3 => ?_) (fun c3 => ?_)
    · have h := zift h c3
      refine r_aload_n C (z_d dd_Mo_decode 76 rfl) rfl ?_
      obtain ⟨h1, h⟩ := zif h
      refine r_getI C (z_d dd_Mo_decode 77 rfl) lk_Mo_116 rfl h1 rfl ?_
      refine r_if_ne C 150 (z_d dd_Mo_decode 78 rfl) (by decide) (fun c2 => ?_) (fun c2 => ?_)
      · have h := ziff h c2
        refine r_iconst (v := (0 : Int32)) C (z_d dd_Mo_decode 81 rfl) (by decide) ?_
        refine r_mk [false, false, false, false, false, false, false] ?_
        exact s_Mo_decode_151 C hr E n (0 : Int32) M h
      · have h := zift h c2
        refine r_iconst (v := (1 : Int32)) C (z_d dd_Mo_decode 79 rfl) (by decide) ?_
        refine r_goto C 151 (z_d dd_Mo_decode 80 rfl) (by decide) ?_
        refine r_mk [false, false, false, false, false, false, false] ?_
        exact s_Mo_decode_151 C hr E n (1 : Int32) M h
    · have h := ziff h c3
      refine r_iconst (v := (0 : Int32)) C (z_d dd_Mo_decode 12 rfl) (by decide) ?_
      refine r_istore (lv' := [some (zP l0), none, none, some (zI l3), some (zI l4), some (zI (0 : Int32)), none]) C (z_d dd_Mo_decode 13 rfl) (Nat.le_of_ble_eq_true rfl) rfl ?_
      refine r_iconst (v := (1 : Int32)) C (z_d dd_Mo_decode 14 rfl) (by decide) ?_
      refine r_istore (lv' := [some (zP l0), none, none, some (zI l3), some (zI l4), some (zI (0 : Int32)), some (zI (1 : Int32))]) C (z_d dd_Mo_decode 15 rfl) (Nat.le_of_ble_eq_true rfl) rfl ?_
      exact s_Mo_decode_26 C hr E ih n l0 l3 l4 (0 : Int32) (1 : Int32) M h
def f_Mo_decode_0 (O : zO) (n : Nat) (l0 : Nat) (l1 : Int32) (l2 : Int32) (l3 : Int32) (M : zM) : Option (Int32 × zM) :=
  if z_k M l0 = 13 then
  (F_Mo_open O n l0 l1 l2 M).bind fun q2 =>
  if q2.1 = 0 then
  some ((0 : Int32), q2.2)
  else
  f_Mo_decode_14 O n l0 l3 (0 : Int32) q2.2
  else none
set_option maxRecDepth 100000 in
set_option maxHeartbeats 4000000 in
theorem s_Mo_decode_0 {X : zX} {q : Int32 × zM} (C : zC X zR12 prog_14_method_21_code 7 { frames := 2, cells := 0, slots := 0, locals := 44 }) (hr : zRt X (some .boolean)) (E : zE X (some (zI q.1)) q.2 0 0) : ∀ (n : Nat) (l0 : Nat) (l1 : Int32) (l2 : Int32) (l3 : Int32) (M : zM), f_Mo_decode_0 (zOD X) n l0 l1 l2 l3 M = some q → zW X 0 0 0 [some (zP l0), some (zI l1), some (zI l2), some (zI l3), none, none, none] [] M := by
  intro n l0 l1 l2 l3 M h
  rw [f_Mo_decode_0] at h
  refine r_aload_n C (z_d dd_Mo_decode 0 rfl) rfl ?_
  refine r_iload_n C (z_d dd_Mo_decode 1 rfl) rfl ?_
  refine r_iload_n C (z_d dd_Mo_decode 2 rfl) rfl ?_
  obtain ⟨h1, h⟩ := zif h
  obtain ⟨q2, c3, h⟩ := zbd h
  refine r_invV (as := [zI l1, zI l2]) C 12 (S_Mo_open c3) (z_d dd_Mo_decode 3 rfl) ok_Mo_open iv_Mo_open se_Mo_open ml_Mo_138 rfl rfl h1 rfl rfl rfl (Nat.le_of_ble_eq_true rfl) ⟨(Nat.le_of_ble_eq_true rfl), (Nat.le_of_ble_eq_true rfl)⟩ ⟨(Nat.le_of_ble_eq_true rfl), (Nat.le_of_ble_eq_true rfl)⟩ ?_
  refine r_if_ne C 11 (z_d dd_Mo_decode 4 rfl) (by decide) (fun c4 => ?_) (fun c4 => ?_)
  · have h := ziff h c4
    refine r_iconst (v := (0 : Int32)) C (z_d dd_Mo_decode 7 rfl) (by decide) ?_
    refine r_istore (lv' := [some (zP l0), some (zI l1), some (zI l2), some (zI l3), some (zI (0 : Int32)), none, none]) C (z_d dd_Mo_decode 8 rfl) (Nat.le_of_ble_eq_true rfl) rfl ?_
    refine r_mk [true, false, false, true, true, false, false] ?_
    exact s_Mo_decode_14 C hr E n l0 l3 (0 : Int32) q2.2 h
  · have h := zift h c4
    refine r_iconst (v := (0 : Int32)) C (z_d dd_Mo_decode 5 rfl) (by decide) ?_
    obtain rfl := z_res h
    exact r_iretZ C E hr (z_d dd_Mo_decode 6 rfl) (by decide) (Nat.le_of_ble_eq_true rfl) (Nat.le_of_ble_eq_true rfl)
def F_Mo_decode (O : zO) (n : Nat) (l0 : Nat) (l1 : Int32) (l2 : Int32) (l3 : Int32) (M : zM) : Option (Int32 × zM) := f_Mo_decode_0 O n l0 l1 l2 l3 M
theorem S_Mo_decode {l : Launch} {D : zD} {n : Nat} {l0 : Nat} {l1 : Int32} {l2 : Int32} {l3 : Int32} {M : zM} {q : Int32 × zM} (h : F_Mo_decode D.2.2.2.2 n l0 l1 l2 l3 M = some q) : zMet l D mi_Mo_decode [zP l0, zI l1, zI l2, zI l3] M (some (zI q.1)) q.2 :=
  z_met (by decide) (Nat.le_of_ble_eq_true rfl) (fun X C E hr hin hD hl => by
    subst hD
    exact s_Mo_decode_0 C hr E n l0 l1 l2 l3 M h)

def f_Mo_fourStreams_147 (O : zO) (k93 : Nat → Int32 → Int32 → Int32 → Int32 → Int32 → Int32 → zM → Option (Int32 × zM)) (n : Nat) (l0 : Nat) (l1 : Int32) (l2 : Int32) (l3 : Int32) (l4 : Int32) (l5 : Int32) (l8 : Int32) (l9 : Int32) (s0 : Nat) (s1 : Int32) (s2 : Int32) (s3 : Int32) (M : zM) : Option (Int32 × zM) :=
  if z_k M s0 = 13 then
  (F_Mo_decode O n s0 s1 s2 s3 M).bind fun q2 =>
  if q2.1 = 0 then
  if z_k q2.2 l0 = 13 then
  (F_Mo_wrong O n l0 (14 : Int32) l5 q2.2).bind fun q7 =>
  if q7.1 = 0 ∨ q7.1 = 1 then
  some (q7.1, q7.2)
  else none
  else none
  else
  zlet (l8 + (1 : Int32)) fun v4 =>
  k93 l0 l1 l2 l3 l4 l9 v4 q2.2
  else none
set_option maxRecDepth 100000 in
set_option maxHeartbeats 4000000 in
theorem s_Mo_fourStreams_147 {X : zX} {q : Int32 × zM} (C : zC X zR12 prog_14_method_40_code 10 { frames := 3, cells := 0, slots := 0, locals := 70 }) (hr : zRt X (some .boolean)) (E : zE X (some (zI q.1)) q.2 0 0) {k93 : Nat → Int32 → Int32 → Int32 → Int32 → Int32 → Int32 → zM → Option (Int32 × zM)} (hk93 : ∀ (l0 : Nat) (l1 : Int32) (l2 : Int32) (l3 : Int32) (l4 : Int32) (l5 : Int32) (l8 : Int32) (M : zM), k93 l0 l1 l2 l3 l4 l5 l8 M = some q → zW X 0 0 93 [some (zP l0), some (zI l1), some (zI l2), some (zI l3), some (zI l4), some (zI l5), none, none, some (zI l8), none] [] M) : ∀ (n : Nat) (l0 : Nat) (l1 : Int32) (l2 : Int32) (l3 : Int32) (l4 : Int32) (l5 : Int32) (l8 : Int32) (l9 : Int32) (s0 : Nat) (s1 : Int32) (s2 : Int32) (s3 : Int32) (M : zM), f_Mo_fourStreams_147 (zOD X) k93 n l0 l1 l2 l3 l4 l5 l8 l9 s0 s1 s2 s3 M = some q → zW X 0 0 147 [some (zP l0), some (zI l1), some (zI l2), some (zI l3), some (zI l4), some (zI l5), none, none, some (zI l8), some (zI l9)] [zI s3, zI s2, zI s1, zP s0] M := by
  intro n l0 l1 l2 l3 l4 l5 l8 l9 s0 s1 s2 s3 M h
  rw [f_Mo_fourStreams_147] at h
  obtain ⟨h1, h⟩ := zif h
  obtain ⟨q2, c3, h⟩ := zbd h
  refine r_invV (as := [zI s1, zI s2, zI s3]) C 12 (S_Mo_decode c3) (z_d dd_Mo_fourStreams 88 rfl) ok_Mo_decode iv_Mo_decode se_Mo_decode ml_Mo_285 rfl rfl h1 rfl rfl rfl (Nat.le_of_ble_eq_true rfl) ⟨(Nat.le_of_ble_eq_true rfl), (Nat.le_of_ble_eq_true rfl)⟩ ⟨(Nat.le_of_ble_eq_true rfl), (Nat.le_of_ble_eq_true rfl)⟩ ?_
  refine r_if_ne C 162 (z_d dd_Mo_fourStreams 89 rfl) (by decide) (fun c10 => ?_) (fun c10 => ?_)
  · have h := ziff h c10
    refine r_iload C (z_d dd_Mo_fourStreams 95 rfl) rfl ?_
    refine r_istore (lv' := [some (zP l0), some (zI l1), some (zI l2), some (zI l3), some (zI l4), some (zI l9), none, none, some (zI l8), some (zI l9)]) C (z_d dd_Mo_fourStreams 96 rfl) (Nat.le_of_ble_eq_true rfl) rfl ?_
    obtain ⟨v4, e5, h⟩ := zlet_ex h
    refine r_iinc (v := v4) (lv' := [some (zP l0), some (zI l1), some (zI l2), some (zI l3), some (zI l4), some (zI l9), none, none, some (zI v4), some (zI l9)]) C (z_d dd_Mo_fourStreams 97 rfl) rfl (Nat.le_of_ble_eq_true rfl) (by rw [e5]; rfl) rfl ?_
    refine r_goto C 93 (z_d dd_Mo_fourStreams 98 rfl) (by decide) ?_
    refine r_mk [true, true, true, true, true, true, false, false, true, false] ?_
    exact hk93 l0 l1 l2 l3 l4 l9 v4 q2.2 h
  · have h := zift h c10
    refine r_aload_n C (z_d dd_Mo_fourStreams 90 rfl) rfl ?_
    refine r_bipush (v := (14 : Int32)) C (z_d dd_Mo_fourStreams 91 rfl) (by decide) ?_
    refine r_iload C (z_d dd_Mo_fourStreams 92 rfl) rfl ?_
    obtain ⟨h6, h⟩ := zif h
    obtain ⟨q7, c8, h⟩ := zbd h
    refine r_invV (as := [zI (14 : Int32), zI l5]) C 12 (S_Mo_wrong c8) (z_d dd_Mo_fourStreams 93 rfl) ok_Mo_wrong iv_Mo_wrong se_Mo_wrong ml_Mo_207 rfl rfl h6 rfl rfl rfl (Nat.le_of_ble_eq_true rfl) ⟨(Nat.le_of_ble_eq_true rfl), (Nat.le_of_ble_eq_true rfl)⟩ ⟨(Nat.le_of_ble_eq_true rfl), (Nat.le_of_ble_eq_true rfl)⟩ ?_
    obtain ⟨h9, h⟩ := zif h
    obtain rfl := z_res h
    exact r_iretZ C E hr (z_d dd_Mo_fourStreams 94 rfl) h9 (Nat.le_of_ble_eq_true rfl) (Nat.le_of_ble_eq_true rfl)
def f_Mo_fourStreams_125 (O : zO) (k93 : Nat → Int32 → Int32 → Int32 → Int32 → Int32 → Int32 → zM → Option (Int32 × zM)) (n : Nat) (l0 : Nat) (l1 : Int32) (l2 : Int32) (l3 : Int32) (l4 : Int32) (l5 : Int32) (l8 : Int32) (s0 : Int32) (M : zM) : Option (Int32 × zM) :=
  if l8 = (3 : Int32) then
  f_Mo_fourStreams_147 O k93 n l0 l1 l2 l3 l4 l5 l8 s0 l0 l5 s0 (l2 - ((3 : Int32) * l3)) M
  else
  f_Mo_fourStreams_147 O k93 n l0 l1 l2 l3 l4 l5 l8 s0 l0 l5 s0 l3 M
set_option maxRecDepth 100000 in
set_option maxHeartbeats 4000000 in
theorem s_Mo_fourStreams_125 {X : zX} {q : Int32 × zM} (C : zC X zR12 prog_14_method_40_code 10 { frames := 3, cells := 0, slots := 0, locals := 70 }) (hr : zRt X (some .boolean)) (E : zE X (some (zI q.1)) q.2 0 0) {k93 : Nat → Int32 → Int32 → Int32 → Int32 → Int32 → Int32 → zM → Option (Int32 × zM)} (hk93 : ∀ (l0 : Nat) (l1 : Int32) (l2 : Int32) (l3 : Int32) (l4 : Int32) (l5 : Int32) (l8 : Int32) (M : zM), k93 l0 l1 l2 l3 l4 l5 l8 M = some q → zW X 0 0 93 [some (zP l0), some (zI l1), some (zI l2), some (zI l3), some (zI l4), some (zI l5), none, none, some (zI l8), none] [] M) : ∀ (n : Nat) (l0 : Nat) (l1 : Int32) (l2 : Int32) (l3 : Int32) (l4 : Int32) (l5 : Int32) (l8 : Int32) (s0 : Int32) (M : zM), f_Mo_fourStreams_125 (zOD X) k93 n l0 l1 l2 l3 l4 l5 l8 s0 M = some q → zW X 0 0 125 [some (zP l0), some (zI l1), some (zI l2), some (zI l3), some (zI l4), some (zI l5), none, none, some (zI l8), none] [zI s0] M := by
  intro n l0 l1 l2 l3 l4 l5 l8 s0 M h
  rw [f_Mo_fourStreams_125] at h
  refine r_istore (lv' := [some (zP l0), some (zI l1), some (zI l2), some (zI l3), some (zI l4), some (zI l5), none, none, some (zI l8), some (zI s0)]) C (z_d dd_Mo_fourStreams 74 rfl) (Nat.le_of_ble_eq_true rfl) rfl ?_
  refine r_aload_n C (z_d dd_Mo_fourStreams 75 rfl) rfl ?_
  refine r_iload C (z_d dd_Mo_fourStreams 76 rfl) rfl ?_
  refine r_iload C (z_d dd_Mo_fourStreams 77 rfl) rfl ?_
  refine r_iload C (z_d dd_Mo_fourStreams 78 rfl) rfl ?_
  refine r_iconst (v := (3 : Int32)) C (z_d dd_Mo_fourStreams 79 rfl) (by decide) ?_
  refine r_icmp_ne C 146 (z_d dd_Mo_fourStreams 80 rfl) (by decide) (fun c1 => ?_) (fun c1 => ?_)
  · have h := ziff h c1
    refine r_iload_n C (z_d dd_Mo_fourStreams 87 rfl) rfl ?_
    exact s_Mo_fourStreams_147 C hr E hk93 n l0 l1 l2 l3 l4 l5 l8 s0 l0 l5 s0 l3 M h
  · have h := zift h c1
    refine r_iload_n C (z_d dd_Mo_fourStreams 81 rfl) rfl ?_
    refine r_iconst (v := (3 : Int32)) C (z_d dd_Mo_fourStreams 82 rfl) (by decide) ?_
    refine r_iload_n C (z_d dd_Mo_fourStreams 83 rfl) rfl ?_
    refine r_imul C (z_d dd_Mo_fourStreams 84 rfl) ?_
    refine r_isub C (z_d dd_Mo_fourStreams 85 rfl) ?_
    refine r_goto C 147 (z_d dd_Mo_fourStreams 86 rfl) (by decide) ?_
    exact s_Mo_fourStreams_147 C hr E hk93 n l0 l1 l2 l3 l4 l5 l8 s0 l0 l5 s0 (l2 - ((3 : Int32) * l3)) M h
def f_Mo_fourStreams_93 (O : zO) : Nat → Nat → Int32 → Int32 → Int32 → Int32 → Int32 → Int32 → zM → Option (Int32 × zM)
  | 0, _, _, _, _, _, _, _, _ => none
  | n + 1, l0, l1, l2, l3, l4, l5, l8, M =>
    if (4 : Int32) ≤ l8 then
    some ((1 : Int32), M)
    else
    if l8 = (3 : Int32) then
    f_Mo_fourStreams_125 O (f_Mo_fourStreams_93 O n) n l0 l1 l2 l3 l4 l5 l8 l1 M
    else
    if z_k M l0 = 13 then
    (F_Mo_number O n l0 (l4 + ((2 : Int32) * l8)) (2 : Int32) M).bind fun q2 =>
    f_Mo_fourStreams_125 O (f_Mo_fourStreams_93 O n) n l0 l1 l2 l3 l4 l5 l8 (l5 + q2.1.toInt32) q2.2
    else none
set_option maxRecDepth 100000 in
set_option maxHeartbeats 4000000 in
theorem s_Mo_fourStreams_93 {X : zX} {q : Int32 × zM} (C : zC X zR12 prog_14_method_40_code 10 { frames := 3, cells := 0, slots := 0, locals := 70 }) (hr : zRt X (some .boolean)) (E : zE X (some (zI q.1)) q.2 0 0) : ∀ (n : Nat) (l0 : Nat) (l1 : Int32) (l2 : Int32) (l3 : Int32) (l4 : Int32) (l5 : Int32) (l8 : Int32) (M : zM), f_Mo_fourStreams_93 (zOD X) n l0 l1 l2 l3 l4 l5 l8 M = some q → zW X 0 0 93 [some (zP l0), some (zI l1), some (zI l2), some (zI l3), some (zI l4), some (zI l5), none, none, some (zI l8), none] [] M := by
  intro n
  induction n with
  | zero => intro l0 l1 l2 l3 l4 l5 l8 M h; rw [f_Mo_fourStreams_93] at h; cases h
  | succ n ih =>
    intro l0 l1 l2 l3 l4 l5 l8 M h
    rw [f_Mo_fourStreams_93] at h
    refine r_iload C (z_d dd_Mo_fourStreams 55 rfl) rfl ?_
    refine r_iconst (v := (4 : Int32)) C (z_d dd_Mo_fourStreams 56 rfl) (by decide) ?_
    refine r_icmp_ge C 172 (z_d dd_Mo_fourStreams 57 rfl) (by decide) (fun c5 => ?_) (fun c5 => ?_)
    · have h := zift h c5
      refine r_iconst (v := (1 : Int32)) C (z_d dd_Mo_fourStreams 99 rfl) (by decide) ?_
      obtain rfl := z_res h
      exact r_iretZ C E hr (z_d dd_Mo_fourStreams 100 rfl) (by decide) (Nat.le_of_ble_eq_true rfl) (Nat.le_of_ble_eq_true rfl)
    · have h := ziff h c5
      refine r_iload C (z_d dd_Mo_fourStreams 58 rfl) rfl ?_
      refine r_iconst (v := (3 : Int32)) C (z_d dd_Mo_fourStreams 59 rfl) (by decide) ?_
      refine r_icmp_ne C 109 (z_d dd_Mo_fourStreams 60 rfl) (by decide) (fun c4 => ?_) (fun c4 => ?_)
      · have h := ziff h c4
        refine r_iload C (z_d dd_Mo_fourStreams 63 rfl) rfl ?_
        refine r_aload_n C (z_d dd_Mo_fourStreams 64 rfl) rfl ?_
        refine r_iload C (z_d dd_Mo_fourStreams 65 rfl) rfl ?_
        refine r_iconst (v := (2 : Int32)) C (z_d dd_Mo_fourStreams 66 rfl) (by decide) ?_
        refine r_iload C (z_d dd_Mo_fourStreams 67 rfl) rfl ?_
        refine r_imul C (z_d dd_Mo_fourStreams 68 rfl) ?_
        refine r_iadd C (z_d dd_Mo_fourStreams 69 rfl) ?_
        refine r_iconst (v := (2 : Int32)) C (z_d dd_Mo_fourStreams 70 rfl) (by decide) ?_
        obtain ⟨h1, h⟩ := zif h
        obtain ⟨q2, c3, h⟩ := zbd h
        refine r_invV (as := [zI (l4 + ((2 : Int32) * l8)), zI (2 : Int32)]) C 12 (S_Mo_number c3) (z_d dd_Mo_fourStreams 71 rfl) ok_Mo_number iv_Mo_number se_Mo_number ml_Mo_172 rfl rfl h1 rfl rfl rfl (Nat.le_of_ble_eq_true rfl) ⟨(Nat.le_of_ble_eq_true rfl), (Nat.le_of_ble_eq_true rfl)⟩ ⟨(Nat.le_of_ble_eq_true rfl), (Nat.le_of_ble_eq_true rfl)⟩ ?_
        refine r_l2i C (z_d dd_Mo_fourStreams 72 rfl) ?_
        refine r_iadd C (z_d dd_Mo_fourStreams 73 rfl) ?_
        exact s_Mo_fourStreams_125 C hr E ih n l0 l1 l2 l3 l4 l5 l8 (l5 + q2.1.toInt32) q2.2 h
      · have h := zift h c4
        refine r_iload_n C (z_d dd_Mo_fourStreams 61 rfl) rfl ?_
        refine r_goto C 125 (z_d dd_Mo_fourStreams 62 rfl) (by decide) ?_
        exact s_Mo_fourStreams_125 C hr E ih n l0 l1 l2 l3 l4 l5 l8 l1 M h
def f_Mo_fourStreams_0 (O : zO) (n : Nat) (l0 : Nat) (l1 : Int32) (l2 : Int32) (l3 : Int32) (M : zM) : Option (Int32 × zM) :=
  if z_k M l0 = 13 then
  zlet (z_i M l0 28) fun v2 =>
  if (6 : Int32) ≤ (l1 - (z_i M l0 28)) then
  zlet ((z_i M l0 28) + (6 : Int32)) fun v4 =>
  (F_Mo_number O n l0 (z_i M l0 28) (2 : Int32) M).bind fun q6 =>
  if z_k q6.2 l0 = 13 then
  (F_Mo_number O n l0 ((z_i q6.2 l0 28) + (2 : Int32)) (2 : Int32) q6.2).bind fun q9 =>
  if z_k q9.2 l0 = 13 then
  (F_Mo_number O n l0 ((z_i q9.2 l0 28) + (4 : Int32)) (2 : Int32) q9.2).bind fun q12 =>
  zlet ((q6.1 + q9.1) + q12.1) fun v14 =>
  if (lg_cmp v14 (l1 - v4).toInt64) ≤ 0 then
  f_Mo_fourStreams_93 O n l0 l1 l2 l3 v2 v4 (0 : Int32) q12.2
  else
  if z_k q12.2 l0 = 13 then
  (F_Mo_wrong O n l0 (14 : Int32) v2 q12.2).bind fun q17 =>
  if q17.1 = 0 ∨ q17.1 = 1 then
  some (q17.1, q17.2)
  else none
  else none
  else none
  else none
  else
  (F_Mo_wrong O n l0 (14 : Int32) v2 M).bind fun q21 =>
  if q21.1 = 0 ∨ q21.1 = 1 then
  some (q21.1, q21.2)
  else none
  else none
set_option maxRecDepth 100000 in
set_option maxHeartbeats 4000000 in
theorem s_Mo_fourStreams_0 {X : zX} {q : Int32 × zM} (C : zC X zR12 prog_14_method_40_code 10 { frames := 3, cells := 0, slots := 0, locals := 70 }) (hr : zRt X (some .boolean)) (E : zE X (some (zI q.1)) q.2 0 0) : ∀ (n : Nat) (l0 : Nat) (l1 : Int32) (l2 : Int32) (l3 : Int32) (M : zM), f_Mo_fourStreams_0 (zOD X) n l0 l1 l2 l3 M = some q → zW X 0 0 0 [some (zP l0), some (zI l1), some (zI l2), some (zI l3), none, none, none, none, none, none] [] M := by
  intro n l0 l1 l2 l3 M h
  rw [f_Mo_fourStreams_0] at h
  refine r_aload_n C (z_d dd_Mo_fourStreams 0 rfl) rfl ?_
  obtain ⟨h1, h⟩ := zif h
  refine r_getI C (z_d dd_Mo_fourStreams 1 rfl) lk_Mo_204 rfl h1 rfl ?_
  obtain ⟨v2, e3, h⟩ := zlet_ex h
  refine r_nmI e3 ?_
  refine r_istore (lv' := [some (zP l0), some (zI l1), some (zI l2), some (zI l3), some (zI v2), none, none, none, none, none]) C (z_d dd_Mo_fourStreams 2 rfl) (Nat.le_of_ble_eq_true rfl) rfl ?_
  refine r_iload_n C (z_d dd_Mo_fourStreams 3 rfl) rfl ?_
  refine r_aload_n C (z_d dd_Mo_fourStreams 4 rfl) rfl ?_
  refine r_getI C (z_d dd_Mo_fourStreams 5 rfl) lk_Mo_204 rfl h1 rfl ?_
  refine r_isub C (z_d dd_Mo_fourStreams 6 rfl) ?_
  refine r_bipush (v := (6 : Int32)) C (z_d dd_Mo_fourStreams 7 rfl) (by decide) ?_
  refine r_icmp_ge C 26 (z_d dd_Mo_fourStreams 8 rfl) (by decide) (fun c24 => ?_) (fun c24 => ?_)
  · have h := zift h c24
    refine r_aload_n C (z_d dd_Mo_fourStreams 14 rfl) rfl ?_
    refine r_getI C (z_d dd_Mo_fourStreams 15 rfl) lk_Mo_204 rfl h1 rfl ?_
    refine r_bipush (v := (6 : Int32)) C (z_d dd_Mo_fourStreams 16 rfl) (by decide) ?_
    refine r_iadd C (z_d dd_Mo_fourStreams 17 rfl) ?_
    obtain ⟨v4, e5, h⟩ := zlet_ex h
    refine r_nmI e5 ?_
    refine r_istore (lv' := [some (zP l0), some (zI l1), some (zI l2), some (zI l3), some (zI v2), some (zI v4), none, none, none, none]) C (z_d dd_Mo_fourStreams 18 rfl) (Nat.le_of_ble_eq_true rfl) rfl ?_
    refine r_aload_n C (z_d dd_Mo_fourStreams 19 rfl) rfl ?_
    refine r_aload_n C (z_d dd_Mo_fourStreams 20 rfl) rfl ?_
    refine r_getI C (z_d dd_Mo_fourStreams 21 rfl) lk_Mo_204 rfl h1 rfl ?_
    refine r_iconst (v := (2 : Int32)) C (z_d dd_Mo_fourStreams 22 rfl) (by decide) ?_
    obtain ⟨q6, c7, h⟩ := zbd h
    refine r_invV (as := [zI (z_i M l0 28), zI (2 : Int32)]) C 12 (S_Mo_number c7) (z_d dd_Mo_fourStreams 23 rfl) ok_Mo_number iv_Mo_number se_Mo_number ml_Mo_172 rfl rfl h1 rfl rfl rfl (Nat.le_of_ble_eq_true rfl) ⟨(Nat.le_of_ble_eq_true rfl), (Nat.le_of_ble_eq_true rfl)⟩ ⟨(Nat.le_of_ble_eq_true rfl), (Nat.le_of_ble_eq_true rfl)⟩ ?_
    refine r_aload_n C (z_d dd_Mo_fourStreams 24 rfl) rfl ?_
    refine r_aload_n C (z_d dd_Mo_fourStreams 25 rfl) rfl ?_
    obtain ⟨h8, h⟩ := zif h
    refine r_getI C (z_d dd_Mo_fourStreams 26 rfl) lk_Mo_204 rfl h8 rfl ?_
    refine r_iconst (v := (2 : Int32)) C (z_d dd_Mo_fourStreams 27 rfl) (by decide) ?_
    refine r_iadd C (z_d dd_Mo_fourStreams 28 rfl) ?_
    refine r_iconst (v := (2 : Int32)) C (z_d dd_Mo_fourStreams 29 rfl) (by decide) ?_
    obtain ⟨q9, c10, h⟩ := zbd h
    refine r_invV (as := [zI ((z_i q6.2 l0 28) + (2 : Int32)), zI (2 : Int32)]) C 12 (S_Mo_number c10) (z_d dd_Mo_fourStreams 30 rfl) ok_Mo_number iv_Mo_number se_Mo_number ml_Mo_172 rfl rfl h8 rfl rfl rfl (Nat.le_of_ble_eq_true rfl) ⟨(Nat.le_of_ble_eq_true rfl), (Nat.le_of_ble_eq_true rfl)⟩ ⟨(Nat.le_of_ble_eq_true rfl), (Nat.le_of_ble_eq_true rfl)⟩ ?_
    refine r_ladd C (z_d dd_Mo_fourStreams 31 rfl) ?_
    refine r_aload_n C (z_d dd_Mo_fourStreams 32 rfl) rfl ?_
    refine r_aload_n C (z_d dd_Mo_fourStreams 33 rfl) rfl ?_
    obtain ⟨h11, h⟩ := zif h
    refine r_getI C (z_d dd_Mo_fourStreams 34 rfl) lk_Mo_204 rfl h11 rfl ?_
    refine r_iconst (v := (4 : Int32)) C (z_d dd_Mo_fourStreams 35 rfl) (by decide) ?_
    refine r_iadd C (z_d dd_Mo_fourStreams 36 rfl) ?_
    refine r_iconst (v := (2 : Int32)) C (z_d dd_Mo_fourStreams 37 rfl) (by decide) ?_
    obtain ⟨q12, c13, h⟩ := zbd h
    refine r_invV (as := [zI ((z_i q9.2 l0 28) + (4 : Int32)), zI (2 : Int32)]) C 12 (S_Mo_number c13) (z_d dd_Mo_fourStreams 38 rfl) ok_Mo_number iv_Mo_number se_Mo_number ml_Mo_172 rfl rfl h11 rfl rfl rfl (Nat.le_of_ble_eq_true rfl) ⟨(Nat.le_of_ble_eq_true rfl), (Nat.le_of_ble_eq_true rfl)⟩ ⟨(Nat.le_of_ble_eq_true rfl), (Nat.le_of_ble_eq_true rfl)⟩ ?_
    refine r_ladd C (z_d dd_Mo_fourStreams 39 rfl) ?_
    obtain ⟨v14, e15, h⟩ := zlet_ex h
    refine r_nmL e15 ?_
    refine r_lstore (lv' := [some (zP l0), some (zI l1), some (zI l2), some (zI l3), some (zI v2), some (zI v4), some (zL v14), none, none, none]) C (z_d dd_Mo_fourStreams 40 rfl) (Nat.le_of_ble_eq_true rfl) rfl ?_
    refine r_lload C (z_d dd_Mo_fourStreams 41 rfl) rfl ?_
    refine r_iload_n C (z_d dd_Mo_fourStreams 42 rfl) rfl ?_
    refine r_iload C (z_d dd_Mo_fourStreams 43 rfl) rfl ?_
    refine r_isub C (z_d dd_Mo_fourStreams 44 rfl) ?_
    refine r_i2l C (z_d dd_Mo_fourStreams 45 rfl) ?_
    refine r_lcmp C (z_d dd_Mo_fourStreams 46 rfl) ?_
    refine r_if_le C 90 (z_d dd_Mo_fourStreams 47 rfl) (by decide) (fun c20 => ?_) (fun c20 => ?_)
    · have h := zift h c20
      refine r_iconst (v := (0 : Int32)) C (z_d dd_Mo_fourStreams 53 rfl) (by decide) ?_
      refine r_istore (lv' := [some (zP l0), some (zI l1), some (zI l2), some (zI l3), some (zI v2), some (zI v4), some (zL v14), none, some (zI (0 : Int32)), none]) C (z_d dd_Mo_fourStreams 54 rfl) (Nat.le_of_ble_eq_true rfl) rfl ?_
      refine r_mk [true, true, true, true, true, true, false, false, true, false] ?_
      exact s_Mo_fourStreams_93 C hr E n l0 l1 l2 l3 v2 v4 (0 : Int32) q12.2 h
    · have h := ziff h c20
      refine r_aload_n C (z_d dd_Mo_fourStreams 48 rfl) rfl ?_
      refine r_bipush (v := (14 : Int32)) C (z_d dd_Mo_fourStreams 49 rfl) (by decide) ?_
      refine r_iload C (z_d dd_Mo_fourStreams 50 rfl) rfl ?_
      obtain ⟨h16, h⟩ := zif h
      obtain ⟨q17, c18, h⟩ := zbd h
      refine r_invV (as := [zI (14 : Int32), zI v2]) C 12 (S_Mo_wrong c18) (z_d dd_Mo_fourStreams 51 rfl) ok_Mo_wrong iv_Mo_wrong se_Mo_wrong ml_Mo_207 rfl rfl h16 rfl rfl rfl (Nat.le_of_ble_eq_true rfl) ⟨(Nat.le_of_ble_eq_true rfl), (Nat.le_of_ble_eq_true rfl)⟩ ⟨(Nat.le_of_ble_eq_true rfl), (Nat.le_of_ble_eq_true rfl)⟩ ?_
      obtain ⟨h19, h⟩ := zif h
      obtain rfl := z_res h
      exact r_iretZ C E hr (z_d dd_Mo_fourStreams 52 rfl) h19 (Nat.le_of_ble_eq_true rfl) (Nat.le_of_ble_eq_true rfl)
  · have h := ziff h c24
    refine r_aload_n C (z_d dd_Mo_fourStreams 9 rfl) rfl ?_
    refine r_bipush (v := (14 : Int32)) C (z_d dd_Mo_fourStreams 10 rfl) (by decide) ?_
    refine r_iload C (z_d dd_Mo_fourStreams 11 rfl) rfl ?_
    obtain ⟨q21, c22, h⟩ := zbd h
    refine r_invV (as := [zI (14 : Int32), zI v2]) C 12 (S_Mo_wrong c22) (z_d dd_Mo_fourStreams 12 rfl) ok_Mo_wrong iv_Mo_wrong se_Mo_wrong ml_Mo_207 rfl rfl h1 rfl rfl rfl (Nat.le_of_ble_eq_true rfl) ⟨(Nat.le_of_ble_eq_true rfl), (Nat.le_of_ble_eq_true rfl)⟩ ⟨(Nat.le_of_ble_eq_true rfl), (Nat.le_of_ble_eq_true rfl)⟩ ?_
    obtain ⟨h23, h⟩ := zif h
    obtain rfl := z_res h
    exact r_iretZ C E hr (z_d dd_Mo_fourStreams 13 rfl) h23 (Nat.le_of_ble_eq_true rfl) (Nat.le_of_ble_eq_true rfl)
def F_Mo_fourStreams (O : zO) (n : Nat) (l0 : Nat) (l1 : Int32) (l2 : Int32) (l3 : Int32) (M : zM) : Option (Int32 × zM) := f_Mo_fourStreams_0 O n l0 l1 l2 l3 M
theorem S_Mo_fourStreams {l : Launch} {D : zD} {n : Nat} {l0 : Nat} {l1 : Int32} {l2 : Int32} {l3 : Int32} {M : zM} {q : Int32 × zM} (h : F_Mo_fourStreams D.2.2.2.2 n l0 l1 l2 l3 M = some q) : zMet l D mi_Mo_fourStreams [zP l0, zI l1, zI l2, zI l3] M (some (zI q.1)) q.2 :=
  z_met (by decide) (Nat.le_of_ble_eq_true rfl) (fun X C E hr hin hD hl => by
    subst hD
    exact s_Mo_fourStreams_0 C hr E n l0 l1 l2 l3 M h)

def f_Mo_readLiterals_391 (O : zO) (n : Nat) (l0 : Nat) (l2 : Int32) (M : zM) : Option (Int32 × zM) :=
  if z_k M l0 = 13 then
  (F_Mo_wrong O n l0 (11 : Int32) l2 M).bind fun q2 =>
  if q2.1 = 0 ∨ q2.1 = 1 then
  some (q2.1, q2.2)
  else none
  else none
set_option maxRecDepth 100000 in
set_option maxHeartbeats 4000000 in
theorem s_Mo_readLiterals_391 {X : zX} {q : Int32 × zM} (C : zC X zR12 prog_14_method_39_code 14 { frames := 4, cells := 0, slots := 0, locals := 117 }) (hr : zRt X (some .boolean)) (E : zE X (some (zI q.1)) q.2 0 0) : ∀ (n : Nat) (l0 : Nat) (l2 : Int32) (M : zM), f_Mo_readLiterals_391 (zOD X) n l0 l2 M = some q → zW X 0 0 391 [some (zP l0), none, some (zI l2), none, none, none, none, none, none, none, none, none, none, none] [] M := by
  intro n l0 l2 M h
  rw [f_Mo_readLiterals_391] at h
  refine r_aload_n C (z_d dd_Mo_readLiterals 220 rfl) rfl ?_
  refine r_bipush (v := (11 : Int32)) C (z_d dd_Mo_readLiterals 221 rfl) (by decide) ?_
  refine r_iload_n C (z_d dd_Mo_readLiterals 222 rfl) rfl ?_
  obtain ⟨h1, h⟩ := zif h
  obtain ⟨q2, c3, h⟩ := zbd h
  refine r_invV (as := [zI (11 : Int32), zI l2]) C 12 (S_Mo_wrong c3) (z_d dd_Mo_readLiterals 223 rfl) ok_Mo_wrong iv_Mo_wrong se_Mo_wrong ml_Mo_207 rfl rfl h1 rfl rfl rfl (Nat.le_of_ble_eq_true rfl) ⟨(Nat.le_of_ble_eq_true rfl), (Nat.le_of_ble_eq_true rfl)⟩ ⟨(Nat.le_of_ble_eq_true rfl), (Nat.le_of_ble_eq_true rfl)⟩ ?_
  obtain ⟨h4, h⟩ := zif h
  obtain rfl := z_res h
  exact r_iretZ C E hr (z_d dd_Mo_readLiterals 224 rfl) h4 (Nat.le_of_ble_eq_true rfl) (Nat.le_of_ble_eq_true rfl)
def f_Mo_readLiterals_532 (O : zO) (n : Nat) (l0 : Nat) (l12 : Int32) (M : zM) : Option (Int32 × zM) :=
  if z_k M l0 = 13 then
  zlet (w_i M l0 28 l12) fun M2 =>
  some ((1 : Int32), M2)
  else none
set_option maxRecDepth 100000 in
set_option maxHeartbeats 4000000 in
theorem s_Mo_readLiterals_532 {X : zX} {q : Int32 × zM} (C : zC X zR12 prog_14_method_39_code 14 { frames := 4, cells := 0, slots := 0, locals := 117 }) (hr : zRt X (some .boolean)) (E : zE X (some (zI q.1)) q.2 0 0) : ∀ (n : Nat) (l0 : Nat) (l12 : Int32) (M : zM), f_Mo_readLiterals_532 (zOD X) n l0 l12 M = some q → zW X 0 0 532 [some (zP l0), none, none, none, none, none, none, none, none, none, none, none, some (zI l12), none] [] M := by
  intro n l0 l12 M h
  rw [f_Mo_readLiterals_532] at h
  refine r_aload_n C (z_d dd_Mo_readLiterals 295 rfl) rfl ?_
  refine r_iload C (z_d dd_Mo_readLiterals 296 rfl) rfl ?_
  obtain ⟨h1, h⟩ := zif h
  obtain ⟨M2, e3, h⟩ := zlet_ex h
  have h4 := k_i e3 h1
  refine r_putI C (z_d dd_Mo_readLiterals 297 rfl) lp_Mo_204 rfl h1 e3 ?_
  refine r_iconst (v := (1 : Int32)) C (z_d dd_Mo_readLiterals 298 rfl) (by decide) ?_
  obtain rfl := z_res h
  exact r_iretZ C E hr (z_d dd_Mo_readLiterals 299 rfl) (by decide) (Nat.le_of_ble_eq_true rfl) (Nat.le_of_ble_eq_true rfl)
def f_Mo_readLiterals_486 (O : zO) (n : Nat) (l0 : Nat) (l4 : Int32) (l9 : Int32) (l11 : Int32) (l12 : Int32) (M : zM) : Option (Int32 × zM) :=
  if l4 = 0 then
  if z_k M l0 = 13 then
  (F_Mo_decode O n l0 (z_i M l0 28) l12 l9 M).bind fun q6 =>
  if q6.1 = 0 then
  if z_k q6.2 l0 = 13 then
  (F_Mo_wrong O n l0 (14 : Int32) (z_i q6.2 l0 28) q6.2).bind fun q9 =>
  if q9.1 = 0 ∨ q9.1 = 1 then
  some (q9.1, q9.2)
  else none
  else none
  else
  f_Mo_readLiterals_532 O n l0 l12 q6.2
  else none
  else
  if z_k M l0 = 13 then
  (F_Mo_fourStreams O n l0 l12 l9 l11 M).bind fun q2 =>
  if q2.1 = 0 then
  some ((0 : Int32), q2.2)
  else
  f_Mo_readLiterals_532 O n l0 l12 q2.2
  else none
set_option maxRecDepth 100000 in
set_option maxHeartbeats 4000000 in
theorem s_Mo_readLiterals_486 {X : zX} {q : Int32 × zM} (C : zC X zR12 prog_14_method_39_code 14 { frames := 4, cells := 0, slots := 0, locals := 117 }) (hr : zRt X (some .boolean)) (E : zE X (some (zI q.1)) q.2 0 0) : ∀ (n : Nat) (l0 : Nat) (l4 : Int32) (l9 : Int32) (l11 : Int32) (l12 : Int32) (M : zM), f_Mo_readLiterals_486 (zOD X) n l0 l4 l9 l11 l12 M = some q → zW X 0 0 486 [some (zP l0), none, none, none, some (zI l4), none, none, none, none, some (zI l9), none, some (zI l11), some (zI l12), none] [] M := by
  intro n l0 l4 l9 l11 l12 M h
  rw [f_Mo_readLiterals_486] at h
  refine r_iload C (z_d dd_Mo_readLiterals 272 rfl) rfl ?_
  refine r_if_ne C 517 (z_d dd_Mo_readLiterals 273 rfl) (by decide) (fun c13 => ?_) (fun c13 => ?_)
  · have h := ziff h c13
    refine r_aload_n C (z_d dd_Mo_readLiterals 287 rfl) rfl ?_
    refine r_iload C (z_d dd_Mo_readLiterals 288 rfl) rfl ?_
    refine r_iload C (z_d dd_Mo_readLiterals 289 rfl) rfl ?_
    refine r_iload C (z_d dd_Mo_readLiterals 290 rfl) rfl ?_
    obtain ⟨h1, h⟩ := zif h
    obtain ⟨q2, c3, h⟩ := zbd h
    refine r_invV (as := [zI l12, zI l9, zI l11]) C 12 (S_Mo_fourStreams c3) (z_d dd_Mo_readLiterals 291 rfl) ok_Mo_fourStreams iv_Mo_fourStreams se_Mo_fourStreams ml_Mo_289 rfl rfl h1 rfl rfl rfl (Nat.le_of_ble_eq_true rfl) ⟨(Nat.le_of_ble_eq_true rfl), (Nat.le_of_ble_eq_true rfl)⟩ ⟨(Nat.le_of_ble_eq_true rfl), (Nat.le_of_ble_eq_true rfl)⟩ ?_
    refine r_if_ne C 532 (z_d dd_Mo_readLiterals 292 rfl) (by decide) (fun c4 => ?_) (fun c4 => ?_)
    · have h := ziff h c4
      refine r_mk [true, false, false, false, false, false, false, false, false, false, false, false, true, false] ?_
      exact s_Mo_readLiterals_532 C hr E n l0 l12 q2.2 h
    · have h := zift h c4
      refine r_iconst (v := (0 : Int32)) C (z_d dd_Mo_readLiterals 293 rfl) (by decide) ?_
      obtain rfl := z_res h
      exact r_iretZ C E hr (z_d dd_Mo_readLiterals 294 rfl) (by decide) (Nat.le_of_ble_eq_true rfl) (Nat.le_of_ble_eq_true rfl)
  · have h := zift h c13
    refine r_aload_n C (z_d dd_Mo_readLiterals 274 rfl) rfl ?_
    refine r_aload_n C (z_d dd_Mo_readLiterals 275 rfl) rfl ?_
    obtain ⟨h5, h⟩ := zif h
    refine r_getI C (z_d dd_Mo_readLiterals 276 rfl) lk_Mo_204 rfl h5 rfl ?_
    refine r_iload C (z_d dd_Mo_readLiterals 277 rfl) rfl ?_
    refine r_iload C (z_d dd_Mo_readLiterals 278 rfl) rfl ?_
    obtain ⟨q6, c7, h⟩ := zbd h
    refine r_invV (as := [zI (z_i M l0 28), zI l12, zI l9]) C 12 (S_Mo_decode c7) (z_d dd_Mo_readLiterals 279 rfl) ok_Mo_decode iv_Mo_decode se_Mo_decode ml_Mo_285 rfl rfl h5 rfl rfl rfl (Nat.le_of_ble_eq_true rfl) ⟨(Nat.le_of_ble_eq_true rfl), (Nat.le_of_ble_eq_true rfl)⟩ ⟨(Nat.le_of_ble_eq_true rfl), (Nat.le_of_ble_eq_true rfl)⟩ ?_
    refine r_if_ne C 532 (z_d dd_Mo_readLiterals 280 rfl) (by decide) (fun c12 => ?_) (fun c12 => ?_)
    · have h := ziff h c12
      refine r_mk [true, false, false, false, false, false, false, false, false, false, false, false, true, false] ?_
      exact s_Mo_readLiterals_532 C hr E n l0 l12 q6.2 h
    · have h := zift h c12
      refine r_aload_n C (z_d dd_Mo_readLiterals 281 rfl) rfl ?_
      refine r_bipush (v := (14 : Int32)) C (z_d dd_Mo_readLiterals 282 rfl) (by decide) ?_
      refine r_aload_n C (z_d dd_Mo_readLiterals 283 rfl) rfl ?_
      obtain ⟨h8, h⟩ := zif h
      refine r_getI C (z_d dd_Mo_readLiterals 284 rfl) lk_Mo_204 rfl h8 rfl ?_
      obtain ⟨q9, c10, h⟩ := zbd h
      refine r_invV (as := [zI (14 : Int32), zI (z_i q6.2 l0 28)]) C 12 (S_Mo_wrong c10) (z_d dd_Mo_readLiterals 285 rfl) ok_Mo_wrong iv_Mo_wrong se_Mo_wrong ml_Mo_207 rfl rfl h8 rfl rfl rfl (Nat.le_of_ble_eq_true rfl) ⟨(Nat.le_of_ble_eq_true rfl), (Nat.le_of_ble_eq_true rfl)⟩ ⟨(Nat.le_of_ble_eq_true rfl), (Nat.le_of_ble_eq_true rfl)⟩ ?_
      obtain ⟨h11, h⟩ := zif h
      obtain rfl := z_res h
      exact r_iretZ C E hr (z_d dd_Mo_readLiterals 286 rfl) h11 (Nat.le_of_ble_eq_true rfl) (Nat.le_of_ble_eq_true rfl)
def f_Mo_readLiterals_419 (O : zO) (n : Nat) (l0 : Nat) (l1 : Int32) (l3 : Int32) (l4 : Int32) (l9 : Int32) (l10 : Int32) (l11 : Int32) (M : zM) : Option (Int32 × zM) :=
  if z_k M l0 = 13 then
  if l10 ≤ (l1 - (z_i M l0 28)) then
  zlet ((z_i M l0 28) + l10) fun v2 =>
  if l3 = (2 : Int32) then
  (F_Mo_describe O n l0 (z_i M l0 28) v2 M).bind fun q4 =>
  if 0 ≤ q4.1 then
  if z_k q4.2 l0 = 13 then
  zlet (w_i q4.2 l0 28 q4.1) fun M7 =>
  f_Mo_readLiterals_486 O n l0 l4 l9 l11 v2 M7
  else none
  else
  if z_k q4.2 l0 = 13 then
  (F_Mo_wrong O n l0 (12 : Int32) (z_i q4.2 l0 28) q4.2).bind fun q11 =>
  if q11.1 = 0 ∨ q11.1 = 1 then
  some (q11.1, q11.2)
  else none
  else none
  else
  f_Mo_readLiterals_486 O n l0 l4 l9 l11 v2 M
  else
  (F_Mo_wrong O n l0 (10 : Int32) l1 M).bind fun q16 =>
  if q16.1 = 0 ∨ q16.1 = 1 then
  some (q16.1, q16.2)
  else none
  else none
set_option maxRecDepth 100000 in
set_option maxHeartbeats 4000000 in
theorem s_Mo_readLiterals_419 {X : zX} {q : Int32 × zM} (C : zC X zR12 prog_14_method_39_code 14 { frames := 4, cells := 0, slots := 0, locals := 117 }) (hr : zRt X (some .boolean)) (E : zE X (some (zI q.1)) q.2 0 0) : ∀ (n : Nat) (l0 : Nat) (l1 : Int32) (l3 : Int32) (l4 : Int32) (l9 : Int32) (l10 : Int32) (l11 : Int32) (M : zM), f_Mo_readLiterals_419 (zOD X) n l0 l1 l3 l4 l9 l10 l11 M = some q → zW X 0 0 419 [some (zP l0), some (zI l1), none, some (zI l3), some (zI l4), none, none, none, none, some (zI l9), some (zI l10), some (zI l11), none, none] [] M := by
  intro n l0 l1 l3 l4 l9 l10 l11 M h
  rw [f_Mo_readLiterals_419] at h
  refine r_iload_n C (z_d dd_Mo_readLiterals 236 rfl) rfl ?_
  refine r_aload_n C (z_d dd_Mo_readLiterals 237 rfl) rfl ?_
  obtain ⟨h1, h⟩ := zif h
  refine r_getI C (z_d dd_Mo_readLiterals 238 rfl) lk_Mo_204 rfl h1 rfl ?_
  refine r_isub C (z_d dd_Mo_readLiterals 239 rfl) ?_
  refine r_iload C (z_d dd_Mo_readLiterals 240 rfl) rfl ?_
  refine r_icmp_ge C 438 (z_d dd_Mo_readLiterals 241 rfl) (by decide) (fun c19 => ?_) (fun c19 => ?_)
  · have h := zift h c19
    refine r_aload_n C (z_d dd_Mo_readLiterals 247 rfl) rfl ?_
    refine r_getI C (z_d dd_Mo_readLiterals 248 rfl) lk_Mo_204 rfl h1 rfl ?_
    refine r_iload C (z_d dd_Mo_readLiterals 249 rfl) rfl ?_
    refine r_iadd C (z_d dd_Mo_readLiterals 250 rfl) ?_
    obtain ⟨v2, e3, h⟩ := zlet_ex h
    refine r_nmI e3 ?_
    refine r_istore (lv' := [some (zP l0), some (zI l1), none, some (zI l3), some (zI l4), none, none, none, none, some (zI l9), some (zI l10), some (zI l11), some (zI v2), none]) C (z_d dd_Mo_readLiterals 251 rfl) (Nat.le_of_ble_eq_true rfl) rfl ?_
    refine r_iload_n C (z_d dd_Mo_readLiterals 252 rfl) rfl ?_
    refine r_iconst (v := (2 : Int32)) C (z_d dd_Mo_readLiterals 253 rfl) (by decide) ?_
    refine r_icmp_ne C 486 (z_d dd_Mo_readLiterals 254 rfl) (by decide) (fun c15 => ?_) (fun c15 => ?_)
    · have h := ziff h c15
      refine r_mk [true, false, false, false, true, false, false, false, false, true, false, true, true, false] ?_
      exact s_Mo_readLiterals_486 C hr E n l0 l4 l9 l11 v2 M h
    · have h := zift h c15
      refine r_aload_n C (z_d dd_Mo_readLiterals 255 rfl) rfl ?_
      refine r_aload_n C (z_d dd_Mo_readLiterals 256 rfl) rfl ?_
      refine r_getI C (z_d dd_Mo_readLiterals 257 rfl) lk_Mo_204 rfl h1 rfl ?_
      refine r_iload C (z_d dd_Mo_readLiterals 258 rfl) rfl ?_
      obtain ⟨q4, c5, h⟩ := zbd h
      refine r_invV (as := [zI (z_i M l0 28), zI v2]) C 12 (S_Mo_describe c5) (z_d dd_Mo_readLiterals 259 rfl) ok_Mo_describe iv_Mo_describe se_Mo_describe ml_Mo_163 rfl rfl h1 rfl rfl rfl (Nat.le_of_ble_eq_true rfl) ⟨(Nat.le_of_ble_eq_true rfl), (Nat.le_of_ble_eq_true rfl)⟩ ⟨(Nat.le_of_ble_eq_true rfl), (Nat.le_of_ble_eq_true rfl)⟩ ?_
      refine r_istore (lv' := [some (zP l0), some (zI l1), none, some (zI l3), some (zI l4), none, none, none, none, some (zI l9), some (zI l10), some (zI l11), some (zI v2), some (zI q4.1)]) C (z_d dd_Mo_readLiterals 260 rfl) (Nat.le_of_ble_eq_true rfl) rfl ?_
      refine r_iload C (z_d dd_Mo_readLiterals 261 rfl) rfl ?_
      refine r_if_ge C 480 (z_d dd_Mo_readLiterals 262 rfl) (by decide) (fun c14 => ?_) (fun c14 => ?_)
      · have h := zift h c14
        refine r_aload_n C (z_d dd_Mo_readLiterals 269 rfl) rfl ?_
        refine r_iload C (z_d dd_Mo_readLiterals 270 rfl) rfl ?_
        obtain ⟨h6, h⟩ := zif h
        obtain ⟨M7, e8, h⟩ := zlet_ex h
        have h9 := k_i e8 h6
        refine r_putI C (z_d dd_Mo_readLiterals 271 rfl) lp_Mo_204 rfl h6 e8 ?_
        refine r_mk [true, false, false, false, true, false, false, false, false, true, false, true, true, false] ?_
        exact s_Mo_readLiterals_486 C hr E n l0 l4 l9 l11 v2 M7 h
      · have h := ziff h c14
        refine r_aload_n C (z_d dd_Mo_readLiterals 263 rfl) rfl ?_
        refine r_bipush (v := (12 : Int32)) C (z_d dd_Mo_readLiterals 264 rfl) (by decide) ?_
        refine r_aload_n C (z_d dd_Mo_readLiterals 265 rfl) rfl ?_
        obtain ⟨h10, h⟩ := zif h
        refine r_getI C (z_d dd_Mo_readLiterals 266 rfl) lk_Mo_204 rfl h10 rfl ?_
        obtain ⟨q11, c12, h⟩ := zbd h
        refine r_invV (as := [zI (12 : Int32), zI (z_i q4.2 l0 28)]) C 12 (S_Mo_wrong c12) (z_d dd_Mo_readLiterals 267 rfl) ok_Mo_wrong iv_Mo_wrong se_Mo_wrong ml_Mo_207 rfl rfl h10 rfl rfl rfl (Nat.le_of_ble_eq_true rfl) ⟨(Nat.le_of_ble_eq_true rfl), (Nat.le_of_ble_eq_true rfl)⟩ ⟨(Nat.le_of_ble_eq_true rfl), (Nat.le_of_ble_eq_true rfl)⟩ ?_
        obtain ⟨h13, h⟩ := zif h
        obtain rfl := z_res h
        exact r_iretZ C E hr (z_d dd_Mo_readLiterals 268 rfl) h13 (Nat.le_of_ble_eq_true rfl) (Nat.le_of_ble_eq_true rfl)
  · have h := ziff h c19
    refine r_aload_n C (z_d dd_Mo_readLiterals 242 rfl) rfl ?_
    refine r_bipush (v := (10 : Int32)) C (z_d dd_Mo_readLiterals 243 rfl) (by decide) ?_
    refine r_iload_n C (z_d dd_Mo_readLiterals 244 rfl) rfl ?_
    obtain ⟨q16, c17, h⟩ := zbd h
    refine r_invV (as := [zI (10 : Int32), zI l1]) C 12 (S_Mo_wrong c17) (z_d dd_Mo_readLiterals 245 rfl) ok_Mo_wrong iv_Mo_wrong se_Mo_wrong ml_Mo_207 rfl rfl h1 rfl rfl rfl (Nat.le_of_ble_eq_true rfl) ⟨(Nat.le_of_ble_eq_true rfl), (Nat.le_of_ble_eq_true rfl)⟩ ⟨(Nat.le_of_ble_eq_true rfl), (Nat.le_of_ble_eq_true rfl)⟩ ?_
    obtain ⟨h18, h⟩ := zif h
    obtain rfl := z_res h
    exact r_iretZ C E hr (z_d dd_Mo_readLiterals 246 rfl) h18 (Nat.le_of_ble_eq_true rfl) (Nat.le_of_ble_eq_true rfl)
def f_Mo_readLiterals_399 (O : zO) (n : Nat) (l0 : Nat) (l1 : Int32) (l2 : Int32) (l3 : Int32) (l4 : Int32) (l9 : Int32) (l10 : Int32) (l11 : Int32) (M : zM) : Option (Int32 × zM) :=
  if l3 = (3 : Int32) then
  if z_k M l0 = 13 then
  if (z_i M l0 13) = 0 then
  (F_Mo_wrong O n l0 (13 : Int32) l2 M).bind fun q2 =>
  if q2.1 = 0 ∨ q2.1 = 1 then
  some (q2.1, q2.2)
  else none
  else
  f_Mo_readLiterals_419 O n l0 l1 l3 l4 l9 l10 l11 M
  else none
  else
  f_Mo_readLiterals_419 O n l0 l1 l3 l4 l9 l10 l11 M
set_option maxRecDepth 100000 in
set_option maxHeartbeats 4000000 in
theorem s_Mo_readLiterals_399 {X : zX} {q : Int32 × zM} (C : zC X zR12 prog_14_method_39_code 14 { frames := 4, cells := 0, slots := 0, locals := 117 }) (hr : zRt X (some .boolean)) (E : zE X (some (zI q.1)) q.2 0 0) : ∀ (n : Nat) (l0 : Nat) (l1 : Int32) (l2 : Int32) (l3 : Int32) (l4 : Int32) (l9 : Int32) (l10 : Int32) (l11 : Int32) (M : zM), f_Mo_readLiterals_399 (zOD X) n l0 l1 l2 l3 l4 l9 l10 l11 M = some q → zW X 0 0 399 [some (zP l0), some (zI l1), some (zI l2), some (zI l3), some (zI l4), none, none, none, none, some (zI l9), some (zI l10), some (zI l11), none, none] [] M := by
  intro n l0 l1 l2 l3 l4 l9 l10 l11 M h
  rw [f_Mo_readLiterals_399] at h
  refine r_iload_n C (z_d dd_Mo_readLiterals 225 rfl) rfl ?_
  refine r_iconst (v := (3 : Int32)) C (z_d dd_Mo_readLiterals 226 rfl) (by decide) ?_
  refine r_icmp_ne C 419 (z_d dd_Mo_readLiterals 227 rfl) (by decide) (fun c6 => ?_) (fun c6 => ?_)
  · have h := ziff h c6
    refine r_mk [true, true, false, true, true, false, false, false, false, true, true, true, false, false] ?_
    exact s_Mo_readLiterals_419 C hr E n l0 l1 l3 l4 l9 l10 l11 M h
  · have h := zift h c6
    refine r_aload_n C (z_d dd_Mo_readLiterals 228 rfl) rfl ?_
    obtain ⟨h1, h⟩ := zif h
    refine r_getI C (z_d dd_Mo_readLiterals 229 rfl) lk_Mo_121 rfl h1 rfl ?_
    refine r_if_ne C 419 (z_d dd_Mo_readLiterals 230 rfl) (by decide) (fun c5 => ?_) (fun c5 => ?_)
    · have h := ziff h c5
      refine r_mk [true, true, false, true, true, false, false, false, false, true, true, true, false, false] ?_
      exact s_Mo_readLiterals_419 C hr E n l0 l1 l3 l4 l9 l10 l11 M h
    · have h := zift h c5
      refine r_aload_n C (z_d dd_Mo_readLiterals 231 rfl) rfl ?_
      refine r_bipush (v := (13 : Int32)) C (z_d dd_Mo_readLiterals 232 rfl) (by decide) ?_
      refine r_iload_n C (z_d dd_Mo_readLiterals 233 rfl) rfl ?_
      obtain ⟨q2, c3, h⟩ := zbd h
      refine r_invV (as := [zI (13 : Int32), zI l2]) C 12 (S_Mo_wrong c3) (z_d dd_Mo_readLiterals 234 rfl) ok_Mo_wrong iv_Mo_wrong se_Mo_wrong ml_Mo_207 rfl rfl h1 rfl rfl rfl (Nat.le_of_ble_eq_true rfl) ⟨(Nat.le_of_ble_eq_true rfl), (Nat.le_of_ble_eq_true rfl)⟩ ⟨(Nat.le_of_ble_eq_true rfl), (Nat.le_of_ble_eq_true rfl)⟩ ?_
      obtain ⟨h4, h⟩ := zif h
      obtain rfl := z_res h
      exact r_iretZ C E hr (z_d dd_Mo_readLiterals 235 rfl) h4 (Nat.le_of_ble_eq_true rfl) (Nat.le_of_ble_eq_true rfl)
def f_Mo_readLiterals_287 (O : zO) (n : Nat) (l0 : Nat) (l1 : Int32) (l2 : Int32) (l3 : Int32) (l4 : Int32) (l5 : Int32) (s0 : Int32) (M : zM) : Option (Int32 × zM) :=
  if z_k M l0 = 13 then
  if l5 ≤ (l1 - (z_i M l0 28)) then
  (F_Mo_number O n l0 (z_i M l0 28) l5 M).bind fun q2 =>
  zlet (q2.1 >>> ((4 : Int32).toInt64 &&& 63)) fun v4 =>
  zlet (v4 &&& (((1 : Int64) <<< (s0.toInt64 &&& 63)) - (1 : Int64))).toInt32 fun v6 =>
  zlet ((v4 >>> (s0.toInt64 &&& 63)) &&& (((1 : Int64) <<< (s0.toInt64 &&& 63)) - (1 : Int64))).toInt32 fun v8 =>
  if z_k q2.2 l0 = 13 then
  zlet (w_i q2.2 l0 28 ((z_i q2.2 l0 28) + l5)) fun M11 =>
  zlet ((v6 + (3 : Int32)) / (4 : Int32)) fun v14 =>
  if (z_i M11 l0 32) < v6 then
  f_Mo_readLiterals_391 O n l0 l2 M11
  else
  if l4 ≤ 0 then
  f_Mo_readLiterals_399 O n l0 l1 l2 l3 l4 v6 v8 v14 M11
  else
  if ((3 : Int32) * v14) ≤ v6 then
  f_Mo_readLiterals_399 O n l0 l1 l2 l3 l4 v6 v8 v14 M11
  else
  f_Mo_readLiterals_391 O n l0 l2 M11
  else none
  else
  (F_Mo_wrong O n l0 (10 : Int32) l1 M).bind fun q19 =>
  if q19.1 = 0 ∨ q19.1 = 1 then
  some (q19.1, q19.2)
  else none
  else none
set_option maxRecDepth 100000 in
set_option maxHeartbeats 4000000 in
theorem s_Mo_readLiterals_287 {X : zX} {q : Int32 × zM} (C : zC X zR12 prog_14_method_39_code 14 { frames := 4, cells := 0, slots := 0, locals := 117 }) (hr : zRt X (some .boolean)) (E : zE X (some (zI q.1)) q.2 0 0) : ∀ (n : Nat) (l0 : Nat) (l1 : Int32) (l2 : Int32) (l3 : Int32) (l4 : Int32) (l5 : Int32) (s0 : Int32) (M : zM), f_Mo_readLiterals_287 (zOD X) n l0 l1 l2 l3 l4 l5 s0 M = some q → zW X 0 0 287 [some (zP l0), some (zI l1), some (zI l2), some (zI l3), some (zI l4), some (zI l5), none, none, none, none, none, none, none, none] [zI s0] M := by
  intro n l0 l1 l2 l3 l4 l5 s0 M h
  rw [f_Mo_readLiterals_287] at h
  refine r_istore (lv' := [some (zP l0), some (zI l1), some (zI l2), some (zI l3), some (zI l4), some (zI l5), some (zI s0), none, none, none, none, none, none, none]) C (z_d dd_Mo_readLiterals 157 rfl) (Nat.le_of_ble_eq_true rfl) rfl ?_
  refine r_iload_n C (z_d dd_Mo_readLiterals 158 rfl) rfl ?_
  refine r_aload_n C (z_d dd_Mo_readLiterals 159 rfl) rfl ?_
  obtain ⟨h1, h⟩ := zif h
  refine r_getI C (z_d dd_Mo_readLiterals 160 rfl) lk_Mo_204 rfl h1 rfl ?_
  refine r_isub C (z_d dd_Mo_readLiterals 161 rfl) ?_
  refine r_iload C (z_d dd_Mo_readLiterals 162 rfl) rfl ?_
  refine r_icmp_ge C 308 (z_d dd_Mo_readLiterals 163 rfl) (by decide) (fun c22 => ?_) (fun c22 => ?_)
  · have h := zift h c22
    refine r_aload_n C (z_d dd_Mo_readLiterals 169 rfl) rfl ?_
    refine r_aload_n C (z_d dd_Mo_readLiterals 170 rfl) rfl ?_
    refine r_getI C (z_d dd_Mo_readLiterals 171 rfl) lk_Mo_204 rfl h1 rfl ?_
    refine r_iload C (z_d dd_Mo_readLiterals 172 rfl) rfl ?_
    obtain ⟨q2, c3, h⟩ := zbd h
    refine r_invV (as := [zI (z_i M l0 28), zI l5]) C 12 (S_Mo_number c3) (z_d dd_Mo_readLiterals 173 rfl) ok_Mo_number iv_Mo_number se_Mo_number ml_Mo_172 rfl rfl h1 rfl rfl rfl (Nat.le_of_ble_eq_true rfl) ⟨(Nat.le_of_ble_eq_true rfl), (Nat.le_of_ble_eq_true rfl)⟩ ⟨(Nat.le_of_ble_eq_true rfl), (Nat.le_of_ble_eq_true rfl)⟩ ?_
    refine r_iconst (v := (4 : Int32)) C (z_d dd_Mo_readLiterals 174 rfl) (by decide) ?_
    refine r_lshr C (z_d dd_Mo_readLiterals 175 rfl) ?_
    obtain ⟨v4, e5, h⟩ := zlet_ex h
    refine r_nmL e5 ?_
    refine r_lstore (lv' := [some (zP l0), some (zI l1), some (zI l2), some (zI l3), some (zI l4), some (zI l5), some (zI s0), some (zL v4), none, none, none, none, none, none]) C (z_d dd_Mo_readLiterals 176 rfl) (Nat.le_of_ble_eq_true rfl) rfl ?_
    refine r_lload C (z_d dd_Mo_readLiterals 177 rfl) rfl ?_
    refine r_lconst (v := (1 : Int64)) C (z_d dd_Mo_readLiterals 178 rfl) (by decide) ?_
    refine r_iload C (z_d dd_Mo_readLiterals 179 rfl) rfl ?_
    refine r_lshl C (z_d dd_Mo_readLiterals 180 rfl) ?_
    refine r_lconst (v := (1 : Int64)) C (z_d dd_Mo_readLiterals 181 rfl) (by decide) ?_
    refine r_lsub C (z_d dd_Mo_readLiterals 182 rfl) ?_
    refine r_land C (z_d dd_Mo_readLiterals 183 rfl) ?_
    refine r_l2i C (z_d dd_Mo_readLiterals 184 rfl) ?_
    obtain ⟨v6, e7, h⟩ := zlet_ex h
    refine r_nmI e7 ?_
    refine r_istore (lv' := [some (zP l0), some (zI l1), some (zI l2), some (zI l3), some (zI l4), some (zI l5), some (zI s0), some (zL v4), none, some (zI v6), none, none, none, none]) C (z_d dd_Mo_readLiterals 185 rfl) (Nat.le_of_ble_eq_true rfl) rfl ?_
    refine r_lload C (z_d dd_Mo_readLiterals 186 rfl) rfl ?_
    refine r_iload C (z_d dd_Mo_readLiterals 187 rfl) rfl ?_
    refine r_lshr C (z_d dd_Mo_readLiterals 188 rfl) ?_
    refine r_lconst (v := (1 : Int64)) C (z_d dd_Mo_readLiterals 189 rfl) (by decide) ?_
    refine r_iload C (z_d dd_Mo_readLiterals 190 rfl) rfl ?_
    refine r_lshl C (z_d dd_Mo_readLiterals 191 rfl) ?_
    refine r_lconst (v := (1 : Int64)) C (z_d dd_Mo_readLiterals 192 rfl) (by decide) ?_
    refine r_lsub C (z_d dd_Mo_readLiterals 193 rfl) ?_
    refine r_land C (z_d dd_Mo_readLiterals 194 rfl) ?_
    refine r_l2i C (z_d dd_Mo_readLiterals 195 rfl) ?_
    obtain ⟨v8, e9, h⟩ := zlet_ex h
    refine r_nmI e9 ?_
    refine r_istore (lv' := [some (zP l0), some (zI l1), some (zI l2), some (zI l3), some (zI l4), some (zI l5), some (zI s0), some (zL v4), none, some (zI v6), some (zI v8), none, none, none]) C (z_d dd_Mo_readLiterals 196 rfl) (Nat.le_of_ble_eq_true rfl) rfl ?_
    refine r_aload_n C (z_d dd_Mo_readLiterals 197 rfl) rfl ?_
    refine r_dupP C (z_d dd_Mo_readLiterals 198 rfl) ?_
    obtain ⟨h10, h⟩ := zif h
    refine r_getI C (z_d dd_Mo_readLiterals 199 rfl) lk_Mo_204 rfl h10 rfl ?_
    refine r_iload C (z_d dd_Mo_readLiterals 200 rfl) rfl ?_
    refine r_iadd C (z_d dd_Mo_readLiterals 201 rfl) ?_
    obtain ⟨M11, e12, h⟩ := zlet_ex h
    have h13 := k_i e12 h10
    refine r_putI C (z_d dd_Mo_readLiterals 202 rfl) lp_Mo_204 rfl h10 e12 ?_
    refine r_iload C (z_d dd_Mo_readLiterals 203 rfl) rfl ?_
    refine r_iconst (v := (3 : Int32)) C (z_d dd_Mo_readLiterals 204 rfl) (by decide) ?_
    refine r_iadd C (z_d dd_Mo_readLiterals 205 rfl) ?_
    refine r_iconst (v := (4 : Int32)) C (z_d dd_Mo_readLiterals 206 rfl) (by decide) ?_
    refine r_idiv C (z_d dd_Mo_readLiterals 207 rfl) (by decide) ?_
    obtain ⟨v14, e15, h⟩ := zlet_ex h
    refine r_nmI e15 ?_
    refine r_istore (lv' := [some (zP l0), some (zI l1), some (zI l2), some (zI l3), some (zI l4), some (zI l5), some (zI s0), some (zL v4), none, some (zI v6), some (zI v8), some (zI v14), none, none]) C (z_d dd_Mo_readLiterals 208 rfl) (Nat.le_of_ble_eq_true rfl) rfl ?_
    refine r_iload C (z_d dd_Mo_readLiterals 209 rfl) rfl ?_
    refine r_aload_n C (z_d dd_Mo_readLiterals 210 rfl) rfl ?_
    refine r_getI C (z_d dd_Mo_readLiterals 211 rfl) lk_Mo_252 rfl h13 rfl ?_
    refine r_icmp_gt C 391 (z_d dd_Mo_readLiterals 212 rfl) (by decide) (fun c18 => ?_) (fun c18 => ?_)
    · have h := zift h c18
      refine r_mk [true, false, true, false, false, false, false, false, false, false, false, false, false, false] ?_
      exact s_Mo_readLiterals_391 C hr E n l0 l2 M11 h
    · have h := ziff h c18
      refine r_iload C (z_d dd_Mo_readLiterals 213 rfl) rfl ?_
      refine r_if_le C 399 (z_d dd_Mo_readLiterals 214 rfl) (by decide) (fun c17 => ?_) (fun c17 => ?_)
      · have h := zift h c17
        refine r_mk [true, true, true, true, true, false, false, false, false, true, true, true, false, false] ?_
        exact s_Mo_readLiterals_399 C hr E n l0 l1 l2 l3 l4 v6 v8 v14 M11 h
      · have h := ziff h c17
        refine r_iload C (z_d dd_Mo_readLiterals 215 rfl) rfl ?_
        refine r_iconst (v := (3 : Int32)) C (z_d dd_Mo_readLiterals 216 rfl) (by decide) ?_
        refine r_iload C (z_d dd_Mo_readLiterals 217 rfl) rfl ?_
        refine r_imul C (z_d dd_Mo_readLiterals 218 rfl) ?_
        refine r_icmp_ge C 399 (z_d dd_Mo_readLiterals 219 rfl) (by decide) (fun c16 => ?_) (fun c16 => ?_)
        · have h := zift h c16
          refine r_mk [true, true, true, true, true, false, false, false, false, true, true, true, false, false] ?_
          exact s_Mo_readLiterals_399 C hr E n l0 l1 l2 l3 l4 v6 v8 v14 M11 h
        · have h := ziff h c16
          refine r_mk [true, false, true, false, false, false, false, false, false, false, false, false, false, false] ?_
          exact s_Mo_readLiterals_391 C hr E n l0 l2 M11 h
  · have h := ziff h c22
    refine r_aload_n C (z_d dd_Mo_readLiterals 164 rfl) rfl ?_
    refine r_bipush (v := (10 : Int32)) C (z_d dd_Mo_readLiterals 165 rfl) (by decide) ?_
    refine r_iload_n C (z_d dd_Mo_readLiterals 166 rfl) rfl ?_
    obtain ⟨q19, c20, h⟩ := zbd h
    refine r_invV (as := [zI (10 : Int32), zI l1]) C 12 (S_Mo_wrong c20) (z_d dd_Mo_readLiterals 167 rfl) ok_Mo_wrong iv_Mo_wrong se_Mo_wrong ml_Mo_207 rfl rfl h1 rfl rfl rfl (Nat.le_of_ble_eq_true rfl) ⟨(Nat.le_of_ble_eq_true rfl), (Nat.le_of_ble_eq_true rfl)⟩ ⟨(Nat.le_of_ble_eq_true rfl), (Nat.le_of_ble_eq_true rfl)⟩ ?_
    obtain ⟨h21, h⟩ := zif h
    obtain rfl := z_res h
    exact r_iretZ C E hr (z_d dd_Mo_readLiterals 168 rfl) h21 (Nat.le_of_ble_eq_true rfl) (Nat.le_of_ble_eq_true rfl)
def f_Mo_readLiterals_261 (O : zO) (n : Nat) (l0 : Nat) (l1 : Int32) (l2 : Int32) (l3 : Int32) (l4 : Int32) (s0 : Int32) (M : zM) : Option (Int32 × zM) :=
  if (2 : Int32) ≤ l4 then
  if l4 = (2 : Int32) then
  f_Mo_readLiterals_287 O n l0 l1 l2 l3 l4 s0 (14 : Int32) M
  else
  f_Mo_readLiterals_287 O n l0 l1 l2 l3 l4 s0 (18 : Int32) M
  else
  f_Mo_readLiterals_287 O n l0 l1 l2 l3 l4 s0 (10 : Int32) M
set_option maxRecDepth 100000 in
set_option maxHeartbeats 4000000 in
theorem s_Mo_readLiterals_261 {X : zX} {q : Int32 × zM} (C : zC X zR12 prog_14_method_39_code 14 { frames := 4, cells := 0, slots := 0, locals := 117 }) (hr : zRt X (some .boolean)) (E : zE X (some (zI q.1)) q.2 0 0) : ∀ (n : Nat) (l0 : Nat) (l1 : Int32) (l2 : Int32) (l3 : Int32) (l4 : Int32) (s0 : Int32) (M : zM), f_Mo_readLiterals_261 (zOD X) n l0 l1 l2 l3 l4 s0 M = some q → zW X 0 0 261 [some (zP l0), some (zI l1), some (zI l2), some (zI l3), some (zI l4), none, none, none, none, none, none, none, none, none] [zI s0] M := by
  intro n l0 l1 l2 l3 l4 s0 M h
  rw [f_Mo_readLiterals_261] at h
  refine r_istore (lv' := [some (zP l0), some (zI l1), some (zI l2), some (zI l3), some (zI l4), some (zI s0), none, none, none, none, none, none, none, none]) C (z_d dd_Mo_readLiterals 145 rfl) (Nat.le_of_ble_eq_true rfl) rfl ?_
  refine r_iload C (z_d dd_Mo_readLiterals 146 rfl) rfl ?_
  refine r_iconst (v := (2 : Int32)) C (z_d dd_Mo_readLiterals 147 rfl) (by decide) ?_
  refine r_icmp_ge C 274 (z_d dd_Mo_readLiterals 148 rfl) (by decide) (fun c2 => ?_) (fun c2 => ?_)
  · have h := zift h c2
    refine r_iload C (z_d dd_Mo_readLiterals 151 rfl) rfl ?_
    refine r_iconst (v := (2 : Int32)) C (z_d dd_Mo_readLiterals 152 rfl) (by decide) ?_
    refine r_icmp_ne C 285 (z_d dd_Mo_readLiterals 153 rfl) (by decide) (fun c1 => ?_) (fun c1 => ?_)
    · have h := ziff h c1
      refine r_bipush (v := (18 : Int32)) C (z_d dd_Mo_readLiterals 156 rfl) (by decide) ?_
      exact s_Mo_readLiterals_287 C hr E n l0 l1 l2 l3 l4 s0 (18 : Int32) M h
    · have h := zift h c1
      refine r_bipush (v := (14 : Int32)) C (z_d dd_Mo_readLiterals 154 rfl) (by decide) ?_
      refine r_goto C 287 (z_d dd_Mo_readLiterals 155 rfl) (by decide) ?_
      exact s_Mo_readLiterals_287 C hr E n l0 l1 l2 l3 l4 s0 (14 : Int32) M h
  · have h := ziff h c2
    refine r_bipush (v := (10 : Int32)) C (z_d dd_Mo_readLiterals 149 rfl) (by decide) ?_
    refine r_goto C 287 (z_d dd_Mo_readLiterals 150 rfl) (by decide) ?_
    exact s_Mo_readLiterals_287 C hr E n l0 l1 l2 l3 l4 s0 (10 : Int32) M h
def f_Mo_readLiterals_220 (O : zO) (k185 : Nat → Int32 → Int32 → Int32 → Int32 → zM → Option (Int32 × zM)) (n : Nat) (l0 : Nat) (l3 : Int32) (l6 : Int32) (l7 : Int32) (l8 : Int32) (s0 : Nat) (s1 : Int32) (s2 : Nat) (s3 : Int32) (M : zM) : Option (Int32 × zM) :=
  if z_k M s2 = 100 then
  if zin s3 (z_n M s2) = true then
  if z_k M s0 = 100 then
  if zin s1 (z_n M s0) = true then
  zlet (w_i M s0 s1.toNatClampNeg (z_i M s2 s3.toNatClampNeg)) fun M5 =>
  zlet (l8 + (1 : Int32)) fun v9 =>
  k185 l0 l3 l6 l7 v9 M5
  else none
  else none
  else none
  else none
set_option maxRecDepth 100000 in
set_option maxHeartbeats 4000000 in
theorem s_Mo_readLiterals_220 {X : zX} {q : Int32 × zM} (C : zC X zR12 prog_14_method_39_code 14 { frames := 4, cells := 0, slots := 0, locals := 117 }) (hr : zRt X (some .boolean)) (E : zE X (some (zI q.1)) q.2 0 0) {k185 : Nat → Int32 → Int32 → Int32 → Int32 → zM → Option (Int32 × zM)} (hk185 : ∀ (l0 : Nat) (l3 : Int32) (l6 : Int32) (l7 : Int32) (l8 : Int32) (M : zM), k185 l0 l3 l6 l7 l8 M = some q → zW X 0 0 185 [some (zP l0), none, none, some (zI l3), none, none, some (zI l6), some (zI l7), some (zI l8), none, none, none, none, none] [] M) : ∀ (n : Nat) (l0 : Nat) (l3 : Int32) (l6 : Int32) (l7 : Int32) (l8 : Int32) (s0 : Nat) (s1 : Int32) (s2 : Nat) (s3 : Int32) (M : zM), f_Mo_readLiterals_220 (zOD X) k185 n l0 l3 l6 l7 l8 s0 s1 s2 s3 M = some q → zW X 0 0 220 [some (zP l0), none, none, some (zI l3), none, none, some (zI l6), some (zI l7), some (zI l8), none, none, none, none, none] [zI s3, zP s2, zI s1, zP s0] M := by
  intro n l0 l3 l6 l7 l8 s0 s1 s2 s3 M h
  rw [f_Mo_readLiterals_220] at h
  obtain ⟨h1, h⟩ := zif h
  obtain ⟨h2, h⟩ := zif h
  refine r_iald C (z_d dd_Mo_readLiterals 122 rfl) h1 h2 rfl ?_
  obtain ⟨h3, h⟩ := zif h
  obtain ⟨h4, h⟩ := zif h
  obtain ⟨M5, e6, h⟩ := zlet_ex h
  have h7 := k_i e6 h1
  have h8 := k_i e6 h3
  refine r_iast C (z_d dd_Mo_readLiterals 123 rfl) h3 h4 e6 ?_
  obtain ⟨v9, e10, h⟩ := zlet_ex h
  refine r_iinc (v := v9) (lv' := [some (zP l0), none, none, some (zI l3), none, none, some (zI l6), some (zI l7), some (zI v9), none, none, none, none, none]) C (z_d dd_Mo_readLiterals 124 rfl) rfl (Nat.le_of_ble_eq_true rfl) (by rw [e10]; rfl) rfl ?_
  refine r_goto C 185 (z_d dd_Mo_readLiterals 125 rfl) (by decide) ?_
  exact hk185 l0 l3 l6 l7 v9 M5 h
def f_Mo_readLiterals_185 (O : zO) : Nat → Nat → Int32 → Int32 → Int32 → Int32 → zM → Option (Int32 × zM)
  | 0, _, _, _, _, _, _ => none
  | n + 1, l0, l3, l6, l7, l8, M =>
    if l6 ≤ l8 then
    if z_k M l0 = 13 then
    zlet (w_i M l0 42 l6) fun M2 =>
    zlet (w_i M2 l0 28 ((z_i M2 l0 28) + l7)) fun M5 =>
    some ((1 : Int32), M5)
    else none
    else
    if z_k M l0 = 13 then
    if l3 = 0 then
    f_Mo_readLiterals_220 O (f_Mo_readLiterals_185 O n) n l0 l3 l6 l7 l8 (z_p M l0 41) l8 (z_p M l0 0) ((z_i M l0 28) + l8) M
    else
    f_Mo_readLiterals_220 O (f_Mo_readLiterals_185 O n) n l0 l3 l6 l7 l8 (z_p M l0 41) l8 (z_p M l0 0) (z_i M l0 28) M
    else none
set_option maxRecDepth 100000 in
set_option maxHeartbeats 4000000 in
theorem s_Mo_readLiterals_185 {X : zX} {q : Int32 × zM} (C : zC X zR12 prog_14_method_39_code 14 { frames := 4, cells := 0, slots := 0, locals := 117 }) (hr : zRt X (some .boolean)) (E : zE X (some (zI q.1)) q.2 0 0) : ∀ (n : Nat) (l0 : Nat) (l3 : Int32) (l6 : Int32) (l7 : Int32) (l8 : Int32) (M : zM), f_Mo_readLiterals_185 (zOD X) n l0 l3 l6 l7 l8 M = some q → zW X 0 0 185 [some (zP l0), none, none, some (zI l3), none, none, some (zI l6), some (zI l7), some (zI l8), none, none, none, none, none] [] M := by
  intro n
  induction n with
  | zero => intro l0 l3 l6 l7 l8 M h; rw [f_Mo_readLiterals_185] at h; cases h
  | succ n ih =>
    intro l0 l3 l6 l7 l8 M h
    rw [f_Mo_readLiterals_185] at h
    refine r_iload C (z_d dd_Mo_readLiterals 105 rfl) rfl ?_
    refine r_iload C (z_d dd_Mo_readLiterals 106 rfl) rfl ?_
    refine r_icmp_ge C 228 (z_d dd_Mo_readLiterals 107 rfl) (by decide) (fun c10 => ?_) (fun c10 => ?_)
    · have h := zift h c10
      refine r_aload_n C (z_d dd_Mo_readLiterals 126 rfl) rfl ?_
      refine r_iload C (z_d dd_Mo_readLiterals 127 rfl) rfl ?_
      obtain ⟨h1, h⟩ := zif h
      obtain ⟨M2, e3, h⟩ := zlet_ex h
      have h4 := k_i e3 h1
      refine r_putI C (z_d dd_Mo_readLiterals 128 rfl) lp_Mo_146 rfl h1 e3 ?_
      refine r_aload_n C (z_d dd_Mo_readLiterals 129 rfl) rfl ?_
      refine r_dupP C (z_d dd_Mo_readLiterals 130 rfl) ?_
      refine r_getI C (z_d dd_Mo_readLiterals 131 rfl) lk_Mo_204 rfl h4 rfl ?_
      refine r_iload C (z_d dd_Mo_readLiterals 132 rfl) rfl ?_
      refine r_iadd C (z_d dd_Mo_readLiterals 133 rfl) ?_
      obtain ⟨M5, e6, h⟩ := zlet_ex h
      have h7 := k_i e6 h4
      refine r_putI C (z_d dd_Mo_readLiterals 134 rfl) lp_Mo_204 rfl h4 e6 ?_
      refine r_iconst (v := (1 : Int32)) C (z_d dd_Mo_readLiterals 135 rfl) (by decide) ?_
      obtain rfl := z_res h
      exact r_iretZ C E hr (z_d dd_Mo_readLiterals 136 rfl) (by decide) (Nat.le_of_ble_eq_true rfl) (Nat.le_of_ble_eq_true rfl)
    · have h := ziff h c10
      refine r_aload_n C (z_d dd_Mo_readLiterals 108 rfl) rfl ?_
      obtain ⟨h8, h⟩ := zif h
      refine r_getP C (z_d dd_Mo_readLiterals 109 rfl) lk_Mo_79 rfl h8 rfl ?_
      refine r_iload C (z_d dd_Mo_readLiterals 110 rfl) rfl ?_
      refine r_aload_n C (z_d dd_Mo_readLiterals 111 rfl) rfl ?_
      refine r_getP C (z_d dd_Mo_readLiterals 112 rfl) lk_Mo_7 rfl h8 rfl ?_
      refine r_iload_n C (z_d dd_Mo_readLiterals 113 rfl) rfl ?_
      refine r_if_ne C 216 (z_d dd_Mo_readLiterals 114 rfl) (by decide) (fun c9 => ?_) (fun c9 => ?_)
      · have h := ziff h c9
        refine r_aload_n C (z_d dd_Mo_readLiterals 120 rfl) rfl ?_
        refine r_getI C (z_d dd_Mo_readLiterals 121 rfl) lk_Mo_204 rfl h8 rfl ?_
        exact s_Mo_readLiterals_220 C hr E ih n l0 l3 l6 l7 l8 (z_p M l0 41) l8 (z_p M l0 0) (z_i M l0 28) M h
      · have h := zift h c9
        refine r_aload_n C (z_d dd_Mo_readLiterals 115 rfl) rfl ?_
        refine r_getI C (z_d dd_Mo_readLiterals 116 rfl) lk_Mo_204 rfl h8 rfl ?_
        refine r_iload C (z_d dd_Mo_readLiterals 117 rfl) rfl ?_
        refine r_iadd C (z_d dd_Mo_readLiterals 118 rfl) ?_
        refine r_goto C 220 (z_d dd_Mo_readLiterals 119 rfl) (by decide) ?_
        exact s_Mo_readLiterals_220 C hr E ih n l0 l3 l6 l7 l8 (z_p M l0 41) l8 (z_p M l0 0) ((z_i M l0 28) + l8) M h
def f_Mo_readLiterals_161 (O : zO) (n : Nat) (l0 : Nat) (l1 : Int32) (l3 : Int32) (l6 : Int32) (s0 : Int32) (M : zM) : Option (Int32 × zM) :=
  if z_k M l0 = 13 then
  if s0 ≤ (l1 - (z_i M l0 28)) then
  f_Mo_readLiterals_185 O n l0 l3 l6 s0 (0 : Int32) M
  else
  (F_Mo_wrong O n l0 (10 : Int32) l1 M).bind fun q2 =>
  if q2.1 = 0 ∨ q2.1 = 1 then
  some (q2.1, q2.2)
  else none
  else none
set_option maxRecDepth 100000 in
set_option maxHeartbeats 4000000 in
theorem s_Mo_readLiterals_161 {X : zX} {q : Int32 × zM} (C : zC X zR12 prog_14_method_39_code 14 { frames := 4, cells := 0, slots := 0, locals := 117 }) (hr : zRt X (some .boolean)) (E : zE X (some (zI q.1)) q.2 0 0) : ∀ (n : Nat) (l0 : Nat) (l1 : Int32) (l3 : Int32) (l6 : Int32) (s0 : Int32) (M : zM), f_Mo_readLiterals_161 (zOD X) n l0 l1 l3 l6 s0 M = some q → zW X 0 0 161 [some (zP l0), some (zI l1), none, some (zI l3), none, none, some (zI l6), none, none, none, none, none, none, none] [zI s0] M := by
  intro n l0 l1 l3 l6 s0 M h
  rw [f_Mo_readLiterals_161] at h
  refine r_istore (lv' := [some (zP l0), some (zI l1), none, some (zI l3), none, none, some (zI l6), some (zI s0), none, none, none, none, none, none]) C (z_d dd_Mo_readLiterals 91 rfl) (Nat.le_of_ble_eq_true rfl) rfl ?_
  refine r_iload_n C (z_d dd_Mo_readLiterals 92 rfl) rfl ?_
  refine r_aload_n C (z_d dd_Mo_readLiterals 93 rfl) rfl ?_
  obtain ⟨h1, h⟩ := zif h
  refine r_getI C (z_d dd_Mo_readLiterals 94 rfl) lk_Mo_204 rfl h1 rfl ?_
  refine r_isub C (z_d dd_Mo_readLiterals 95 rfl) ?_
  refine r_iload C (z_d dd_Mo_readLiterals 96 rfl) rfl ?_
  refine r_icmp_ge C 182 (z_d dd_Mo_readLiterals 97 rfl) (by decide) (fun c5 => ?_) (fun c5 => ?_)
  · have h := zift h c5
    refine r_iconst (v := (0 : Int32)) C (z_d dd_Mo_readLiterals 103 rfl) (by decide) ?_
    refine r_istore (lv' := [some (zP l0), some (zI l1), none, some (zI l3), none, none, some (zI l6), some (zI s0), some (zI (0 : Int32)), none, none, none, none, none]) C (z_d dd_Mo_readLiterals 104 rfl) (Nat.le_of_ble_eq_true rfl) rfl ?_
    refine r_mk [true, false, false, true, false, false, true, true, true, false, false, false, false, false] ?_
    exact s_Mo_readLiterals_185 C hr E n l0 l3 l6 s0 (0 : Int32) M h
  · have h := ziff h c5
    refine r_aload_n C (z_d dd_Mo_readLiterals 98 rfl) rfl ?_
    refine r_bipush (v := (10 : Int32)) C (z_d dd_Mo_readLiterals 99 rfl) (by decide) ?_
    refine r_iload_n C (z_d dd_Mo_readLiterals 100 rfl) rfl ?_
    obtain ⟨q2, c3, h⟩ := zbd h
    refine r_invV (as := [zI (10 : Int32), zI l1]) C 12 (S_Mo_wrong c3) (z_d dd_Mo_readLiterals 101 rfl) ok_Mo_wrong iv_Mo_wrong se_Mo_wrong ml_Mo_207 rfl rfl h1 rfl rfl rfl (Nat.le_of_ble_eq_true rfl) ⟨(Nat.le_of_ble_eq_true rfl), (Nat.le_of_ble_eq_true rfl)⟩ ⟨(Nat.le_of_ble_eq_true rfl), (Nat.le_of_ble_eq_true rfl)⟩ ?_
    obtain ⟨h4, h⟩ := zif h
    obtain rfl := z_res h
    exact r_iretZ C E hr (z_d dd_Mo_readLiterals 102 rfl) h4 (Nat.le_of_ble_eq_true rfl) (Nat.le_of_ble_eq_true rfl)
def f_Mo_readLiterals_120 (O : zO) (n : Nat) (l0 : Nat) (l1 : Int32) (l2 : Int32) (l3 : Int32) (l5 : Int32) (s0 : Int32) (s1 : Int32) (M : zM) : Option (Int32 × zM) :=
  if ¬ s1 = 0 then
  zlet (s0 / s1) fun v2 =>
  if z_k M l0 = 13 then
  zlet (w_i M l0 28 ((z_i M l0 28) + l5)) fun M5 =>
  if v2 ≤ (z_i M5 l0 32) then
  if l3 = 0 then
  f_Mo_readLiterals_161 O n l0 l1 l3 v2 v2 M5
  else
  f_Mo_readLiterals_161 O n l0 l1 l3 v2 (1 : Int32) M5
  else
  (F_Mo_wrong O n l0 (11 : Int32) l2 M5).bind fun q9 =>
  if q9.1 = 0 ∨ q9.1 = 1 then
  some (q9.1, q9.2)
  else none
  else none
  else none
set_option maxRecDepth 100000 in
set_option maxHeartbeats 4000000 in
theorem s_Mo_readLiterals_120 {X : zX} {q : Int32 × zM} (C : zC X zR12 prog_14_method_39_code 14 { frames := 4, cells := 0, slots := 0, locals := 117 }) (hr : zRt X (some .boolean)) (E : zE X (some (zI q.1)) q.2 0 0) : ∀ (n : Nat) (l0 : Nat) (l1 : Int32) (l2 : Int32) (l3 : Int32) (l5 : Int32) (s0 : Int32) (s1 : Int32) (M : zM), f_Mo_readLiterals_120 (zOD X) n l0 l1 l2 l3 l5 s0 s1 M = some q → zW X 0 0 120 [some (zP l0), some (zI l1), some (zI l2), some (zI l3), none, some (zI l5), none, none, none, none, none, none, none, none] [zI s1, zI s0] M := by
  intro n l0 l1 l2 l3 l5 s0 s1 M h
  rw [f_Mo_readLiterals_120] at h
  obtain ⟨h1, h⟩ := zif h
  refine r_idiv C (z_d dd_Mo_readLiterals 69 rfl) h1 ?_
  obtain ⟨v2, e3, h⟩ := zlet_ex h
  refine r_nmI e3 ?_
  refine r_istore (lv' := [some (zP l0), some (zI l1), some (zI l2), some (zI l3), none, some (zI l5), some (zI v2), none, none, none, none, none, none, none]) C (z_d dd_Mo_readLiterals 70 rfl) (Nat.le_of_ble_eq_true rfl) rfl ?_
  refine r_aload_n C (z_d dd_Mo_readLiterals 71 rfl) rfl ?_
  refine r_dupP C (z_d dd_Mo_readLiterals 72 rfl) ?_
  obtain ⟨h4, h⟩ := zif h
  refine r_getI C (z_d dd_Mo_readLiterals 73 rfl) lk_Mo_204 rfl h4 rfl ?_
  refine r_iload C (z_d dd_Mo_readLiterals 74 rfl) rfl ?_
  refine r_iadd C (z_d dd_Mo_readLiterals 75 rfl) ?_
  obtain ⟨M5, e6, h⟩ := zlet_ex h
  have h7 := k_i e6 h4
  refine r_putI C (z_d dd_Mo_readLiterals 76 rfl) lp_Mo_204 rfl h4 e6 ?_
  refine r_iload C (z_d dd_Mo_readLiterals 77 rfl) rfl ?_
  refine r_aload_n C (z_d dd_Mo_readLiterals 78 rfl) rfl ?_
  refine r_getI C (z_d dd_Mo_readLiterals 79 rfl) lk_Mo_252 rfl h7 rfl ?_
  refine r_icmp_le C 151 (z_d dd_Mo_readLiterals 80 rfl) (by decide) (fun c12 => ?_) (fun c12 => ?_)
  · have h := zift h c12
    refine r_iload_n C (z_d dd_Mo_readLiterals 86 rfl) rfl ?_
    refine r_if_ne C 160 (z_d dd_Mo_readLiterals 87 rfl) (by decide) (fun c8 => ?_) (fun c8 => ?_)
    · have h := ziff h c8
      refine r_iconst (v := (1 : Int32)) C (z_d dd_Mo_readLiterals 90 rfl) (by decide) ?_
      refine r_mk [true, true, false, true, false, false, true, false, false, false, false, false, false, false] ?_
      exact s_Mo_readLiterals_161 C hr E n l0 l1 l3 v2 (1 : Int32) M5 h
    · have h := zift h c8
      refine r_iload C (z_d dd_Mo_readLiterals 88 rfl) rfl ?_
      refine r_goto C 161 (z_d dd_Mo_readLiterals 89 rfl) (by decide) ?_
      refine r_mk [true, true, false, true, false, false, true, false, false, false, false, false, false, false] ?_
      exact s_Mo_readLiterals_161 C hr E n l0 l1 l3 v2 v2 M5 h
  · have h := ziff h c12
    refine r_aload_n C (z_d dd_Mo_readLiterals 81 rfl) rfl ?_
    refine r_bipush (v := (11 : Int32)) C (z_d dd_Mo_readLiterals 82 rfl) (by decide) ?_
    refine r_iload_n C (z_d dd_Mo_readLiterals 83 rfl) rfl ?_
    obtain ⟨q9, c10, h⟩ := zbd h
    refine r_invV (as := [zI (11 : Int32), zI l2]) C 12 (S_Mo_wrong c10) (z_d dd_Mo_readLiterals 84 rfl) ok_Mo_wrong iv_Mo_wrong se_Mo_wrong ml_Mo_207 rfl rfl h7 rfl rfl rfl (Nat.le_of_ble_eq_true rfl) ⟨(Nat.le_of_ble_eq_true rfl), (Nat.le_of_ble_eq_true rfl)⟩ ⟨(Nat.le_of_ble_eq_true rfl), (Nat.le_of_ble_eq_true rfl)⟩ ?_
    obtain ⟨h11, h⟩ := zif h
    obtain rfl := z_res h
    exact r_iretZ C E hr (z_d dd_Mo_readLiterals 85 rfl) h11 (Nat.le_of_ble_eq_true rfl) (Nat.le_of_ble_eq_true rfl)
def f_Mo_readLiterals_75 (O : zO) (n : Nat) (l0 : Nat) (l1 : Int32) (l2 : Int32) (l3 : Int32) (s0 : Int32) (M : zM) : Option (Int32 × zM) :=
  if z_k M l0 = 13 then
  if s0 ≤ (l1 - (z_i M l0 28)) then
  (F_Mo_number O n l0 (z_i M l0 28) s0 M).bind fun q2 =>
  if s0 = (1 : Int32) then
  f_Mo_readLiterals_120 O n l0 l1 l2 l3 s0 q2.1.toInt32 (8 : Int32) q2.2
  else
  f_Mo_readLiterals_120 O n l0 l1 l2 l3 s0 q2.1.toInt32 (16 : Int32) q2.2
  else
  (F_Mo_wrong O n l0 (10 : Int32) l1 M).bind fun q5 =>
  if q5.1 = 0 ∨ q5.1 = 1 then
  some (q5.1, q5.2)
  else none
  else none
set_option maxRecDepth 100000 in
set_option maxHeartbeats 4000000 in
theorem s_Mo_readLiterals_75 {X : zX} {q : Int32 × zM} (C : zC X zR12 prog_14_method_39_code 14 { frames := 4, cells := 0, slots := 0, locals := 117 }) (hr : zRt X (some .boolean)) (E : zE X (some (zI q.1)) q.2 0 0) : ∀ (n : Nat) (l0 : Nat) (l1 : Int32) (l2 : Int32) (l3 : Int32) (s0 : Int32) (M : zM), f_Mo_readLiterals_75 (zOD X) n l0 l1 l2 l3 s0 M = some q → zW X 0 0 75 [some (zP l0), some (zI l1), some (zI l2), some (zI l3), none, none, none, none, none, none, none, none, none, none] [zI s0] M := by
  intro n l0 l1 l2 l3 s0 M h
  rw [f_Mo_readLiterals_75] at h
  refine r_istore (lv' := [some (zP l0), some (zI l1), some (zI l2), some (zI l3), none, some (zI s0), none, none, none, none, none, none, none, none]) C (z_d dd_Mo_readLiterals 45 rfl) (Nat.le_of_ble_eq_true rfl) rfl ?_
  refine r_iload_n C (z_d dd_Mo_readLiterals 46 rfl) rfl ?_
  refine r_aload_n C (z_d dd_Mo_readLiterals 47 rfl) rfl ?_
  obtain ⟨h1, h⟩ := zif h
  refine r_getI C (z_d dd_Mo_readLiterals 48 rfl) lk_Mo_204 rfl h1 rfl ?_
  refine r_isub C (z_d dd_Mo_readLiterals 49 rfl) ?_
  refine r_iload C (z_d dd_Mo_readLiterals 50 rfl) rfl ?_
  refine r_icmp_ge C 96 (z_d dd_Mo_readLiterals 51 rfl) (by decide) (fun c8 => ?_) (fun c8 => ?_)
  · have h := zift h c8
    refine r_aload_n C (z_d dd_Mo_readLiterals 57 rfl) rfl ?_
    refine r_aload_n C (z_d dd_Mo_readLiterals 58 rfl) rfl ?_
    refine r_getI C (z_d dd_Mo_readLiterals 59 rfl) lk_Mo_204 rfl h1 rfl ?_
    refine r_iload C (z_d dd_Mo_readLiterals 60 rfl) rfl ?_
    obtain ⟨q2, c3, h⟩ := zbd h
    refine r_invV (as := [zI (z_i M l0 28), zI s0]) C 12 (S_Mo_number c3) (z_d dd_Mo_readLiterals 61 rfl) ok_Mo_number iv_Mo_number se_Mo_number ml_Mo_172 rfl rfl h1 rfl rfl rfl (Nat.le_of_ble_eq_true rfl) ⟨(Nat.le_of_ble_eq_true rfl), (Nat.le_of_ble_eq_true rfl)⟩ ⟨(Nat.le_of_ble_eq_true rfl), (Nat.le_of_ble_eq_true rfl)⟩ ?_
    refine r_l2i C (z_d dd_Mo_readLiterals 62 rfl) ?_
    refine r_iload C (z_d dd_Mo_readLiterals 63 rfl) rfl ?_
    refine r_iconst (v := (1 : Int32)) C (z_d dd_Mo_readLiterals 64 rfl) (by decide) ?_
    refine r_icmp_ne C 118 (z_d dd_Mo_readLiterals 65 rfl) (by decide) (fun c4 => ?_) (fun c4 => ?_)
    · have h := ziff h c4
      refine r_bipush (v := (16 : Int32)) C (z_d dd_Mo_readLiterals 68 rfl) (by decide) ?_
      exact s_Mo_readLiterals_120 C hr E n l0 l1 l2 l3 s0 q2.1.toInt32 (16 : Int32) q2.2 h
    · have h := zift h c4
      refine r_bipush (v := (8 : Int32)) C (z_d dd_Mo_readLiterals 66 rfl) (by decide) ?_
      refine r_goto C 120 (z_d dd_Mo_readLiterals 67 rfl) (by decide) ?_
      exact s_Mo_readLiterals_120 C hr E n l0 l1 l2 l3 s0 q2.1.toInt32 (8 : Int32) q2.2 h
  · have h := ziff h c8
    refine r_aload_n C (z_d dd_Mo_readLiterals 52 rfl) rfl ?_
    refine r_bipush (v := (10 : Int32)) C (z_d dd_Mo_readLiterals 53 rfl) (by decide) ?_
    refine r_iload_n C (z_d dd_Mo_readLiterals 54 rfl) rfl ?_
    obtain ⟨q5, c6, h⟩ := zbd h
    refine r_invV (as := [zI (10 : Int32), zI l1]) C 12 (S_Mo_wrong c6) (z_d dd_Mo_readLiterals 55 rfl) ok_Mo_wrong iv_Mo_wrong se_Mo_wrong ml_Mo_207 rfl rfl h1 rfl rfl rfl (Nat.le_of_ble_eq_true rfl) ⟨(Nat.le_of_ble_eq_true rfl), (Nat.le_of_ble_eq_true rfl)⟩ ⟨(Nat.le_of_ble_eq_true rfl), (Nat.le_of_ble_eq_true rfl)⟩ ?_
    obtain ⟨h7, h⟩ := zif h
    obtain rfl := z_res h
    exact r_iretZ C E hr (z_d dd_Mo_readLiterals 56 rfl) h7 (Nat.le_of_ble_eq_true rfl) (Nat.le_of_ble_eq_true rfl)
def f_Mo_readLiterals_0 (O : zO) (n : Nat) (l0 : Nat) (l1 : Int32) (M : zM) : Option (Int32 × zM) :=
  if z_k M l0 = 13 then
  zlet (z_i M l0 28) fun v2 =>
  if (z_i M l0 28) < l1 then
  if z_k M (z_p M l0 0) = 100 then
  if zin (z_i M l0 28) (z_n M (z_p M l0 0)) = true then
  zlet ((z_i M (z_p M l0 0) (z_i M l0 28).toNatClampNeg) - (z_i M (z_p M l0 0) (z_i M l0 28).toNatClampNeg) / (4 : Int32) * (4 : Int32)) fun v6 =>
  if zin (z_i M l0 28) (z_n M (z_p M l0 0)) = true then
  zlet (((z_i M (z_p M l0 0) (z_i M l0 28).toNatClampNeg) / (4 : Int32)) - ((z_i M (z_p M l0 0) (z_i M l0 28).toNatClampNeg) / (4 : Int32)) / (4 : Int32) * (4 : Int32)) fun v9 =>
  if (2 : Int32) ≤ v6 then
  if (2 : Int32) ≤ v9 then
  f_Mo_readLiterals_261 O n l0 l1 v2 v6 v9 (v9 + (2 : Int32)) M
  else
  f_Mo_readLiterals_261 O n l0 l1 v2 v6 v9 (3 : Int32) M
  else
  if (v9 - v9 / (2 : Int32) * (2 : Int32)) = 0 then
  f_Mo_readLiterals_75 O n l0 l1 v2 v6 (1 : Int32) M
  else
  if v9 = (1 : Int32) then
  f_Mo_readLiterals_75 O n l0 l1 v2 v6 (2 : Int32) M
  else
  f_Mo_readLiterals_75 O n l0 l1 v2 v6 (3 : Int32) M
  else none
  else none
  else none
  else
  (F_Mo_wrong O n l0 (10 : Int32) l1 M).bind fun q15 =>
  if q15.1 = 0 ∨ q15.1 = 1 then
  some (q15.1, q15.2)
  else none
  else none
set_option maxRecDepth 100000 in
set_option maxHeartbeats 4000000 in
theorem s_Mo_readLiterals_0 {X : zX} {q : Int32 × zM} (C : zC X zR12 prog_14_method_39_code 14 { frames := 4, cells := 0, slots := 0, locals := 117 }) (hr : zRt X (some .boolean)) (E : zE X (some (zI q.1)) q.2 0 0) : ∀ (n : Nat) (l0 : Nat) (l1 : Int32) (M : zM), f_Mo_readLiterals_0 (zOD X) n l0 l1 M = some q → zW X 0 0 0 [some (zP l0), some (zI l1), none, none, none, none, none, none, none, none, none, none, none, none] [] M := by
  intro n l0 l1 M h
  rw [f_Mo_readLiterals_0] at h
  refine r_aload_n C (z_d dd_Mo_readLiterals 0 rfl) rfl ?_
  obtain ⟨h1, h⟩ := zif h
  refine r_getI C (z_d dd_Mo_readLiterals 1 rfl) lk_Mo_204 rfl h1 rfl ?_
  obtain ⟨v2, e3, h⟩ := zlet_ex h
  refine r_nmI e3 ?_
  refine r_istore_n (lv' := [some (zP l0), some (zI l1), some (zI v2), none, none, none, none, none, none, none, none, none, none, none]) C (z_d dd_Mo_readLiterals 2 rfl) (Nat.le_of_ble_eq_true rfl) rfl ?_
  refine r_aload_n C (z_d dd_Mo_readLiterals 3 rfl) rfl ?_
  refine r_getI C (z_d dd_Mo_readLiterals 4 rfl) lk_Mo_204 rfl h1 rfl ?_
  refine r_iload_n C (z_d dd_Mo_readLiterals 5 rfl) rfl ?_
  refine r_icmp_lt C 21 (z_d dd_Mo_readLiterals 6 rfl) (by decide) (fun c18 => ?_) (fun c18 => ?_)
  · have h := zift h c18
    refine r_aload_n C (z_d dd_Mo_readLiterals 12 rfl) rfl ?_
    refine r_getP C (z_d dd_Mo_readLiterals 13 rfl) lk_Mo_7 rfl h1 rfl ?_
    refine r_aload_n C (z_d dd_Mo_readLiterals 14 rfl) rfl ?_
    refine r_getI C (z_d dd_Mo_readLiterals 15 rfl) lk_Mo_204 rfl h1 rfl ?_
    obtain ⟨h4, h⟩ := zif h
    obtain ⟨h5, h⟩ := zif h
    refine r_iald C (z_d dd_Mo_readLiterals 16 rfl) h4 h5 rfl ?_
    refine r_iconst (v := (4 : Int32)) C (z_d dd_Mo_readLiterals 17 rfl) (by decide) ?_
    refine r_irem C (z_d dd_Mo_readLiterals 18 rfl) (by decide) ?_
    obtain ⟨v6, e7, h⟩ := zlet_ex h
    refine r_nmI e7 ?_
    refine r_istore_n (lv' := [some (zP l0), some (zI l1), some (zI v2), some (zI v6), none, none, none, none, none, none, none, none, none, none]) C (z_d dd_Mo_readLiterals 19 rfl) (Nat.le_of_ble_eq_true rfl) rfl ?_
    refine r_aload_n C (z_d dd_Mo_readLiterals 20 rfl) rfl ?_
    refine r_getP C (z_d dd_Mo_readLiterals 21 rfl) lk_Mo_7 rfl h1 rfl ?_
    refine r_aload_n C (z_d dd_Mo_readLiterals 22 rfl) rfl ?_
    refine r_getI C (z_d dd_Mo_readLiterals 23 rfl) lk_Mo_204 rfl h1 rfl ?_
    obtain ⟨h8, h⟩ := zif h
    refine r_iald C (z_d dd_Mo_readLiterals 24 rfl) h4 h8 rfl ?_
    refine r_iconst (v := (4 : Int32)) C (z_d dd_Mo_readLiterals 25 rfl) (by decide) ?_
    refine r_idiv C (z_d dd_Mo_readLiterals 26 rfl) (by decide) ?_
    refine r_iconst (v := (4 : Int32)) C (z_d dd_Mo_readLiterals 27 rfl) (by decide) ?_
    refine r_irem C (z_d dd_Mo_readLiterals 28 rfl) (by decide) ?_
    obtain ⟨v9, e10, h⟩ := zlet_ex h
    refine r_nmI e10 ?_
    refine r_istore (lv' := [some (zP l0), some (zI l1), some (zI v2), some (zI v6), some (zI v9), none, none, none, none, none, none, none, none, none]) C (z_d dd_Mo_readLiterals 29 rfl) (Nat.le_of_ble_eq_true rfl) rfl ?_
    refine r_iload_n C (z_d dd_Mo_readLiterals 30 rfl) rfl ?_
    refine r_iconst (v := (2 : Int32)) C (z_d dd_Mo_readLiterals 31 rfl) (by decide) ?_
    refine r_icmp_ge C 247 (z_d dd_Mo_readLiterals 32 rfl) (by decide) (fun c14 => ?_) (fun c14 => ?_)
    · have h := zift h c14
      refine r_iload C (z_d dd_Mo_readLiterals 137 rfl) rfl ?_
      refine r_iconst (v := (2 : Int32)) C (z_d dd_Mo_readLiterals 138 rfl) (by decide) ?_
      refine r_icmp_ge C 257 (z_d dd_Mo_readLiterals 139 rfl) (by decide) (fun c11 => ?_) (fun c11 => ?_)
      · have h := zift h c11
        refine r_iload C (z_d dd_Mo_readLiterals 142 rfl) rfl ?_
        refine r_iconst (v := (2 : Int32)) C (z_d dd_Mo_readLiterals 143 rfl) (by decide) ?_
        refine r_iadd C (z_d dd_Mo_readLiterals 144 rfl) ?_
        exact s_Mo_readLiterals_261 C hr E n l0 l1 v2 v6 v9 (v9 + (2 : Int32)) M h
      · have h := ziff h c11
        refine r_iconst (v := (3 : Int32)) C (z_d dd_Mo_readLiterals 140 rfl) (by decide) ?_
        refine r_goto C 261 (z_d dd_Mo_readLiterals 141 rfl) (by decide) ?_
        exact s_Mo_readLiterals_261 C hr E n l0 l1 v2 v6 v9 (3 : Int32) M h
    · have h := ziff h c14
      refine r_iload C (z_d dd_Mo_readLiterals 33 rfl) rfl ?_
      refine r_iconst (v := (2 : Int32)) C (z_d dd_Mo_readLiterals 34 rfl) (by decide) ?_
      refine r_irem C (z_d dd_Mo_readLiterals 35 rfl) (by decide) ?_
      refine r_if_ne C 64 (z_d dd_Mo_readLiterals 36 rfl) (by decide) (fun c13 => ?_) (fun c13 => ?_)
      · have h := ziff h c13
        refine r_iload C (z_d dd_Mo_readLiterals 39 rfl) rfl ?_
        refine r_iconst (v := (1 : Int32)) C (z_d dd_Mo_readLiterals 40 rfl) (by decide) ?_
        refine r_icmp_ne C 74 (z_d dd_Mo_readLiterals 41 rfl) (by decide) (fun c12 => ?_) (fun c12 => ?_)
        · have h := ziff h c12
          refine r_iconst (v := (3 : Int32)) C (z_d dd_Mo_readLiterals 44 rfl) (by decide) ?_
          refine r_mk [true, true, true, true, false, false, false, false, false, false, false, false, false, false] ?_
          exact s_Mo_readLiterals_75 C hr E n l0 l1 v2 v6 (3 : Int32) M h
        · have h := zift h c12
          refine r_iconst (v := (2 : Int32)) C (z_d dd_Mo_readLiterals 42 rfl) (by decide) ?_
          refine r_goto C 75 (z_d dd_Mo_readLiterals 43 rfl) (by decide) ?_
          refine r_mk [true, true, true, true, false, false, false, false, false, false, false, false, false, false] ?_
          exact s_Mo_readLiterals_75 C hr E n l0 l1 v2 v6 (2 : Int32) M h
      · have h := zift h c13
        refine r_iconst (v := (1 : Int32)) C (z_d dd_Mo_readLiterals 37 rfl) (by decide) ?_
        refine r_goto C 75 (z_d dd_Mo_readLiterals 38 rfl) (by decide) ?_
        refine r_mk [true, true, true, true, false, false, false, false, false, false, false, false, false, false] ?_
        exact s_Mo_readLiterals_75 C hr E n l0 l1 v2 v6 (1 : Int32) M h
  · have h := ziff h c18
    refine r_aload_n C (z_d dd_Mo_readLiterals 7 rfl) rfl ?_
    refine r_bipush (v := (10 : Int32)) C (z_d dd_Mo_readLiterals 8 rfl) (by decide) ?_
    refine r_iload_n C (z_d dd_Mo_readLiterals 9 rfl) rfl ?_
    obtain ⟨q15, c16, h⟩ := zbd h
    refine r_invV (as := [zI (10 : Int32), zI l1]) C 12 (S_Mo_wrong c16) (z_d dd_Mo_readLiterals 10 rfl) ok_Mo_wrong iv_Mo_wrong se_Mo_wrong ml_Mo_207 rfl rfl h1 rfl rfl rfl (Nat.le_of_ble_eq_true rfl) ⟨(Nat.le_of_ble_eq_true rfl), (Nat.le_of_ble_eq_true rfl)⟩ ⟨(Nat.le_of_ble_eq_true rfl), (Nat.le_of_ble_eq_true rfl)⟩ ?_
    obtain ⟨h17, h⟩ := zif h
    obtain rfl := z_res h
    exact r_iretZ C E hr (z_d dd_Mo_readLiterals 11 rfl) h17 (Nat.le_of_ble_eq_true rfl) (Nat.le_of_ble_eq_true rfl)
def F_Mo_readLiterals (O : zO) (n : Nat) (l0 : Nat) (l1 : Int32) (M : zM) : Option (Int32 × zM) := f_Mo_readLiterals_0 O n l0 l1 M
theorem S_Mo_readLiterals {l : Launch} {D : zD} {n : Nat} {l0 : Nat} {l1 : Int32} {M : zM} {q : Int32 × zM} (h : F_Mo_readLiterals D.2.2.2.2 n l0 l1 M = some q) : zMet l D mi_Mo_readLiterals [zP l0, zI l1] M (some (zI q.1)) q.2 :=
  z_met (by decide) (Nat.le_of_ble_eq_true rfl) (fun X C E hr hin hD hl => by
    subst hD
    exact s_Mo_readLiterals_0 C hr E n l0 l1 M h)
