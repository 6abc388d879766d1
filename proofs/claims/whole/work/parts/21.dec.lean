def f_Share_lay_63 (O : zO) (k52 : Nat → Int32 → Int32 → Int32 → zM → Option (Unit × zM)) : Nat → Nat → Int32 → Int32 → Int32 → Int32 → zM → Option (Unit × zM)
  | 0, _, _, _, _, _, _ => none
  | n + 1, l0, l1, l2, l3, l4, M =>
    if z_k M l0 = 11 then
    if z_k M (z_p M l0 2) = 100 then
    if zin l3 (z_n M (z_p M l0 2)) = true then
    if (z_i M (z_p M l0 2) l3.toNatClampNeg) ≤ l4 then
    zlet (l3 + (1 : Int32)) fun v4 =>
    k52 l0 l1 l2 v4 M
    else
    if z_k M (z_p M l0 4) = 100 then
    if zin l2 (z_n M (z_p M l0 4)) = true then
    zlet (w_i M (z_p M l0 4) l2.toNatClampNeg l3) fun M8 =>
    (F_Share_nextPlace O n l0 l2 l1 M8).bind fun q13 =>
    zlet (l4 + (1 : Int32)) fun v15 =>
    f_Share_lay_63 O k52 n l0 l1 q13.1 l3 v15 q13.2
    else none
    else none
    else none
    else none
    else none
set_option maxRecDepth 100000 in
set_option maxHeartbeats 4000000 in
theorem s_Share_lay_63 {X : zX} {q : Unit × zM} (C : zC X zR10 prog_11_method_11_code 5 { frames := 2, cells := 0, slots := 0, locals := 46 }) (hr : zRt X none) (E : zE X none q.2 0 0) {k52 : Nat → Int32 → Int32 → Int32 → zM → Option (Unit × zM)} (hk52 : ∀ (l0 : Nat) (l1 : Int32) (l2 : Int32) (l3 : Int32) (M : zM), k52 l0 l1 l2 l3 M = some q → zW X 0 0 52 [some (zP l0), some (zI l1), some (zI l2), some (zI l3), none] [] M) : ∀ (n : Nat) (l0 : Nat) (l1 : Int32) (l2 : Int32) (l3 : Int32) (l4 : Int32) (M : zM), f_Share_lay_63 (zOD X) k52 n l0 l1 l2 l3 l4 M = some q → zW X 0 0 63 [some (zP l0), some (zI l1), some (zI l2), some (zI l3), some (zI l4)] [] M := by
  intro n
  induction n with
  | zero => intro l0 l1 l2 l3 l4 M h; rw [f_Share_lay_63] at h; cases h
  | succ n ih =>
    intro l0 l1 l2 l3 l4 M h
    rw [f_Share_lay_63] at h
    refine r_iload C (z_d dd_Share_lay 38 rfl) rfl ?_
    refine r_aload_n C (z_d dd_Share_lay 39 rfl) rfl ?_
    obtain ⟨h1, h⟩ := zif h
    refine r_getP C (z_d dd_Share_lay 40 rfl) lk_Share_18 rfl h1 rfl ?_
    refine r_iload_n C (z_d dd_Share_lay 41 rfl) rfl ?_
    obtain ⟨h2, h⟩ := zif h
    obtain ⟨h3, h⟩ := zif h
    refine r_iald C (z_d dd_Share_lay 42 rfl) h2 h3 rfl ?_
    refine r_icmp_ge C 94 (z_d dd_Share_lay 43 rfl) (by decide) (fun c17 => ?_) (fun c17 => ?_)
    · have h := zift h c17
      obtain ⟨v4, e5, h⟩ := zlet_ex h
      refine r_iinc (v := v4) (lv' := [some (zP l0), some (zI l1), some (zI l2), some (zI v4), some (zI l4)]) C (z_d dd_Share_lay 56 rfl) rfl (Nat.le_of_ble_eq_true rfl) (by rw [e5]; rfl) rfl ?_
      refine r_goto C 52 (z_d dd_Share_lay 57 rfl) (by decide) ?_
      refine r_mk [true, true, true, true, false] ?_
      exact hk52 l0 l1 l2 v4 M h
    · have h := ziff h c17
      refine r_aload_n C (z_d dd_Share_lay 44 rfl) rfl ?_
      refine r_getP C (z_d dd_Share_lay 45 rfl) lk_Share_25 rfl h1 rfl ?_
      refine r_iload_n C (z_d dd_Share_lay 46 rfl) rfl ?_
      refine r_iload_n C (z_d dd_Share_lay 47 rfl) rfl ?_
      obtain ⟨h6, h⟩ := zif h
      obtain ⟨h7, h⟩ := zif h
      obtain ⟨M8, e9, h⟩ := zlet_ex h
      have h10 := k_i e9 h1
      have h11 := k_i e9 h2
      have h12 := k_i e9 h6
      refine r_iast C (z_d dd_Share_lay 48 rfl) h6 h7 e9 ?_
      refine r_aload_n C (z_d dd_Share_lay 49 rfl) rfl ?_
      refine r_iload_n C (z_d dd_Share_lay 50 rfl) rfl ?_
      refine r_iload_n C (z_d dd_Share_lay 51 rfl) rfl ?_
      obtain ⟨q13, c14, h⟩ := zbd h
      refine r_invV (as := [zI l2, zI l1]) C 10 (S_Share_nextPlace c14) (z_d dd_Share_lay 52 rfl) ok_Share_nextPlace iv_Share_nextPlace se_Share_nextPlace ml_Share_87 rfl rfl h10 rfl rfl rfl (Nat.le_of_ble_eq_true rfl) ⟨(Nat.le_of_ble_eq_true rfl), (Nat.le_of_ble_eq_true rfl)⟩ ⟨(Nat.le_of_ble_eq_true rfl), (Nat.le_of_ble_eq_true rfl)⟩ ?_
      refine r_istore_n (lv' := [some (zP l0), some (zI l1), some (zI q13.1), some (zI l3), some (zI l4)]) C (z_d dd_Share_lay 53 rfl) (Nat.le_of_ble_eq_true rfl) rfl ?_
      obtain ⟨v15, e16, h⟩ := zlet_ex h
      refine r_iinc (v := v15) (lv' := [some (zP l0), some (zI l1), some (zI q13.1), some (zI l3), some (zI v15)]) C (z_d dd_Share_lay 54 rfl) rfl (Nat.le_of_ble_eq_true rfl) (by rw [e16]; rfl) rfl ?_
      refine r_goto C 63 (z_d dd_Share_lay 55 rfl) (by decide) ?_
      exact ih l0 l1 q13.1 l3 v15 q13.2 h
def f_Share_lay_52 (O : zO) : Nat → Nat → Int32 → Int32 → Int32 → zM → Option (Unit × zM)
  | 0, _, _, _, _, _ => none
  | n + 1, l0, l1, l2, l3, M =>
    if z_k M l0 = 11 then
    if (z_i M l0 1) < l3 then
    (F_Share_number O n l0 M).bind fun q2 =>
    some ((), q2.2)
    else
    f_Share_lay_63 O (f_Share_lay_52 O n) n l0 l1 l2 l3 (0 : Int32) M
    else none
set_option maxRecDepth 100000 in
set_option maxHeartbeats 4000000 in
theorem s_Share_lay_52 {X : zX} {q : Unit × zM} (C : zC X zR10 prog_11_method_11_code 5 { frames := 2, cells := 0, slots := 0, locals := 46 }) (hr : zRt X none) (E : zE X none q.2 0 0) : ∀ (n : Nat) (l0 : Nat) (l1 : Int32) (l2 : Int32) (l3 : Int32) (M : zM), f_Share_lay_52 (zOD X) n l0 l1 l2 l3 M = some q → zW X 0 0 52 [some (zP l0), some (zI l1), some (zI l2), some (zI l3), none] [] M := by
  intro n
  induction n with
  | zero => intro l0 l1 l2 l3 M h; rw [f_Share_lay_52] at h; cases h
  | succ n ih =>
    intro l0 l1 l2 l3 M h
    rw [f_Share_lay_52] at h
    refine r_iload_n C (z_d dd_Share_lay 32 rfl) rfl ?_
    refine r_aload_n C (z_d dd_Share_lay 33 rfl) rfl ?_
    obtain ⟨h1, h⟩ := zif h
    refine r_getI C (z_d dd_Share_lay 34 rfl) lk_Share_15 rfl h1 rfl ?_
    refine r_icmp_gt C 100 (z_d dd_Share_lay 35 rfl) (by decide) (fun c4 => ?_) (fun c4 => ?_)
    · have h := zift h c4
      refine r_aload_n C (z_d dd_Share_lay 58 rfl) rfl ?_
      obtain ⟨q2, c3, h⟩ := zbd h
      refine r_invV (as := []) C 10 (S_Share_number c3) (z_d dd_Share_lay 59 rfl) ok_Share_number iv_Share_number se_Share_number ml_Share_90 rfl rfl h1 rfl rfl rfl (Nat.le_of_ble_eq_true rfl) ⟨(Nat.le_of_ble_eq_true rfl), (Nat.le_of_ble_eq_true rfl)⟩ ⟨(Nat.le_of_ble_eq_true rfl), (Nat.le_of_ble_eq_true rfl)⟩ ?_
      obtain rfl := z_res h
      exact r_vret C E hr (z_d dd_Share_lay 60 rfl) (Nat.le_of_ble_eq_true rfl) (Nat.le_of_ble_eq_true rfl)
    · have h := ziff h c4
      refine r_iconst (v := (0 : Int32)) C (z_d dd_Share_lay 36 rfl) (by decide) ?_
      refine r_istore (lv' := [some (zP l0), some (zI l1), some (zI l2), some (zI l3), some (zI (0 : Int32))]) C (z_d dd_Share_lay 37 rfl) (Nat.le_of_ble_eq_true rfl) rfl ?_
      exact s_Share_lay_63 C hr E ih n l0 l1 l2 l3 (0 : Int32) M h
def f_Share_lay_42 (O : zO) (k11 : Nat → Int32 → Int32 → zM → Option (Unit × zM)) (n : Nat) (l0 : Nat) (l1 : Int32) (l2 : Int32) (M : zM) : Option (Unit × zM) :=
  zlet (l2 + (1 : Int32)) fun v1 =>
  k11 l0 l1 v1 M
set_option maxRecDepth 100000 in
set_option maxHeartbeats 4000000 in
theorem s_Share_lay_42 {X : zX} {q : Unit × zM} (C : zC X zR10 prog_11_method_11_code 5 { frames := 2, cells := 0, slots := 0, locals := 46 }) (hr : zRt X none) (E : zE X none q.2 0 0) {k11 : Nat → Int32 → Int32 → zM → Option (Unit × zM)} (hk11 : ∀ (l0 : Nat) (l1 : Int32) (l2 : Int32) (M : zM), k11 l0 l1 l2 M = some q → zW X 0 0 11 [some (zP l0), some (zI l1), some (zI l2), none, none] [] M) : ∀ (n : Nat) (l0 : Nat) (l1 : Int32) (l2 : Int32) (M : zM), f_Share_lay_42 (zOD X) k11 n l0 l1 l2 M = some q → zW X 0 0 42 [some (zP l0), some (zI l1), some (zI l2), none, none] [] M := by
  intro n l0 l1 l2 M h
  rw [f_Share_lay_42] at h
  obtain ⟨v1, e2, h⟩ := zlet_ex h
  refine r_iinc (v := v1) (lv' := [some (zP l0), some (zI l1), some (zI v1), none, none]) C (z_d dd_Share_lay 26 rfl) rfl (Nat.le_of_ble_eq_true rfl) (by rw [e2]; rfl) rfl ?_
  refine r_goto C 11 (z_d dd_Share_lay 27 rfl) (by decide) ?_
  exact hk11 l0 l1 v1 M h
def f_Share_lay_11 (O : zO) : Nat → Nat → Int32 → Int32 → zM → Option (Unit × zM)
  | 0, _, _, _, _ => none
  | n + 1, l0, l1, l2, M =>
    if z_k M l0 = 11 then
    if (z_i M l0 1) < l2 then
    f_Share_lay_52 O n l0 l1 (0 : Int32) (0 : Int32) M
    else
    if z_k M (z_p M l0 2) = 100 then
    if zin l2 (z_n M (z_p M l0 2)) = true then
    if 0 ≤ (z_i M (z_p M l0 2) l2.toNatClampNeg) then
    f_Share_lay_42 O (f_Share_lay_11 O n) n l0 l1 l2 M
    else
    if l1 < 0 then
    f_Share_lay_42 O (f_Share_lay_11 O n) n l0 l1 l2 M
    else
    if z_k M (z_p M l0 4) = 100 then
    if zin l1 (z_n M (z_p M l0 4)) = true then
    zlet (w_i M (z_p M l0 4) l1.toNatClampNeg l2) fun M6 =>
    zlet (l1 + (-1 : Int32)) fun v11 =>
    f_Share_lay_42 O (f_Share_lay_11 O n) n l0 v11 l2 M6
    else none
    else none
    else none
    else none
    else none
set_option maxRecDepth 100000 in
set_option maxHeartbeats 4000000 in
theorem s_Share_lay_11 {X : zX} {q : Unit × zM} (C : zC X zR10 prog_11_method_11_code 5 { frames := 2, cells := 0, slots := 0, locals := 46 }) (hr : zRt X none) (E : zE X none q.2 0 0) : ∀ (n : Nat) (l0 : Nat) (l1 : Int32) (l2 : Int32) (M : zM), f_Share_lay_11 (zOD X) n l0 l1 l2 M = some q → zW X 0 0 11 [some (zP l0), some (zI l1), some (zI l2), none, none] [] M := by
  intro n
  induction n with
  | zero => intro l0 l1 l2 M h; rw [f_Share_lay_11] at h; cases h
  | succ n ih =>
    intro l0 l1 l2 M h
    rw [f_Share_lay_11] at h
    refine r_iload_n C (z_d dd_Share_lay 9 rfl) rfl ?_
    refine r_aload_n C (z_d dd_Share_lay 10 rfl) rfl ?_
    obtain ⟨h1, h⟩ := zif h
    refine r_getI C (z_d dd_Share_lay 11 rfl) lk_Share_15 rfl h1 rfl ?_
    refine r_icmp_gt C 48 (z_d dd_Share_lay 12 rfl) (by decide) (fun c15 => ?_) (fun c15 => ?_)
    · have h := zift h c15
      refine r_iconst (v := (0 : Int32)) C (z_d dd_Share_lay 28 rfl) (by decide) ?_
      refine r_istore_n (lv' := [some (zP l0), some (zI l1), some (zI (0 : Int32)), none, none]) C (z_d dd_Share_lay 29 rfl) (Nat.le_of_ble_eq_true rfl) rfl ?_
      refine r_iconst (v := (0 : Int32)) C (z_d dd_Share_lay 30 rfl) (by decide) ?_
      refine r_istore_n (lv' := [some (zP l0), some (zI l1), some (zI (0 : Int32)), some (zI (0 : Int32)), none]) C (z_d dd_Share_lay 31 rfl) (Nat.le_of_ble_eq_true rfl) rfl ?_
      exact s_Share_lay_52 C hr E n l0 l1 (0 : Int32) (0 : Int32) M h
    · have h := ziff h c15
      refine r_aload_n C (z_d dd_Share_lay 13 rfl) rfl ?_
      refine r_getP C (z_d dd_Share_lay 14 rfl) lk_Share_18 rfl h1 rfl ?_
      refine r_iload_n C (z_d dd_Share_lay 15 rfl) rfl ?_
      obtain ⟨h2, h⟩ := zif h
      obtain ⟨h3, h⟩ := zif h
      refine r_iald C (z_d dd_Share_lay 16 rfl) h2 h3 rfl ?_
      refine r_if_ge C 42 (z_d dd_Share_lay 17 rfl) (by decide) (fun c14 => ?_) (fun c14 => ?_)
      · have h := zift h c14
        exact s_Share_lay_42 C hr E ih n l0 l1 l2 M h
      · have h := ziff h c14
        refine r_iload_n C (z_d dd_Share_lay 18 rfl) rfl ?_
        refine r_if_lt C 42 (z_d dd_Share_lay 19 rfl) (by decide) (fun c13 => ?_) (fun c13 => ?_)
        · have h := zift h c13
          exact s_Share_lay_42 C hr E ih n l0 l1 l2 M h
        · have h := ziff h c13
          refine r_aload_n C (z_d dd_Share_lay 20 rfl) rfl ?_
          refine r_getP C (z_d dd_Share_lay 21 rfl) lk_Share_25 rfl h1 rfl ?_
          refine r_iload_n C (z_d dd_Share_lay 22 rfl) rfl ?_
          refine r_iload_n C (z_d dd_Share_lay 23 rfl) rfl ?_
          obtain ⟨h4, h⟩ := zif h
          obtain ⟨h5, h⟩ := zif h
          obtain ⟨M6, e7, h⟩ := zlet_ex h
          have h8 := k_i e7 h1
          have h9 := k_i e7 h2
          have h10 := k_i e7 h4
          refine r_iast C (z_d dd_Share_lay 24 rfl) h4 h5 e7 ?_
          obtain ⟨v11, e12, h⟩ := zlet_ex h
          refine r_iinc (v := v11) (lv' := [some (zP l0), some (zI v11), some (zI l2), none, none]) C (z_d dd_Share_lay 25 rfl) rfl (Nat.le_of_ble_eq_true rfl) (by rw [e12]; rfl) rfl ?_
          exact s_Share_lay_42 C hr E ih n l0 v11 l2 M6 h
def f_Share_lay_0 (O : zO) (n : Nat) (l0 : Nat) (M : zM) : Option (Unit × zM) :=
  if z_k M l0 = 11 then
  zlet (((1 : Int32) <<< ((z_i M l0 7) &&& 31)) - (1 : Int32)) fun v2 =>
  f_Share_lay_11 O n l0 v2 (0 : Int32) M
  else none
set_option maxRecDepth 100000 in
set_option maxHeartbeats 4000000 in
theorem s_Share_lay_0 {X : zX} {q : Unit × zM} (C : zC X zR10 prog_11_method_11_code 5 { frames := 2, cells := 0, slots := 0, locals := 46 }) (hr : zRt X none) (E : zE X none q.2 0 0) : ∀ (n : Nat) (l0 : Nat) (M : zM), f_Share_lay_0 (zOD X) n l0 M = some q → zW X 0 0 0 [some (zP l0), none, none, none, none] [] M := by
  intro n l0 M h
  rw [f_Share_lay_0] at h
  refine r_iconst (v := (1 : Int32)) C (z_d dd_Share_lay 0 rfl) (by decide) ?_
  refine r_aload_n C (z_d dd_Share_lay 1 rfl) rfl ?_
  obtain ⟨h1, h⟩ := zif h
  refine r_getI C (z_d dd_Share_lay 2 rfl) lk_Share_34 rfl h1 rfl ?_
  refine r_ishl C (z_d dd_Share_lay 3 rfl) ?_
  refine r_iconst (v := (1 : Int32)) C (z_d dd_Share_lay 4 rfl) (by decide) ?_
  refine r_isub C (z_d dd_Share_lay 5 rfl) ?_
  obtain ⟨v2, e3, h⟩ := zlet_ex h
  refine r_nmI e3 ?_
  refine r_istore_n (lv' := [some (zP l0), some (zI v2), none, none, none]) C (z_d dd_Share_lay 6 rfl) (Nat.le_of_ble_eq_true rfl) rfl ?_
  refine r_iconst (v := (0 : Int32)) C (z_d dd_Share_lay 7 rfl) (by decide) ?_
  refine r_istore_n (lv' := [some (zP l0), some (zI v2), some (zI (0 : Int32)), none, none]) C (z_d dd_Share_lay 8 rfl) (Nat.le_of_ble_eq_true rfl) rfl ?_
  exact s_Share_lay_11 C hr E n l0 v2 (0 : Int32) M h
def F_Share_lay (O : zO) (n : Nat) (l0 : Nat) (M : zM) : Option (Unit × zM) := f_Share_lay_0 O n l0 M
theorem S_Share_lay {l : Launch} {D : zD} {n : Nat} {l0 : Nat} {M : zM} {q : Unit × zM} (h : F_Share_lay D.2.2.2.2 n l0 M = some q) : zMet l D mi_Share_lay [zP l0] M none q.2 :=
  z_met (by decide) (Nat.le_of_ble_eq_true rfl) (fun X C E hr hin hD hl => by
    subst hD
    exact s_Share_lay_0 C hr E n l0 M h)

def f_Share_setPoints_40 (O : zO) (k14 : Nat → Nat → Int32 → zM → Option (Unit × zM)) (n : Nat) (l0 : Nat) (l2 : Nat) (l3 : Int32) (s0 : Nat) (s1 : Int32) (s2 : Int32) (M : zM) : Option (Unit × zM) :=
  if z_k M s0 = 100 then
  if zin s1 (z_n M s0) = true then
  zlet (w_i M s0 s1.toNatClampNeg s2) fun M3 =>
  zlet (l3 + (1 : Int32)) fun v6 =>
  k14 l0 l2 v6 M3
  else none
  else none
set_option maxRecDepth 100000 in
set_option maxHeartbeats 4000000 in
theorem s_Share_setPoints_40 {X : zX} {q : Unit × zM} (C : zC X zR10 prog_11_method_6_code 4 { frames := 3, cells := 0, slots := 0, locals := 70 }) (hr : zRt X none) (E : zE X none q.2 0 0) {k14 : Nat → Nat → Int32 → zM → Option (Unit × zM)} (hk14 : ∀ (l0 : Nat) (l2 : Nat) (l3 : Int32) (M : zM), k14 l0 l2 l3 M = some q → zW X 0 0 14 [some (zP l0), none, some (zP l2), some (zI l3)] [] M) : ∀ (n : Nat) (l0 : Nat) (l2 : Nat) (l3 : Int32) (s0 : Nat) (s1 : Int32) (s2 : Int32) (M : zM), f_Share_setPoints_40 (zOD X) k14 n l0 l2 l3 s0 s1 s2 M = some q → zW X 0 0 40 [some (zP l0), none, some (zP l2), some (zI l3)] [zI s2, zI s1, zP s0] M := by
  intro n l0 l2 l3 s0 s1 s2 M h
  rw [f_Share_setPoints_40] at h
  obtain ⟨h1, h⟩ := zif h
  obtain ⟨h2, h⟩ := zif h
  obtain ⟨M3, e4, h⟩ := zlet_ex h
  have h5 := k_i e4 h1
  refine r_iast C (z_d dd_Share_setPoints 24 rfl) h1 h2 e4 ?_
  obtain ⟨v6, e7, h⟩ := zlet_ex h
  refine r_iinc (v := v6) (lv' := [some (zP l0), none, some (zP l2), some (zI v6)]) C (z_d dd_Share_setPoints 25 rfl) rfl (Nat.le_of_ble_eq_true rfl) (by rw [e7]; rfl) rfl ?_
  refine r_goto C 14 (z_d dd_Share_setPoints 26 rfl) (by decide) ?_
  exact hk14 l0 l2 v6 M3 h
def f_Share_setPoints_14 (O : zO) : Nat → Nat → Nat → Int32 → zM → Option (Unit × zM)
  | 0, _, _, _, _ => none
  | n + 1, l0, l2, l3, M =>
    if z_k M l0 = 11 then
    if (z_i M l0 1) < l3 then
    (F_Share_lay O n l0 M).bind fun q2 =>
    some ((), q2.2)
    else
    if O.2.1 l2 = true then
    if (Int32.ofNat (O.2.2.1 l2)) ≤ l3 then
    f_Share_setPoints_40 O (f_Share_setPoints_14 O n) n l0 l2 l3 (z_p M l0 2) l3 (0 : Int32) M
    else
    if O.2.1 l2 = true then
    if zin l3 (O.2.2.1 l2) = true then
    f_Share_setPoints_40 O (f_Share_setPoints_14 O n) n l0 l2 l3 (z_p M l0 2) l3 (O.2.2.2 l2 l3.toNatClampNeg) M
    else none
    else none
    else none
    else none
set_option maxRecDepth 100000 in
set_option maxHeartbeats 4000000 in
theorem s_Share_setPoints_14 {X : zX} {q : Unit × zM} (C : zC X zR10 prog_11_method_6_code 4 { frames := 3, cells := 0, slots := 0, locals := 70 }) (hr : zRt X none) (E : zE X none q.2 0 0) : ∀ (n : Nat) (l0 : Nat) (l2 : Nat) (l3 : Int32) (M : zM), f_Share_setPoints_14 (zOD X) n l0 l2 l3 M = some q → zW X 0 0 14 [some (zP l0), none, some (zP l2), some (zI l3)] [] M := by
  intro n
  induction n with
  | zero => intro l0 l2 l3 M h; rw [f_Share_setPoints_14] at h; cases h
  | succ n ih =>
    intro l0 l2 l3 M h
    rw [f_Share_setPoints_14] at h
    refine r_iload_n C (z_d dd_Share_setPoints 8 rfl) rfl ?_
    refine r_aload_n C (z_d dd_Share_setPoints 9 rfl) rfl ?_
    obtain ⟨h1, h⟩ := zif h
    refine r_getI C (z_d dd_Share_setPoints 10 rfl) lk_Share_15 rfl h1 rfl ?_
    refine r_icmp_gt C 47 (z_d dd_Share_setPoints 11 rfl) (by decide) (fun c8 => ?_) (fun c8 => ?_)
    · have h := zift h c8
      refine r_aload_n C (z_d dd_Share_setPoints 27 rfl) rfl ?_
      obtain ⟨q2, c3, h⟩ := zbd h
      refine r_invV (as := []) C 10 (S_Share_lay c3) (z_d dd_Share_setPoints 28 rfl) ok_Share_lay iv_Share_lay se_Share_lay ml_Share_53 rfl rfl h1 rfl rfl rfl (Nat.le_of_ble_eq_true rfl) ⟨(Nat.le_of_ble_eq_true rfl), (Nat.le_of_ble_eq_true rfl)⟩ ⟨(Nat.le_of_ble_eq_true rfl), (Nat.le_of_ble_eq_true rfl)⟩ ?_
      obtain rfl := z_res h
      exact r_vret C E hr (z_d dd_Share_setPoints 29 rfl) (Nat.le_of_ble_eq_true rfl) (Nat.le_of_ble_eq_true rfl)
    · have h := ziff h c8
      refine r_aload_n C (z_d dd_Share_setPoints 12 rfl) rfl ?_
      refine r_getP C (z_d dd_Share_setPoints 13 rfl) lk_Share_18 rfl h1 rfl ?_
      refine r_iload_n C (z_d dd_Share_setPoints 14 rfl) rfl ?_
      refine r_iload_n C (z_d dd_Share_setPoints 15 rfl) rfl ?_
      refine r_aload_n C (z_d dd_Share_setPoints 16 rfl) rfl ?_
      obtain ⟨h4, h⟩ := zif h
      refine r_olen C (z_d dd_Share_setPoints 17 rfl) h4 rfl ?_
      refine r_icmp_ge C 39 (z_d dd_Share_setPoints 18 rfl) (by decide) (fun c7 => ?_) (fun c7 => ?_)
      · have h := zift h c7
        refine r_iconst (v := (0 : Int32)) C (z_d dd_Share_setPoints 23 rfl) (by decide) ?_
        exact s_Share_setPoints_40 C hr E ih n l0 l2 l3 (z_p M l0 2) l3 (0 : Int32) M h
      · have h := ziff h c7
        refine r_aload_n C (z_d dd_Share_setPoints 19 rfl) rfl ?_
        refine r_iload_n C (z_d dd_Share_setPoints 20 rfl) rfl ?_
        obtain ⟨h5, h⟩ := zif h
        obtain ⟨h6, h⟩ := zif h
        refine r_oald C (z_d dd_Share_setPoints 21 rfl) h5 h6 rfl ?_
        refine r_goto C 40 (z_d dd_Share_setPoints 22 rfl) (by decide) ?_
        exact s_Share_setPoints_40 C hr E ih n l0 l2 l3 (z_p M l0 2) l3 ((zOD X).2.2.2 l2 l3.toNatClampNeg) M h
def f_Share_setPoints_0 (O : zO) (n : Nat) (l0 : Nat) (l1 : Int32) (l2 : Nat) (M : zM) : Option (Unit × zM) :=
  if z_k M l0 = 11 then
  (F_JMath_min O n l1 (z_i M l0 0) M).bind fun q2 =>
  if z_k q2.2 l0 = 11 then
  zlet (w_i q2.2 l0 7 q2.1) fun M5 =>
  f_Share_setPoints_14 O n l0 l2 (0 : Int32) M5
  else none
  else none
set_option maxRecDepth 100000 in
set_option maxHeartbeats 4000000 in
theorem s_Share_setPoints_0 {X : zX} {q : Unit × zM} (C : zC X zR10 prog_11_method_6_code 4 { frames := 3, cells := 0, slots := 0, locals := 70 }) (hr : zRt X none) (E : zE X none q.2 0 0) : ∀ (n : Nat) (l0 : Nat) (l1 : Int32) (l2 : Nat) (M : zM), f_Share_setPoints_0 (zOD X) n l0 l1 l2 M = some q → zW X 0 0 0 [some (zP l0), some (zI l1), some (zP l2), none] [] M := by
  intro n l0 l1 l2 M h
  rw [f_Share_setPoints_0] at h
  refine r_aload_n C (z_d dd_Share_setPoints 0 rfl) rfl ?_
  refine r_iload_n C (z_d dd_Share_setPoints 1 rfl) rfl ?_
  refine r_aload_n C (z_d dd_Share_setPoints 2 rfl) rfl ?_
  obtain ⟨h1, h⟩ := zif h
  refine r_getI C (z_d dd_Share_setPoints 3 rfl) lk_Share_9 rfl h1 rfl ?_
  obtain ⟨q2, c3, h⟩ := zbd h
  refine r_invS (as := [zI l1, zI (z_i M l0 0)]) C (S_JMath_min c3) (z_d dd_Share_setPoints 4 rfl) ok_JMath_min sv_JMath_min ml_Share_47 rfl rfl rfl (Nat.le_of_ble_eq_true rfl) ⟨(Nat.le_of_ble_eq_true rfl), (Nat.le_of_ble_eq_true rfl)⟩ ⟨(Nat.le_of_ble_eq_true rfl), (Nat.le_of_ble_eq_true rfl)⟩ ?_
  obtain ⟨h4, h⟩ := zif h
  obtain ⟨M5, e6, h⟩ := zlet_ex h
  have h7 := k_i e6 h4
  refine r_putI C (z_d dd_Share_setPoints 5 rfl) lp_Share_34 rfl h4 e6 ?_
  refine r_iconst (v := (0 : Int32)) C (z_d dd_Share_setPoints 6 rfl) (by decide) ?_
  refine r_istore_n (lv' := [some (zP l0), some (zI l1), some (zP l2), some (zI (0 : Int32))]) C (z_d dd_Share_setPoints 7 rfl) (Nat.le_of_ble_eq_true rfl) rfl ?_
  refine r_mk [true, false, true, true] ?_
  exact s_Share_setPoints_14 C hr E n l0 l2 (0 : Int32) M5 h
def F_Share_setPoints (O : zO) (n : Nat) (l0 : Nat) (l1 : Int32) (l2 : Nat) (M : zM) : Option (Unit × zM) := f_Share_setPoints_0 O n l0 l1 l2 M
theorem S_Share_setPoints {l : Launch} {D : zD} {n : Nat} {l0 : Nat} {l1 : Int32} {l2 : Nat} {M : zM} {q : Unit × zM} (h : F_Share_setPoints D.2.2.2.2 n l0 l1 l2 M = some q) : zMet l D mi_Share_setPoints [zP l0, zI l1, zP l2] M none q.2 :=
  z_met (by decide) (Nat.le_of_ble_eq_true rfl) (fun X C E hr hin hD hl => by
    subst hD
    exact s_Share_setPoints_0 C hr E n l0 l1 l2 M h)

def f_Seq_init_0 (O : zO) (n : Nat) (l0 : Nat) (l1 : Nat) (l2 : Nat) (l3 : Nat) (l4 : Nat) (M : zM) : Option (Unit × zM) :=
  if z_k M l0 = 10 then
  zlet (w_p M l0 0 l1) fun M2 =>
  zlet (w_p M2 l0 1 l2) fun M5 =>
  zlet (w_p M5 l0 2 l3) fun M8 =>
  zlet (w_p M8 l0 3 l4) fun M11 =>
  zlet (w_a M11 12 0) fun M14 =>
  (F_Stream_init O n (z_s M11 + 1) M14).bind fun q17 =>
  if z_k q17.2 l0 = 10 then
  zlet (w_p q17.2 l0 4 (z_s M11 + 1)) fun M20 =>
  zlet (w_a M20 6 0) fun M23 =>
  (F_Latest_init O n (z_s M20 + 1) M23).bind fun q26 =>
  if z_k q26.2 l0 = 10 then
  zlet (w_p q26.2 l0 5 (z_s M20 + 1)) fun M29 =>
  zlet (w_a M29 104 (3 : Int32).toNatClampNeg) fun M32 =>
  if z_k M32 l0 = 10 then
  zlet (w_p M32 l0 6 (z_s M29 + 1)) fun M36 =>
  zlet (w_a M36 104 (3 : Int32).toNatClampNeg) fun M40 =>
  if z_k M40 l0 = 10 then
  zlet (w_p M40 l0 7 (z_s M36 + 1)) fun M44 =>
  zlet (w_a M44 104 (3 : Int32).toNatClampNeg) fun M48 =>
  if z_k M48 l0 = 10 then
  zlet (w_p M48 l0 8 (z_s M44 + 1)) fun M52 =>
  zlet (w_a M52 102 (3 : Int32).toNatClampNeg) fun M56 =>
  if z_k M56 l0 = 10 then
  zlet (w_p M56 l0 9 (z_s M52 + 1)) fun M60 =>
  zlet (w_a M60 100 (3 : Int32).toNatClampNeg) fun M64 =>
  if z_k M64 l0 = 10 then
  zlet (w_p M64 l0 10 (z_s M60 + 1)) fun M68 =>
  zlet (w_a M68 11 0) fun M72 =>
  if O.2.1 (O.1 2) = true then
  if zin (0 : Int32) (O.2.2.1 (O.1 2)) = true then
  if O.2.1 (O.1 1) = true then
  if zin (0 : Int32) (O.2.2.1 (O.1 1)) = true then
  (F_Share_init O n (z_s M68 + 1) (O.2.2.2 (O.1 2) (0 : Int32).toNatClampNeg) (O.2.2.2 (O.1 1) (0 : Int32).toNatClampNeg) M72).bind fun q79 =>
  if z_k q79.2 (z_p M68 l0 6) = 104 then
  if zin (0 : Int32) (z_n q79.2 (z_p M68 l0 6)) = true then
  if z_k q79.2 (z_s M68 + 1) = 11 then
  zlet (w_p q79.2 (z_p M68 l0 6) (0 : Int32).toNatClampNeg (z_s M68 + 1)) fun M84 =>
  if z_k M84 l0 = 10 then
  zlet (w_a M84 11 0) fun M89 =>
  if O.2.1 (O.1 0) = true then
  if zin (0 : Int32) (O.2.2.1 (O.1 0)) = true then
  if O.2.1 (O.1 1) = true then
  if zin (0 : Int32) (O.2.2.1 (O.1 1)) = true then
  (F_Share_init O n (z_s M84 + 1) (O.2.2.2 (O.1 0) (0 : Int32).toNatClampNeg) (O.2.2.2 (O.1 1) (0 : Int32).toNatClampNeg) M89).bind fun q96 =>
  if z_k q96.2 (z_p M84 l0 7) = 104 then
  if zin (0 : Int32) (z_n q96.2 (z_p M84 l0 7)) = true then
  if z_k q96.2 (z_s M84 + 1) = 11 then
  zlet (w_p q96.2 (z_p M84 l0 7) (0 : Int32).toNatClampNeg (z_s M84 + 1)) fun M101 =>
  if z_k M101 l0 = 10 then
  if z_k M101 (z_p M101 l0 6) = 104 then
  if zin (0 : Int32) (z_n M101 (z_p M101 l0 6)) = true then
  if z_k M101 (z_p M101 l0 8) = 104 then
  if zin (0 : Int32) (z_n M101 (z_p M101 l0 8)) = true then
  if z_k M101 (z_p M101 (z_p M101 l0 6) (0 : Int32).toNatClampNeg) = 11 then
  zlet (w_p M101 (z_p M101 l0 8) (0 : Int32).toNatClampNeg (z_p M101 (z_p M101 l0 6) (0 : Int32).toNatClampNeg)) fun M111 =>
  if z_k M111 (z_p M111 l0 9) = 102 then
  if zin (0 : Int32) (z_n M111 (z_p M111 l0 9)) = true then
  zlet (w_i M111 (z_p M111 l0 9) (0 : Int32).toNatClampNeg (0 : Int32)) fun M121 =>
  zlet (w_a M121 11 0) fun M130 =>
  if O.2.1 (O.1 2) = true then
  if zin (1 : Int32) (O.2.2.1 (O.1 2)) = true then
  if O.2.1 (O.1 1) = true then
  if zin (1 : Int32) (O.2.2.1 (O.1 1)) = true then
  (F_Share_init O n (z_s M121 + 1) (O.2.2.2 (O.1 2) (1 : Int32).toNatClampNeg) (O.2.2.2 (O.1 1) (1 : Int32).toNatClampNeg) M130).bind fun q137 =>
  if z_k q137.2 (z_p M121 l0 6) = 104 then
  if zin (1 : Int32) (z_n q137.2 (z_p M121 l0 6)) = true then
  if z_k q137.2 (z_s M121 + 1) = 11 then
  zlet (w_p q137.2 (z_p M121 l0 6) (1 : Int32).toNatClampNeg (z_s M121 + 1)) fun M142 =>
  if z_k M142 l0 = 10 then
  zlet (w_a M142 11 0) fun M147 =>
  if O.2.1 (O.1 0) = true then
  if zin (1 : Int32) (O.2.2.1 (O.1 0)) = true then
  if O.2.1 (O.1 1) = true then
  if zin (1 : Int32) (O.2.2.1 (O.1 1)) = true then
  (F_Share_init O n (z_s M142 + 1) (O.2.2.2 (O.1 0) (1 : Int32).toNatClampNeg) (O.2.2.2 (O.1 1) (1 : Int32).toNatClampNeg) M147).bind fun q154 =>
  if z_k q154.2 (z_p M142 l0 7) = 104 then
  if zin (1 : Int32) (z_n q154.2 (z_p M142 l0 7)) = true then
  if z_k q154.2 (z_s M142 + 1) = 11 then
  zlet (w_p q154.2 (z_p M142 l0 7) (1 : Int32).toNatClampNeg (z_s M142 + 1)) fun M159 =>
  if z_k M159 l0 = 10 then
  if z_k M159 (z_p M159 l0 6) = 104 then
  if zin (1 : Int32) (z_n M159 (z_p M159 l0 6)) = true then
  if z_k M159 (z_p M159 l0 8) = 104 then
  if zin (1 : Int32) (z_n M159 (z_p M159 l0 8)) = true then
  if z_k M159 (z_p M159 (z_p M159 l0 6) (1 : Int32).toNatClampNeg) = 11 then
  zlet (w_p M159 (z_p M159 l0 8) (1 : Int32).toNatClampNeg (z_p M159 (z_p M159 l0 6) (1 : Int32).toNatClampNeg)) fun M169 =>
  if z_k M169 (z_p M169 l0 9) = 102 then
  if zin (1 : Int32) (z_n M169 (z_p M169 l0 9)) = true then
  zlet (w_i M169 (z_p M169 l0 9) (1 : Int32).toNatClampNeg (0 : Int32)) fun M179 =>
  zlet (w_a M179 11 0) fun M188 =>
  if O.2.1 (O.1 2) = true then
  if zin (2 : Int32) (O.2.2.1 (O.1 2)) = true then
  if O.2.1 (O.1 1) = true then
  if zin (2 : Int32) (O.2.2.1 (O.1 1)) = true then
  (F_Share_init O n (z_s M179 + 1) (O.2.2.2 (O.1 2) (2 : Int32).toNatClampNeg) (O.2.2.2 (O.1 1) (2 : Int32).toNatClampNeg) M188).bind fun q195 =>
  if z_k q195.2 (z_p M179 l0 6) = 104 then
  if zin (2 : Int32) (z_n q195.2 (z_p M179 l0 6)) = true then
  if z_k q195.2 (z_s M179 + 1) = 11 then
  zlet (w_p q195.2 (z_p M179 l0 6) (2 : Int32).toNatClampNeg (z_s M179 + 1)) fun M200 =>
  if z_k M200 l0 = 10 then
  zlet (w_a M200 11 0) fun M205 =>
  if O.2.1 (O.1 0) = true then
  if zin (2 : Int32) (O.2.2.1 (O.1 0)) = true then
  if O.2.1 (O.1 1) = true then
  if zin (2 : Int32) (O.2.2.1 (O.1 1)) = true then
  (F_Share_init O n (z_s M200 + 1) (O.2.2.2 (O.1 0) (2 : Int32).toNatClampNeg) (O.2.2.2 (O.1 1) (2 : Int32).toNatClampNeg) M205).bind fun q212 =>
  if z_k q212.2 (z_p M200 l0 7) = 104 then
  if zin (2 : Int32) (z_n q212.2 (z_p M200 l0 7)) = true then
  if z_k q212.2 (z_s M200 + 1) = 11 then
  zlet (w_p q212.2 (z_p M200 l0 7) (2 : Int32).toNatClampNeg (z_s M200 + 1)) fun M217 =>
  if z_k M217 l0 = 10 then
  if z_k M217 (z_p M217 l0 6) = 104 then
  if zin (2 : Int32) (z_n M217 (z_p M217 l0 6)) = true then
  if z_k M217 (z_p M217 l0 8) = 104 then
  if zin (2 : Int32) (z_n M217 (z_p M217 l0 8)) = true then
  if z_k M217 (z_p M217 (z_p M217 l0 6) (2 : Int32).toNatClampNeg) = 11 then
  zlet (w_p M217 (z_p M217 l0 8) (2 : Int32).toNatClampNeg (z_p M217 (z_p M217 l0 6) (2 : Int32).toNatClampNeg)) fun M227 =>
  if z_k M227 (z_p M227 l0 9) = 102 then
  if zin (2 : Int32) (z_n M227 (z_p M227 l0 9)) = true then
  zlet (w_i M227 (z_p M227 l0 9) (2 : Int32).toNatClampNeg (0 : Int32)) fun M237 =>
  if z_k M237 (z_p M237 l0 6) = 104 then
  if zin (0 : Int32) (z_n M237 (z_p M237 l0 6)) = true then
  if O.2.1 (O.1 2) = true then
  if zin (0 : Int32) (O.2.2.1 (O.1 2)) = true then
  if z_k M237 (z_p M237 (z_p M237 l0 6) (0 : Int32).toNatClampNeg) = 11 then
  (F_Share_setPoints O n (z_p M237 (z_p M237 l0 6) (0 : Int32).toNatClampNeg) (O.2.2.2 (O.1 2) (0 : Int32).toNatClampNeg) (O.1 3) M237).bind fun q251 =>
  if z_k q251.2 l0 = 10 then
  if z_k q251.2 (z_p q251.2 l0 6) = 104 then
  if zin (1 : Int32) (z_n q251.2 (z_p q251.2 l0 6)) = true then
  if O.2.1 (O.1 2) = true then
  if zin (1 : Int32) (O.2.2.1 (O.1 2)) = true then
  if z_k q251.2 (z_p q251.2 (z_p q251.2 l0 6) (1 : Int32).toNatClampNeg) = 11 then
  (F_Share_setPoints O n (z_p q251.2 (z_p q251.2 l0 6) (1 : Int32).toNatClampNeg) (O.2.2.2 (O.1 2) (1 : Int32).toNatClampNeg) (O.1 4) q251.2).bind fun q259 =>
  if z_k q259.2 l0 = 10 then
  if z_k q259.2 (z_p q259.2 l0 6) = 104 then
  if zin (2 : Int32) (z_n q259.2 (z_p q259.2 l0 6)) = true then
  if O.2.1 (O.1 2) = true then
  if zin (2 : Int32) (O.2.2.1 (O.1 2)) = true then
  if z_k q259.2 (z_p q259.2 (z_p q259.2 l0 6) (2 : Int32).toNatClampNeg) = 11 then
  (F_Share_setPoints O n (z_p q259.2 (z_p q259.2 l0 6) (2 : Int32).toNatClampNeg) (O.2.2.2 (O.1 2) (2 : Int32).toNatClampNeg) (O.1 5) q259.2).bind fun q267 =>
  some ((), q267.2)
  else none
  else none
  else none
  else none
  else none
  else none
  else none
  else none
  else none
  else none
  else none
  else none
  else none
  else none
  else none
  else none
  else none
  else none
  else none
  else none
  else none
  else none
  else none
  else none
  else none
  else none
  else none
  else none
  else none
  else none
  else none
  else none
  else none
  else none
  else none
  else none
  else none
  else none
  else none
  else none
  else none
  else none
  else none
  else none
  else none
  else none
  else none
  else none
  else none
  else none
  else none
  else none
  else none
  else none
  else none
  else none
  else none
  else none
  else none
  else none
  else none
  else none
  else none
  else none
  else none
  else none
  else none
  else none
  else none
  else none
  else none
  else none
  else none
  else none
  else none
  else none
  else none
  else none
  else none
  else none
  else none
  else none
  else none
  else none
  else none
  else none
  else none
  else none
  else none
  else none
  else none
  else none
  else none
  else none
set_option maxRecDepth 100000 in
set_option maxHeartbeats 4000000 in
theorem s_Seq_init_0 {X : zX} {q : Unit × zM} (C : zC X zR9 prog_10_method_1_code 6 { frames := 4, cells := 43, slots := 9939, locals := 93 }) (hr : zRt X none) (hin : zIn X) (E : zE X none q.2 43 9939) : ∀ (n : Nat) (l0 : Nat) (l1 : Nat) (l2 : Nat) (l3 : Nat) (l4 : Nat) (M : zM), f_Seq_init_0 (zOD X) n l0 l1 l2 l3 l4 M = some q → zW X 0 0 0 [some (zP l0), some (zP l1), some (zP l2), some (zP l3), some (zP l4), none] [] M := by
  intro n l0 l1 l2 l3 l4 M h
  rw [f_Seq_init_0] at h
  refine r_aload_n C (z_d dd_Seq_init 0 rfl) rfl ?_
  obtain ⟨h1, h⟩ := zif h
  refine r_objK C 9 rfl h1 (z_d dd_Seq_init 1 rfl) ml_Seq_3 oi_i oi_c rfl (Nat.le_of_ble_eq_true rfl) ⟨(Nat.le_of_ble_eq_true rfl), (Nat.le_of_ble_eq_true rfl)⟩ ?_
  refine r_aload_n C (z_d dd_Seq_init 2 rfl) rfl ?_
  refine r_aload_n C (z_d dd_Seq_init 3 rfl) rfl ?_
  obtain ⟨M2, e3, h⟩ := zlet_ex h
  have h4 := k_p e3 h1
  refine r_putFP C hin (z_d dd_Seq_init 4 rfl) lf_Seq_9 rfl h1 e3 ?_
  refine r_aload_n C (z_d dd_Seq_init 5 rfl) rfl ?_
  refine r_aload_n C (z_d dd_Seq_init 6 rfl) rfl ?_
  obtain ⟨M5, e6, h⟩ := zlet_ex h
  have h7 := k_p e6 h4
  refine r_putFP C hin (z_d dd_Seq_init 7 rfl) lf_Seq_15 rfl h4 e6 ?_
  refine r_aload_n C (z_d dd_Seq_init 8 rfl) rfl ?_
  refine r_aload_n C (z_d dd_Seq_init 9 rfl) rfl ?_
  obtain ⟨M8, e9, h⟩ := zlet_ex h
  have h10 := k_p e9 h7
  refine r_putFP C hin (z_d dd_Seq_init 10 rfl) lf_Seq_19 rfl h7 e9 ?_
  refine r_aload_n C (z_d dd_Seq_init 11 rfl) rfl ?_
  refine r_aload C (z_d dd_Seq_init 12 rfl) rfl ?_
  obtain ⟨M11, e12, h⟩ := zlet_ex h
  have h13 := k_p e12 h10
  refine r_putFP C hin (z_d dd_Seq_init 13 rfl) lf_Seq_23 rfl h10 e12 ?_
  refine r_aload_n C (z_d dd_Seq_init 14 rfl) rfl ?_
  obtain ⟨M14, e15, h⟩ := zlet_ex h
  have h16 := k_a e15
  refine r_new (c := 11) C (z_d dd_Seq_init 15 rfl) rfl cl_Seq_27 ins_11 ini_11 (Nat.le_of_ble_eq_true rfl) (Nat.le_of_ble_eq_true rfl) e15 ?_
  refine r_dupP C (z_d dd_Seq_init 16 rfl) ?_
  obtain ⟨q17, c18, h⟩ := zbd h
  refine r_invIK (as := []) C 11 rfl h16 (S_Stream_init c18) (z_d dd_Seq_init 17 rfl) ok_Stream_init rfl rfl iv_Stream_init ml_Seq_29 rfl rfl rfl (Nat.le_of_ble_eq_true rfl) ⟨(Nat.le_of_ble_eq_true rfl), (Nat.le_of_ble_eq_true rfl)⟩ ⟨(Nat.le_of_ble_eq_true rfl), (Nat.le_of_ble_eq_true rfl)⟩ ?_
  obtain ⟨h19, h⟩ := zif h
  obtain ⟨M20, e21, h⟩ := zlet_ex h
  have h22 := k_p e21 h19
  refine r_putFP C hin (z_d dd_Seq_init 18 rfl) lf_Seq_30 rfl h19 e21 ?_
  refine r_aload_n C (z_d dd_Seq_init 19 rfl) rfl ?_
  obtain ⟨M23, e24, h⟩ := zlet_ex h
  have h25 := k_a e24
  refine r_new (c := 5) C (z_d dd_Seq_init 20 rfl) rfl cl_Seq_34 ins_5 ini_5 (Nat.le_of_ble_eq_true rfl) (Nat.le_of_ble_eq_true rfl) e24 ?_
  refine r_dupP C (z_d dd_Seq_init 21 rfl) ?_
  obtain ⟨q26, c27, h⟩ := zbd h
  refine r_invIK (as := []) C 5 rfl h25 (S_Latest_init c27) (z_d dd_Seq_init 22 rfl) ok_Latest_init rfl rfl iv_Latest_init ml_Seq_36 rfl rfl rfl (Nat.le_of_ble_eq_true rfl) ⟨(Nat.le_of_ble_eq_true rfl), (Nat.le_of_ble_eq_true rfl)⟩ ⟨(Nat.le_of_ble_eq_true rfl), (Nat.le_of_ble_eq_true rfl)⟩ ?_
  obtain ⟨h28, h⟩ := zif h
  obtain ⟨M29, e30, h⟩ := zlet_ex h
  have h31 := k_p e30 h28
  refine r_putFP C hin (z_d dd_Seq_init 23 rfl) lf_Seq_37 rfl h28 e30 ?_
  refine r_aload_n C (z_d dd_Seq_init 24 rfl) rfl ?_
  refine r_iconst (v := (3 : Int32)) C (z_d dd_Seq_init 25 rfl) (by decide) ?_
  obtain ⟨M32, e33, h⟩ := zlet_ex h
  have h34 := k_a e33
  refine r_newq C 3 (z_d dd_Seq_init 26 rfl) cl_Seq_41 (by decide) (by decide) (Nat.le_of_ble_eq_true rfl) (Nat.le_of_ble_eq_true rfl) (Nat.le_of_ble_eq_true rfl) e33 ?_
  obtain ⟨h35, h⟩ := zif h
  obtain ⟨M36, e37, h⟩ := zlet_ex h
  have h38 := k_p e37 h34
  have h39 := k_p e37 h35
  refine r_putFP C hin (z_d dd_Seq_init 27 rfl) lf_Seq_43 rfl h35 e37 ?_
  refine r_aload_n C (z_d dd_Seq_init 28 rfl) rfl ?_
  refine r_iconst (v := (3 : Int32)) C (z_d dd_Seq_init 29 rfl) (by decide) ?_
  obtain ⟨M40, e41, h⟩ := zlet_ex h
  have h42 := k_a e41
  refine r_newq C 3 (z_d dd_Seq_init 30 rfl) cl_Seq_41 (by decide) (by decide) (Nat.le_of_ble_eq_true rfl) (Nat.le_of_ble_eq_true rfl) (Nat.le_of_ble_eq_true rfl) e41 ?_
  obtain ⟨h43, h⟩ := zif h
  obtain ⟨M44, e45, h⟩ := zlet_ex h
  have h46 := k_p e45 h42
  have h47 := k_p e45 h43
  refine r_putFP C hin (z_d dd_Seq_init 31 rfl) lf_Seq_47 rfl h43 e45 ?_
  refine r_aload_n C (z_d dd_Seq_init 32 rfl) rfl ?_
  refine r_iconst (v := (3 : Int32)) C (z_d dd_Seq_init 33 rfl) (by decide) ?_
  obtain ⟨M48, e49, h⟩ := zlet_ex h
  have h50 := k_a e49
  refine r_newq C 3 (z_d dd_Seq_init 34 rfl) cl_Seq_41 (by decide) (by decide) (Nat.le_of_ble_eq_true rfl) (Nat.le_of_ble_eq_true rfl) (Nat.le_of_ble_eq_true rfl) e49 ?_
  obtain ⟨h51, h⟩ := zif h
  obtain ⟨M52, e53, h⟩ := zlet_ex h
  have h54 := k_p e53 h50
  have h55 := k_p e53 h51
  refine r_putFP C hin (z_d dd_Seq_init 35 rfl) lf_Seq_50 rfl h51 e53 ?_
  refine r_aload_n C (z_d dd_Seq_init 36 rfl) rfl ?_
  refine r_iconst (v := (3 : Int32)) C (z_d dd_Seq_init 37 rfl) (by decide) ?_
  obtain ⟨M56, e57, h⟩ := zlet_ex h
  have h58 := k_a e57
  refine r_newa C 2 3 (z_d dd_Seq_init 38 rfl) rfl (Nat.le_of_ble_eq_true rfl) ac_2 (by decide) (by decide) (Nat.le_of_ble_eq_true rfl) (Nat.le_of_ble_eq_true rfl) (Nat.le_of_ble_eq_true rfl) e57 ?_
  obtain ⟨h59, h⟩ := zif h
  obtain ⟨M60, e61, h⟩ := zlet_ex h
  have h62 := k_p e61 h58
  have h63 := k_p e61 h59
  refine r_putFP C hin (z_d dd_Seq_init 39 rfl) lf_Seq_53 rfl h59 e61 ?_
  refine r_aload_n C (z_d dd_Seq_init 40 rfl) rfl ?_
  refine r_iconst (v := (3 : Int32)) C (z_d dd_Seq_init 41 rfl) (by decide) ?_
  obtain ⟨M64, e65, h⟩ := zlet_ex h
  have h66 := k_a e65
  refine r_newa C 0 3 (z_d dd_Seq_init 42 rfl) rfl (Nat.le_of_ble_eq_true rfl) ac_0 (by decide) (by decide) (Nat.le_of_ble_eq_true rfl) (Nat.le_of_ble_eq_true rfl) (Nat.le_of_ble_eq_true rfl) e65 ?_
  obtain ⟨h67, h⟩ := zif h
  obtain ⟨M68, e69, h⟩ := zlet_ex h
  have h70 := k_p e69 h66
  have h71 := k_p e69 h67
  refine r_putFP C hin (z_d dd_Seq_init 43 rfl) lf_Seq_57 rfl h67 e69 ?_
  refine r_iconst (v := (0 : Int32)) C (z_d dd_Seq_init 44 rfl) (by decide) ?_
  refine r_istore (lv' := [some (zP l0), some (zP l1), some (zP l2), some (zP l3), some (zP l4), some (zI (0 : Int32))]) C (z_d dd_Seq_init 45 rfl) (Nat.le_of_ble_eq_true rfl) rfl ?_
  refine r_iload C (z_d dd_Seq_init 46 rfl) rfl ?_
  refine r_iconst (v := (3 : Int32)) C (z_d dd_Seq_init 47 rfl) (by decide) ?_
  refine r_icmp_ge C 174 (z_d dd_Seq_init 48 rfl) (by decide) (fun hc => absurd hc (by decide)) (fun _ => ?_)
  refine r_aload_n C (z_d dd_Seq_init 49 rfl) rfl ?_
  refine r_getP C (z_d dd_Seq_init 50 rfl) lk_Seq_43 rfl h71 rfl ?_
  refine r_iload C (z_d dd_Seq_init 51 rfl) rfl ?_
  obtain ⟨M72, e73, h⟩ := zlet_ex h
  have h74 := k_a e73
  refine r_new (c := 10) C (z_d dd_Seq_init 52 rfl) rfl cl_Seq_41 ins_10 ini_10 (Nat.le_of_ble_eq_true rfl) (Nat.le_of_ble_eq_true rfl) e73 ?_
  refine r_dupP C (z_d dd_Seq_init 53 rfl) ?_
  refine r_gets (i := 2) C (z_d dd_Seq_init 54 rfl) rfl ls_Seq_61 ?_
  refine r_iload C (z_d dd_Seq_init 55 rfl) rfl ?_
  obtain ⟨h75, h⟩ := zif h
  obtain ⟨h76, h⟩ := zif h
  refine r_oald C (z_d dd_Seq_init 56 rfl) h75 h76 rfl ?_
  refine r_gets (i := 1) C (z_d dd_Seq_init 57 rfl) rfl ls_Seq_64 ?_
  refine r_iload C (z_d dd_Seq_init 58 rfl) rfl ?_
  obtain ⟨h77, h⟩ := zif h
  obtain ⟨h78, h⟩ := zif h
  refine r_oald C (z_d dd_Seq_init 59 rfl) h77 h78 rfl ?_
  obtain ⟨q79, c80, h⟩ := zbd h
  refine r_invIK (as := [zI ((zOD X).2.2.2 ((zOD X).1 2) (0 : Int32).toNatClampNeg), zI ((zOD X).2.2.2 ((zOD X).1 1) (0 : Int32).toNatClampNeg)]) C 10 rfl h74 (S_Share_init c80) (z_d dd_Seq_init 60 rfl) ok_Share_init rfl rfl iv_Share_init ml_Seq_67 rfl rfl rfl (Nat.le_of_ble_eq_true rfl) ⟨(Nat.le_of_ble_eq_true rfl), (Nat.le_of_ble_eq_true rfl)⟩ ⟨(Nat.le_of_ble_eq_true rfl), (Nat.le_of_ble_eq_true rfl)⟩ ?_
  obtain ⟨h81, h⟩ := zif h
  obtain ⟨h82, h⟩ := zif h
  obtain ⟨h83, h⟩ := zif h
  obtain ⟨M84, e85, h⟩ := zlet_ex h
  have h86 := k_p e85 h81
  have h87 := k_p e85 h83
  refine r_aast C (z_d dd_Seq_init 61 rfl) h81 h82 h83 e85 ?_
  refine r_aload_n C (z_d dd_Seq_init 62 rfl) rfl ?_
  obtain ⟨h88, h⟩ := zif h
  refine r_getP C (z_d dd_Seq_init 63 rfl) lk_Seq_47 rfl h88 rfl ?_
  refine r_iload C (z_d dd_Seq_init 64 rfl) rfl ?_
  obtain ⟨M89, e90, h⟩ := zlet_ex h
  have h91 := k_a e90
  refine r_new (c := 10) C (z_d dd_Seq_init 65 rfl) rfl cl_Seq_41 ins_10 ini_10 (Nat.le_of_ble_eq_true rfl) (Nat.le_of_ble_eq_true rfl) e90 ?_
  refine r_dupP C (z_d dd_Seq_init 66 rfl) ?_
  refine r_gets (i := 0) C (z_d dd_Seq_init 67 rfl) rfl ls_Seq_70 ?_
  refine r_iload C (z_d dd_Seq_init 68 rfl) rfl ?_
  obtain ⟨h92, h⟩ := zif h
  obtain ⟨h93, h⟩ := zif h
  refine r_oald C (z_d dd_Seq_init 69 rfl) h92 h93 rfl ?_
  refine r_gets (i := 1) C (z_d dd_Seq_init 70 rfl) rfl ls_Seq_64 ?_
  refine r_iload C (z_d dd_Seq_init 71 rfl) rfl ?_
  obtain ⟨h94, h⟩ := zif h
  obtain ⟨h95, h⟩ := zif h
  refine r_oald C (z_d dd_Seq_init 72 rfl) h94 h95 rfl ?_
  obtain ⟨q96, c97, h⟩ := zbd h
  refine r_invIK (as := [zI ((zOD X).2.2.2 ((zOD X).1 0) (0 : Int32).toNatClampNeg), zI ((zOD X).2.2.2 ((zOD X).1 1) (0 : Int32).toNatClampNeg)]) C 10 rfl h91 (S_Share_init c97) (z_d dd_Seq_init 73 rfl) ok_Share_init rfl rfl iv_Share_init ml_Seq_67 rfl rfl rfl (Nat.le_of_ble_eq_true rfl) ⟨(Nat.le_of_ble_eq_true rfl), (Nat.le_of_ble_eq_true rfl)⟩ ⟨(Nat.le_of_ble_eq_true rfl), (Nat.le_of_ble_eq_true rfl)⟩ ?_
  obtain ⟨h98, h⟩ := zif h
  obtain ⟨h99, h⟩ := zif h
  obtain ⟨h100, h⟩ := zif h
  obtain ⟨M101, e102, h⟩ := zlet_ex h
  have h103 := k_p e102 h98
  have h104 := k_p e102 h100
  refine r_aast C (z_d dd_Seq_init 74 rfl) h98 h99 h100 e102 ?_
  refine r_aload_n C (z_d dd_Seq_init 75 rfl) rfl ?_
  obtain ⟨h105, h⟩ := zif h
  refine r_getP C (z_d dd_Seq_init 76 rfl) lk_Seq_50 rfl h105 rfl ?_
  refine r_iload C (z_d dd_Seq_init 77 rfl) rfl ?_
  refine r_aload_n C (z_d dd_Seq_init 78 rfl) rfl ?_
  refine r_getP C (z_d dd_Seq_init 79 rfl) lk_Seq_43 rfl h105 rfl ?_
  refine r_iload C (z_d dd_Seq_init 80 rfl) rfl ?_
  obtain ⟨h106, h⟩ := zif h
  obtain ⟨h107, h⟩ := zif h
  refine r_aald C (z_d dd_Seq_init 81 rfl) h106 h107 rfl ?_
  obtain ⟨h108, h⟩ := zif h
  obtain ⟨h109, h⟩ := zif h
  obtain ⟨h110, h⟩ := zif h
  obtain ⟨M111, e112, h⟩ := zlet_ex h
  have h113 := k_p e112 h103
  have h114 := k_p e112 h104
  have h115 := k_p e112 h105
  have h116 := k_p e112 h106
  have h117 := k_p e112 h108
  have h118 := k_p e112 h110
  refine r_aast C (z_d dd_Seq_init 82 rfl) h108 h109 h110 e112 ?_
  refine r_aload_n C (z_d dd_Seq_init 83 rfl) rfl ?_
  refine r_getP C (z_d dd_Seq_init 84 rfl) lk_Seq_53 rfl h115 rfl ?_
  refine r_iload C (z_d dd_Seq_init 85 rfl) rfl ?_
  refine r_iconst (v := (0 : Int32)) C (z_d dd_Seq_init 86 rfl) (by decide) ?_
  obtain ⟨h119, h⟩ := zif h
  obtain ⟨h120, h⟩ := zif h
  obtain ⟨M121, e122, h⟩ := zlet_ex h
  have h123 := k_i e122 h113
  have h124 := k_i e122 h114
  have h125 := k_i e122 h115
  have h126 := k_i e122 h116
  have h127 := k_i e122 h117
  have h128 := k_i e122 h118
  have h129 := k_i e122 h119
  refine r_zast C (z_d dd_Seq_init 87 rfl) h119 h120 (by decide) e122 ?_
  refine r_iinc (v := (1 : Int32)) (lv' := [some (zP l0), some (zP l1), some (zP l2), some (zP l3), some (zP l4), some (zI (1 : Int32))]) C (z_d dd_Seq_init 88 rfl) rfl (Nat.le_of_ble_eq_true rfl) (by decide) rfl ?_
  refine r_goto C 88 (z_d dd_Seq_init 89 rfl) (by decide) ?_
  refine r_iload C (z_d dd_Seq_init 46 rfl) rfl ?_
  refine r_iconst (v := (3 : Int32)) C (z_d dd_Seq_init 47 rfl) (by decide) ?_
  refine r_icmp_ge C 174 (z_d dd_Seq_init 48 rfl) (by decide) (fun hc => absurd hc (by decide)) (fun _ => ?_)
  refine r_aload_n C (z_d dd_Seq_init 49 rfl) rfl ?_
  refine r_getP C (z_d dd_Seq_init 50 rfl) lk_Seq_43 rfl h125 rfl ?_
  refine r_iload C (z_d dd_Seq_init 51 rfl) rfl ?_
  obtain ⟨M130, e131, h⟩ := zlet_ex h
  have h132 := k_a e131
  refine r_new (c := 10) C (z_d dd_Seq_init 52 rfl) rfl cl_Seq_41 ins_10 ini_10 (Nat.le_of_ble_eq_true rfl) (Nat.le_of_ble_eq_true rfl) e131 ?_
  refine r_dupP C (z_d dd_Seq_init 53 rfl) ?_
  refine r_gets (i := 2) C (z_d dd_Seq_init 54 rfl) rfl ls_Seq_61 ?_
  refine r_iload C (z_d dd_Seq_init 55 rfl) rfl ?_
  obtain ⟨h133, h⟩ := zif h
  obtain ⟨h134, h⟩ := zif h
  refine r_oald C (z_d dd_Seq_init 56 rfl) h133 h134 rfl ?_
  refine r_gets (i := 1) C (z_d dd_Seq_init 57 rfl) rfl ls_Seq_64 ?_
  refine r_iload C (z_d dd_Seq_init 58 rfl) rfl ?_
  obtain ⟨h135, h⟩ := zif h
  obtain ⟨h136, h⟩ := zif h
  refine r_oald C (z_d dd_Seq_init 59 rfl) h135 h136 rfl ?_
  obtain ⟨q137, c138, h⟩ := zbd h
  refine r_invIK (as := [zI ((zOD X).2.2.2 ((zOD X).1 2) (1 : Int32).toNatClampNeg), zI ((zOD X).2.2.2 ((zOD X).1 1) (1 : Int32).toNatClampNeg)]) C 10 rfl h132 (S_Share_init c138) (z_d dd_Seq_init 60 rfl) ok_Share_init rfl rfl iv_Share_init ml_Seq_67 rfl rfl rfl (Nat.le_of_ble_eq_true rfl) ⟨(Nat.le_of_ble_eq_true rfl), (Nat.le_of_ble_eq_true rfl)⟩ ⟨(Nat.le_of_ble_eq_true rfl), (Nat.le_of_ble_eq_true rfl)⟩ ?_
  obtain ⟨h139, h⟩ := zif h
  obtain ⟨h140, h⟩ := zif h
  obtain ⟨h141, h⟩ := zif h
  obtain ⟨M142, e143, h⟩ := zlet_ex h
  have h144 := k_p e143 h139
  have h145 := k_p e143 h141
  refine r_aast C (z_d dd_Seq_init 61 rfl) h139 h140 h141 e143 ?_
  refine r_aload_n C (z_d dd_Seq_init 62 rfl) rfl ?_
  obtain ⟨h146, h⟩ := zif h
  refine r_getP C (z_d dd_Seq_init 63 rfl) lk_Seq_47 rfl h146 rfl ?_
  refine r_iload C (z_d dd_Seq_init 64 rfl) rfl ?_
  obtain ⟨M147, e148, h⟩ := zlet_ex h
  have h149 := k_a e148
  refine r_new (c := 10) C (z_d dd_Seq_init 65 rfl) rfl cl_Seq_41 ins_10 ini_10 (Nat.le_of_ble_eq_true rfl) (Nat.le_of_ble_eq_true rfl) e148 ?_
  refine r_dupP C (z_d dd_Seq_init 66 rfl) ?_
  refine r_gets (i := 0) C (z_d dd_Seq_init 67 rfl) rfl ls_Seq_70 ?_
  refine r_iload C (z_d dd_Seq_init 68 rfl) rfl ?_
  obtain ⟨h150, h⟩ := zif h
  obtain ⟨h151, h⟩ := zif h
  refine r_oald C (z_d dd_Seq_init 69 rfl) h150 h151 rfl ?_
  refine r_gets (i := 1) C (z_d dd_Seq_init 70 rfl) rfl ls_Seq_64 ?_
  refine r_iload C (z_d dd_Seq_init 71 rfl) rfl ?_
  obtain ⟨h152, h⟩ := zif h
  obtain ⟨h153, h⟩ := zif h
  refine r_oald C (z_d dd_Seq_init 72 rfl) h152 h153 rfl ?_
  obtain ⟨q154, c155, h⟩ := zbd h
  refine r_invIK (as := [zI ((zOD X).2.2.2 ((zOD X).1 0) (1 : Int32).toNatClampNeg), zI ((zOD X).2.2.2 ((zOD X).1 1) (1 : Int32).toNatClampNeg)]) C 10 rfl h149 (S_Share_init c155) (z_d dd_Seq_init 73 rfl) ok_Share_init rfl rfl iv_Share_init ml_Seq_67 rfl rfl rfl (Nat.le_of_ble_eq_true rfl) ⟨(Nat.le_of_ble_eq_true rfl), (Nat.le_of_ble_eq_true rfl)⟩ ⟨(Nat.le_of_ble_eq_true rfl), (Nat.le_of_ble_eq_true rfl)⟩ ?_
  obtain ⟨h156, h⟩ := zif h
  obtain ⟨h157, h⟩ := zif h
  obtain ⟨h158, h⟩ := zif h
  obtain ⟨M159, e160, h⟩ := zlet_ex h
  have h161 := k_p e160 h156
  have h162 := k_p e160 h158
  refine r_aast C (z_d dd_Seq_init 74 rfl) h156 h157 h158 e160 ?_
  refine r_aload_n C (z_d dd_Seq_init 75 rfl) rfl ?_
  obtain ⟨h163, h⟩ := zif h
  refine r_getP C (z_d dd_Seq_init 76 rfl) lk_Seq_50 rfl h163 rfl ?_
  refine r_iload C (z_d dd_Seq_init 77 rfl) rfl ?_
  refine r_aload_n C (z_d dd_Seq_init 78 rfl) rfl ?_
  refine r_getP C (z_d dd_Seq_init 79 rfl) lk_Seq_43 rfl h163 rfl ?_
  refine r_iload C (z_d dd_Seq_init 80 rfl) rfl ?_
  obtain ⟨h164, h⟩ := zif h
  obtain ⟨h165, h⟩ := zif h
  refine r_aald C (z_d dd_Seq_init 81 rfl) h164 h165 rfl ?_
  obtain ⟨h166, h⟩ := zif h
  obtain ⟨h167, h⟩ := zif h
  obtain ⟨h168, h⟩ := zif h
  obtain ⟨M169, e170, h⟩ := zlet_ex h
  have h171 := k_p e170 h161
  have h172 := k_p e170 h162
  have h173 := k_p e170 h163
  have h174 := k_p e170 h164
  have h175 := k_p e170 h166
  have h176 := k_p e170 h168
  refine r_aast C (z_d dd_Seq_init 82 rfl) h166 h167 h168 e170 ?_
  refine r_aload_n C (z_d dd_Seq_init 83 rfl) rfl ?_
  refine r_getP C (z_d dd_Seq_init 84 rfl) lk_Seq_53 rfl h173 rfl ?_
  refine r_iload C (z_d dd_Seq_init 85 rfl) rfl ?_
  refine r_iconst (v := (0 : Int32)) C (z_d dd_Seq_init 86 rfl) (by decide) ?_
  obtain ⟨h177, h⟩ := zif h
  obtain ⟨h178, h⟩ := zif h
  obtain ⟨M179, e180, h⟩ := zlet_ex h
  have h181 := k_i e180 h171
  have h182 := k_i e180 h172
  have h183 := k_i e180 h173
  have h184 := k_i e180 h174
  have h185 := k_i e180 h175
  have h186 := k_i e180 h176
  have h187 := k_i e180 h177
  refine r_zast C (z_d dd_Seq_init 87 rfl) h177 h178 (by decide) e180 ?_
  refine r_iinc (v := (2 : Int32)) (lv' := [some (zP l0), some (zP l1), some (zP l2), some (zP l3), some (zP l4), some (zI (2 : Int32))]) C (z_d dd_Seq_init 88 rfl) rfl (Nat.le_of_ble_eq_true rfl) (by decide) rfl ?_
  refine r_goto C 88 (z_d dd_Seq_init 89 rfl) (by decide) ?_
  refine r_iload C (z_d dd_Seq_init 46 rfl) rfl ?_
  refine r_iconst (v := (3 : Int32)) C (z_d dd_Seq_init 47 rfl) (by decide) ?_
  refine r_icmp_ge C 174 (z_d dd_Seq_init 48 rfl) (by decide) (fun hc => absurd hc (by decide)) (fun _ => ?_)
  refine r_aload_n C (z_d dd_Seq_init 49 rfl) rfl ?_
  refine r_getP C (z_d dd_Seq_init 50 rfl) lk_Seq_43 rfl h183 rfl ?_
  refine r_iload C (z_d dd_Seq_init 51 rfl) rfl ?_
  obtain ⟨M188, e189, h⟩ := zlet_ex h
  have h190 := k_a e189
  refine r_new (c := 10) C (z_d dd_Seq_init 52 rfl) rfl cl_Seq_41 ins_10 ini_10 (Nat.le_of_ble_eq_true rfl) (Nat.le_of_ble_eq_true rfl) e189 ?_
  refine r_dupP C (z_d dd_Seq_init 53 rfl) ?_
  refine r_gets (i := 2) C (z_d dd_Seq_init 54 rfl) rfl ls_Seq_61 ?_
  refine r_iload C (z_d dd_Seq_init 55 rfl) rfl ?_
  obtain ⟨h191, h⟩ := zif h
  obtain ⟨h192, h⟩ := zif h
  refine r_oald C (z_d dd_Seq_init 56 rfl) h191 h192 rfl ?_
  refine r_gets (i := 1) C (z_d dd_Seq_init 57 rfl) rfl ls_Seq_64 ?_
  refine r_iload C (z_d dd_Seq_init 58 rfl) rfl ?_
  obtain ⟨h193, h⟩ := zif h
  obtain ⟨h194, h⟩ := zif h
  refine r_oald C (z_d dd_Seq_init 59 rfl) h193 h194 rfl ?_
  obtain ⟨q195, c196, h⟩ := zbd h
  refine r_invIK (as := [zI ((zOD X).2.2.2 ((zOD X).1 2) (2 : Int32).toNatClampNeg), zI ((zOD X).2.2.2 ((zOD X).1 1) (2 : Int32).toNatClampNeg)]) C 10 rfl h190 (S_Share_init c196) (z_d dd_Seq_init 60 rfl) ok_Share_init rfl rfl iv_Share_init ml_Seq_67 rfl rfl rfl (Nat.le_of_ble_eq_true rfl) ⟨(Nat.le_of_ble_eq_true rfl), (Nat.le_of_ble_eq_true rfl)⟩ ⟨(Nat.le_of_ble_eq_true rfl), (Nat.le_of_ble_eq_true rfl)⟩ ?_
  obtain ⟨h197, h⟩ := zif h
  obtain ⟨h198, h⟩ := zif h
  obtain ⟨h199, h⟩ := zif h
  obtain ⟨M200, e201, h⟩ := zlet_ex h
  have h202 := k_p e201 h197
  have h203 := k_p e201 h199
  refine r_aast C (z_d dd_Seq_init 61 rfl) h197 h198 h199 e201 ?_
  refine r_aload_n C (z_d dd_Seq_init 62 rfl) rfl ?_
  obtain ⟨h204, h⟩ := zif h
  refine r_getP C (z_d dd_Seq_init 63 rfl) lk_Seq_47 rfl h204 rfl ?_
  refine r_iload C (z_d dd_Seq_init 64 rfl) rfl ?_
  obtain ⟨M205, e206, h⟩ := zlet_ex h
  have h207 := k_a e206
  refine r_new (c := 10) C (z_d dd_Seq_init 65 rfl) rfl cl_Seq_41 ins_10 ini_10 (Nat.le_of_ble_eq_true rfl) (Nat.le_of_ble_eq_true rfl) e206 ?_
  refine r_dupP C (z_d dd_Seq_init 66 rfl) ?_
  refine r_gets (i := 0) C (z_d dd_Seq_init 67 rfl) rfl ls_Seq_70 ?_
  refine r_iload C (z_d dd_Seq_init 68 rfl) rfl ?_
  obtain ⟨h208, h⟩ := zif h
  obtain ⟨h209, h⟩ := zif h
  refine r_oald C (z_d dd_Seq_init 69 rfl) h208 h209 rfl ?_
  refine r_gets (i := 1) C (z_d dd_Seq_init 70 rfl) rfl ls_Seq_64 ?_
  refine r_iload C (z_d dd_Seq_init 71 rfl) rfl ?_
  obtain ⟨h210, h⟩ := zif h
  obtain ⟨h211, h⟩ := zif h
  refine r_oald C (z_d dd_Seq_init 72 rfl) h210 h211 rfl ?_
  obtain ⟨q212, c213, h⟩ := zbd h
  refine r_invIK (as := [zI ((zOD X).2.2.2 ((zOD X).1 0) (2 : Int32).toNatClampNeg), zI ((zOD X).2.2.2 ((zOD X).1 1) (2 : Int32).toNatClampNeg)]) C 10 rfl h207 (S_Share_init c213) (z_d dd_Seq_init 73 rfl) ok_Share_init rfl rfl iv_Share_init ml_Seq_67 rfl rfl rfl (Nat.le_of_ble_eq_true rfl) ⟨(Nat.le_of_ble_eq_true rfl), (Nat.le_of_ble_eq_true rfl)⟩ ⟨(Nat.le_of_ble_eq_true rfl), (Nat.le_of_ble_eq_true rfl)⟩ ?_
  obtain ⟨h214, h⟩ := zif h
  obtain ⟨h215, h⟩ := zif h
  obtain ⟨h216, h⟩ := zif h
  obtain ⟨M217, e218, h⟩ := zlet_ex h
  have h219 := k_p e218 h214
  have h220 := k_p e218 h216
  refine r_aast C (z_d dd_Seq_init 74 rfl) h214 h215 h216 e218 ?_
  refine r_aload_n C (z_d dd_Seq_init 75 rfl) rfl ?_
  obtain ⟨h221, h⟩ := zif h
  refine r_getP C (z_d dd_Seq_init 76 rfl) lk_Seq_50 rfl h221 rfl ?_
  refine r_iload C (z_d dd_Seq_init 77 rfl) rfl ?_
  refine r_aload_n C (z_d dd_Seq_init 78 rfl) rfl ?_
  refine r_getP C (z_d dd_Seq_init 79 rfl) lk_Seq_43 rfl h221 rfl ?_
  refine r_iload C (z_d dd_Seq_init 80 rfl) rfl ?_
  obtain ⟨h222, h⟩ := zif h
  obtain ⟨h223, h⟩ := zif h
  refine r_aald C (z_d dd_Seq_init 81 rfl) h222 h223 rfl ?_
  obtain ⟨h224, h⟩ := zif h
  obtain ⟨h225, h⟩ := zif h
  obtain ⟨h226, h⟩ := zif h
  obtain ⟨M227, e228, h⟩ := zlet_ex h
  have h229 := k_p e228 h219
  have h230 := k_p e228 h220
  have h231 := k_p e228 h221
  have h232 := k_p e228 h222
  have h233 := k_p e228 h224
  have h234 := k_p e228 h226
  refine r_aast C (z_d dd_Seq_init 82 rfl) h224 h225 h226 e228 ?_
  refine r_aload_n C (z_d dd_Seq_init 83 rfl) rfl ?_
  refine r_getP C (z_d dd_Seq_init 84 rfl) lk_Seq_53 rfl h231 rfl ?_
  refine r_iload C (z_d dd_Seq_init 85 rfl) rfl ?_
  refine r_iconst (v := (0 : Int32)) C (z_d dd_Seq_init 86 rfl) (by decide) ?_
  obtain ⟨h235, h⟩ := zif h
  obtain ⟨h236, h⟩ := zif h
  obtain ⟨M237, e238, h⟩ := zlet_ex h
  have h239 := k_i e238 h229
  have h240 := k_i e238 h230
  have h241 := k_i e238 h231
  have h242 := k_i e238 h232
  have h243 := k_i e238 h233
  have h244 := k_i e238 h234
  have h245 := k_i e238 h235
  refine r_zast C (z_d dd_Seq_init 87 rfl) h235 h236 (by decide) e238 ?_
  refine r_iinc (v := (3 : Int32)) (lv' := [some (zP l0), some (zP l1), some (zP l2), some (zP l3), some (zP l4), some (zI (3 : Int32))]) C (z_d dd_Seq_init 88 rfl) rfl (Nat.le_of_ble_eq_true rfl) (by decide) rfl ?_
  refine r_goto C 88 (z_d dd_Seq_init 89 rfl) (by decide) ?_
  refine r_iload C (z_d dd_Seq_init 46 rfl) rfl ?_
  refine r_iconst (v := (3 : Int32)) C (z_d dd_Seq_init 47 rfl) (by decide) ?_
  refine r_icmp_ge C 174 (z_d dd_Seq_init 48 rfl) (by decide) (fun _ => ?_) (fun hc => absurd hc (by decide))
  refine r_aload_n C (z_d dd_Seq_init 90 rfl) rfl ?_
  refine r_getP C (z_d dd_Seq_init 91 rfl) lk_Seq_43 rfl h241 rfl ?_
  refine r_iconst (v := (0 : Int32)) C (z_d dd_Seq_init 92 rfl) (by decide) ?_
  obtain ⟨h246, h⟩ := zif h
  obtain ⟨h247, h⟩ := zif h
  refine r_aald C (z_d dd_Seq_init 93 rfl) h246 h247 rfl ?_
  refine r_gets (i := 2) C (z_d dd_Seq_init 94 rfl) rfl ls_Seq_61 ?_
  refine r_iconst (v := (0 : Int32)) C (z_d dd_Seq_init 95 rfl) (by decide) ?_
  obtain ⟨h248, h⟩ := zif h
  obtain ⟨h249, h⟩ := zif h
  refine r_oald C (z_d dd_Seq_init 96 rfl) h248 h249 rfl ?_
  refine r_gets (i := 3) C (z_d dd_Seq_init 97 rfl) rfl ls_Seq_73 ?_
  obtain ⟨h250, h⟩ := zif h
  obtain ⟨q251, c252, h⟩ := zbd h
  refine r_invV (as := [zI ((zOD X).2.2.2 ((zOD X).1 2) (0 : Int32).toNatClampNeg), zP ((zOD X).1 3)]) C 10 (S_Share_setPoints c252) (z_d dd_Seq_init 98 rfl) ok_Share_setPoints iv_Share_setPoints se_Share_setPoints ml_Seq_76 rfl rfl h250 rfl rfl rfl (Nat.le_of_ble_eq_true rfl) ⟨(Nat.le_of_ble_eq_true rfl), (Nat.le_of_ble_eq_true rfl)⟩ ⟨(Nat.le_of_ble_eq_true rfl), (Nat.le_of_ble_eq_true rfl)⟩ ?_
  refine r_aload_n C (z_d dd_Seq_init 99 rfl) rfl ?_
  obtain ⟨h253, h⟩ := zif h
  refine r_getP C (z_d dd_Seq_init 100 rfl) lk_Seq_43 rfl h253 rfl ?_
  refine r_iconst (v := (1 : Int32)) C (z_d dd_Seq_init 101 rfl) (by decide) ?_
  obtain ⟨h254, h⟩ := zif h
  obtain ⟨h255, h⟩ := zif h
  refine r_aald C (z_d dd_Seq_init 102 rfl) h254 h255 rfl ?_
  refine r_gets (i := 2) C (z_d dd_Seq_init 103 rfl) rfl ls_Seq_61 ?_
  refine r_iconst (v := (1 : Int32)) C (z_d dd_Seq_init 104 rfl) (by decide) ?_
  obtain ⟨h256, h⟩ := zif h
  obtain ⟨h257, h⟩ := zif h
  refine r_oald C (z_d dd_Seq_init 105 rfl) h256 h257 rfl ?_
  refine r_gets (i := 4) C (z_d dd_Seq_init 106 rfl) rfl ls_Seq_80 ?_
  obtain ⟨h258, h⟩ := zif h
  obtain ⟨q259, c260, h⟩ := zbd h
  refine r_invV (as := [zI ((zOD X).2.2.2 ((zOD X).1 2) (1 : Int32).toNatClampNeg), zP ((zOD X).1 4)]) C 10 (S_Share_setPoints c260) (z_d dd_Seq_init 107 rfl) ok_Share_setPoints iv_Share_setPoints se_Share_setPoints ml_Seq_76 rfl rfl h258 rfl rfl rfl (Nat.le_of_ble_eq_true rfl) ⟨(Nat.le_of_ble_eq_true rfl), (Nat.le_of_ble_eq_true rfl)⟩ ⟨(Nat.le_of_ble_eq_true rfl), (Nat.le_of_ble_eq_true rfl)⟩ ?_
  refine r_aload_n C (z_d dd_Seq_init 108 rfl) rfl ?_
  obtain ⟨h261, h⟩ := zif h
  refine r_getP C (z_d dd_Seq_init 109 rfl) lk_Seq_43 rfl h261 rfl ?_
  refine r_iconst (v := (2 : Int32)) C (z_d dd_Seq_init 110 rfl) (by decide) ?_
  obtain ⟨h262, h⟩ := zif h
  obtain ⟨h263, h⟩ := zif h
  refine r_aald C (z_d dd_Seq_init 111 rfl) h262 h263 rfl ?_
  refine r_gets (i := 2) C (z_d dd_Seq_init 112 rfl) rfl ls_Seq_61 ?_
  refine r_iconst (v := (2 : Int32)) C (z_d dd_Seq_init 113 rfl) (by decide) ?_
  obtain ⟨h264, h⟩ := zif h
  obtain ⟨h265, h⟩ := zif h
  refine r_oald C (z_d dd_Seq_init 114 rfl) h264 h265 rfl ?_
  refine r_gets (i := 5) C (z_d dd_Seq_init 115 rfl) rfl ls_Seq_83 ?_
  obtain ⟨h266, h⟩ := zif h
  obtain ⟨q267, c268, h⟩ := zbd h
  refine r_invV (as := [zI ((zOD X).2.2.2 ((zOD X).1 2) (2 : Int32).toNatClampNeg), zP ((zOD X).1 5)]) C 10 (S_Share_setPoints c268) (z_d dd_Seq_init 116 rfl) ok_Share_setPoints iv_Share_setPoints se_Share_setPoints ml_Seq_76 rfl rfl h266 rfl rfl rfl (Nat.le_of_ble_eq_true rfl) ⟨(Nat.le_of_ble_eq_true rfl), (Nat.le_of_ble_eq_true rfl)⟩ ⟨(Nat.le_of_ble_eq_true rfl), (Nat.le_of_ble_eq_true rfl)⟩ ?_
  obtain rfl := z_res h
  exact r_vret C E hr (z_d dd_Seq_init 117 rfl) (Nat.le_of_ble_eq_true rfl) (Nat.le_of_ble_eq_true rfl)
def F_Seq_init (O : zO) (n : Nat) (l0 : Nat) (l1 : Nat) (l2 : Nat) (l3 : Nat) (l4 : Nat) (M : zM) : Option (Unit × zM) := f_Seq_init_0 O n l0 l1 l2 l3 l4 M
theorem S_Seq_init {l : Launch} {D : zD} {n : Nat} {l0 : Nat} {l1 : Nat} {l2 : Nat} {l3 : Nat} {l4 : Nat} {M : zM} {q : Unit × zM} (h : F_Seq_init D.2.2.2.2 n l0 l1 l2 l3 l4 M = some q) : zMet l D mi_Seq_init [zP l0, zP l1, zP l2, zP l3, zP l4] M none q.2 :=
  z_met (by decide) (Nat.le_of_ble_eq_true rfl) (fun X C E hr hin hD hl => by
    subst hD
    exact s_Seq_init_0 C hr (hin rfl) E n l0 l1 l2 l3 l4 M h)

def f_FR_init_0 (O : zO) (n : Nat) (l0 : Nat) (l1 : Nat) (l2 : Nat) (l3 : Nat) (l4 : Nat) (M : zM) : Option (Unit × zM) :=
  if z_k M l0 = 5 then
  zlet (w_p M l0 0 l1) fun M2 =>
  zlet (w_p M2 l0 1 l2) fun M5 =>
  zlet (w_p M5 l0 2 l3) fun M8 =>
  zlet (w_p M8 l0 3 l4) fun M11 =>
  zlet (w_a M11 7 0) fun M14 =>
  (F_Lit_init O n (z_s M11 + 1) l1 l3 M14).bind fun q17 =>
  if z_k q17.2 l0 = 5 then
  zlet (w_p q17.2 l0 4 (z_s M11 + 1)) fun M20 =>
  zlet (w_a M20 10 0) fun M23 =>
  if z_k M23 l0 = 5 then
  (F_Seq_init O n (z_s M20 + 1) l1 l3 l4 (z_p M23 l0 4) M23).bind fun q27 =>
  if z_k q27.2 l0 = 5 then
  zlet (w_p q27.2 l0 5 (z_s M20 + 1)) fun M30 =>
  zlet (w_i M30 l0 6 (0 : Int32)) fun M33 =>
  zlet (w_i M33 l0 7 (0 : Int32)) fun M36 =>
  zlet (w_i M36 l0 8 (0 : Int32)) fun M39 =>
  zlet (w_i M39 l0 9 (0 : Int32)) fun M42 =>
  zlet (w_j M42 l0 10 (0 : Int64)) fun M45 =>
  zlet (w_i M45 l0 11 (0 : Int32)) fun M48 =>
  some ((), M48)
  else none
  else none
  else none
  else none
set_option maxRecDepth 100000 in
set_option maxHeartbeats 4000000 in
theorem s_FR_init_0 {X : zX} {q : Unit × zM} (C : zC X zR4 prog_5_method_1_code 5 { frames := 5, cells := 59, slots := 46959, locals := 118 }) (hr : zRt X none) (hin : zIn X) (E : zE X none q.2 59 46959) : ∀ (n : Nat) (l0 : Nat) (l1 : Nat) (l2 : Nat) (l3 : Nat) (l4 : Nat) (M : zM), f_FR_init_0 (zOD X) n l0 l1 l2 l3 l4 M = some q → zW X 0 0 0 [some (zP l0), some (zP l1), some (zP l2), some (zP l3), some (zP l4)] [] M := by
  intro n l0 l1 l2 l3 l4 M h
  rw [f_FR_init_0] at h
  refine r_aload_n C (z_d dd_FR_init 0 rfl) rfl ?_
  obtain ⟨h1, h⟩ := zif h
  refine r_objK C 4 rfl h1 (z_d dd_FR_init 1 rfl) ml_FR_3 oi_i oi_c rfl (Nat.le_of_ble_eq_true rfl) ⟨(Nat.le_of_ble_eq_true rfl), (Nat.le_of_ble_eq_true rfl)⟩ ?_
  refine r_aload_n C (z_d dd_FR_init 2 rfl) rfl ?_
  refine r_aload_n C (z_d dd_FR_init 3 rfl) rfl ?_
  obtain ⟨M2, e3, h⟩ := zlet_ex h
  have h4 := k_p e3 h1
  refine r_putFP C hin (z_d dd_FR_init 4 rfl) lf_FR_9 rfl h1 e3 ?_
  refine r_aload_n C (z_d dd_FR_init 5 rfl) rfl ?_
  refine r_aload_n C (z_d dd_FR_init 6 rfl) rfl ?_
  obtain ⟨M5, e6, h⟩ := zlet_ex h
  have h7 := k_p e6 h4
  refine r_putFP C hin (z_d dd_FR_init 7 rfl) lf_FR_15 rfl h4 e6 ?_
  refine r_aload_n C (z_d dd_FR_init 8 rfl) rfl ?_
  refine r_aload_n C (z_d dd_FR_init 9 rfl) rfl ?_
  obtain ⟨M8, e9, h⟩ := zlet_ex h
  have h10 := k_p e9 h7
  refine r_putFP C hin (z_d dd_FR_init 10 rfl) lf_FR_19 rfl h7 e9 ?_
  refine r_aload_n C (z_d dd_FR_init 11 rfl) rfl ?_
  refine r_aload C (z_d dd_FR_init 12 rfl) rfl ?_
  obtain ⟨M11, e12, h⟩ := zlet_ex h
  have h13 := k_p e12 h10
  refine r_putFP C hin (z_d dd_FR_init 13 rfl) lf_FR_23 rfl h10 e12 ?_
  refine r_aload_n C (z_d dd_FR_init 14 rfl) rfl ?_
  obtain ⟨M14, e15, h⟩ := zlet_ex h
  have h16 := k_a e15
  refine r_new (c := 6) C (z_d dd_FR_init 15 rfl) rfl cl_FR_27 ins_6 ini_6 (Nat.le_of_ble_eq_true rfl) (Nat.le_of_ble_eq_true rfl) e15 ?_
  refine r_dupP C (z_d dd_FR_init 16 rfl) ?_
  refine r_aload_n C (z_d dd_FR_init 17 rfl) rfl ?_
  refine r_aload_n C (z_d dd_FR_init 18 rfl) rfl ?_
  obtain ⟨q17, c18, h⟩ := zbd h
  refine r_invIK (as := [zP l1, zP l3]) C 6 rfl h16 (S_Lit_init c18) (z_d dd_FR_init 19 rfl) ok_Lit_init rfl rfl iv_Lit_init ml_FR_29 rfl rfl rfl (Nat.le_of_ble_eq_true rfl) ⟨(Nat.le_of_ble_eq_true rfl), (Nat.le_of_ble_eq_true rfl)⟩ ⟨(Nat.le_of_ble_eq_true rfl), (Nat.le_of_ble_eq_true rfl)⟩ ?_
  obtain ⟨h19, h⟩ := zif h
  obtain ⟨M20, e21, h⟩ := zlet_ex h
  have h22 := k_p e21 h19
  refine r_putFP C hin (z_d dd_FR_init 20 rfl) lf_FR_32 rfl h19 e21 ?_
  refine r_aload_n C (z_d dd_FR_init 21 rfl) rfl ?_
  obtain ⟨M23, e24, h⟩ := zlet_ex h
  have h25 := k_a e24
  refine r_new (c := 9) C (z_d dd_FR_init 22 rfl) rfl cl_FR_36 ins_9 ini_9 (Nat.le_of_ble_eq_true rfl) (Nat.le_of_ble_eq_true rfl) e24 ?_
  refine r_dupP C (z_d dd_FR_init 23 rfl) ?_
  refine r_aload_n C (z_d dd_FR_init 24 rfl) rfl ?_
  refine r_aload_n C (z_d dd_FR_init 25 rfl) rfl ?_
  refine r_aload C (z_d dd_FR_init 26 rfl) rfl ?_
  refine r_aload_n C (z_d dd_FR_init 27 rfl) rfl ?_
  obtain ⟨h26, h⟩ := zif h
  refine r_getP C (z_d dd_FR_init 28 rfl) lk_FR_32 rfl h26 rfl ?_
  obtain ⟨q27, c28, h⟩ := zbd h
  refine r_invIK (as := [zP l1, zP l3, zP l4, zP (z_p M23 l0 4)]) C 9 rfl h25 (S_Seq_init c28) (z_d dd_FR_init 29 rfl) ok_Seq_init rfl rfl iv_Seq_init ml_FR_38 rfl rfl rfl (Nat.le_of_ble_eq_true rfl) ⟨(Nat.le_of_ble_eq_true rfl), (Nat.le_of_ble_eq_true rfl)⟩ ⟨(Nat.le_of_ble_eq_true rfl), (Nat.le_of_ble_eq_true rfl)⟩ ?_
  obtain ⟨h29, h⟩ := zif h
  obtain ⟨M30, e31, h⟩ := zlet_ex h
  have h32 := k_p e31 h29
  refine r_putFP C hin (z_d dd_FR_init 30 rfl) lf_FR_41 rfl h29 e31 ?_
  refine r_aload_n C (z_d dd_FR_init 31 rfl) rfl ?_
  refine r_iconst (v := (0 : Int32)) C (z_d dd_FR_init 32 rfl) (by decide) ?_
  obtain ⟨M33, e34, h⟩ := zlet_ex h
  have h35 := k_i e34 h32
  refine r_putI C (z_d dd_FR_init 33 rfl) lp_FR_45 rfl h32 e34 ?_
  refine r_aload_n C (z_d dd_FR_init 34 rfl) rfl ?_
  refine r_iconst (v := (0 : Int32)) C (z_d dd_FR_init 35 rfl) (by decide) ?_
  obtain ⟨M36, e37, h⟩ := zlet_ex h
  have h38 := k_i e37 h35
  refine r_putZ C (z_d dd_FR_init 36 rfl) lp_FR_49 rfl (by decide) h35 e37 ?_
  refine r_aload_n C (z_d dd_FR_init 37 rfl) rfl ?_
  refine r_iconst (v := (0 : Int32)) C (z_d dd_FR_init 38 rfl) (by decide) ?_
  obtain ⟨M39, e40, h⟩ := zlet_ex h
  have h41 := k_i e40 h38
  refine r_putZ C (z_d dd_FR_init 39 rfl) lp_FR_53 rfl (by decide) h38 e40 ?_
  refine r_aload_n C (z_d dd_FR_init 40 rfl) rfl ?_
  refine r_iconst (v := (0 : Int32)) C (z_d dd_FR_init 41 rfl) (by decide) ?_
  obtain ⟨M42, e43, h⟩ := zlet_ex h
  have h44 := k_i e43 h41
  refine r_putZ C (z_d dd_FR_init 42 rfl) lp_FR_56 rfl (by decide) h41 e43 ?_
  refine r_aload_n C (z_d dd_FR_init 43 rfl) rfl ?_
  refine r_lconst (v := (0 : Int64)) C (z_d dd_FR_init 44 rfl) (by decide) ?_
  obtain ⟨M45, e46, h⟩ := zlet_ex h
  have h47 := k_j e46 h44
  refine r_putL C (z_d dd_FR_init 45 rfl) lp_FR_59 rfl h44 e46 ?_
  refine r_aload_n C (z_d dd_FR_init 46 rfl) rfl ?_
  refine r_iconst (v := (0 : Int32)) C (z_d dd_FR_init 47 rfl) (by decide) ?_
  obtain ⟨M48, e49, h⟩ := zlet_ex h
  have h50 := k_i e49 h47
  refine r_putI C (z_d dd_FR_init 48 rfl) lp_FR_63 rfl h47 e49 ?_
  obtain rfl := z_res h
  exact r_vret C E hr (z_d dd_FR_init 49 rfl) (Nat.le_of_ble_eq_true rfl) (Nat.le_of_ble_eq_true rfl)
def F_FR_init (O : zO) (n : Nat) (l0 : Nat) (l1 : Nat) (l2 : Nat) (l3 : Nat) (l4 : Nat) (M : zM) : Option (Unit × zM) := f_FR_init_0 O n l0 l1 l2 l3 l4 M
theorem S_FR_init {l : Launch} {D : zD} {n : Nat} {l0 : Nat} {l1 : Nat} {l2 : Nat} {l3 : Nat} {l4 : Nat} {M : zM} {q : Unit × zM} (h : F_FR_init D.2.2.2.2 n l0 l1 l2 l3 l4 M = some q) : zMet l D mi_FR_init [zP l0, zP l1, zP l2, zP l3, zP l4] M none q.2 :=
  z_met (by decide) (Nat.le_of_ble_eq_true rfl) (fun X C E hr hin hD hl => by
    subst hD
    exact s_FR_init_0 C hr (hin rfl) E n l0 l1 l2 l3 l4 M h)

def f_SF_init_0 (O : zO) (n : Nat) (l0 : Nat) (M : zM) : Option (Unit × zM) :=
  if z_k M l0 = 1 then
  zlet (w_a M 9 0) fun M2 =>
  (F_Row_init O n (z_s M + 1) (12000 : Int32) M2).bind fun q5 =>
  if z_k q5.2 l0 = 1 then
  zlet (w_p q5.2 l0 0 (z_s M + 1)) fun M8 =>
  zlet (w_a M8 9 0) fun M11 =>
  (F_Row_init O n (z_s M8 + 1) (32768 : Int32) M11).bind fun q14 =>
  if z_k q14.2 l0 = 1 then
  zlet (w_p q14.2 l0 1 (z_s M8 + 1)) fun M17 =>
  zlet (w_a M17 4 0) fun M20 =>
  (F_Dict_init O n (z_s M17 + 1) M20).bind fun q23 =>
  if z_k q23.2 l0 = 1 then
  zlet (w_p q23.2 l0 2 (z_s M17 + 1)) fun M26 =>
  zlet (w_a M26 8 0) fun M29 =>
  (F_Rep_init O n (z_s M26 + 1) M29).bind fun q32 =>
  if z_k q32.2 l0 = 1 then
  zlet (w_p q32.2 l0 3 (z_s M26 + 1)) fun M35 =>
  zlet (w_a M35 3 0) fun M38 =>
  if z_k M38 l0 = 1 then
  if z_k M38 (z_p M38 l0 2) = 4 then
  (F_Content_init O n (z_s M35 + 1) (z_p M38 (z_p M38 l0 2) 0) M38).bind fun q43 =>
  if z_k q43.2 l0 = 1 then
  zlet (w_p q43.2 l0 4 (z_s M35 + 1)) fun M46 =>
  zlet (w_a M46 5 0) fun M49 =>
  if z_k M49 l0 = 1 then
  (F_FR_init O n (z_s M46 + 1) (z_p M49 l0 0) (z_p M49 l0 2) (z_p M49 l0 3) (z_p M49 l0 4) M49).bind fun q53 =>
  if z_k q53.2 l0 = 1 then
  zlet (w_p q53.2 l0 5 (z_s M46 + 1)) fun M56 =>
  some ((), M56)
  else none
  else none
  else none
  else none
  else none
  else none
  else none
  else none
  else none
  else none
set_option maxRecDepth 100000 in
set_option maxHeartbeats 4000000 in
theorem s_SF_init_0 {X : zX} {q : Unit × zM} (C : zC X zR0 prog_1_method_1_code 1 { frames := 6, cells := 132, slots := 196444, locals := 142 }) (hr : zRt X none) (hin : zIn X) (E : zE X none q.2 132 196444) : ∀ (n : Nat) (l0 : Nat) (M : zM), f_SF_init_0 (zOD X) n l0 M = some q → zW X 0 0 0 [some (zP l0)] [] M := by
  intro n l0 M h
  rw [f_SF_init_0] at h
  refine r_aload_n C (z_d dd_SF_init 0 rfl) rfl ?_
  obtain ⟨h1, h⟩ := zif h
  refine r_objK C 0 rfl h1 (z_d dd_SF_init 1 rfl) ml_SF_1 oi_i oi_c rfl (Nat.le_of_ble_eq_true rfl) ⟨(Nat.le_of_ble_eq_true rfl), (Nat.le_of_ble_eq_true rfl)⟩ ?_
  refine r_aload_n C (z_d dd_SF_init 2 rfl) rfl ?_
  obtain ⟨M2, e3, h⟩ := zlet_ex h
  have h4 := k_a e3
  refine r_new (c := 8) C (z_d dd_SF_init 3 rfl) rfl cl_SF_7 ins_8 ini_8 (Nat.le_of_ble_eq_true rfl) (Nat.le_of_ble_eq_true rfl) e3 ?_
  refine r_dupP C (z_d dd_SF_init 4 rfl) ?_
  refine r_sipush (v := (12000 : Int32)) C (z_d dd_SF_init 5 rfl) (by decide) ?_
  obtain ⟨q5, c6, h⟩ := zbd h
  refine r_invIK (as := [zI (12000 : Int32)]) C 8 rfl h4 (S_Row_init c6) (z_d dd_SF_init 6 rfl) ok_Row_init rfl rfl iv_Row_init ml_SF_11 rfl rfl rfl (Nat.le_of_ble_eq_true rfl) ⟨(Nat.le_of_ble_eq_true rfl), (Nat.le_of_ble_eq_true rfl)⟩ ⟨(Nat.le_of_ble_eq_true rfl), (Nat.le_of_ble_eq_true rfl)⟩ ?_
  obtain ⟨h7, h⟩ := zif h
  obtain ⟨M8, e9, h⟩ := zlet_ex h
  have h10 := k_p e9 h7
  refine r_putFP C hin (z_d dd_SF_init 7 rfl) lf_SF_14 rfl h7 e9 ?_
  refine r_aload_n C (z_d dd_SF_init 8 rfl) rfl ?_
  obtain ⟨M11, e12, h⟩ := zlet_ex h
  have h13 := k_a e12
  refine r_new (c := 8) C (z_d dd_SF_init 9 rfl) rfl cl_SF_7 ins_8 ini_8 (Nat.le_of_ble_eq_true rfl) (Nat.le_of_ble_eq_true rfl) e12 ?_
  refine r_dupP C (z_d dd_SF_init 10 rfl) ?_
  refine r_ldc (v := (32768 : Int32)) C (z_d dd_SF_init 11 rfl) ki_SF_18 ?_
  obtain ⟨q14, c15, h⟩ := zbd h
  refine r_invIK (as := [zI (32768 : Int32)]) C 8 rfl h13 (S_Row_init c15) (z_d dd_SF_init 12 rfl) ok_Row_init rfl rfl iv_Row_init ml_SF_11 rfl rfl rfl (Nat.le_of_ble_eq_true rfl) ⟨(Nat.le_of_ble_eq_true rfl), (Nat.le_of_ble_eq_true rfl)⟩ ⟨(Nat.le_of_ble_eq_true rfl), (Nat.le_of_ble_eq_true rfl)⟩ ?_
  obtain ⟨h16, h⟩ := zif h
  obtain ⟨M17, e18, h⟩ := zlet_ex h
  have h19 := k_p e18 h16
  refine r_putFP C hin (z_d dd_SF_init 13 rfl) lf_SF_19 rfl h16 e18 ?_
  refine r_aload_n C (z_d dd_SF_init 14 rfl) rfl ?_
  obtain ⟨M20, e21, h⟩ := zlet_ex h
  have h22 := k_a e21
  refine r_new (c := 3) C (z_d dd_SF_init 15 rfl) rfl cl_SF_22 ins_3 ini_3 (Nat.le_of_ble_eq_true rfl) (Nat.le_of_ble_eq_true rfl) e21 ?_
  refine r_dupP C (z_d dd_SF_init 16 rfl) ?_
  obtain ⟨q23, c24, h⟩ := zbd h
  refine r_invIK (as := []) C 3 rfl h22 (S_Dict_init c24) (z_d dd_SF_init 17 rfl) ok_Dict_init rfl rfl iv_Dict_init ml_SF_24 rfl rfl rfl (Nat.le_of_ble_eq_true rfl) ⟨(Nat.le_of_ble_eq_true rfl), (Nat.le_of_ble_eq_true rfl)⟩ ⟨(Nat.le_of_ble_eq_true rfl), (Nat.le_of_ble_eq_true rfl)⟩ ?_
  obtain ⟨h25, h⟩ := zif h
  obtain ⟨M26, e27, h⟩ := zlet_ex h
  have h28 := k_p e27 h25
  refine r_putFP C hin (z_d dd_SF_init 18 rfl) lf_SF_25 rfl h25 e27 ?_
  refine r_aload_n C (z_d dd_SF_init 19 rfl) rfl ?_
  obtain ⟨M29, e30, h⟩ := zlet_ex h
  have h31 := k_a e30
  refine r_new (c := 7) C (z_d dd_SF_init 20 rfl) rfl cl_SF_29 ins_7 ini_7 (Nat.le_of_ble_eq_true rfl) (Nat.le_of_ble_eq_true rfl) e30 ?_
  refine r_dupP C (z_d dd_SF_init 21 rfl) ?_
  obtain ⟨q32, c33, h⟩ := zbd h
  refine r_invNK (as := []) C 7 rfl h31 (S_Rep_init c33) (z_d dd_SF_init 22 rfl) ok_Rep_init rfl rfl iv_Rep_init mn_SF_31 rfl rfl rfl (Nat.le_of_ble_eq_true rfl) ⟨(Nat.le_of_ble_eq_true rfl), (Nat.le_of_ble_eq_true rfl)⟩ ⟨(Nat.le_of_ble_eq_true rfl), (Nat.le_of_ble_eq_true rfl)⟩ ?_
  obtain ⟨h34, h⟩ := zif h
  obtain ⟨M35, e36, h⟩ := zlet_ex h
  have h37 := k_p e36 h34
  refine r_putFP C hin (z_d dd_SF_init 23 rfl) lf_SF_32 rfl h34 e36 ?_
  refine r_aload_n C (z_d dd_SF_init 24 rfl) rfl ?_
  obtain ⟨M38, e39, h⟩ := zlet_ex h
  have h40 := k_a e39
  refine r_new (c := 2) C (z_d dd_SF_init 25 rfl) rfl cl_SF_36 ins_2 ini_2 (Nat.le_of_ble_eq_true rfl) (Nat.le_of_ble_eq_true rfl) e39 ?_
  refine r_dupP C (z_d dd_SF_init 26 rfl) ?_
  refine r_aload_n C (z_d dd_SF_init 27 rfl) rfl ?_
  obtain ⟨h41, h⟩ := zif h
  refine r_getP C (z_d dd_SF_init 28 rfl) lk_SF_25 rfl h41 rfl ?_
  obtain ⟨h42, h⟩ := zif h
  refine r_getP C (z_d dd_SF_init 29 rfl) lk_SF_38 rfl h42 rfl ?_
  obtain ⟨q43, c44, h⟩ := zbd h
  refine r_invIK (as := [zP (z_p M38 (z_p M38 l0 2) 0)]) C 2 rfl h40 (S_Content_init c44) (z_d dd_SF_init 30 rfl) ok_Content_init rfl rfl iv_Content_init ml_SF_41 rfl rfl rfl (Nat.le_of_ble_eq_true rfl) ⟨(Nat.le_of_ble_eq_true rfl), (Nat.le_of_ble_eq_true rfl)⟩ ⟨(Nat.le_of_ble_eq_true rfl), (Nat.le_of_ble_eq_true rfl)⟩ ?_
  obtain ⟨h45, h⟩ := zif h
  obtain ⟨M46, e47, h⟩ := zlet_ex h
  have h48 := k_p e47 h45
  refine r_putFP C hin (z_d dd_SF_init 31 rfl) lf_SF_44 rfl h45 e47 ?_
  refine r_aload_n C (z_d dd_SF_init 32 rfl) rfl ?_
  obtain ⟨M49, e50, h⟩ := zlet_ex h
  have h51 := k_a e50
  refine r_new (c := 4) C (z_d dd_SF_init 33 rfl) rfl cl_SF_47 ins_4 ini_4 (Nat.le_of_ble_eq_true rfl) (Nat.le_of_ble_eq_true rfl) e50 ?_
  refine r_dupP C (z_d dd_SF_init 34 rfl) ?_
  refine r_aload_n C (z_d dd_SF_init 35 rfl) rfl ?_
  obtain ⟨h52, h⟩ := zif h
  refine r_getP C (z_d dd_SF_init 36 rfl) lk_SF_14 rfl h52 rfl ?_
  refine r_aload_n C (z_d dd_SF_init 37 rfl) rfl ?_
  refine r_getP C (z_d dd_SF_init 38 rfl) lk_SF_25 rfl h52 rfl ?_
  refine r_aload_n C (z_d dd_SF_init 39 rfl) rfl ?_
  refine r_getP C (z_d dd_SF_init 40 rfl) lk_SF_32 rfl h52 rfl ?_
  refine r_aload_n C (z_d dd_SF_init 41 rfl) rfl ?_
  refine r_getP C (z_d dd_SF_init 42 rfl) lk_SF_44 rfl h52 rfl ?_
  obtain ⟨q53, c54, h⟩ := zbd h
  refine r_invIK (as := [zP (z_p M49 l0 0), zP (z_p M49 l0 2), zP (z_p M49 l0 3), zP (z_p M49 l0 4)]) C 4 rfl h51 (S_FR_init c54) (z_d dd_SF_init 43 rfl) ok_FR_init rfl rfl iv_FR_init ml_SF_49 rfl rfl rfl (Nat.le_of_ble_eq_true rfl) ⟨(Nat.le_of_ble_eq_true rfl), (Nat.le_of_ble_eq_true rfl)⟩ ⟨(Nat.le_of_ble_eq_true rfl), (Nat.le_of_ble_eq_true rfl)⟩ ?_
  obtain ⟨h55, h⟩ := zif h
  obtain ⟨M56, e57, h⟩ := zlet_ex h
  have h58 := k_p e57 h55
  refine r_putFP C hin (z_d dd_SF_init 44 rfl) lf_SF_52 rfl h55 e57 ?_
  obtain rfl := z_res h
  exact r_vret C E hr (z_d dd_SF_init 45 rfl) (Nat.le_of_ble_eq_true rfl) (Nat.le_of_ble_eq_true rfl)
def F_SF_init (O : zO) (n : Nat) (l0 : Nat) (M : zM) : Option (Unit × zM) := f_SF_init_0 O n l0 M
theorem S_SF_init {l : Launch} {D : zD} {n : Nat} {l0 : Nat} {M : zM} {q : Unit × zM} (h : F_SF_init D.2.2.2.2 n l0 M = some q) : zMet l D mi_SF_init [zP l0] M none q.2 :=
  z_met (by decide) (Nat.le_of_ble_eq_true rfl) (fun X C E hr hin hD hl => by
    subst hD
    exact s_SF_init_0 C hr (hin rfl) E n l0 M h)

def f_Row_hasRoom_21 (O : zO) (n : Nat) (s0 : Int32) (M : zM) : Option (Int32 × zM) :=
  if s0 = 0 ∨ s0 = 1 then
  some (s0, M)
  else none
set_option maxRecDepth 100000 in
set_option maxHeartbeats 4000000 in
theorem s_Row_hasRoom_21 {X : zX} {q : Int32 × zM} (C : zC X zR8 prog_9_method_5_code 3 { frames := 0, cells := 0, slots := 0, locals := 0 }) (hr : zRt X (some .boolean)) (E : zE X (some (zI q.1)) q.2 0 0) : ∀ (n : Nat) (s0 : Int32) (M : zM), f_Row_hasRoom_21 (zOD X) n s0 M = some q → zW X 0 0 21 [none, none, none] [zI s0] M := by
  intro n s0 M h
  rw [f_Row_hasRoom_21] at h
  obtain ⟨h1, h⟩ := zif h
  obtain rfl := z_res h
  exact r_iretZ C E hr (z_d dd_Row_hasRoom 13 rfl) h1 (Nat.le_of_ble_eq_true rfl) (Nat.le_of_ble_eq_true rfl)
def f_Row_hasRoom_0 (O : zO) (n : Nat) (l0 : Nat) (l1 : Int64) (M : zM) : Option (Int32 × zM) :=
  if z_k M l0 = 9 then
  if z_k M (z_p M l0 0) = 101 then
  if 0 < (lg_cmp l1 ((Int32.ofNat (z_n M (z_p M l0 0))) - (z_i M l0 1)).toInt64) then
  f_Row_hasRoom_21 O n (0 : Int32) M
  else
  f_Row_hasRoom_21 O n (1 : Int32) M
  else none
  else none
set_option maxRecDepth 100000 in
set_option maxHeartbeats 4000000 in
theorem s_Row_hasRoom_0 {X : zX} {q : Int32 × zM} (C : zC X zR8 prog_9_method_5_code 3 { frames := 0, cells := 0, slots := 0, locals := 0 }) (hr : zRt X (some .boolean)) (E : zE X (some (zI q.1)) q.2 0 0) : ∀ (n : Nat) (l0 : Nat) (l1 : Int64) (M : zM), f_Row_hasRoom_0 (zOD X) n l0 l1 M = some q → zW X 0 0 0 [some (zP l0), some (zL l1), none] [] M := by
  intro n l0 l1 M h
  rw [f_Row_hasRoom_0] at h
  refine r_lload_n C (z_d dd_Row_hasRoom 0 rfl) rfl ?_
  refine r_aload_n C (z_d dd_Row_hasRoom 1 rfl) rfl ?_
  obtain ⟨h1, h⟩ := zif h
  refine r_getP C (z_d dd_Row_hasRoom 2 rfl) lk_Row_7 rfl h1 rfl ?_
  obtain ⟨h2, h⟩ := zif h
  refine r_alen C 1 (z_d dd_Row_hasRoom 3 rfl) h2 (Nat.le_of_ble_eq_true rfl) rfl ?_
  refine r_aload_n C (z_d dd_Row_hasRoom 4 rfl) rfl ?_
  refine r_getI C (z_d dd_Row_hasRoom 5 rfl) lk_Row_13 rfl h1 rfl ?_
  refine r_isub C (z_d dd_Row_hasRoom 6 rfl) ?_
  refine r_i2l C (z_d dd_Row_hasRoom 7 rfl) ?_
  refine r_lcmp C (z_d dd_Row_hasRoom 8 rfl) ?_
  refine r_if_gt C 20 (z_d dd_Row_hasRoom 9 rfl) (by decide) (fun c3 => ?_) (fun c3 => ?_)
  · have h := zift h c3
    refine r_iconst (v := (0 : Int32)) C (z_d dd_Row_hasRoom 12 rfl) (by decide) ?_
    refine r_mk [false, false, false] ?_
    exact s_Row_hasRoom_21 C hr E n (0 : Int32) M h
  · have h := ziff h c3
    refine r_iconst (v := (1 : Int32)) C (z_d dd_Row_hasRoom 10 rfl) (by decide) ?_
    refine r_goto C 21 (z_d dd_Row_hasRoom 11 rfl) (by decide) ?_
    refine r_mk [false, false, false] ?_
    exact s_Row_hasRoom_21 C hr E n (1 : Int32) M h
def F_Row_hasRoom (O : zO) (n : Nat) (l0 : Nat) (l1 : Int64) (M : zM) : Option (Int32 × zM) := f_Row_hasRoom_0 O n l0 l1 M
theorem S_Row_hasRoom {l : Launch} {D : zD} {n : Nat} {l0 : Nat} {l1 : Int64} {M : zM} {q : Int32 × zM} (h : F_Row_hasRoom D.2.2.2.2 n l0 l1 M = some q) : zMet l D mi_Row_hasRoom [zP l0, zL l1] M (some (zI q.1)) q.2 :=
  z_met (by decide) (Nat.le_of_ble_eq_true rfl) (fun X C E hr hin hD hl => by
    subst hD
    exact s_Row_hasRoom_0 C hr E n l0 l1 M h)

def f_Row_put_33 (O : zO) (n : Nat) (M : zM) : Option (Unit × zM) :=
  some ((), M)
set_option maxRecDepth 100000 in
set_option maxHeartbeats 4000000 in
theorem s_Row_put_33 {X : zX} {q : Unit × zM} (C : zC X zR8 prog_9_method_6_code 2 { frames := 0, cells := 0, slots := 0, locals := 0 }) (hr : zRt X none) (E : zE X none q.2 0 0) : ∀ (n : Nat) (M : zM), f_Row_put_33 (zOD X) n M = some q → zW X 0 0 33 [none, none] [] M := by
  intro n M h
  rw [f_Row_put_33] at h
  obtain rfl := z_res h
  exact r_vret C E hr (z_d dd_Row_put 19 rfl) (Nat.le_of_ble_eq_true rfl) (Nat.le_of_ble_eq_true rfl)
def f_Row_put_0 (O : zO) (n : Nat) (l0 : Nat) (l1 : Int32) (M : zM) : Option (Unit × zM) :=
  if z_k M l0 = 9 then
  if z_k M (z_p M l0 0) = 101 then
  if (Int32.ofNat (z_n M (z_p M l0 0))) ≤ (z_i M l0 1) then
  f_Row_put_33 O n M
  else
  if zin (z_i M l0 1) (z_n M (z_p M l0 0)) = true then
  zlet (w_i M (z_p M l0 0) (z_i M l0 1).toNatClampNeg l1.toInt8.toInt32.toInt8.toInt32) fun M4 =>
  zlet (w_i M4 l0 1 ((z_i M4 l0 1) + (1 : Int32))) fun M8 =>
  f_Row_put_33 O n M8
  else none
  else none
  else none
set_option maxRecDepth 100000 in
set_option maxHeartbeats 4000000 in
theorem s_Row_put_0 {X : zX} {q : Unit × zM} (C : zC X zR8 prog_9_method_6_code 2 { frames := 0, cells := 0, slots := 0, locals := 0 }) (hr : zRt X none) (E : zE X none q.2 0 0) : ∀ (n : Nat) (l0 : Nat) (l1 : Int32) (M : zM), f_Row_put_0 (zOD X) n l0 l1 M = some q → zW X 0 0 0 [some (zP l0), some (zI l1)] [] M := by
  intro n l0 l1 M h
  rw [f_Row_put_0] at h
  refine r_aload_n C (z_d dd_Row_put 0 rfl) rfl ?_
  obtain ⟨h1, h⟩ := zif h
  refine r_getI C (z_d dd_Row_put 1 rfl) lk_Row_13 rfl h1 rfl ?_
  refine r_aload_n C (z_d dd_Row_put 2 rfl) rfl ?_
  refine r_getP C (z_d dd_Row_put 3 rfl) lk_Row_7 rfl h1 rfl ?_
  obtain ⟨h2, h⟩ := zif h
  refine r_alen C 1 (z_d dd_Row_put 4 rfl) h2 (Nat.le_of_ble_eq_true rfl) rfl ?_
  refine r_icmp_ge C 33 (z_d dd_Row_put 5 rfl) (by decide) (fun c12 => ?_) (fun c12 => ?_)
  · have h := zift h c12
    refine r_mk [false, false] ?_
    exact s_Row_put_33 C hr E n M h
  · have h := ziff h c12
    refine r_aload_n C (z_d dd_Row_put 6 rfl) rfl ?_
    refine r_getP C (z_d dd_Row_put 7 rfl) lk_Row_7 rfl h1 rfl ?_
    refine r_aload_n C (z_d dd_Row_put 8 rfl) rfl ?_
    refine r_getI C (z_d dd_Row_put 9 rfl) lk_Row_13 rfl h1 rfl ?_
    refine r_iload_n C (z_d dd_Row_put 10 rfl) rfl ?_
    refine r_i2b C (z_d dd_Row_put 11 rfl) ?_
    obtain ⟨h3, h⟩ := zif h
    obtain ⟨M4, e5, h⟩ := zlet_ex h
    have h6 := k_i e5 h1
    have h7 := k_i e5 h2
    refine r_bast C (z_d dd_Row_put 12 rfl) h2 h3 e5 ?_
    refine r_aload_n C (z_d dd_Row_put 13 rfl) rfl ?_
    refine r_dupP C (z_d dd_Row_put 14 rfl) ?_
    refine r_getI C (z_d dd_Row_put 15 rfl) lk_Row_13 rfl h6 rfl ?_
    refine r_iconst (v := (1 : Int32)) C (z_d dd_Row_put 16 rfl) (by decide) ?_
    refine r_iadd C (z_d dd_Row_put 17 rfl) ?_
    obtain ⟨M8, e9, h⟩ := zlet_ex h
    have h10 := k_i e9 h6
    have h11 := k_i e9 h7
    refine r_putI C (z_d dd_Row_put 18 rfl) lp_Row_13 rfl h6 e9 ?_
    refine r_mk [false, false] ?_
    exact s_Row_put_33 C hr E n M8 h
def F_Row_put (O : zO) (n : Nat) (l0 : Nat) (l1 : Int32) (M : zM) : Option (Unit × zM) := f_Row_put_0 O n l0 l1 M
theorem S_Row_put {l : Launch} {D : zD} {n : Nat} {l0 : Nat} {l1 : Int32} {M : zM} {q : Unit × zM} (h : F_Row_put D.2.2.2.2 n l0 l1 M = some q) : zMet l D mi_Row_put [zP l0, zI l1] M none q.2 :=
  z_met (by decide) (Nat.le_of_ble_eq_true rfl) (fun X C E hr hin hD hl => by
    subst hD
    exact s_Row_put_0 C hr E n l0 l1 M h)

def f_SF_write_23 (O : zO) (n : Nat) (M : zM) : Option (Int32 × zM) :=
  some ((0 : Int32), M)
set_option maxRecDepth 100000 in
set_option maxHeartbeats 4000000 in
theorem s_SF_write_23 {X : zX} {q : Int32 × zM} (C : zC X zR0 prog_1_method_2_code 5 { frames := 1, cells := 0, slots := 0, locals := 22 }) (hr : zRt X (some .boolean)) (E : zE X (some (zI q.1)) q.2 0 0) : ∀ (n : Nat) (M : zM), f_SF_write_23 (zOD X) n M = some q → zW X 0 0 23 [none, none, none, none, none] [] M := by
  intro n M h
  rw [f_SF_write_23] at h
  refine r_iconst (v := (0 : Int32)) C (z_d dd_SF_write 12 rfl) (by decide) ?_
  obtain rfl := z_res h
  exact r_iretZ C E hr (z_d dd_SF_write 13 rfl) (by decide) (Nat.le_of_ble_eq_true rfl) (Nat.le_of_ble_eq_true rfl)
def f_SF_write_28 (O : zO) : Nat → Nat → Int64 → Int32 → Int32 → zM → Option (Int32 × zM)
  | 0, _, _, _, _, _ => none
  | n + 1, l0, l1, l3, l4, M =>
    if l3 ≤ l4 then
    some ((1 : Int32), M)
    else
    if z_k M l0 = 1 then
    if z_k M (z_p M l0 0) = 9 then
    (F_Row_put O n (z_p M l0 0) (l1.toUInt64 >>> (((56 : Int32) - ((8 : Int32) * l4)).toInt64.toUInt64 &&& Int64.toUInt64 63)).toInt64.toInt32 M).bind fun q3 =>
    zlet (l4 + (1 : Int32)) fun v5 =>
    f_SF_write_28 O n l0 l1 l3 v5 q3.2
    else none
    else none
set_option maxRecDepth 100000 in
set_option maxHeartbeats 4000000 in
theorem s_SF_write_28 {X : zX} {q : Int32 × zM} (C : zC X zR0 prog_1_method_2_code 5 { frames := 1, cells := 0, slots := 0, locals := 22 }) (hr : zRt X (some .boolean)) (E : zE X (some (zI q.1)) q.2 0 0) : ∀ (n : Nat) (l0 : Nat) (l1 : Int64) (l3 : Int32) (l4 : Int32) (M : zM), f_SF_write_28 (zOD X) n l0 l1 l3 l4 M = some q → zW X 0 0 28 [some (zP l0), some (zL l1), none, some (zI l3), some (zI l4)] [] M := by
  intro n
  induction n with
  | zero => intro l0 l1 l3 l4 M h; rw [f_SF_write_28] at h; cases h
  | succ n ih =>
    intro l0 l1 l3 l4 M h
    rw [f_SF_write_28] at h
    refine r_iload C (z_d dd_SF_write 16 rfl) rfl ?_
    refine r_iload_n C (z_d dd_SF_write 17 rfl) rfl ?_
    refine r_icmp_ge C 58 (z_d dd_SF_write 18 rfl) (by decide) (fun c7 => ?_) (fun c7 => ?_)
    · have h := zift h c7
      refine r_iconst (v := (1 : Int32)) C (z_d dd_SF_write 32 rfl) (by decide) ?_
      obtain rfl := z_res h
      exact r_iretZ C E hr (z_d dd_SF_write 33 rfl) (by decide) (Nat.le_of_ble_eq_true rfl) (Nat.le_of_ble_eq_true rfl)
    · have h := ziff h c7
      refine r_aload_n C (z_d dd_SF_write 19 rfl) rfl ?_
      obtain ⟨h1, h⟩ := zif h
      refine r_getP C (z_d dd_SF_write 20 rfl) lk_SF_14 rfl h1 rfl ?_
      refine r_lload_n C (z_d dd_SF_write 21 rfl) rfl ?_
      refine r_bipush (v := (56 : Int32)) C (z_d dd_SF_write 22 rfl) (by decide) ?_
      refine r_bipush (v := (8 : Int32)) C (z_d dd_SF_write 23 rfl) (by decide) ?_
      refine r_iload C (z_d dd_SF_write 24 rfl) rfl ?_
      refine r_imul C (z_d dd_SF_write 25 rfl) ?_
      refine r_isub C (z_d dd_SF_write 26 rfl) ?_
      refine r_lushr C (z_d dd_SF_write 27 rfl) ?_
      refine r_l2i C (z_d dd_SF_write 28 rfl) ?_
      obtain ⟨h2, h⟩ := zif h
      obtain ⟨q3, c4, h⟩ := zbd h
      refine r_invV (as := [zI (l1.toUInt64 >>> (((56 : Int32) - ((8 : Int32) * l4)).toInt64.toUInt64 &&& Int64.toUInt64 63)).toInt64.toInt32]) C 8 (S_Row_put c4) (z_d dd_SF_write 29 rfl) ok_Row_put iv_Row_put se_Row_put ml_SF_60 rfl rfl h2 rfl rfl rfl (Nat.le_of_ble_eq_true rfl) ⟨(Nat.le_of_ble_eq_true rfl), (Nat.le_of_ble_eq_true rfl)⟩ ⟨(Nat.le_of_ble_eq_true rfl), (Nat.le_of_ble_eq_true rfl)⟩ ?_
      obtain ⟨v5, e6, h⟩ := zlet_ex h
      refine r_iinc (v := v5) (lv' := [some (zP l0), some (zL l1), none, some (zI l3), some (zI v5)]) C (z_d dd_SF_write 30 rfl) rfl (Nat.le_of_ble_eq_true rfl) (by rw [e6]; rfl) rfl ?_
      refine r_goto C 28 (z_d dd_SF_write 31 rfl) (by decide) ?_
      exact ih l0 l1 l3 v5 q3.2 h
def f_SF_write_0 (O : zO) (n : Nat) (l0 : Nat) (l1 : Int64) (l3 : Int32) (M : zM) : Option (Int32 × zM) :=
  if l3 < (1 : Int32) then
  f_SF_write_23 O n M
  else
  if (8 : Int32) < l3 then
  f_SF_write_23 O n M
  else
  if z_k M l0 = 1 then
  if z_k M (z_p M l0 0) = 9 then
  (F_Row_hasRoom O n (z_p M l0 0) l3.toInt64 M).bind fun q3 =>
  if q3.1 = 0 then
  f_SF_write_23 O n q3.2
  else
  f_SF_write_28 O n l0 l1 l3 (0 : Int32) q3.2
  else none
  else none
set_option maxRecDepth 100000 in
set_option maxHeartbeats 4000000 in
theorem s_SF_write_0 {X : zX} {q : Int32 × zM} (C : zC X zR0 prog_1_method_2_code 5 { frames := 1, cells := 0, slots := 0, locals := 22 }) (hr : zRt X (some .boolean)) (E : zE X (some (zI q.1)) q.2 0 0) : ∀ (n : Nat) (l0 : Nat) (l1 : Int64) (l3 : Int32) (M : zM), f_SF_write_0 (zOD X) n l0 l1 l3 M = some q → zW X 0 0 0 [some (zP l0), some (zL l1), none, some (zI l3), none] [] M := by
  intro n l0 l1 l3 M h
  rw [f_SF_write_0] at h
  refine r_iload_n C (z_d dd_SF_write 0 rfl) rfl ?_
  refine r_iconst (v := (1 : Int32)) C (z_d dd_SF_write 1 rfl) (by decide) ?_
  refine r_icmp_lt C 23 (z_d dd_SF_write 2 rfl) (by decide) (fun c7 => ?_) (fun c7 => ?_)
  · have h := zift h c7
    refine r_mk [false, false, false, false, false] ?_
    exact s_SF_write_23 C hr E n M h
  · have h := ziff h c7
    refine r_iload_n C (z_d dd_SF_write 3 rfl) rfl ?_
    refine r_bipush (v := (8 : Int32)) C (z_d dd_SF_write 4 rfl) (by decide) ?_
    refine r_icmp_gt C 23 (z_d dd_SF_write 5 rfl) (by decide) (fun c6 => ?_) (fun c6 => ?_)
    · have h := zift h c6
      refine r_mk [false, false, false, false, false] ?_
      exact s_SF_write_23 C hr E n M h
    · have h := ziff h c6
      refine r_aload_n C (z_d dd_SF_write 6 rfl) rfl ?_
      obtain ⟨h1, h⟩ := zif h
      refine r_getP C (z_d dd_SF_write 7 rfl) lk_SF_14 rfl h1 rfl ?_
      refine r_iload_n C (z_d dd_SF_write 8 rfl) rfl ?_
      refine r_i2l C (z_d dd_SF_write 9 rfl) ?_
      obtain ⟨h2, h⟩ := zif h
      obtain ⟨q3, c4, h⟩ := zbd h
      refine r_invV (as := [zL l3.toInt64]) C 8 (S_Row_hasRoom c4) (z_d dd_SF_write 10 rfl) ok_Row_hasRoom iv_Row_hasRoom se_Row_hasRoom ml_SF_56 rfl rfl h2 rfl rfl rfl (Nat.le_of_ble_eq_true rfl) ⟨(Nat.le_of_ble_eq_true rfl), (Nat.le_of_ble_eq_true rfl)⟩ ⟨(Nat.le_of_ble_eq_true rfl), (Nat.le_of_ble_eq_true rfl)⟩ ?_
      refine r_if_ne C 25 (z_d dd_SF_write 11 rfl) (by decide) (fun c5 => ?_) (fun c5 => ?_)
      · have h := ziff h c5
        refine r_iconst (v := (0 : Int32)) C (z_d dd_SF_write 14 rfl) (by decide) ?_
        refine r_istore (lv' := [some (zP l0), some (zL l1), none, some (zI l3), some (zI (0 : Int32))]) C (z_d dd_SF_write 15 rfl) (Nat.le_of_ble_eq_true rfl) rfl ?_
        exact s_SF_write_28 C hr E n l0 l1 l3 (0 : Int32) q3.2 h
      · have h := zift h c5
        refine r_mk [false, false, false, false, false] ?_
        exact s_SF_write_23 C hr E n q3.2 h
def F_SF_write (O : zO) (n : Nat) (l0 : Nat) (l1 : Int64) (l3 : Int32) (M : zM) : Option (Int32 × zM) := f_SF_write_0 O n l0 l1 l3 M
theorem S_SF_write {l : Launch} {D : zD} {n : Nat} {l0 : Nat} {l1 : Int64} {l3 : Int32} {M : zM} {q : Int32 × zM} (h : F_SF_write D.2.2.2.2 n l0 l1 l3 M = some q) : zMet l D mi_SF_write [zP l0, zL l1, zI l3] M (some (zI q.1)) q.2 :=
  z_met (by decide) (Nat.le_of_ble_eq_true rfl) (fun X C E hr hin hD hl => by
    subst hD
    exact s_SF_write_0 C hr E n l0 l1 l3 M h)

def f_Row_putBack_13 (O : zO) (n : Nat) (M : zM) : Option (Unit × zM) :=
  some ((), M)
set_option maxRecDepth 100000 in
set_option maxHeartbeats 4000000 in
theorem s_Row_putBack_13 {X : zX} {q : Unit × zM} (C : zC X zR8 prog_9_method_8_code 4 { frames := 1, cells := 0, slots := 0, locals := 21 }) (hr : zRt X none) (E : zE X none q.2 0 0) : ∀ (n : Nat) (M : zM), f_Row_putBack_13 (zOD X) n M = some q → zW X 0 0 13 [none, none, none, none] [] M := by
  intro n M h
  rw [f_Row_putBack_13] at h
  obtain rfl := z_res h
  exact r_vret C E hr (z_d dd_Row_putBack 7 rfl) (Nat.le_of_ble_eq_true rfl) (Nat.le_of_ble_eq_true rfl)
def f_Row_putBack_34 (O : zO) : Nat → Nat → Int32 → Int32 → zM → Option (Unit × zM)
  | 0, _, _, _, _ => none
  | n + 1, l0, l1, l3, M =>
    if z_k M l0 = 9 then
    if l3 ≤ (z_i M l0 1) then
    some ((), M)
    else
    if z_k M (z_p M l0 0) = 101 then
    if zin ((z_i M l0 1) - l1) (z_n M (z_p M l0 0)) = true then
    if zin (z_i M l0 1) (z_n M (z_p M l0 0)) = true then
    zlet (w_i M (z_p M l0 0) (z_i M l0 1).toNatClampNeg (z_i M (z_p M l0 0) ((z_i M l0 1) - l1).toNatClampNeg).toInt8.toInt32) fun M5 =>
    zlet (w_i M5 l0 1 ((z_i M5 l0 1) + (1 : Int32))) fun M9 =>
    f_Row_putBack_34 O n l0 l1 l3 M9
    else none
    else none
    else none
    else none
set_option maxRecDepth 100000 in
set_option maxHeartbeats 4000000 in
theorem s_Row_putBack_34 {X : zX} {q : Unit × zM} (C : zC X zR8 prog_9_method_8_code 4 { frames := 1, cells := 0, slots := 0, locals := 21 }) (hr : zRt X none) (E : zE X none q.2 0 0) : ∀ (n : Nat) (l0 : Nat) (l1 : Int32) (l3 : Int32) (M : zM), f_Row_putBack_34 (zOD X) n l0 l1 l3 M = some q → zW X 0 0 34 [some (zP l0), some (zI l1), none, some (zI l3)] [] M := by
  intro n
  induction n with
  | zero => intro l0 l1 l3 M h; rw [f_Row_putBack_34] at h; cases h
  | succ n ih =>
    intro l0 l1 l3 M h
    rw [f_Row_putBack_34] at h
    refine r_aload_n C (z_d dd_Row_putBack 20 rfl) rfl ?_
    obtain ⟨h1, h⟩ := zif h
    refine r_getI C (z_d dd_Row_putBack 21 rfl) lk_Row_13 rfl h1 rfl ?_
    refine r_iload_n C (z_d dd_Row_putBack 22 rfl) rfl ?_
    refine r_icmp_ge C 75 (z_d dd_Row_putBack 23 rfl) (by decide) (fun c13 => ?_) (fun c13 => ?_)
    · have h := zift h c13
      obtain rfl := z_res h
      exact r_vret C E hr (z_d dd_Row_putBack 43 rfl) (Nat.le_of_ble_eq_true rfl) (Nat.le_of_ble_eq_true rfl)
    · have h := ziff h c13
      refine r_aload_n C (z_d dd_Row_putBack 24 rfl) rfl ?_
      refine r_getP C (z_d dd_Row_putBack 25 rfl) lk_Row_7 rfl h1 rfl ?_
      refine r_aload_n C (z_d dd_Row_putBack 26 rfl) rfl ?_
      refine r_getI C (z_d dd_Row_putBack 27 rfl) lk_Row_13 rfl h1 rfl ?_
      refine r_aload_n C (z_d dd_Row_putBack 28 rfl) rfl ?_
      refine r_getP C (z_d dd_Row_putBack 29 rfl) lk_Row_7 rfl h1 rfl ?_
      refine r_aload_n C (z_d dd_Row_putBack 30 rfl) rfl ?_
      refine r_getI C (z_d dd_Row_putBack 31 rfl) lk_Row_13 rfl h1 rfl ?_
      refine r_iload_n C (z_d dd_Row_putBack 32 rfl) rfl ?_
      refine r_isub C (z_d dd_Row_putBack 33 rfl) ?_
      obtain ⟨h2, h⟩ := zif h
      obtain ⟨h3, h⟩ := zif h
      refine r_bald C (z_d dd_Row_putBack 34 rfl) h2 h3 rfl ?_
      obtain ⟨h4, h⟩ := zif h
      obtain ⟨M5, e6, h⟩ := zlet_ex h
      have h7 := k_i e6 h1
      have h8 := k_i e6 h2
      refine r_bast C (z_d dd_Row_putBack 35 rfl) h2 h4 e6 ?_
      refine r_aload_n C (z_d dd_Row_putBack 36 rfl) rfl ?_
      refine r_dupP C (z_d dd_Row_putBack 37 rfl) ?_
      refine r_getI C (z_d dd_Row_putBack 38 rfl) lk_Row_13 rfl h7 rfl ?_
      refine r_iconst (v := (1 : Int32)) C (z_d dd_Row_putBack 39 rfl) (by decide) ?_
      refine r_iadd C (z_d dd_Row_putBack 40 rfl) ?_
      obtain ⟨M9, e10, h⟩ := zlet_ex h
      have h11 := k_i e10 h7
      have h12 := k_i e10 h8
      refine r_putI C (z_d dd_Row_putBack 41 rfl) lp_Row_13 rfl h7 e10 ?_
      refine r_goto C 34 (z_d dd_Row_putBack 42 rfl) (by decide) ?_
      exact ih l0 l1 l3 M9 h
def f_Row_putBack_0 (O : zO) (n : Nat) (l0 : Nat) (l1 : Int32) (l2 : Int32) (M : zM) : Option (Unit × zM) :=
  if l1 < (1 : Int32) then
  f_Row_putBack_13 O n M
  else
  if z_k M l0 = 9 then
  if l1 ≤ (z_i M l0 1) then
  if z_k M (z_p M l0 0) = 101 then
  (F_JMath_min O n l2 ((Int32.ofNat (z_n M (z_p M l0 0))) - (z_i M l0 1)) M).bind fun q3 =>
  zlet ((z_i M l0 1) + q3.1) fun v5 =>
  f_Row_putBack_34 O n l0 l1 v5 q3.2
  else none
  else
  f_Row_putBack_13 O n M
  else none
set_option maxRecDepth 100000 in
set_option maxHeartbeats 4000000 in
theorem s_Row_putBack_0 {X : zX} {q : Unit × zM} (C : zC X zR8 prog_9_method_8_code 4 { frames := 1, cells := 0, slots := 0, locals := 21 }) (hr : zRt X none) (E : zE X none q.2 0 0) : ∀ (n : Nat) (l0 : Nat) (l1 : Int32) (l2 : Int32) (M : zM), f_Row_putBack_0 (zOD X) n l0 l1 l2 M = some q → zW X 0 0 0 [some (zP l0), some (zI l1), some (zI l2), none] [] M := by
  intro n l0 l1 l2 M h
  rw [f_Row_putBack_0] at h
  refine r_iload_n C (z_d dd_Row_putBack 0 rfl) rfl ?_
  refine r_iconst (v := (1 : Int32)) C (z_d dd_Row_putBack 1 rfl) (by decide) ?_
  refine r_icmp_lt C 13 (z_d dd_Row_putBack 2 rfl) (by decide) (fun c8 => ?_) (fun c8 => ?_)
  · have h := zift h c8
    refine r_mk [false, false, false, false] ?_
    exact s_Row_putBack_13 C hr E n M h
  · have h := ziff h c8
    refine r_iload_n C (z_d dd_Row_putBack 3 rfl) rfl ?_
    refine r_aload_n C (z_d dd_Row_putBack 4 rfl) rfl ?_
    obtain ⟨h1, h⟩ := zif h
    refine r_getI C (z_d dd_Row_putBack 5 rfl) lk_Row_13 rfl h1 rfl ?_
    refine r_icmp_le C 14 (z_d dd_Row_putBack 6 rfl) (by decide) (fun c7 => ?_) (fun c7 => ?_)
    · have h := zift h c7
      refine r_aload_n C (z_d dd_Row_putBack 8 rfl) rfl ?_
      refine r_getI C (z_d dd_Row_putBack 9 rfl) lk_Row_13 rfl h1 rfl ?_
      refine r_iload_n C (z_d dd_Row_putBack 10 rfl) rfl ?_
      refine r_aload_n C (z_d dd_Row_putBack 11 rfl) rfl ?_
      refine r_getP C (z_d dd_Row_putBack 12 rfl) lk_Row_7 rfl h1 rfl ?_
      obtain ⟨h2, h⟩ := zif h
      refine r_alen C 1 (z_d dd_Row_putBack 13 rfl) h2 (Nat.le_of_ble_eq_true rfl) rfl ?_
      refine r_aload_n C (z_d dd_Row_putBack 14 rfl) rfl ?_
      refine r_getI C (z_d dd_Row_putBack 15 rfl) lk_Row_13 rfl h1 rfl ?_
      refine r_isub C (z_d dd_Row_putBack 16 rfl) ?_
      obtain ⟨q3, c4, h⟩ := zbd h
      refine r_invS (as := [zI l2, zI ((Int32.ofNat (z_n M (z_p M l0 0))) - (z_i M l0 1))]) C (S_JMath_min c4) (z_d dd_Row_putBack 17 rfl) ok_JMath_min sv_JMath_min ml_Row_17 rfl rfl rfl (Nat.le_of_ble_eq_true rfl) ⟨(Nat.le_of_ble_eq_true rfl), (Nat.le_of_ble_eq_true rfl)⟩ ⟨(Nat.le_of_ble_eq_true rfl), (Nat.le_of_ble_eq_true rfl)⟩ ?_
      refine r_iadd C (z_d dd_Row_putBack 18 rfl) ?_
      obtain ⟨v5, e6, h⟩ := zlet_ex h
      refine r_nmI e6 ?_
      refine r_istore_n (lv' := [some (zP l0), some (zI l1), some (zI l2), some (zI v5)]) C (z_d dd_Row_putBack 19 rfl) (Nat.le_of_ble_eq_true rfl) rfl ?_
      refine r_mk [true, true, false, true] ?_
      exact s_Row_putBack_34 C hr E n l0 l1 v5 q3.2 h
    · have h := ziff h c7
      refine r_mk [false, false, false, false] ?_
      exact s_Row_putBack_13 C hr E n M h
def F_Row_putBack (O : zO) (n : Nat) (l0 : Nat) (l1 : Int32) (l2 : Int32) (M : zM) : Option (Unit × zM) := f_Row_putBack_0 O n l0 l1 l2 M
theorem S_Row_putBack {l : Launch} {D : zD} {n : Nat} {l0 : Nat} {l1 : Int32} {l2 : Int32} {M : zM} {q : Unit × zM} (h : F_Row_putBack D.2.2.2.2 n l0 l1 l2 M = some q) : zMet l D mi_Row_putBack [zP l0, zI l1, zI l2] M none q.2 :=
  z_met (by decide) (Nat.le_of_ble_eq_true rfl) (fun X C E hr hin hD hl => by
    subst hD
    exact s_Row_putBack_0 C hr E n l0 l1 l2 M h)
