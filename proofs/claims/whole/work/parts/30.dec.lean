def f_Mo_isPower_19 (O : zO) (n : Nat) (s0 : Int32) (M : zM) : Option (Int32 × zM) :=
  if s0 = 0 ∨ s0 = 1 then
  some (s0, M)
  else none
set_option maxRecDepth 100000 in
set_option maxHeartbeats 4000000 in
theorem s_Mo_isPower_19 {X : zX} {q : Int32 × zM} (C : zC X zR12 prog_14_method_18_code 2 { frames := 1, cells := 0, slots := 0, locals := 22 }) (hr : zRt X (some .boolean)) (E : zE X (some (zI q.1)) q.2 0 0) : ∀ (n : Nat) (s0 : Int32) (M : zM), f_Mo_isPower_19 (zOD X) n s0 M = some q → zW X 0 0 19 [none, none] [zI s0] M := by
  intro n s0 M h
  rw [f_Mo_isPower_19] at h
  obtain ⟨h1, h⟩ := zif h
  obtain rfl := z_res h
  exact r_iretZ C E hr (z_d dd_Mo_isPower 11 rfl) h1 (Nat.le_of_ble_eq_true rfl) (Nat.le_of_ble_eq_true rfl)
def f_Mo_isPower_18 (O : zO) (n : Nat) (M : zM) : Option (Int32 × zM) :=
  f_Mo_isPower_19 O n (0 : Int32) M
set_option maxRecDepth 100000 in
set_option maxHeartbeats 4000000 in
theorem s_Mo_isPower_18 {X : zX} {q : Int32 × zM} (C : zC X zR12 prog_14_method_18_code 2 { frames := 1, cells := 0, slots := 0, locals := 22 }) (hr : zRt X (some .boolean)) (E : zE X (some (zI q.1)) q.2 0 0) : ∀ (n : Nat) (M : zM), f_Mo_isPower_18 (zOD X) n M = some q → zW X 0 0 18 [none, none] [] M := by
  intro n M h
  rw [f_Mo_isPower_18] at h
  refine r_iconst (v := (0 : Int32)) C (z_d dd_Mo_isPower 10 rfl) (by decide) ?_
  exact s_Mo_isPower_19 C hr E n (0 : Int32) M h
def f_Mo_isPower_0 (O : zO) (n : Nat) (l0 : Nat) (l1 : Int32) (M : zM) : Option (Int32 × zM) :=
  if l1 ≤ 0 then
  f_Mo_isPower_18 O n M
  else
  (F_Mo_highest O n l1 M).bind fun q1 =>
  if ((1 : Int32) <<< (q1.1 &&& 31)) = l1 then
  f_Mo_isPower_19 O n (1 : Int32) q1.2
  else
  f_Mo_isPower_18 O n q1.2
set_option maxRecDepth 100000 in
set_option maxHeartbeats 4000000 in
theorem s_Mo_isPower_0 {X : zX} {q : Int32 × zM} (C : zC X zR12 prog_14_method_18_code 2 { frames := 1, cells := 0, slots := 0, locals := 22 }) (hr : zRt X (some .boolean)) (E : zE X (some (zI q.1)) q.2 0 0) : ∀ (n : Nat) (l0 : Nat) (l1 : Int32) (M : zM), f_Mo_isPower_0 (zOD X) n l0 l1 M = some q → zW X 0 0 0 [some (zP l0), some (zI l1)] [] M := by
  intro n l0 l1 M h
  rw [f_Mo_isPower_0] at h
  refine r_iload_n C (z_d dd_Mo_isPower 0 rfl) rfl ?_
  refine r_if_le C 18 (z_d dd_Mo_isPower 1 rfl) (by decide) (fun c4 => ?_) (fun c4 => ?_)
  · have h := zift h c4
    refine r_mk [false, false] ?_
    exact s_Mo_isPower_18 C hr E n M h
  · have h := ziff h c4
    refine r_iconst (v := (1 : Int32)) C (z_d dd_Mo_isPower 2 rfl) (by decide) ?_
    refine r_iload_n C (z_d dd_Mo_isPower 3 rfl) rfl ?_
    obtain ⟨q1, c2, h⟩ := zbd h
    refine r_invS (as := [zI l1]) C (S_Mo_highest c2) (z_d dd_Mo_isPower 4 rfl) ok_Mo_highest sv_Mo_highest ml_Mo_98 rfl rfl rfl (Nat.le_of_ble_eq_true rfl) ⟨(Nat.le_of_ble_eq_true rfl), (Nat.le_of_ble_eq_true rfl)⟩ ⟨(Nat.le_of_ble_eq_true rfl), (Nat.le_of_ble_eq_true rfl)⟩ ?_
    refine r_ishl C (z_d dd_Mo_isPower 5 rfl) ?_
    refine r_iload_n C (z_d dd_Mo_isPower 6 rfl) rfl ?_
    refine r_icmp_ne C 18 (z_d dd_Mo_isPower 7 rfl) (by decide) (fun c3 => ?_) (fun c3 => ?_)
    · have h := ziff h c3
      refine r_mk [false, false] ?_
      exact s_Mo_isPower_18 C hr E n q1.2 h
    · have h := zift h c3
      refine r_iconst (v := (1 : Int32)) C (z_d dd_Mo_isPower 8 rfl) (by decide) ?_
      refine r_goto C 19 (z_d dd_Mo_isPower 9 rfl) (by decide) ?_
      refine r_mk [false, false] ?_
      exact s_Mo_isPower_19 C hr E n (1 : Int32) q1.2 h
def F_Mo_isPower (O : zO) (n : Nat) (l0 : Nat) (l1 : Int32) (M : zM) : Option (Int32 × zM) := f_Mo_isPower_0 O n l0 l1 M
theorem S_Mo_isPower {l : Launch} {D : zD} {n : Nat} {l0 : Nat} {l1 : Int32} {M : zM} {q : Int32 × zM} (h : F_Mo_isPower D.2.2.2.2 n l0 l1 M = some q) : zMet l D mi_Mo_isPower [zP l0, zI l1] M (some (zI q.1)) q.2 :=
  z_met (by decide) (Nat.le_of_ble_eq_true rfl) (fun X C E hr hin hD hl => by
    subst hD
    exact s_Mo_isPower_0 C hr E n l0 l1 M h)

def f_Mo_layCells_79 (O : zO) (k4 : Nat → Int32 → Int32 → zM → Option (Unit × zM)) (k14 : Nat → Int32 → Int32 → Int32 → zM → Option (Unit × zM)) (n : Nat) (l0 : Nat) (l1 : Int32) (l2 : Int32) (l3 : Int32) (M : zM) : Option (Unit × zM) :=
  zlet (l3 + (1 : Int32)) fun v1 =>
  k14 l0 l1 l2 v1 M
set_option maxRecDepth 100000 in
set_option maxHeartbeats 4000000 in
theorem s_Mo_layCells_79 {X : zX} {q : Unit × zM} (C : zC X zR12 prog_14_method_17_code 5 { frames := 0, cells := 0, slots := 0, locals := 0 }) (hr : zRt X none) (E : zE X none q.2 0 0) {k4 : Nat → Int32 → Int32 → zM → Option (Unit × zM)} (hk4 : ∀ (l0 : Nat) (l1 : Int32) (l2 : Int32) (M : zM), k4 l0 l1 l2 M = some q → zW X 0 0 4 [some (zP l0), some (zI l1), some (zI l2), none, none] [] M) {k14 : Nat → Int32 → Int32 → Int32 → zM → Option (Unit × zM)} (hk14 : ∀ (l0 : Nat) (l1 : Int32) (l2 : Int32) (l3 : Int32) (M : zM), k14 l0 l1 l2 l3 M = some q → zW X 0 0 14 [some (zP l0), some (zI l1), some (zI l2), some (zI l3), none] [] M) : ∀ (n : Nat) (l0 : Nat) (l1 : Int32) (l2 : Int32) (l3 : Int32) (M : zM), f_Mo_layCells_79 (zOD X) k4 k14 n l0 l1 l2 l3 M = some q → zW X 0 0 79 [some (zP l0), some (zI l1), some (zI l2), some (zI l3), none] [] M := by
  intro n l0 l1 l2 l3 M h
  rw [f_Mo_layCells_79] at h
  obtain ⟨v1, e2, h⟩ := zlet_ex h
  refine r_iinc (v := v1) (lv' := [some (zP l0), some (zI l1), some (zI l2), some (zI v1), none]) C (z_d dd_Mo_layCells 47 rfl) rfl (Nat.le_of_ble_eq_true rfl) (by rw [e2]; rfl) rfl ?_
  refine r_goto C 14 (z_d dd_Mo_layCells 48 rfl) (by decide) ?_
  exact hk14 l0 l1 l2 v1 M h
def f_Mo_layCells_53 (O : zO) (k4 : Nat → Int32 → Int32 → zM → Option (Unit × zM)) (k14 : Nat → Int32 → Int32 → Int32 → zM → Option (Unit × zM)) : Nat → Nat → Int32 → Int32 → Int32 → Int32 → zM → Option (Unit × zM)
  | 0, _, _, _, _, _, _ => none
  | n + 1, l0, l1, l2, l3, l4, M =>
    if ((1 : Int32) <<< ((l2 - (1 : Int32)) &&& 31)) ≤ l4 then
    f_Mo_layCells_79 O k4 k14 n l0 l1 l2 l3 M
    else
    if z_k M l0 = 13 then
    if z_k M (z_p M l0 14) = 100 then
    if zin l1 (z_n M (z_p M l0 14)) = true then
    zlet (w_i M (z_p M l0 14) l1.toNatClampNeg l3) fun M4 =>
    zlet (l1 + (1 : Int32)) fun v8 =>
    zlet (l4 + (1 : Int32)) fun v10 =>
    f_Mo_layCells_53 O k4 k14 n l0 v8 l2 l3 v10 M4
    else none
    else none
    else none
set_option maxRecDepth 100000 in
set_option maxHeartbeats 4000000 in
theorem s_Mo_layCells_53 {X : zX} {q : Unit × zM} (C : zC X zR12 prog_14_method_17_code 5 { frames := 0, cells := 0, slots := 0, locals := 0 }) (hr : zRt X none) (E : zE X none q.2 0 0) {k4 : Nat → Int32 → Int32 → zM → Option (Unit × zM)} (hk4 : ∀ (l0 : Nat) (l1 : Int32) (l2 : Int32) (M : zM), k4 l0 l1 l2 M = some q → zW X 0 0 4 [some (zP l0), some (zI l1), some (zI l2), none, none] [] M) {k14 : Nat → Int32 → Int32 → Int32 → zM → Option (Unit × zM)} (hk14 : ∀ (l0 : Nat) (l1 : Int32) (l2 : Int32) (l3 : Int32) (M : zM), k14 l0 l1 l2 l3 M = some q → zW X 0 0 14 [some (zP l0), some (zI l1), some (zI l2), some (zI l3), none] [] M) : ∀ (n : Nat) (l0 : Nat) (l1 : Int32) (l2 : Int32) (l3 : Int32) (l4 : Int32) (M : zM), f_Mo_layCells_53 (zOD X) k4 k14 n l0 l1 l2 l3 l4 M = some q → zW X 0 0 53 [some (zP l0), some (zI l1), some (zI l2), some (zI l3), some (zI l4)] [] M := by
  intro n
  induction n with
  | zero => intro l0 l1 l2 l3 l4 M h; rw [f_Mo_layCells_53] at h; cases h
  | succ n ih =>
    intro l0 l1 l2 l3 l4 M h
    rw [f_Mo_layCells_53] at h
    refine r_iload C (z_d dd_Mo_layCells 32 rfl) rfl ?_
    refine r_iconst (v := (1 : Int32)) C (z_d dd_Mo_layCells 33 rfl) (by decide) ?_
    refine r_iload_n C (z_d dd_Mo_layCells 34 rfl) rfl ?_
    refine r_iconst (v := (1 : Int32)) C (z_d dd_Mo_layCells 35 rfl) (by decide) ?_
    refine r_isub C (z_d dd_Mo_layCells 36 rfl) ?_
    refine r_ishl C (z_d dd_Mo_layCells 37 rfl) ?_
    refine r_icmp_ge C 79 (z_d dd_Mo_layCells 38 rfl) (by decide) (fun c12 => ?_) (fun c12 => ?_)
    · have h := zift h c12
      refine r_mk [true, true, true, true, false] ?_
      exact s_Mo_layCells_79 C hr E hk4 hk14 n l0 l1 l2 l3 M h
    · have h := ziff h c12
      refine r_aload_n C (z_d dd_Mo_layCells 39 rfl) rfl ?_
      obtain ⟨h1, h⟩ := zif h
      refine r_getP C (z_d dd_Mo_layCells 40 rfl) lk_Mo_36 rfl h1 rfl ?_
      refine r_iload_n C (z_d dd_Mo_layCells 41 rfl) rfl ?_
      refine r_iload_n C (z_d dd_Mo_layCells 42 rfl) rfl ?_
      obtain ⟨h2, h⟩ := zif h
      obtain ⟨h3, h⟩ := zif h
      obtain ⟨M4, e5, h⟩ := zlet_ex h
      have h6 := k_i e5 h1
      have h7 := k_i e5 h2
      refine r_iast C (z_d dd_Mo_layCells 43 rfl) h2 h3 e5 ?_
      obtain ⟨v8, e9, h⟩ := zlet_ex h
      refine r_iinc (v := v8) (lv' := [some (zP l0), some (zI v8), some (zI l2), some (zI l3), some (zI l4)]) C (z_d dd_Mo_layCells 44 rfl) rfl (Nat.le_of_ble_eq_true rfl) (by rw [e9]; rfl) rfl ?_
      obtain ⟨v10, e11, h⟩ := zlet_ex h
      refine r_iinc (v := v10) (lv' := [some (zP l0), some (zI v8), some (zI l2), some (zI l3), some (zI v10)]) C (z_d dd_Mo_layCells 45 rfl) rfl (Nat.le_of_ble_eq_true rfl) (by rw [e11]; rfl) rfl ?_
      refine r_goto C 53 (z_d dd_Mo_layCells 46 rfl) (by decide) ?_
      exact ih l0 v8 l2 l3 v10 M4 h
def f_Mo_layCells_14 (O : zO) (k4 : Nat → Int32 → Int32 → zM → Option (Unit × zM)) : Nat → Nat → Int32 → Int32 → Int32 → zM → Option (Unit × zM)
  | 0, _, _, _, _, _ => none
  | n + 1, l0, l1, l2, l3, M =>
    if (256 : Int32) ≤ l3 then
    zlet (l2 + (1 : Int32)) fun v1 =>
    k4 l0 l1 v1 M
    else
    if z_k M l0 = 13 then
    if z_k M (z_p M l0 12) = 100 then
    if zin l3 (z_n M (z_p M l0 12)) = true then
    if (z_i M (z_p M l0 12) l3.toNatClampNeg) = 0 then
    f_Mo_layCells_79 O k4 (f_Mo_layCells_14 O k4 n) n l0 l1 l2 l3 M
    else
    if zin l3 (z_n M (z_p M l0 12)) = true then
    if (((z_i M l0 13) + (1 : Int32)) - (z_i M (z_p M l0 12) l3.toNatClampNeg)) = l2 then
    f_Mo_layCells_53 O k4 (f_Mo_layCells_14 O k4 n) n l0 l1 l2 l3 (0 : Int32) M
    else
    f_Mo_layCells_79 O k4 (f_Mo_layCells_14 O k4 n) n l0 l1 l2 l3 M
    else none
    else none
    else none
    else none
set_option maxRecDepth 100000 in
set_option maxHeartbeats 4000000 in
theorem s_Mo_layCells_14 {X : zX} {q : Unit × zM} (C : zC X zR12 prog_14_method_17_code 5 { frames := 0, cells := 0, slots := 0, locals := 0 }) (hr : zRt X none) (E : zE X none q.2 0 0) {k4 : Nat → Int32 → Int32 → zM → Option (Unit × zM)} (hk4 : ∀ (l0 : Nat) (l1 : Int32) (l2 : Int32) (M : zM), k4 l0 l1 l2 M = some q → zW X 0 0 4 [some (zP l0), some (zI l1), some (zI l2), none, none] [] M) : ∀ (n : Nat) (l0 : Nat) (l1 : Int32) (l2 : Int32) (l3 : Int32) (M : zM), f_Mo_layCells_14 (zOD X) k4 n l0 l1 l2 l3 M = some q → zW X 0 0 14 [some (zP l0), some (zI l1), some (zI l2), some (zI l3), none] [] M := by
  intro n
  induction n with
  | zero => intro l0 l1 l2 l3 M h; rw [f_Mo_layCells_14] at h; cases h
  | succ n ih =>
    intro l0 l1 l2 l3 M h
    rw [f_Mo_layCells_14] at h
    refine r_iload_n C (z_d dd_Mo_layCells 10 rfl) rfl ?_
    refine r_sipush (v := (256 : Int32)) C (z_d dd_Mo_layCells 11 rfl) (by decide) ?_
    refine r_icmp_ge C 85 (z_d dd_Mo_layCells 12 rfl) (by decide) (fun c9 => ?_) (fun c9 => ?_)
    · have h := zift h c9
      obtain ⟨v1, e2, h⟩ := zlet_ex h
      refine r_iinc (v := v1) (lv' := [some (zP l0), some (zI l1), some (zI v1), some (zI l3), none]) C (z_d dd_Mo_layCells 49 rfl) rfl (Nat.le_of_ble_eq_true rfl) (by rw [e2]; rfl) rfl ?_
      refine r_goto C 4 (z_d dd_Mo_layCells 50 rfl) (by decide) ?_
      refine r_mk [true, true, true, false, false] ?_
      exact hk4 l0 l1 v1 M h
    · have h := ziff h c9
      refine r_aload_n C (z_d dd_Mo_layCells 13 rfl) rfl ?_
      obtain ⟨h3, h⟩ := zif h
      refine r_getP C (z_d dd_Mo_layCells 14 rfl) lk_Mo_33 rfl h3 rfl ?_
      refine r_iload_n C (z_d dd_Mo_layCells 15 rfl) rfl ?_
      obtain ⟨h4, h⟩ := zif h
      obtain ⟨h5, h⟩ := zif h
      refine r_iald C (z_d dd_Mo_layCells 16 rfl) h4 h5 rfl ?_
      refine r_if_eq C 79 (z_d dd_Mo_layCells 17 rfl) (by decide) (fun c8 => ?_) (fun c8 => ?_)
      · have h := zift h c8
        exact s_Mo_layCells_79 C hr E hk4 ih n l0 l1 l2 l3 M h
      · have h := ziff h c8
        refine r_aload_n C (z_d dd_Mo_layCells 18 rfl) rfl ?_
        refine r_getI C (z_d dd_Mo_layCells 19 rfl) lk_Mo_121 rfl h3 rfl ?_
        refine r_iconst (v := (1 : Int32)) C (z_d dd_Mo_layCells 20 rfl) (by decide) ?_
        refine r_iadd C (z_d dd_Mo_layCells 21 rfl) ?_
        refine r_aload_n C (z_d dd_Mo_layCells 22 rfl) rfl ?_
        refine r_getP C (z_d dd_Mo_layCells 23 rfl) lk_Mo_33 rfl h3 rfl ?_
        refine r_iload_n C (z_d dd_Mo_layCells 24 rfl) rfl ?_
        obtain ⟨h6, h⟩ := zif h
        refine r_iald C (z_d dd_Mo_layCells 25 rfl) h4 h6 rfl ?_
        refine r_isub C (z_d dd_Mo_layCells 26 rfl) ?_
        refine r_iload_n C (z_d dd_Mo_layCells 27 rfl) rfl ?_
        refine r_icmp_eq C 50 (z_d dd_Mo_layCells 28 rfl) (by decide) (fun c7 => ?_) (fun c7 => ?_)
        · have h := zift h c7
          refine r_iconst (v := (0 : Int32)) C (z_d dd_Mo_layCells 30 rfl) (by decide) ?_
          refine r_istore (lv' := [some (zP l0), some (zI l1), some (zI l2), some (zI l3), some (zI (0 : Int32))]) C (z_d dd_Mo_layCells 31 rfl) (Nat.le_of_ble_eq_true rfl) rfl ?_
          exact s_Mo_layCells_53 C hr E hk4 ih n l0 l1 l2 l3 (0 : Int32) M h
        · have h := ziff h c7
          refine r_goto C 79 (z_d dd_Mo_layCells 29 rfl) (by decide) ?_
          exact s_Mo_layCells_79 C hr E hk4 ih n l0 l1 l2 l3 M h
def f_Mo_layCells_4 (O : zO) : Nat → Nat → Int32 → Int32 → zM → Option (Unit × zM)
  | 0, _, _, _, _ => none
  | n + 1, l0, l1, l2, M =>
    if z_k M l0 = 13 then
    if (z_i M l0 13) < l2 then
    some ((), M)
    else
    f_Mo_layCells_14 O (f_Mo_layCells_4 O n) n l0 l1 l2 (0 : Int32) M
    else none
set_option maxRecDepth 100000 in
set_option maxHeartbeats 4000000 in
theorem s_Mo_layCells_4 {X : zX} {q : Unit × zM} (C : zC X zR12 prog_14_method_17_code 5 { frames := 0, cells := 0, slots := 0, locals := 0 }) (hr : zRt X none) (E : zE X none q.2 0 0) : ∀ (n : Nat) (l0 : Nat) (l1 : Int32) (l2 : Int32) (M : zM), f_Mo_layCells_4 (zOD X) n l0 l1 l2 M = some q → zW X 0 0 4 [some (zP l0), some (zI l1), some (zI l2), none, none] [] M := by
  intro n
  induction n with
  | zero => intro l0 l1 l2 M h; rw [f_Mo_layCells_4] at h; cases h
  | succ n ih =>
    intro l0 l1 l2 M h
    rw [f_Mo_layCells_4] at h
    refine r_iload_n C (z_d dd_Mo_layCells 4 rfl) rfl ?_
    refine r_aload_n C (z_d dd_Mo_layCells 5 rfl) rfl ?_
    obtain ⟨h1, h⟩ := zif h
    refine r_getI C (z_d dd_Mo_layCells 6 rfl) lk_Mo_121 rfl h1 rfl ?_
    refine r_icmp_gt C 91 (z_d dd_Mo_layCells 7 rfl) (by decide) (fun c2 => ?_) (fun c2 => ?_)
    · have h := zift h c2
      obtain rfl := z_res h
      exact r_vret C E hr (z_d dd_Mo_layCells 51 rfl) (Nat.le_of_ble_eq_true rfl) (Nat.le_of_ble_eq_true rfl)
    · have h := ziff h c2
      refine r_iconst (v := (0 : Int32)) C (z_d dd_Mo_layCells 8 rfl) (by decide) ?_
      refine r_istore_n (lv' := [some (zP l0), some (zI l1), some (zI l2), some (zI (0 : Int32)), none]) C (z_d dd_Mo_layCells 9 rfl) (Nat.le_of_ble_eq_true rfl) rfl ?_
      exact s_Mo_layCells_14 C hr E ih n l0 l1 l2 (0 : Int32) M h
def f_Mo_layCells_0 (O : zO) (n : Nat) (l0 : Nat) (M : zM) : Option (Unit × zM) :=
  f_Mo_layCells_4 O n l0 (0 : Int32) (1 : Int32) M
set_option maxRecDepth 100000 in
set_option maxHeartbeats 4000000 in
theorem s_Mo_layCells_0 {X : zX} {q : Unit × zM} (C : zC X zR12 prog_14_method_17_code 5 { frames := 0, cells := 0, slots := 0, locals := 0 }) (hr : zRt X none) (E : zE X none q.2 0 0) : ∀ (n : Nat) (l0 : Nat) (M : zM), f_Mo_layCells_0 (zOD X) n l0 M = some q → zW X 0 0 0 [some (zP l0), none, none, none, none] [] M := by
  intro n l0 M h
  rw [f_Mo_layCells_0] at h
  refine r_iconst (v := (0 : Int32)) C (z_d dd_Mo_layCells 0 rfl) (by decide) ?_
  refine r_istore_n (lv' := [some (zP l0), some (zI (0 : Int32)), none, none, none]) C (z_d dd_Mo_layCells 1 rfl) (Nat.le_of_ble_eq_true rfl) rfl ?_
  refine r_iconst (v := (1 : Int32)) C (z_d dd_Mo_layCells 2 rfl) (by decide) ?_
  refine r_istore_n (lv' := [some (zP l0), some (zI (0 : Int32)), some (zI (1 : Int32)), none, none]) C (z_d dd_Mo_layCells 3 rfl) (Nat.le_of_ble_eq_true rfl) rfl ?_
  exact s_Mo_layCells_4 C hr E n l0 (0 : Int32) (1 : Int32) M h
def F_Mo_layCells (O : zO) (n : Nat) (l0 : Nat) (M : zM) : Option (Unit × zM) := f_Mo_layCells_0 O n l0 M
theorem S_Mo_layCells {l : Launch} {D : zD} {n : Nat} {l0 : Nat} {M : zM} {q : Unit × zM} (h : F_Mo_layCells D.2.2.2.2 n l0 M = some q) : zMet l D mi_Mo_layCells [zP l0] M none q.2 :=
  z_met (by decide) (Nat.le_of_ble_eq_true rfl) (fun X C E hr hin hD hl => by
    subst hD
    exact s_Mo_layCells_0 C hr E n l0 M h)

def f_Mo_describe_257 (O : zO) (n : Nat) (M : zM) : Option (Int32 × zM) :=
  some ((-1 : Int32), M)
set_option maxRecDepth 100000 in
set_option maxHeartbeats 4000000 in
theorem s_Mo_describe_257 {X : zX} {q : Int32 × zM} (C : zC X zR12 prog_14_method_19_code 11 { frames := 3, cells := 0, slots := 0, locals := 87 }) (hr : zRt X (some .int)) (E : zE X (some (zI q.1)) q.2 0 0) : ∀ (n : Nat) (M : zM), f_Mo_describe_257 (zOD X) n M = some q → zW X 0 0 257 [none, none, none, none, none, none, none, none, none, none, none] [] M := by
  intro n M h
  rw [f_Mo_describe_257] at h
  refine r_iconst (v := (-1 : Int32)) C (z_d dd_Mo_describe 154 rfl) (by decide) ?_
  obtain rfl := z_res h
  exact r_iretI C E hr (z_d dd_Mo_describe 155 rfl) (Nat.le_of_ble_eq_true rfl) (Nat.le_of_ble_eq_true rfl)
def f_Mo_describe_358 (O : zO) (k311 : Nat → Int32 → Int32 → Int32 → Int32 → zM → Option (Int32 × zM)) (n : Nat) (l0 : Nat) (l4 : Int32) (l5 : Int32) (l8 : Int32) (l10 : Int32) (s0 : Nat) (s1 : Int32) (s2 : Int32) (M : zM) : Option (Int32 × zM) :=
  if z_k M s0 = 100 then
  if zin s1 (z_n M s0) = true then
  zlet (w_i M s0 s1.toNatClampNeg s2) fun M3 =>
  zlet (l10 + (1 : Int32)) fun v6 =>
  k311 l0 l4 l5 l8 v6 M3
  else none
  else none
set_option maxRecDepth 100000 in
set_option maxHeartbeats 4000000 in
theorem s_Mo_describe_358 {X : zX} {q : Int32 × zM} (C : zC X zR12 prog_14_method_19_code 11 { frames := 3, cells := 0, slots := 0, locals := 87 }) (hr : zRt X (some .int)) (E : zE X (some (zI q.1)) q.2 0 0) {k311 : Nat → Int32 → Int32 → Int32 → Int32 → zM → Option (Int32 × zM)} (hk311 : ∀ (l0 : Nat) (l4 : Int32) (l5 : Int32) (l8 : Int32) (l10 : Int32) (M : zM), k311 l0 l4 l5 l8 l10 M = some q → zW X 0 0 311 [some (zP l0), none, none, none, some (zI l4), some (zI l5), none, none, some (zI l8), none, some (zI l10)] [] M) : ∀ (n : Nat) (l0 : Nat) (l4 : Int32) (l5 : Int32) (l8 : Int32) (l10 : Int32) (s0 : Nat) (s1 : Int32) (s2 : Int32) (M : zM), f_Mo_describe_358 (zOD X) k311 n l0 l4 l5 l8 l10 s0 s1 s2 M = some q → zW X 0 0 358 [some (zP l0), none, none, none, some (zI l4), some (zI l5), none, none, some (zI l8), none, some (zI l10)] [zI s2, zI s1, zP s0] M := by
  intro n l0 l4 l5 l8 l10 s0 s1 s2 M h
  rw [f_Mo_describe_358] at h
  obtain ⟨h1, h⟩ := zif h
  obtain ⟨h2, h⟩ := zif h
  obtain ⟨M3, e4, h⟩ := zlet_ex h
  have h5 := k_i e4 h1
  refine r_iast C (z_d dd_Mo_describe 210 rfl) h1 h2 e4 ?_
  obtain ⟨v6, e7, h⟩ := zlet_ex h
  refine r_iinc (v := v6) (lv' := [some (zP l0), none, none, none, some (zI l4), some (zI l5), none, none, some (zI l8), none, some (zI v6)]) C (z_d dd_Mo_describe 211 rfl) rfl (Nat.le_of_ble_eq_true rfl) (by rw [e7]; rfl) rfl ?_
  refine r_goto C 311 (z_d dd_Mo_describe 212 rfl) (by decide) ?_
  exact hk311 l0 l4 l5 l8 v6 M3 h
def f_Mo_describe_357 (O : zO) (k311 : Nat → Int32 → Int32 → Int32 → Int32 → zM → Option (Int32 × zM)) (n : Nat) (l0 : Nat) (l4 : Int32) (l5 : Int32) (l8 : Int32) (l10 : Int32) (s0 : Nat) (s1 : Int32) (M : zM) : Option (Int32 × zM) :=
  f_Mo_describe_358 O k311 n l0 l4 l5 l8 l10 s0 s1 (0 : Int32) M
set_option maxRecDepth 100000 in
set_option maxHeartbeats 4000000 in
theorem s_Mo_describe_357 {X : zX} {q : Int32 × zM} (C : zC X zR12 prog_14_method_19_code 11 { frames := 3, cells := 0, slots := 0, locals := 87 }) (hr : zRt X (some .int)) (E : zE X (some (zI q.1)) q.2 0 0) {k311 : Nat → Int32 → Int32 → Int32 → Int32 → zM → Option (Int32 × zM)} (hk311 : ∀ (l0 : Nat) (l4 : Int32) (l5 : Int32) (l8 : Int32) (l10 : Int32) (M : zM), k311 l0 l4 l5 l8 l10 M = some q → zW X 0 0 311 [some (zP l0), none, none, none, some (zI l4), some (zI l5), none, none, some (zI l8), none, some (zI l10)] [] M) : ∀ (n : Nat) (l0 : Nat) (l4 : Int32) (l5 : Int32) (l8 : Int32) (l10 : Int32) (s0 : Nat) (s1 : Int32) (M : zM), f_Mo_describe_357 (zOD X) k311 n l0 l4 l5 l8 l10 s0 s1 M = some q → zW X 0 0 357 [some (zP l0), none, none, none, some (zI l4), some (zI l5), none, none, some (zI l8), none, some (zI l10)] [zI s1, zP s0] M := by
  intro n l0 l4 l5 l8 l10 s0 s1 M h
  rw [f_Mo_describe_357] at h
  refine r_iconst (v := (0 : Int32)) C (z_d dd_Mo_describe 209 rfl) (by decide) ?_
  exact s_Mo_describe_358 C hr E hk311 n l0 l4 l5 l8 l10 s0 s1 (0 : Int32) M h
def f_Mo_describe_311 (O : zO) : Nat → Nat → Int32 → Int32 → Int32 → Int32 → zM → Option (Int32 × zM)
  | 0, _, _, _, _, _, _ => none
  | n + 1, l0, l4, l5, l8, l10, M =>
    if (256 : Int32) ≤ l10 then
    if z_k M l0 = 13 then
    (F_Mo_layCells O n l0 M).bind fun q2 =>
    some (l4, q2.2)
    else none
    else
    if z_k M l0 = 13 then
    if l5 < l10 then
    f_Mo_describe_357 O (f_Mo_describe_311 O n) n l0 l4 l5 l8 l10 (z_p M l0 12) l10 M
    else
    if z_k M (z_p M l0 23) = 100 then
    if zin l10 (z_n M (z_p M l0 23)) = true then
    if (z_i M (z_p M l0 23) l10.toNatClampNeg) ≤ 0 then
    f_Mo_describe_357 O (f_Mo_describe_311 O n) n l0 l4 l5 l8 l10 (z_p M l0 12) l10 M
    else
    if zin l10 (z_n M (z_p M l0 23)) = true then
    f_Mo_describe_358 O (f_Mo_describe_311 O n) n l0 l4 l5 l8 l10 (z_p M l0 12) l10 ((l8 + (1 : Int32)) - (z_i M (z_p M l0 23) l10.toNatClampNeg)) M
    else none
    else none
    else none
    else none
set_option maxRecDepth 100000 in
set_option maxHeartbeats 4000000 in
theorem s_Mo_describe_311 {X : zX} {q : Int32 × zM} (C : zC X zR12 prog_14_method_19_code 11 { frames := 3, cells := 0, slots := 0, locals := 87 }) (hr : zRt X (some .int)) (E : zE X (some (zI q.1)) q.2 0 0) : ∀ (n : Nat) (l0 : Nat) (l4 : Int32) (l5 : Int32) (l8 : Int32) (l10 : Int32) (M : zM), f_Mo_describe_311 (zOD X) n l0 l4 l5 l8 l10 M = some q → zW X 0 0 311 [some (zP l0), none, none, none, some (zI l4), some (zI l5), none, none, some (zI l8), none, some (zI l10)] [] M := by
  intro n
  induction n with
  | zero => intro l0 l4 l5 l8 l10 M h; rw [f_Mo_describe_311] at h; cases h
  | succ n ih =>
    intro l0 l4 l5 l8 l10 M h
    rw [f_Mo_describe_311] at h
    refine r_iload C (z_d dd_Mo_describe 186 rfl) rfl ?_
    refine r_sipush (v := (256 : Int32)) C (z_d dd_Mo_describe 187 rfl) (by decide) ?_
    refine r_icmp_ge C 365 (z_d dd_Mo_describe 188 rfl) (by decide) (fun c10 => ?_) (fun c10 => ?_)
    · have h := zift h c10
      refine r_aload_n C (z_d dd_Mo_describe 213 rfl) rfl ?_
      obtain ⟨h1, h⟩ := zif h
      obtain ⟨q2, c3, h⟩ := zbd h
      refine r_invV (as := []) C 12 (S_Mo_layCells c3) (z_d dd_Mo_describe 214 rfl) ok_Mo_layCells iv_Mo_layCells se_Mo_layCells ml_Mo_132 rfl rfl h1 rfl rfl rfl (Nat.le_of_ble_eq_true rfl) ⟨(Nat.le_of_ble_eq_true rfl), (Nat.le_of_ble_eq_true rfl)⟩ ⟨(Nat.le_of_ble_eq_true rfl), (Nat.le_of_ble_eq_true rfl)⟩ ?_
      refine r_iload C (z_d dd_Mo_describe 215 rfl) rfl ?_
      obtain rfl := z_res h
      exact r_iretI C E hr (z_d dd_Mo_describe 216 rfl) (Nat.le_of_ble_eq_true rfl) (Nat.le_of_ble_eq_true rfl)
    · have h := ziff h c10
      refine r_aload_n C (z_d dd_Mo_describe 189 rfl) rfl ?_
      obtain ⟨h4, h⟩ := zif h
      refine r_getP C (z_d dd_Mo_describe 190 rfl) lk_Mo_33 rfl h4 rfl ?_
      refine r_iload C (z_d dd_Mo_describe 191 rfl) rfl ?_
      refine r_iload C (z_d dd_Mo_describe 192 rfl) rfl ?_
      refine r_iload C (z_d dd_Mo_describe 193 rfl) rfl ?_
      refine r_icmp_gt C 357 (z_d dd_Mo_describe 194 rfl) (by decide) (fun c9 => ?_) (fun c9 => ?_)
      · have h := zift h c9
        exact s_Mo_describe_357 C hr E ih n l0 l4 l5 l8 l10 (z_p M l0 12) l10 M h
      · have h := ziff h c9
        refine r_aload_n C (z_d dd_Mo_describe 195 rfl) rfl ?_
        refine r_getP C (z_d dd_Mo_describe 196 rfl) lk_Mo_60 rfl h4 rfl ?_
        refine r_iload C (z_d dd_Mo_describe 197 rfl) rfl ?_
        obtain ⟨h5, h⟩ := zif h
        obtain ⟨h6, h⟩ := zif h
        refine r_iald C (z_d dd_Mo_describe 198 rfl) h5 h6 rfl ?_
        refine r_if_le C 357 (z_d dd_Mo_describe 199 rfl) (by decide) (fun c8 => ?_) (fun c8 => ?_)
        · have h := zift h c8
          exact s_Mo_describe_357 C hr E ih n l0 l4 l5 l8 l10 (z_p M l0 12) l10 M h
        · have h := ziff h c8
          refine r_iload C (z_d dd_Mo_describe 200 rfl) rfl ?_
          refine r_iconst (v := (1 : Int32)) C (z_d dd_Mo_describe 201 rfl) (by decide) ?_
          refine r_iadd C (z_d dd_Mo_describe 202 rfl) ?_
          refine r_aload_n C (z_d dd_Mo_describe 203 rfl) rfl ?_
          refine r_getP C (z_d dd_Mo_describe 204 rfl) lk_Mo_60 rfl h4 rfl ?_
          refine r_iload C (z_d dd_Mo_describe 205 rfl) rfl ?_
          obtain ⟨h7, h⟩ := zif h
          refine r_iald C (z_d dd_Mo_describe 206 rfl) h5 h7 rfl ?_
          refine r_isub C (z_d dd_Mo_describe 207 rfl) ?_
          refine r_goto C 358 (z_d dd_Mo_describe 208 rfl) (by decide) ?_
          exact s_Mo_describe_358 C hr E ih n l0 l4 l5 l8 l10 (z_p M l0 12) l10 ((l8 + (1 : Int32)) - (z_i M (z_p M l0 23) l10.toNatClampNeg)) M h
def f_Mo_describe_291 (O : zO) (n : Nat) (l0 : Nat) (l4 : Int32) (l5 : Int32) (l8 : Int32) (s0 : Int32) (s1 : Int32) (M : zM) : Option (Int32 × zM) :=
  zlet (s0 + s1) fun v1 =>
  if (2 : Int32) ≤ v1 then
  if z_k M l0 = 13 then
  zlet (w_i M l0 13 l8) fun M4 =>
  f_Mo_describe_311 O n l0 l4 l5 l8 (0 : Int32) M4
  else none
  else
  some ((-1 : Int32), M)
set_option maxRecDepth 100000 in
set_option maxHeartbeats 4000000 in
theorem s_Mo_describe_291 {X : zX} {q : Int32 × zM} (C : zC X zR12 prog_14_method_19_code 11 { frames := 3, cells := 0, slots := 0, locals := 87 }) (hr : zRt X (some .int)) (E : zE X (some (zI q.1)) q.2 0 0) : ∀ (n : Nat) (l0 : Nat) (l4 : Int32) (l5 : Int32) (l8 : Int32) (s0 : Int32) (s1 : Int32) (M : zM), f_Mo_describe_291 (zOD X) n l0 l4 l5 l8 s0 s1 M = some q → zW X 0 0 291 [some (zP l0), none, none, none, some (zI l4), some (zI l5), none, none, some (zI l8), none, none] [zI s1, zI s0] M := by
  intro n l0 l4 l5 l8 s0 s1 M h
  rw [f_Mo_describe_291] at h
  refine r_iadd C (z_d dd_Mo_describe 174 rfl) ?_
  obtain ⟨v1, e2, h⟩ := zlet_ex h
  refine r_nmI e2 ?_
  refine r_istore (lv' := [some (zP l0), none, none, none, some (zI l4), some (zI l5), none, some (zI v1), some (zI l8), none, none]) C (z_d dd_Mo_describe 175 rfl) (Nat.le_of_ble_eq_true rfl) rfl ?_
  refine r_iload C (z_d dd_Mo_describe 176 rfl) rfl ?_
  refine r_iconst (v := (2 : Int32)) C (z_d dd_Mo_describe 177 rfl) (by decide) ?_
  refine r_icmp_ge C 302 (z_d dd_Mo_describe 178 rfl) (by decide) (fun c7 => ?_) (fun c7 => ?_)
  · have h := zift h c7
    refine r_aload_n C (z_d dd_Mo_describe 181 rfl) rfl ?_
    refine r_iload C (z_d dd_Mo_describe 182 rfl) rfl ?_
    obtain ⟨h3, h⟩ := zif h
    obtain ⟨M4, e5, h⟩ := zlet_ex h
    have h6 := k_i e5 h3
    refine r_putI C (z_d dd_Mo_describe 183 rfl) lp_Mo_121 rfl h3 e5 ?_
    refine r_iconst (v := (0 : Int32)) C (z_d dd_Mo_describe 184 rfl) (by decide) ?_
    refine r_istore (lv' := [some (zP l0), none, none, none, some (zI l4), some (zI l5), none, some (zI v1), some (zI l8), none, some (zI (0 : Int32))]) C (z_d dd_Mo_describe 185 rfl) (Nat.le_of_ble_eq_true rfl) rfl ?_
    refine r_mk [true, false, false, false, true, true, false, false, true, false, true] ?_
    exact s_Mo_describe_311 C hr E n l0 l4 l5 l8 (0 : Int32) M4 h
  · have h := ziff h c7
    refine r_iconst (v := (-1 : Int32)) C (z_d dd_Mo_describe 179 rfl) (by decide) ?_
    obtain rfl := z_res h
    exact r_iretI C E hr (z_d dd_Mo_describe 180 rfl) (Nat.le_of_ble_eq_true rfl) (Nat.le_of_ble_eq_true rfl)
def f_Mo_describe_207 (O : zO) (k152 : Nat → Int32 → Int32 → Int32 → Int32 → Int32 → zM → Option (Int32 × zM)) (n : Nat) (l0 : Nat) (l4 : Int32) (l5 : Int32) (l6 : Int32) (l8 : Int32) (s0 : Int32) (s1 : Int32) (M : zM) : Option (Int32 × zM) :=
  zlet (s0 + s1) fun v1 =>
  zlet (l8 + (1 : Int32)) fun v3 =>
  k152 l0 l4 l5 l6 v1 v3 M
set_option maxRecDepth 100000 in
set_option maxHeartbeats 4000000 in
theorem s_Mo_describe_207 {X : zX} {q : Int32 × zM} (C : zC X zR12 prog_14_method_19_code 11 { frames := 3, cells := 0, slots := 0, locals := 87 }) (hr : zRt X (some .int)) (E : zE X (some (zI q.1)) q.2 0 0) {k152 : Nat → Int32 → Int32 → Int32 → Int32 → Int32 → zM → Option (Int32 × zM)} (hk152 : ∀ (l0 : Nat) (l4 : Int32) (l5 : Int32) (l6 : Int32) (l7 : Int32) (l8 : Int32) (M : zM), k152 l0 l4 l5 l6 l7 l8 M = some q → zW X 0 0 152 [some (zP l0), none, none, none, some (zI l4), some (zI l5), some (zI l6), some (zI l7), some (zI l8), none, none] [] M) : ∀ (n : Nat) (l0 : Nat) (l4 : Int32) (l5 : Int32) (l6 : Int32) (l8 : Int32) (s0 : Int32) (s1 : Int32) (M : zM), f_Mo_describe_207 (zOD X) k152 n l0 l4 l5 l6 l8 s0 s1 M = some q → zW X 0 0 207 [some (zP l0), none, none, none, some (zI l4), some (zI l5), some (zI l6), none, some (zI l8), none, none] [zI s1, zI s0] M := by
  intro n l0 l4 l5 l6 l8 s0 s1 M h
  rw [f_Mo_describe_207] at h
  refine r_iadd C (z_d dd_Mo_describe 128 rfl) ?_
  obtain ⟨v1, e2, h⟩ := zlet_ex h
  refine r_nmI e2 ?_
  refine r_istore (lv' := [some (zP l0), none, none, none, some (zI l4), some (zI l5), some (zI l6), some (zI v1), some (zI l8), none, none]) C (z_d dd_Mo_describe 129 rfl) (Nat.le_of_ble_eq_true rfl) rfl ?_
  obtain ⟨v3, e4, h⟩ := zlet_ex h
  refine r_iinc (v := v3) (lv' := [some (zP l0), none, none, none, some (zI l4), some (zI l5), some (zI l6), some (zI v1), some (zI v3), none, none]) C (z_d dd_Mo_describe 130 rfl) rfl (Nat.le_of_ble_eq_true rfl) (by rw [e4]; rfl) rfl ?_
  refine r_goto C 152 (z_d dd_Mo_describe 131 rfl) (by decide) ?_
  exact hk152 l0 l4 l5 l6 v1 v3 M h
def f_Mo_describe_186 (O : zO) (k152 : Nat → Int32 → Int32 → Int32 → Int32 → Int32 → zM → Option (Int32 × zM)) (n : Nat) (l0 : Nat) (l4 : Int32) (l5 : Int32) (l7 : Int32) (l8 : Int32) (s0 : Int32) (s1 : Int32) (M : zM) : Option (Int32 × zM) :=
  zlet (s0 + s1) fun v1 =>
  if z_k M l0 = 13 then
  if z_k M (z_p M l0 23) = 100 then
  if zin l8 (z_n M (z_p M l0 23)) = true then
  if (z_i M (z_p M l0 23) l8.toNatClampNeg) = (1 : Int32) then
  f_Mo_describe_207 O k152 n l0 l4 l5 v1 l8 l7 (1 : Int32) M
  else
  f_Mo_describe_207 O k152 n l0 l4 l5 v1 l8 l7 (0 : Int32) M
  else none
  else none
  else none
set_option maxRecDepth 100000 in
set_option maxHeartbeats 4000000 in
theorem s_Mo_describe_186 {X : zX} {q : Int32 × zM} (C : zC X zR12 prog_14_method_19_code 11 { frames := 3, cells := 0, slots := 0, locals := 87 }) (hr : zRt X (some .int)) (E : zE X (some (zI q.1)) q.2 0 0) {k152 : Nat → Int32 → Int32 → Int32 → Int32 → Int32 → zM → Option (Int32 × zM)} (hk152 : ∀ (l0 : Nat) (l4 : Int32) (l5 : Int32) (l6 : Int32) (l7 : Int32) (l8 : Int32) (M : zM), k152 l0 l4 l5 l6 l7 l8 M = some q → zW X 0 0 152 [some (zP l0), none, none, none, some (zI l4), some (zI l5), some (zI l6), some (zI l7), some (zI l8), none, none] [] M) : ∀ (n : Nat) (l0 : Nat) (l4 : Int32) (l5 : Int32) (l7 : Int32) (l8 : Int32) (s0 : Int32) (s1 : Int32) (M : zM), f_Mo_describe_186 (zOD X) k152 n l0 l4 l5 l7 l8 s0 s1 M = some q → zW X 0 0 186 [some (zP l0), none, none, none, some (zI l4), some (zI l5), none, some (zI l7), some (zI l8), none, none] [zI s1, zI s0] M := by
  intro n l0 l4 l5 l7 l8 s0 s1 M h
  rw [f_Mo_describe_186] at h
  refine r_iadd C (z_d dd_Mo_describe 116 rfl) ?_
  obtain ⟨v1, e2, h⟩ := zlet_ex h
  refine r_nmI e2 ?_
  refine r_istore (lv' := [some (zP l0), none, none, none, some (zI l4), some (zI l5), some (zI v1), some (zI l7), some (zI l8), none, none]) C (z_d dd_Mo_describe 117 rfl) (Nat.le_of_ble_eq_true rfl) rfl ?_
  refine r_iload C (z_d dd_Mo_describe 118 rfl) rfl ?_
  refine r_aload_n C (z_d dd_Mo_describe 119 rfl) rfl ?_
  obtain ⟨h3, h⟩ := zif h
  refine r_getP C (z_d dd_Mo_describe 120 rfl) lk_Mo_60 rfl h3 rfl ?_
  refine r_iload C (z_d dd_Mo_describe 121 rfl) rfl ?_
  obtain ⟨h4, h⟩ := zif h
  obtain ⟨h5, h⟩ := zif h
  refine r_iald C (z_d dd_Mo_describe 122 rfl) h4 h5 rfl ?_
  refine r_iconst (v := (1 : Int32)) C (z_d dd_Mo_describe 123 rfl) (by decide) ?_
  refine r_icmp_ne C 206 (z_d dd_Mo_describe 124 rfl) (by decide) (fun c6 => ?_) (fun c6 => ?_)
  · have h := ziff h c6
    refine r_iconst (v := (0 : Int32)) C (z_d dd_Mo_describe 127 rfl) (by decide) ?_
    refine r_mk [true, false, false, false, true, true, true, false, true, false, false] ?_
    exact s_Mo_describe_207 C hr E hk152 n l0 l4 l5 v1 l8 l7 (0 : Int32) M h
  · have h := zift h c6
    refine r_iconst (v := (1 : Int32)) C (z_d dd_Mo_describe 125 rfl) (by decide) ?_
    refine r_goto C 207 (z_d dd_Mo_describe 126 rfl) (by decide) ?_
    refine r_mk [true, false, false, false, true, true, true, false, true, false, false] ?_
    exact s_Mo_describe_207 C hr E hk152 n l0 l4 l5 v1 l8 l7 (1 : Int32) M h
def f_Mo_describe_152 (O : zO) : Nat → Nat → Int32 → Int32 → Int32 → Int32 → Int32 → zM → Option (Int32 × zM)
  | 0, _, _, _, _, _, _, _ => none
  | n + 1, l0, l4, l5, l6, l7, l8, M =>
    if l5 ≤ l8 then
    if l6 = 0 then
    some ((-1 : Int32), M)
    else
    (F_Mo_highest O n l6 M).bind fun q1 =>
    zlet (q1.1 + (1 : Int32)) fun v3 =>
    zlet (((1 : Int32) <<< (v3 &&& 31)) - l6) fun v5 =>
    if (11 : Int32) < v3 then
    f_Mo_describe_257 O n q1.2
    else
    if z_k q1.2 l0 = 13 then
    (F_Mo_isPower O n l0 v5 q1.2).bind fun q8 =>
    if q8.1 = 0 then
    f_Mo_describe_257 O n q8.2
    else
    if z_k q8.2 l0 = 13 then
    (F_Mo_highest O n v5 q8.2).bind fun q11 =>
    if z_k q11.2 (z_p q8.2 l0 23) = 100 then
    if zin l5 (z_n q11.2 (z_p q8.2 l0 23)) = true then
    zlet (w_i q11.2 (z_p q8.2 l0 23) l5.toNatClampNeg (q11.1 + (1 : Int32))) fun M15 =>
    if z_k M15 l0 = 13 then
    if z_k M15 (z_p M15 l0 23) = 100 then
    if zin l5 (z_n M15 (z_p M15 l0 23)) = true then
    if (z_i M15 (z_p M15 l0 23) l5.toNatClampNeg) = (1 : Int32) then
    f_Mo_describe_291 O n l0 l4 l5 v3 l7 (1 : Int32) M15
    else
    f_Mo_describe_291 O n l0 l4 l5 v3 l7 (0 : Int32) M15
    else none
    else none
    else none
    else none
    else none
    else none
    else none
    else
    if z_k M l0 = 13 then
    if z_k M (z_p M l0 23) = 100 then
    if zin l8 (z_n M (z_p M l0 23)) = true then
    if (z_i M (z_p M l0 23) l8.toNatClampNeg) ≤ 0 then
    f_Mo_describe_186 O (f_Mo_describe_152 O n) n l0 l4 l5 l7 l8 l6 (0 : Int32) M
    else
    if zin l8 (z_n M (z_p M l0 23)) = true then
    f_Mo_describe_186 O (f_Mo_describe_152 O n) n l0 l4 l5 l7 l8 l6 ((1 : Int32) <<< (((z_i M (z_p M l0 23) l8.toNatClampNeg) - (1 : Int32)) &&& 31)) M
    else none
    else none
    else none
    else none
set_option maxRecDepth 100000 in
set_option maxHeartbeats 4000000 in
theorem s_Mo_describe_152 {X : zX} {q : Int32 × zM} (C : zC X zR12 prog_14_method_19_code 11 { frames := 3, cells := 0, slots := 0, locals := 87 }) (hr : zRt X (some .int)) (E : zE X (some (zI q.1)) q.2 0 0) : ∀ (n : Nat) (l0 : Nat) (l4 : Int32) (l5 : Int32) (l6 : Int32) (l7 : Int32) (l8 : Int32) (M : zM), f_Mo_describe_152 (zOD X) n l0 l4 l5 l6 l7 l8 M = some q → zW X 0 0 152 [some (zP l0), none, none, none, some (zI l4), some (zI l5), some (zI l6), some (zI l7), some (zI l8), none, none] [] M := by
  intro n
  induction n with
  | zero => intro l0 l4 l5 l6 l7 l8 M h; rw [f_Mo_describe_152] at h; cases h
  | succ n ih =>
    intro l0 l4 l5 l6 l7 l8 M h
    rw [f_Mo_describe_152] at h
    refine r_iload C (z_d dd_Mo_describe 97 rfl) rfl ?_
    refine r_iload C (z_d dd_Mo_describe 98 rfl) rfl ?_
    refine r_icmp_ge C 216 (z_d dd_Mo_describe 99 rfl) (by decide) (fun c30 => ?_) (fun c30 => ?_)
    · have h := zift h c30
      refine r_iload C (z_d dd_Mo_describe 132 rfl) rfl ?_
      refine r_if_ne C 223 (z_d dd_Mo_describe 133 rfl) (by decide) (fun c24 => ?_) (fun c24 => ?_)
      · have h := ziff h c24
        refine r_iload C (z_d dd_Mo_describe 136 rfl) rfl ?_
        obtain ⟨q1, c2, h⟩ := zbd h
        refine r_invS (as := [zI l6]) C (S_Mo_highest c2) (z_d dd_Mo_describe 137 rfl) ok_Mo_highest sv_Mo_highest ml_Mo_98 rfl rfl rfl (Nat.le_of_ble_eq_true rfl) ⟨(Nat.le_of_ble_eq_true rfl), (Nat.le_of_ble_eq_true rfl)⟩ ⟨(Nat.le_of_ble_eq_true rfl), (Nat.le_of_ble_eq_true rfl)⟩ ?_
        refine r_iconst (v := (1 : Int32)) C (z_d dd_Mo_describe 138 rfl) (by decide) ?_
        refine r_iadd C (z_d dd_Mo_describe 139 rfl) ?_
        obtain ⟨v3, e4, h⟩ := zlet_ex h
        refine r_nmI e4 ?_
        refine r_istore (lv' := [some (zP l0), none, none, none, some (zI l4), some (zI l5), some (zI l6), some (zI l7), some (zI v3), none, none]) C (z_d dd_Mo_describe 140 rfl) (Nat.le_of_ble_eq_true rfl) rfl ?_
        refine r_iconst (v := (1 : Int32)) C (z_d dd_Mo_describe 141 rfl) (by decide) ?_
        refine r_iload C (z_d dd_Mo_describe 142 rfl) rfl ?_
        refine r_ishl C (z_d dd_Mo_describe 143 rfl) ?_
        refine r_iload C (z_d dd_Mo_describe 144 rfl) rfl ?_
        refine r_isub C (z_d dd_Mo_describe 145 rfl) ?_
        obtain ⟨v5, e6, h⟩ := zlet_ex h
        refine r_nmI e6 ?_
        refine r_istore (lv' := [some (zP l0), none, none, none, some (zI l4), some (zI l5), some (zI l6), some (zI l7), some (zI v3), some (zI v5), none]) C (z_d dd_Mo_describe 146 rfl) (Nat.le_of_ble_eq_true rfl) rfl ?_
        refine r_iload C (z_d dd_Mo_describe 147 rfl) rfl ?_
        refine r_bipush (v := (11 : Int32)) C (z_d dd_Mo_describe 148 rfl) (by decide) ?_
        refine r_icmp_gt C 257 (z_d dd_Mo_describe 149 rfl) (by decide) (fun c23 => ?_) (fun c23 => ?_)
        · have h := zift h c23
          refine r_mk [false, false, false, false, false, false, false, false, false, false, false] ?_
          exact s_Mo_describe_257 C hr E n q1.2 h
        · have h := ziff h c23
          refine r_aload_n C (z_d dd_Mo_describe 150 rfl) rfl ?_
          refine r_iload C (z_d dd_Mo_describe 151 rfl) rfl ?_
          obtain ⟨h7, h⟩ := zif h
          obtain ⟨q8, c9, h⟩ := zbd h
          refine r_invV (as := [zI v5]) C 12 (S_Mo_isPower c9) (z_d dd_Mo_describe 152 rfl) ok_Mo_isPower iv_Mo_isPower se_Mo_isPower ml_Mo_128 rfl rfl h7 rfl rfl rfl (Nat.le_of_ble_eq_true rfl) ⟨(Nat.le_of_ble_eq_true rfl), (Nat.le_of_ble_eq_true rfl)⟩ ⟨(Nat.le_of_ble_eq_true rfl), (Nat.le_of_ble_eq_true rfl)⟩ ?_
          refine r_if_ne C 259 (z_d dd_Mo_describe 153 rfl) (by decide) (fun c22 => ?_) (fun c22 => ?_)
          · have h := ziff h c22
            refine r_aload_n C (z_d dd_Mo_describe 156 rfl) rfl ?_
            obtain ⟨h10, h⟩ := zif h
            refine r_getP C (z_d dd_Mo_describe 157 rfl) lk_Mo_60 rfl h10 rfl ?_
            refine r_iload C (z_d dd_Mo_describe 158 rfl) rfl ?_
            refine r_iload C (z_d dd_Mo_describe 159 rfl) rfl ?_
            obtain ⟨q11, c12, h⟩ := zbd h
            refine r_invS (as := [zI v5]) C (S_Mo_highest c12) (z_d dd_Mo_describe 160 rfl) ok_Mo_highest sv_Mo_highest ml_Mo_98 rfl rfl rfl (Nat.le_of_ble_eq_true rfl) ⟨(Nat.le_of_ble_eq_true rfl), (Nat.le_of_ble_eq_true rfl)⟩ ⟨(Nat.le_of_ble_eq_true rfl), (Nat.le_of_ble_eq_true rfl)⟩ ?_
            refine r_iconst (v := (1 : Int32)) C (z_d dd_Mo_describe 161 rfl) (by decide) ?_
            refine r_iadd C (z_d dd_Mo_describe 162 rfl) ?_
            obtain ⟨h13, h⟩ := zif h
            obtain ⟨h14, h⟩ := zif h
            obtain ⟨M15, e16, h⟩ := zlet_ex h
            have h17 := k_i e16 h13
            refine r_iast C (z_d dd_Mo_describe 163 rfl) h13 h14 e16 ?_
            refine r_iload C (z_d dd_Mo_describe 164 rfl) rfl ?_
            refine r_aload_n C (z_d dd_Mo_describe 165 rfl) rfl ?_
            obtain ⟨h18, h⟩ := zif h
            refine r_getP C (z_d dd_Mo_describe 166 rfl) lk_Mo_60 rfl h18 rfl ?_
            refine r_iload C (z_d dd_Mo_describe 167 rfl) rfl ?_
            obtain ⟨h19, h⟩ := zif h
            obtain ⟨h20, h⟩ := zif h
            refine r_iald C (z_d dd_Mo_describe 168 rfl) h19 h20 rfl ?_
            refine r_iconst (v := (1 : Int32)) C (z_d dd_Mo_describe 169 rfl) (by decide) ?_
            refine r_icmp_ne C 290 (z_d dd_Mo_describe 170 rfl) (by decide) (fun c21 => ?_) (fun c21 => ?_)
            · have h := ziff h c21
              refine r_iconst (v := (0 : Int32)) C (z_d dd_Mo_describe 173 rfl) (by decide) ?_
              refine r_mk [true, false, false, false, true, true, false, false, true, false, false] ?_
              exact s_Mo_describe_291 C hr E n l0 l4 l5 v3 l7 (0 : Int32) M15 h
            · have h := zift h c21
              refine r_iconst (v := (1 : Int32)) C (z_d dd_Mo_describe 171 rfl) (by decide) ?_
              refine r_goto C 291 (z_d dd_Mo_describe 172 rfl) (by decide) ?_
              refine r_mk [true, false, false, false, true, true, false, false, true, false, false] ?_
              exact s_Mo_describe_291 C hr E n l0 l4 l5 v3 l7 (1 : Int32) M15 h
          · have h := zift h c22
            refine r_mk [false, false, false, false, false, false, false, false, false, false, false] ?_
            exact s_Mo_describe_257 C hr E n q8.2 h
      · have h := zift h c24
        refine r_iconst (v := (-1 : Int32)) C (z_d dd_Mo_describe 134 rfl) (by decide) ?_
        obtain rfl := z_res h
        exact r_iretI C E hr (z_d dd_Mo_describe 135 rfl) (Nat.le_of_ble_eq_true rfl) (Nat.le_of_ble_eq_true rfl)
    · have h := ziff h c30
      refine r_iload C (z_d dd_Mo_describe 100 rfl) rfl ?_
      refine r_aload_n C (z_d dd_Mo_describe 101 rfl) rfl ?_
      obtain ⟨h25, h⟩ := zif h
      refine r_getP C (z_d dd_Mo_describe 102 rfl) lk_Mo_60 rfl h25 rfl ?_
      refine r_iload C (z_d dd_Mo_describe 103 rfl) rfl ?_
      obtain ⟨h26, h⟩ := zif h
      obtain ⟨h27, h⟩ := zif h
      refine r_iald C (z_d dd_Mo_describe 104 rfl) h26 h27 rfl ?_
      refine r_if_le C 185 (z_d dd_Mo_describe 105 rfl) (by decide) (fun c29 => ?_) (fun c29 => ?_)
      · have h := zift h c29
        refine r_iconst (v := (0 : Int32)) C (z_d dd_Mo_describe 115 rfl) (by decide) ?_
        refine r_mk [true, false, false, false, true, true, false, true, true, false, false] ?_
        exact s_Mo_describe_186 C hr E ih n l0 l4 l5 l7 l8 l6 (0 : Int32) M h
      · have h := ziff h c29
        refine r_iconst (v := (1 : Int32)) C (z_d dd_Mo_describe 106 rfl) (by decide) ?_
        refine r_aload_n C (z_d dd_Mo_describe 107 rfl) rfl ?_
        refine r_getP C (z_d dd_Mo_describe 108 rfl) lk_Mo_60 rfl h25 rfl ?_
        refine r_iload C (z_d dd_Mo_describe 109 rfl) rfl ?_
        obtain ⟨h28, h⟩ := zif h
        refine r_iald C (z_d dd_Mo_describe 110 rfl) h26 h28 rfl ?_
        refine r_iconst (v := (1 : Int32)) C (z_d dd_Mo_describe 111 rfl) (by decide) ?_
        refine r_isub C (z_d dd_Mo_describe 112 rfl) ?_
        refine r_ishl C (z_d dd_Mo_describe 113 rfl) ?_
        refine r_goto C 186 (z_d dd_Mo_describe 114 rfl) (by decide) ?_
        refine r_mk [true, false, false, false, true, true, false, true, true, false, false] ?_
        exact s_Mo_describe_186 C hr E ih n l0 l4 l5 l7 l8 l6 ((1 : Int32) <<< (((z_i M (z_p M l0 23) l8.toNatClampNeg) - (1 : Int32)) &&& 31)) M h
def f_Mo_describe_136 (O : zO) (n : Nat) (l0 : Nat) (l4 : Int32) (l5 : Int32) (M : zM) : Option (Int32 × zM) :=
  if 0 ≤ l5 then
  f_Mo_describe_152 O n l0 l4 l5 (0 : Int32) (0 : Int32) (0 : Int32) M
  else
  some ((-1 : Int32), M)
set_option maxRecDepth 100000 in
set_option maxHeartbeats 4000000 in
theorem s_Mo_describe_136 {X : zX} {q : Int32 × zM} (C : zC X zR12 prog_14_method_19_code 11 { frames := 3, cells := 0, slots := 0, locals := 87 }) (hr : zRt X (some .int)) (E : zE X (some (zI q.1)) q.2 0 0) : ∀ (n : Nat) (l0 : Nat) (l4 : Int32) (l5 : Int32) (M : zM), f_Mo_describe_136 (zOD X) n l0 l4 l5 M = some q → zW X 0 0 136 [some (zP l0), none, none, none, some (zI l4), some (zI l5), none, none, none, none, none] [] M := by
  intro n l0 l4 l5 M h
  rw [f_Mo_describe_136] at h
  refine r_iload C (z_d dd_Mo_describe 87 rfl) rfl ?_
  refine r_if_ge C 143 (z_d dd_Mo_describe 88 rfl) (by decide) (fun c1 => ?_) (fun c1 => ?_)
  · have h := zift h c1
    refine r_iconst (v := (0 : Int32)) C (z_d dd_Mo_describe 91 rfl) (by decide) ?_
    refine r_istore (lv' := [some (zP l0), none, none, none, some (zI l4), some (zI l5), some (zI (0 : Int32)), none, none, none, none]) C (z_d dd_Mo_describe 92 rfl) (Nat.le_of_ble_eq_true rfl) rfl ?_
    refine r_iconst (v := (0 : Int32)) C (z_d dd_Mo_describe 93 rfl) (by decide) ?_
    refine r_istore (lv' := [some (zP l0), none, none, none, some (zI l4), some (zI l5), some (zI (0 : Int32)), some (zI (0 : Int32)), none, none, none]) C (z_d dd_Mo_describe 94 rfl) (Nat.le_of_ble_eq_true rfl) rfl ?_
    refine r_iconst (v := (0 : Int32)) C (z_d dd_Mo_describe 95 rfl) (by decide) ?_
    refine r_istore (lv' := [some (zP l0), none, none, none, some (zI l4), some (zI l5), some (zI (0 : Int32)), some (zI (0 : Int32)), some (zI (0 : Int32)), none, none]) C (z_d dd_Mo_describe 96 rfl) (Nat.le_of_ble_eq_true rfl) rfl ?_
    exact s_Mo_describe_152 C hr E n l0 l4 l5 (0 : Int32) (0 : Int32) (0 : Int32) M h
  · have h := ziff h c1
    refine r_iconst (v := (-1 : Int32)) C (z_d dd_Mo_describe 89 rfl) (by decide) ?_
    obtain rfl := z_res h
    exact r_iretI C E hr (z_d dd_Mo_describe 90 rfl) (Nat.le_of_ble_eq_true rfl) (Nat.le_of_ble_eq_true rfl)
def f_Mo_describe_115 (O : zO) (k61 : Nat → Int32 → Int32 → Int32 → Int32 → zM → Option (Int32 × zM)) (n : Nat) (l0 : Nat) (l1 : Int32) (l4 : Int32) (l5 : Int32) (l6 : Int32) (s0 : Nat) (s1 : Int32) (s2 : Int32) (M : zM) : Option (Int32 × zM) :=
  if z_k M s0 = 100 then
  if zin s1 (z_n M s0) = true then
  zlet (w_i M s0 s1.toNatClampNeg s2) fun M3 =>
  zlet (l6 + (1 : Int32)) fun v6 =>
  k61 l0 l1 l4 l5 v6 M3
  else none
  else none
set_option maxRecDepth 100000 in
set_option maxHeartbeats 4000000 in
theorem s_Mo_describe_115 {X : zX} {q : Int32 × zM} (C : zC X zR12 prog_14_method_19_code 11 { frames := 3, cells := 0, slots := 0, locals := 87 }) (hr : zRt X (some .int)) (E : zE X (some (zI q.1)) q.2 0 0) {k61 : Nat → Int32 → Int32 → Int32 → Int32 → zM → Option (Int32 × zM)} (hk61 : ∀ (l0 : Nat) (l1 : Int32) (l4 : Int32) (l5 : Int32) (l6 : Int32) (M : zM), k61 l0 l1 l4 l5 l6 M = some q → zW X 0 0 61 [some (zP l0), some (zI l1), none, none, some (zI l4), some (zI l5), some (zI l6), none, none, none, none] [] M) : ∀ (n : Nat) (l0 : Nat) (l1 : Int32) (l4 : Int32) (l5 : Int32) (l6 : Int32) (s0 : Nat) (s1 : Int32) (s2 : Int32) (M : zM), f_Mo_describe_115 (zOD X) k61 n l0 l1 l4 l5 l6 s0 s1 s2 M = some q → zW X 0 0 115 [some (zP l0), some (zI l1), none, none, some (zI l4), some (zI l5), some (zI l6), none, none, none, none] [zI s2, zI s1, zP s0] M := by
  intro n l0 l1 l4 l5 l6 s0 s1 s2 M h
  rw [f_Mo_describe_115] at h
  obtain ⟨h1, h⟩ := zif h
  obtain ⟨h2, h⟩ := zif h
  obtain ⟨M3, e4, h⟩ := zlet_ex h
  have h5 := k_i e4 h1
  refine r_iast C (z_d dd_Mo_describe 76 rfl) h1 h2 e4 ?_
  obtain ⟨v6, e7, h⟩ := zlet_ex h
  refine r_iinc (v := v6) (lv' := [some (zP l0), some (zI l1), none, none, some (zI l4), some (zI l5), some (zI v6), none, none, none, none]) C (z_d dd_Mo_describe 77 rfl) rfl (Nat.le_of_ble_eq_true rfl) (by rw [e7]; rfl) rfl ?_
  refine r_goto C 61 (z_d dd_Mo_describe 78 rfl) (by decide) ?_
  exact hk61 l0 l1 l4 l5 v6 M3 h
def f_Mo_describe_61 (O : zO) : Nat → Nat → Int32 → Int32 → Int32 → Int32 → zM → Option (Int32 × zM)
  | 0, _, _, _, _, _, _ => none
  | n + 1, l0, l1, l4, l5, l6, M =>
    if l5 ≤ l6 then
    f_Mo_describe_136 O n l0 l4 l5 M
    else
    if z_k M l0 = 13 then
    if (l6 - l6 / (2 : Int32) * (2 : Int32)) = 0 then
    if z_k M (z_p M l0 0) = 100 then
    if zin ((l1 + (1 : Int32)) + (l6 / (2 : Int32))) (z_n M (z_p M l0 0)) = true then
    f_Mo_describe_115 O (f_Mo_describe_61 O n) n l0 l1 l4 l5 l6 (z_p M l0 23) l6 ((z_i M (z_p M l0 0) ((l1 + (1 : Int32)) + (l6 / (2 : Int32))).toNatClampNeg) >>> ((4 : Int32) &&& 31)) M
    else none
    else none
    else
    if z_k M (z_p M l0 0) = 100 then
    if zin ((l1 + (1 : Int32)) + (l6 / (2 : Int32))) (z_n M (z_p M l0 0)) = true then
    f_Mo_describe_115 O (f_Mo_describe_61 O n) n l0 l1 l4 l5 l6 (z_p M l0 23) l6 ((z_i M (z_p M l0 0) ((l1 + (1 : Int32)) + (l6 / (2 : Int32))).toNatClampNeg) &&& (15 : Int32)) M
    else none
    else none
    else none
set_option maxRecDepth 100000 in
set_option maxHeartbeats 4000000 in
theorem s_Mo_describe_61 {X : zX} {q : Int32 × zM} (C : zC X zR12 prog_14_method_19_code 11 { frames := 3, cells := 0, slots := 0, locals := 87 }) (hr : zRt X (some .int)) (E : zE X (some (zI q.1)) q.2 0 0) : ∀ (n : Nat) (l0 : Nat) (l1 : Int32) (l4 : Int32) (l5 : Int32) (l6 : Int32) (M : zM), f_Mo_describe_61 (zOD X) n l0 l1 l4 l5 l6 M = some q → zW X 0 0 61 [some (zP l0), some (zI l1), none, none, some (zI l4), some (zI l5), some (zI l6), none, none, none, none] [] M := by
  intro n
  induction n with
  | zero => intro l0 l1 l4 l5 l6 M h; rw [f_Mo_describe_61] at h; cases h
  | succ n ih =>
    intro l0 l1 l4 l5 l6 M h
    rw [f_Mo_describe_61] at h
    refine r_iload C (z_d dd_Mo_describe 41 rfl) rfl ?_
    refine r_iload C (z_d dd_Mo_describe 42 rfl) rfl ?_
    refine r_icmp_ge C 122 (z_d dd_Mo_describe 43 rfl) (by decide) (fun c7 => ?_) (fun c7 => ?_)
    · have h := zift h c7
      refine r_goto C 136 (z_d dd_Mo_describe 79 rfl) (by decide) ?_
      refine r_mk [true, false, false, false, true, true, false, false, false, false, false] ?_
      exact s_Mo_describe_136 C hr E n l0 l4 l5 M h
    · have h := ziff h c7
      refine r_aload_n C (z_d dd_Mo_describe 44 rfl) rfl ?_
      obtain ⟨h1, h⟩ := zif h
      refine r_getP C (z_d dd_Mo_describe 45 rfl) lk_Mo_60 rfl h1 rfl ?_
      refine r_iload C (z_d dd_Mo_describe 46 rfl) rfl ?_
      refine r_iload C (z_d dd_Mo_describe 47 rfl) rfl ?_
      refine r_iconst (v := (2 : Int32)) C (z_d dd_Mo_describe 48 rfl) (by decide) ?_
      refine r_irem C (z_d dd_Mo_describe 49 rfl) (by decide) ?_
      refine r_if_ne C 99 (z_d dd_Mo_describe 50 rfl) (by decide) (fun c6 => ?_) (fun c6 => ?_)
      · have h := ziff h c6
        refine r_aload_n C (z_d dd_Mo_describe 64 rfl) rfl ?_
        refine r_getP C (z_d dd_Mo_describe 65 rfl) lk_Mo_7 rfl h1 rfl ?_
        refine r_iload_n C (z_d dd_Mo_describe 66 rfl) rfl ?_
        refine r_iconst (v := (1 : Int32)) C (z_d dd_Mo_describe 67 rfl) (by decide) ?_
        refine r_iadd C (z_d dd_Mo_describe 68 rfl) ?_
        refine r_iload C (z_d dd_Mo_describe 69 rfl) rfl ?_
        refine r_iconst (v := (2 : Int32)) C (z_d dd_Mo_describe 70 rfl) (by decide) ?_
        refine r_idiv C (z_d dd_Mo_describe 71 rfl) (by decide) ?_
        refine r_iadd C (z_d dd_Mo_describe 72 rfl) ?_
        obtain ⟨h2, h⟩ := zif h
        obtain ⟨h3, h⟩ := zif h
        refine r_iald C (z_d dd_Mo_describe 73 rfl) h2 h3 rfl ?_
        refine r_bipush (v := (15 : Int32)) C (z_d dd_Mo_describe 74 rfl) (by decide) ?_
        refine r_iand C (z_d dd_Mo_describe 75 rfl) ?_
        exact s_Mo_describe_115 C hr E ih n l0 l1 l4 l5 l6 (z_p M l0 23) l6 ((z_i M (z_p M l0 0) ((l1 + (1 : Int32)) + (l6 / (2 : Int32))).toNatClampNeg) &&& (15 : Int32)) M h
      · have h := zift h c6
        refine r_aload_n C (z_d dd_Mo_describe 51 rfl) rfl ?_
        refine r_getP C (z_d dd_Mo_describe 52 rfl) lk_Mo_7 rfl h1 rfl ?_
        refine r_iload_n C (z_d dd_Mo_describe 53 rfl) rfl ?_
        refine r_iconst (v := (1 : Int32)) C (z_d dd_Mo_describe 54 rfl) (by decide) ?_
        refine r_iadd C (z_d dd_Mo_describe 55 rfl) ?_
        refine r_iload C (z_d dd_Mo_describe 56 rfl) rfl ?_
        refine r_iconst (v := (2 : Int32)) C (z_d dd_Mo_describe 57 rfl) (by decide) ?_
        refine r_idiv C (z_d dd_Mo_describe 58 rfl) (by decide) ?_
        refine r_iadd C (z_d dd_Mo_describe 59 rfl) ?_
        obtain ⟨h4, h⟩ := zif h
        obtain ⟨h5, h⟩ := zif h
        refine r_iald C (z_d dd_Mo_describe 60 rfl) h4 h5 rfl ?_
        refine r_iconst (v := (4 : Int32)) C (z_d dd_Mo_describe 61 rfl) (by decide) ?_
        refine r_ishr C (z_d dd_Mo_describe 62 rfl) ?_
        refine r_goto C 115 (z_d dd_Mo_describe 63 rfl) (by decide) ?_
        exact s_Mo_describe_115 C hr E ih n l0 l1 l4 l5 l6 (z_p M l0 23) l6 ((z_i M (z_p M l0 0) ((l1 + (1 : Int32)) + (l6 / (2 : Int32))).toNatClampNeg) >>> ((4 : Int32) &&& 31)) M h
def f_Mo_describe_35 (O : zO) (n : Nat) (l0 : Nat) (l1 : Int32) (l2 : Int32) (l3 : Int32) (s0 : Int32) (s1 : Int32) (M : zM) : Option (Int32 × zM) :=
  zlet (s0 + s1) fun v1 =>
  if v1 ≤ l2 then
  zlet (l3 - (127 : Int32)) fun v3 =>
  if l3 ≤ (127 : Int32) then
  if z_k M l0 = 13 then
  (F_Mo_weightsByStates O n l0 (l1 + (1 : Int32)) v1 M).bind fun q6 =>
  f_Mo_describe_136 O n l0 v1 q6.1 q6.2
  else none
  else
  f_Mo_describe_61 O n l0 l1 v1 v3 (0 : Int32) M
  else
  some ((-1 : Int32), M)
set_option maxRecDepth 100000 in
set_option maxHeartbeats 4000000 in
theorem s_Mo_describe_35 {X : zX} {q : Int32 × zM} (C : zC X zR12 prog_14_method_19_code 11 { frames := 3, cells := 0, slots := 0, locals := 87 }) (hr : zRt X (some .int)) (E : zE X (some (zI q.1)) q.2 0 0) : ∀ (n : Nat) (l0 : Nat) (l1 : Int32) (l2 : Int32) (l3 : Int32) (s0 : Int32) (s1 : Int32) (M : zM), f_Mo_describe_35 (zOD X) n l0 l1 l2 l3 s0 s1 M = some q → zW X 0 0 35 [some (zP l0), some (zI l1), some (zI l2), some (zI l3), none, none, none, none, none, none, none] [zI s1, zI s0] M := by
  intro n l0 l1 l2 l3 s0 s1 M h
  rw [f_Mo_describe_35] at h
  refine r_iadd C (z_d dd_Mo_describe 25 rfl) ?_
  obtain ⟨v1, e2, h⟩ := zlet_ex h
  refine r_nmI e2 ?_
  refine r_istore (lv' := [some (zP l0), some (zI l1), some (zI l2), some (zI l3), some (zI v1), none, none, none, none, none, none]) C (z_d dd_Mo_describe 26 rfl) (Nat.le_of_ble_eq_true rfl) rfl ?_
  refine r_iload C (z_d dd_Mo_describe 27 rfl) rfl ?_
  refine r_iload_n C (z_d dd_Mo_describe 28 rfl) rfl ?_
  refine r_icmp_le C 46 (z_d dd_Mo_describe 29 rfl) (by decide) (fun c9 => ?_) (fun c9 => ?_)
  · have h := zift h c9
    refine r_iload_n C (z_d dd_Mo_describe 32 rfl) rfl ?_
    refine r_bipush (v := (127 : Int32)) C (z_d dd_Mo_describe 33 rfl) (by decide) ?_
    refine r_isub C (z_d dd_Mo_describe 34 rfl) ?_
    obtain ⟨v3, e4, h⟩ := zlet_ex h
    refine r_nmI e4 ?_
    refine r_istore (lv' := [some (zP l0), some (zI l1), some (zI l2), some (zI l3), some (zI v1), some (zI v3), none, none, none, none, none]) C (z_d dd_Mo_describe 35 rfl) (Nat.le_of_ble_eq_true rfl) rfl ?_
    refine r_iload_n C (z_d dd_Mo_describe 36 rfl) rfl ?_
    refine r_bipush (v := (127 : Int32)) C (z_d dd_Mo_describe 37 rfl) (by decide) ?_
    refine r_icmp_le C 125 (z_d dd_Mo_describe 38 rfl) (by decide) (fun c8 => ?_) (fun c8 => ?_)
    · have h := zift h c8
      refine r_aload_n C (z_d dd_Mo_describe 80 rfl) rfl ?_
      refine r_iload_n C (z_d dd_Mo_describe 81 rfl) rfl ?_
      refine r_iconst (v := (1 : Int32)) C (z_d dd_Mo_describe 82 rfl) (by decide) ?_
      refine r_iadd C (z_d dd_Mo_describe 83 rfl) ?_
      refine r_iload C (z_d dd_Mo_describe 84 rfl) rfl ?_
      obtain ⟨h5, h⟩ := zif h
      obtain ⟨q6, c7, h⟩ := zbd h
      refine r_invV (as := [zI (l1 + (1 : Int32)), zI v1]) C 12 (S_Mo_weightsByStates c7) (z_d dd_Mo_describe 85 rfl) ok_Mo_weightsByStates iv_Mo_weightsByStates se_Mo_weightsByStates ml_Mo_124 rfl rfl h5 rfl rfl rfl (Nat.le_of_ble_eq_true rfl) ⟨(Nat.le_of_ble_eq_true rfl), (Nat.le_of_ble_eq_true rfl)⟩ ⟨(Nat.le_of_ble_eq_true rfl), (Nat.le_of_ble_eq_true rfl)⟩ ?_
      refine r_istore (lv' := [some (zP l0), some (zI l1), some (zI l2), some (zI l3), some (zI v1), some (zI q6.1), none, none, none, none, none]) C (z_d dd_Mo_describe 86 rfl) (Nat.le_of_ble_eq_true rfl) rfl ?_
      refine r_mk [true, false, false, false, true, true, false, false, false, false, false] ?_
      exact s_Mo_describe_136 C hr E n l0 v1 q6.1 q6.2 h
    · have h := ziff h c8
      refine r_iconst (v := (0 : Int32)) C (z_d dd_Mo_describe 39 rfl) (by decide) ?_
      refine r_istore (lv' := [some (zP l0), some (zI l1), some (zI l2), some (zI l3), some (zI v1), some (zI v3), some (zI (0 : Int32)), none, none, none, none]) C (z_d dd_Mo_describe 40 rfl) (Nat.le_of_ble_eq_true rfl) rfl ?_
      refine r_mk [true, true, false, false, true, true, true, false, false, false, false] ?_
      exact s_Mo_describe_61 C hr E n l0 l1 v1 v3 (0 : Int32) M h
  · have h := ziff h c9
    refine r_iconst (v := (-1 : Int32)) C (z_d dd_Mo_describe 30 rfl) (by decide) ?_
    obtain rfl := z_res h
    exact r_iretI C E hr (z_d dd_Mo_describe 31 rfl) (Nat.le_of_ble_eq_true rfl) (Nat.le_of_ble_eq_true rfl)
def f_Mo_describe_0 (O : zO) (n : Nat) (l0 : Nat) (l1 : Int32) (l2 : Int32) (M : zM) : Option (Int32 × zM) :=
  if l1 < l2 then
  if z_k M l0 = 13 then
  if z_k M (z_p M l0 0) = 100 then
  if zin l1 (z_n M (z_p M l0 0)) = true then
  zlet (z_i M (z_p M l0 0) l1.toNatClampNeg) fun v4 =>
  if v4 ≤ (127 : Int32) then
  f_Mo_describe_35 O n l0 l1 l2 v4 (l1 + (1 : Int32)) v4 M
  else
  f_Mo_describe_35 O n l0 l1 l2 v4 (l1 + (1 : Int32)) (((v4 - (127 : Int32)) + (1 : Int32)) / (2 : Int32)) M
  else none
  else none
  else none
  else
  some ((-1 : Int32), M)
set_option maxRecDepth 100000 in
set_option maxHeartbeats 4000000 in
theorem s_Mo_describe_0 {X : zX} {q : Int32 × zM} (C : zC X zR12 prog_14_method_19_code 11 { frames := 3, cells := 0, slots := 0, locals := 87 }) (hr : zRt X (some .int)) (E : zE X (some (zI q.1)) q.2 0 0) : ∀ (n : Nat) (l0 : Nat) (l1 : Int32) (l2 : Int32) (M : zM), f_Mo_describe_0 (zOD X) n l0 l1 l2 M = some q → zW X 0 0 0 [some (zP l0), some (zI l1), some (zI l2), none, none, none, none, none, none, none, none] [] M := by
  intro n l0 l1 l2 M h
  rw [f_Mo_describe_0] at h
  refine r_iload_n C (z_d dd_Mo_describe 0 rfl) rfl ?_
  refine r_iload_n C (z_d dd_Mo_describe 1 rfl) rfl ?_
  refine r_icmp_lt C 7 (z_d dd_Mo_describe 2 rfl) (by decide) (fun c7 => ?_) (fun c7 => ?_)
  · have h := zift h c7
    refine r_aload_n C (z_d dd_Mo_describe 5 rfl) rfl ?_
    obtain ⟨h1, h⟩ := zif h
    refine r_getP C (z_d dd_Mo_describe 6 rfl) lk_Mo_7 rfl h1 rfl ?_
    refine r_iload_n C (z_d dd_Mo_describe 7 rfl) rfl ?_
    obtain ⟨h2, h⟩ := zif h
    obtain ⟨h3, h⟩ := zif h
    refine r_iald C (z_d dd_Mo_describe 8 rfl) h2 h3 rfl ?_
    obtain ⟨v4, e5, h⟩ := zlet_ex h
    refine r_nmI e5 ?_
    refine r_istore_n (lv' := [some (zP l0), some (zI l1), some (zI l2), some (zI v4), none, none, none, none, none, none, none]) C (z_d dd_Mo_describe 9 rfl) (Nat.le_of_ble_eq_true rfl) rfl ?_
    refine r_iload_n C (z_d dd_Mo_describe 10 rfl) rfl ?_
    refine r_iconst (v := (1 : Int32)) C (z_d dd_Mo_describe 11 rfl) (by decide) ?_
    refine r_iadd C (z_d dd_Mo_describe 12 rfl) ?_
    refine r_iload_n C (z_d dd_Mo_describe 13 rfl) rfl ?_
    refine r_bipush (v := (127 : Int32)) C (z_d dd_Mo_describe 14 rfl) (by decide) ?_
    refine r_icmp_le C 34 (z_d dd_Mo_describe 15 rfl) (by decide) (fun c6 => ?_) (fun c6 => ?_)
    · have h := zift h c6
      refine r_iload_n C (z_d dd_Mo_describe 24 rfl) rfl ?_
      exact s_Mo_describe_35 C hr E n l0 l1 l2 v4 (l1 + (1 : Int32)) v4 M h
    · have h := ziff h c6
      refine r_iload_n C (z_d dd_Mo_describe 16 rfl) rfl ?_
      refine r_bipush (v := (127 : Int32)) C (z_d dd_Mo_describe 17 rfl) (by decide) ?_
      refine r_isub C (z_d dd_Mo_describe 18 rfl) ?_
      refine r_iconst (v := (1 : Int32)) C (z_d dd_Mo_describe 19 rfl) (by decide) ?_
      refine r_iadd C (z_d dd_Mo_describe 20 rfl) ?_
      refine r_iconst (v := (2 : Int32)) C (z_d dd_Mo_describe 21 rfl) (by decide) ?_
      refine r_idiv C (z_d dd_Mo_describe 22 rfl) (by decide) ?_
      refine r_goto C 35 (z_d dd_Mo_describe 23 rfl) (by decide) ?_
      exact s_Mo_describe_35 C hr E n l0 l1 l2 v4 (l1 + (1 : Int32)) (((v4 - (127 : Int32)) + (1 : Int32)) / (2 : Int32)) M h
  · have h := ziff h c7
    refine r_iconst (v := (-1 : Int32)) C (z_d dd_Mo_describe 3 rfl) (by decide) ?_
    obtain rfl := z_res h
    exact r_iretI C E hr (z_d dd_Mo_describe 4 rfl) (Nat.le_of_ble_eq_true rfl) (Nat.le_of_ble_eq_true rfl)
def F_Mo_describe (O : zO) (n : Nat) (l0 : Nat) (l1 : Int32) (l2 : Int32) (M : zM) : Option (Int32 × zM) := f_Mo_describe_0 O n l0 l1 l2 M
theorem S_Mo_describe {l : Launch} {D : zD} {n : Nat} {l0 : Nat} {l1 : Int32} {l2 : Int32} {M : zM} {q : Int32 × zM} (h : F_Mo_describe D.2.2.2.2 n l0 l1 l2 M = some q) : zMet l D mi_Mo_describe [zP l0, zI l1, zI l2] M (some (zI q.1)) q.2 :=
  z_met (by decide) (Nat.le_of_ble_eq_true rfl) (fun X C E hr hin hD hl => by
    subst hD
    exact s_Mo_describe_0 C hr E n l0 l1 l2 M h)

def f_Mo_lastOf_21 (O : zO) (n : Nat) (s0 : Int32) (M : zM) : Option (Int32 × zM) :=
  some (s0, M)
set_option maxRecDepth 100000 in
set_option maxHeartbeats 4000000 in
theorem s_Mo_lastOf_21 {X : zX} {q : Int32 × zM} (C : zC X zR12 prog_14_method_24_code 1 { frames := 0, cells := 0, slots := 0, locals := 0 }) (hr : zRt X (some .int)) (E : zE X (some (zI q.1)) q.2 0 0) : ∀ (n : Nat) (s0 : Int32) (M : zM), f_Mo_lastOf_21 (zOD X) n s0 M = some q → zW X 0 0 21 [none] [zI s0] M := by
  intro n s0 M h
  rw [f_Mo_lastOf_21] at h
  obtain rfl := z_res h
  exact r_iretI C E hr (z_d dd_Mo_lastOf 10 rfl) (Nat.le_of_ble_eq_true rfl) (Nat.le_of_ble_eq_true rfl)
def f_Mo_lastOf_0 (O : zO) (n : Nat) (l0 : Int32) (M : zM) : Option (Int32 × zM) :=
  if l0 = 0 then
  f_Mo_lastOf_21 O n (35 : Int32) M
  else
  if l0 = (1 : Int32) then
  f_Mo_lastOf_21 O n (31 : Int32) M
  else
  f_Mo_lastOf_21 O n (52 : Int32) M
set_option maxRecDepth 100000 in
set_option maxHeartbeats 4000000 in
theorem s_Mo_lastOf_0 {X : zX} {q : Int32 × zM} (C : zC X zR12 prog_14_method_24_code 1 { frames := 0, cells := 0, slots := 0, locals := 0 }) (hr : zRt X (some .int)) (E : zE X (some (zI q.1)) q.2 0 0) : ∀ (n : Nat) (l0 : Int32) (M : zM), f_Mo_lastOf_0 (zOD X) n l0 M = some q → zW X 0 0 0 [some (zI l0)] [] M := by
  intro n l0 M h
  rw [f_Mo_lastOf_0] at h
  refine r_iload_n C (z_d dd_Mo_lastOf 0 rfl) rfl ?_
  refine r_if_ne C 9 (z_d dd_Mo_lastOf 1 rfl) (by decide) (fun c2 => ?_) (fun c2 => ?_)
  · have h := ziff h c2
    refine r_iload_n C (z_d dd_Mo_lastOf 4 rfl) rfl ?_
    refine r_iconst (v := (1 : Int32)) C (z_d dd_Mo_lastOf 5 rfl) (by decide) ?_
    refine r_icmp_ne C 19 (z_d dd_Mo_lastOf 6 rfl) (by decide) (fun c1 => ?_) (fun c1 => ?_)
    · have h := ziff h c1
      refine r_bipush (v := (52 : Int32)) C (z_d dd_Mo_lastOf 9 rfl) (by decide) ?_
      refine r_mk [false] ?_
      exact s_Mo_lastOf_21 C hr E n (52 : Int32) M h
    · have h := zift h c1
      refine r_bipush (v := (31 : Int32)) C (z_d dd_Mo_lastOf 7 rfl) (by decide) ?_
      refine r_goto C 21 (z_d dd_Mo_lastOf 8 rfl) (by decide) ?_
      refine r_mk [false] ?_
      exact s_Mo_lastOf_21 C hr E n (31 : Int32) M h
  · have h := zift h c2
    refine r_bipush (v := (35 : Int32)) C (z_d dd_Mo_lastOf 2 rfl) (by decide) ?_
    refine r_goto C 21 (z_d dd_Mo_lastOf 3 rfl) (by decide) ?_
    refine r_mk [false] ?_
    exact s_Mo_lastOf_21 C hr E n (35 : Int32) M h
def F_Mo_lastOf (O : zO) (n : Nat) (l0 : Int32) (M : zM) : Option (Int32 × zM) := f_Mo_lastOf_0 O n l0 M
theorem S_Mo_lastOf {l : Launch} {D : zD} {n : Nat} {l0 : Int32} {M : zM} {q : Int32 × zM} (h : F_Mo_lastOf D.2.2.2.2 n l0 M = some q) : zMet l D mi_Mo_lastOf [zI l0] M (some (zI q.1)) q.2 :=
  z_met (by decide) (Nat.le_of_ble_eq_true rfl) (fun X C E hr hin hD hl => by
    subst hD
    exact s_Mo_lastOf_0 C hr E n l0 M h)

def f_Mo_layTable_0 (O : zO) (n : Nat) (l0 : Nat) (l1 : Int32) (M : zM) : Option (Unit × zM) :=
  if z_k M l0 = 13 then
  if z_k M (z_p M l0 16) = 100 then
  if zin l1 (z_n M (z_p M l0 16)) = true then
  (F_Mo_lay O n l0 (z_p M l0 15) ((64 : Int32) * l1) (64 : Int32) (z_i M (z_p M l0 16) l1.toNatClampNeg) (z_p M l0 17) (z_p M l0 18) (z_p M l0 19) ((512 : Int32) * l1) M).bind fun q4 =>
  some ((), q4.2)
  else none
  else none
  else none
set_option maxRecDepth 100000 in
set_option maxHeartbeats 4000000 in
theorem s_Mo_layTable_0 {X : zX} {q : Unit × zM} (C : zC X zR12 prog_14_method_11_code 2 { frames := 2, cells := 0, slots := 0, locals := 58 }) (hr : zRt X none) (E : zE X none q.2 0 0) : ∀ (n : Nat) (l0 : Nat) (l1 : Int32) (M : zM), f_Mo_layTable_0 (zOD X) n l0 l1 M = some q → zW X 0 0 0 [some (zP l0), some (zI l1)] [] M := by
  intro n l0 l1 M h
  rw [f_Mo_layTable_0] at h
  refine r_aload_n C (z_d dd_Mo_layTable 0 rfl) rfl ?_
  refine r_aload_n C (z_d dd_Mo_layTable 1 rfl) rfl ?_
  obtain ⟨h1, h⟩ := zif h
  refine r_getP C (z_d dd_Mo_layTable 2 rfl) lk_Mo_39 rfl h1 rfl ?_
  refine r_bipush (v := (64 : Int32)) C (z_d dd_Mo_layTable 3 rfl) (by decide) ?_
  refine r_iload_n C (z_d dd_Mo_layTable 4 rfl) rfl ?_
  refine r_imul C (z_d dd_Mo_layTable 5 rfl) ?_
  refine r_bipush (v := (64 : Int32)) C (z_d dd_Mo_layTable 6 rfl) (by decide) ?_
  refine r_aload_n C (z_d dd_Mo_layTable 7 rfl) rfl ?_
  refine r_getP C (z_d dd_Mo_layTable 8 rfl) lk_Mo_42 rfl h1 rfl ?_
  refine r_iload_n C (z_d dd_Mo_layTable 9 rfl) rfl ?_
  obtain ⟨h2, h⟩ := zif h
  obtain ⟨h3, h⟩ := zif h
  refine r_iald C (z_d dd_Mo_layTable 10 rfl) h2 h3 rfl ?_
  refine r_aload_n C (z_d dd_Mo_layTable 11 rfl) rfl ?_
  refine r_getP C (z_d dd_Mo_layTable 12 rfl) lk_Mo_45 rfl h1 rfl ?_
  refine r_aload_n C (z_d dd_Mo_layTable 13 rfl) rfl ?_
  refine r_getP C (z_d dd_Mo_layTable 14 rfl) lk_Mo_48 rfl h1 rfl ?_
  refine r_aload_n C (z_d dd_Mo_layTable 15 rfl) rfl ?_
  refine r_getP C (z_d dd_Mo_layTable 16 rfl) lk_Mo_51 rfl h1 rfl ?_
  refine r_sipush (v := (512 : Int32)) C (z_d dd_Mo_layTable 17 rfl) (by decide) ?_
  refine r_iload_n C (z_d dd_Mo_layTable 18 rfl) rfl ?_
  refine r_imul C (z_d dd_Mo_layTable 19 rfl) ?_
  obtain ⟨q4, c5, h⟩ := zbd h
  refine r_invV (as := [zP (z_p M l0 15), zI ((64 : Int32) * l1), zI (64 : Int32), zI (z_i M (z_p M l0 16) l1.toNatClampNeg), zP (z_p M l0 17), zP (z_p M l0 18), zP (z_p M l0 19), zI ((512 : Int32) * l1)]) C 12 (S_Mo_lay c5) (z_d dd_Mo_layTable 20 rfl) ok_Mo_lay iv_Mo_lay se_Mo_lay ml_Mo_101 rfl rfl h1 rfl rfl rfl (Nat.le_of_ble_eq_true rfl) ⟨(Nat.le_of_ble_eq_true rfl), (Nat.le_of_ble_eq_true rfl)⟩ ⟨(Nat.le_of_ble_eq_true rfl), (Nat.le_of_ble_eq_true rfl)⟩ ?_
  obtain rfl := z_res h
  exact r_vret C E hr (z_d dd_Mo_layTable 21 rfl) (Nat.le_of_ble_eq_true rfl) (Nat.le_of_ble_eq_true rfl)
def F_Mo_layTable (O : zO) (n : Nat) (l0 : Nat) (l1 : Int32) (M : zM) : Option (Unit × zM) := f_Mo_layTable_0 O n l0 l1 M
theorem S_Mo_layTable {l : Launch} {D : zD} {n : Nat} {l0 : Nat} {l1 : Int32} {M : zM} {q : Unit × zM} (h : F_Mo_layTable D.2.2.2.2 n l0 l1 M = some q) : zMet l D mi_Mo_layTable [zP l0, zI l1] M none q.2 :=
  z_met (by decide) (Nat.le_of_ble_eq_true rfl) (fun X C E hr hin hD hl => by
    subst hD
    exact s_Mo_layTable_0 C hr E n l0 l1 M h)

def f_Mo_keepDraft_2 (O : zO) : Nat → Nat → Int32 → Int32 → zM → Option (Unit × zM)
  | 0, _, _, _, _ => none
  | n + 1, l0, l1, l2, M =>
    if (64 : Int32) ≤ l2 then
    if z_k M l0 = 13 then
    if z_k M (z_p M l0 16) = 100 then
    if zin l1 (z_n M (z_p M l0 16)) = true then
    zlet (w_i M (z_p M l0 16) l1.toNatClampNeg (z_i M l0 22)) fun M4 =>
    (F_Mo_layTable O n l0 l1 M4).bind fun q8 =>
    some ((), q8.2)
    else none
    else none
    else none
    else
    if z_k M l0 = 13 then
    if z_k M (z_p M l0 21) = 100 then
    if zin l2 (z_n M (z_p M l0 21)) = true then
    if z_k M (z_p M l0 15) = 100 then
    if zin (((64 : Int32) * l1) + l2) (z_n M (z_p M l0 15)) = true then
    zlet (w_i M (z_p M l0 15) (((64 : Int32) * l1) + l2).toNatClampNeg (z_i M (z_p M l0 21) l2.toNatClampNeg)) fun M15 =>
    zlet (l2 + (1 : Int32)) fun v20 =>
    f_Mo_keepDraft_2 O n l0 l1 v20 M15
    else none
    else none
    else none
    else none
    else none
set_option maxRecDepth 100000 in
set_option maxHeartbeats 4000000 in
theorem s_Mo_keepDraft_2 {X : zX} {q : Unit × zM} (C : zC X zR12 prog_14_method_12_code 3 { frames := 3, cells := 0, slots := 0, locals := 79 }) (hr : zRt X none) (E : zE X none q.2 0 0) : ∀ (n : Nat) (l0 : Nat) (l1 : Int32) (l2 : Int32) (M : zM), f_Mo_keepDraft_2 (zOD X) n l0 l1 l2 M = some q → zW X 0 0 2 [some (zP l0), some (zI l1), some (zI l2)] [] M := by
  intro n
  induction n with
  | zero => intro l0 l1 l2 M h; rw [f_Mo_keepDraft_2] at h; cases h
  | succ n ih =>
    intro l0 l1 l2 M h
    rw [f_Mo_keepDraft_2] at h
    refine r_iload_n C (z_d dd_Mo_keepDraft 2 rfl) rfl ?_
    refine r_bipush (v := (64 : Int32)) C (z_d dd_Mo_keepDraft 3 rfl) (by decide) ?_
    refine r_icmp_ge C 31 (z_d dd_Mo_keepDraft 4 rfl) (by decide) (fun c22 => ?_) (fun c22 => ?_)
    · have h := zift h c22
      refine r_aload_n C (z_d dd_Mo_keepDraft 19 rfl) rfl ?_
      obtain ⟨h1, h⟩ := zif h
      refine r_getP C (z_d dd_Mo_keepDraft 20 rfl) lk_Mo_42 rfl h1 rfl ?_
      refine r_iload_n C (z_d dd_Mo_keepDraft 21 rfl) rfl ?_
      refine r_aload_n C (z_d dd_Mo_keepDraft 22 rfl) rfl ?_
      refine r_getI C (z_d dd_Mo_keepDraft 23 rfl) lk_Mo_95 rfl h1 rfl ?_
      obtain ⟨h2, h⟩ := zif h
      obtain ⟨h3, h⟩ := zif h
      obtain ⟨M4, e5, h⟩ := zlet_ex h
      have h6 := k_i e5 h1
      have h7 := k_i e5 h2
      refine r_iast C (z_d dd_Mo_keepDraft 24 rfl) h2 h3 e5 ?_
      refine r_aload_n C (z_d dd_Mo_keepDraft 25 rfl) rfl ?_
      refine r_iload_n C (z_d dd_Mo_keepDraft 26 rfl) rfl ?_
      obtain ⟨q8, c9, h⟩ := zbd h
      refine r_invV (as := [zI l1]) C 12 (S_Mo_layTable c9) (z_d dd_Mo_keepDraft 27 rfl) ok_Mo_layTable iv_Mo_layTable se_Mo_layTable ml_Mo_105 rfl rfl h6 rfl rfl rfl (Nat.le_of_ble_eq_true rfl) ⟨(Nat.le_of_ble_eq_true rfl), (Nat.le_of_ble_eq_true rfl)⟩ ⟨(Nat.le_of_ble_eq_true rfl), (Nat.le_of_ble_eq_true rfl)⟩ ?_
      obtain rfl := z_res h
      exact r_vret C E hr (z_d dd_Mo_keepDraft 28 rfl) (Nat.le_of_ble_eq_true rfl) (Nat.le_of_ble_eq_true rfl)
    · have h := ziff h c22
      refine r_aload_n C (z_d dd_Mo_keepDraft 5 rfl) rfl ?_
      obtain ⟨h10, h⟩ := zif h
      refine r_getP C (z_d dd_Mo_keepDraft 6 rfl) lk_Mo_39 rfl h10 rfl ?_
      refine r_bipush (v := (64 : Int32)) C (z_d dd_Mo_keepDraft 7 rfl) (by decide) ?_
      refine r_iload_n C (z_d dd_Mo_keepDraft 8 rfl) rfl ?_
      refine r_imul C (z_d dd_Mo_keepDraft 9 rfl) ?_
      refine r_iload_n C (z_d dd_Mo_keepDraft 10 rfl) rfl ?_
      refine r_iadd C (z_d dd_Mo_keepDraft 11 rfl) ?_
      refine r_aload_n C (z_d dd_Mo_keepDraft 12 rfl) rfl ?_
      refine r_getP C (z_d dd_Mo_keepDraft 13 rfl) lk_Mo_57 rfl h10 rfl ?_
      refine r_iload_n C (z_d dd_Mo_keepDraft 14 rfl) rfl ?_
      obtain ⟨h11, h⟩ := zif h
      obtain ⟨h12, h⟩ := zif h
      refine r_iald C (z_d dd_Mo_keepDraft 15 rfl) h11 h12 rfl ?_
      obtain ⟨h13, h⟩ := zif h
      obtain ⟨h14, h⟩ := zif h
      obtain ⟨M15, e16, h⟩ := zlet_ex h
      have h17 := k_i e16 h10
      have h18 := k_i e16 h11
      have h19 := k_i e16 h13
      refine r_iast C (z_d dd_Mo_keepDraft 16 rfl) h13 h14 e16 ?_
      obtain ⟨v20, e21, h⟩ := zlet_ex h
      refine r_iinc (v := v20) (lv' := [some (zP l0), some (zI l1), some (zI v20)]) C (z_d dd_Mo_keepDraft 17 rfl) rfl (Nat.le_of_ble_eq_true rfl) (by rw [e21]; rfl) rfl ?_
      refine r_goto C 2 (z_d dd_Mo_keepDraft 18 rfl) (by decide) ?_
      exact ih l0 l1 v20 M15 h
def f_Mo_keepDraft_0 (O : zO) (n : Nat) (l0 : Nat) (l1 : Int32) (M : zM) : Option (Unit × zM) :=
  f_Mo_keepDraft_2 O n l0 l1 (0 : Int32) M
set_option maxRecDepth 100000 in
set_option maxHeartbeats 4000000 in
theorem s_Mo_keepDraft_0 {X : zX} {q : Unit × zM} (C : zC X zR12 prog_14_method_12_code 3 { frames := 3, cells := 0, slots := 0, locals := 79 }) (hr : zRt X none) (E : zE X none q.2 0 0) : ∀ (n : Nat) (l0 : Nat) (l1 : Int32) (M : zM), f_Mo_keepDraft_0 (zOD X) n l0 l1 M = some q → zW X 0 0 0 [some (zP l0), some (zI l1), none] [] M := by
  intro n l0 l1 M h
  rw [f_Mo_keepDraft_0] at h
  refine r_iconst (v := (0 : Int32)) C (z_d dd_Mo_keepDraft 0 rfl) (by decide) ?_
  refine r_istore_n (lv' := [some (zP l0), some (zI l1), some (zI (0 : Int32))]) C (z_d dd_Mo_keepDraft 1 rfl) (Nat.le_of_ble_eq_true rfl) rfl ?_
  exact s_Mo_keepDraft_2 C hr E n l0 l1 (0 : Int32) M h
def F_Mo_keepDraft (O : zO) (n : Nat) (l0 : Nat) (l1 : Int32) (M : zM) : Option (Unit × zM) := f_Mo_keepDraft_0 O n l0 l1 M
theorem S_Mo_keepDraft {l : Launch} {D : zD} {n : Nat} {l0 : Nat} {l1 : Int32} {M : zM} {q : Unit × zM} (h : F_Mo_keepDraft D.2.2.2.2 n l0 l1 M = some q) : zMet l D mi_Mo_keepDraft [zP l0, zI l1] M none q.2 :=
  z_met (by decide) (Nat.le_of_ble_eq_true rfl) (fun X C E hr hin hD hl => by
    subst hD
    exact s_Mo_keepDraft_0 C hr E n l0 l1 M h)

def f_Mo_number_7 (O : zO) : Nat → Nat → Int32 → Int64 → Int32 → zM → Option (Int64 × zM)
  | 0, _, _, _, _, _ => none
  | n + 1, l0, l1, l3, l5, M =>
    if l5 < 0 then
    some (l3, M)
    else
    if z_k M l0 = 13 then
    if z_k M (z_p M l0 0) = 100 then
    if zin (l1 + l5) (z_n M (z_p M l0 0)) = true then
    zlet ((l3 <<< ((8 : Int32).toInt64 &&& 63)) ||| (z_i M (z_p M l0 0) (l1 + l5).toNatClampNeg).toInt64) fun v4 =>
    zlet (l5 + (-1 : Int32)) fun v6 =>
    f_Mo_number_7 O n l0 l1 v4 v6 M
    else none
    else none
    else none
set_option maxRecDepth 100000 in
set_option maxHeartbeats 4000000 in
theorem s_Mo_number_7 {X : zX} {q : Int64 × zM} (C : zC X zR12 prog_14_method_5_code 6 { frames := 0, cells := 0, slots := 0, locals := 0 }) (hr : zRt X (some .long)) (E : zE X (some (zL q.1)) q.2 0 0) : ∀ (n : Nat) (l0 : Nat) (l1 : Int32) (l3 : Int64) (l5 : Int32) (M : zM), f_Mo_number_7 (zOD X) n l0 l1 l3 l5 M = some q → zW X 0 0 7 [some (zP l0), some (zI l1), none, some (zL l3), none, some (zI l5)] [] M := by
  intro n
  induction n with
  | zero => intro l0 l1 l3 l5 M h; rw [f_Mo_number_7] at h; cases h
  | succ n ih =>
    intro l0 l1 l3 l5 M h
    rw [f_Mo_number_7] at h
    refine r_iload C (z_d dd_Mo_number 6 rfl) rfl ?_
    refine r_if_lt C 34 (z_d dd_Mo_number 7 rfl) (by decide) (fun c8 => ?_) (fun c8 => ?_)
    · have h := zift h c8
      refine r_lload_n C (z_d dd_Mo_number 22 rfl) rfl ?_
      obtain rfl := z_res h
      exact r_lret C E hr (z_d dd_Mo_number 23 rfl) (Nat.le_of_ble_eq_true rfl) (Nat.le_of_ble_eq_true rfl)
    · have h := ziff h c8
      refine r_lload_n C (z_d dd_Mo_number 8 rfl) rfl ?_
      refine r_bipush (v := (8 : Int32)) C (z_d dd_Mo_number 9 rfl) (by decide) ?_
      refine r_lshl C (z_d dd_Mo_number 10 rfl) ?_
      refine r_aload_n C (z_d dd_Mo_number 11 rfl) rfl ?_
      obtain ⟨h1, h⟩ := zif h
      refine r_getP C (z_d dd_Mo_number 12 rfl) lk_Mo_7 rfl h1 rfl ?_
      refine r_iload_n C (z_d dd_Mo_number 13 rfl) rfl ?_
      refine r_iload C (z_d dd_Mo_number 14 rfl) rfl ?_
      refine r_iadd C (z_d dd_Mo_number 15 rfl) ?_
      obtain ⟨h2, h⟩ := zif h
      obtain ⟨h3, h⟩ := zif h
      refine r_iald C (z_d dd_Mo_number 16 rfl) h2 h3 rfl ?_
      refine r_i2l C (z_d dd_Mo_number 17 rfl) ?_
      refine r_lor C (z_d dd_Mo_number 18 rfl) ?_
      obtain ⟨v4, e5, h⟩ := zlet_ex h
      refine r_nmL e5 ?_
      refine r_lstore_n (lv' := [some (zP l0), some (zI l1), none, some (zL v4), none, some (zI l5)]) C (z_d dd_Mo_number 19 rfl) (Nat.le_of_ble_eq_true rfl) rfl ?_
      obtain ⟨v6, e7, h⟩ := zlet_ex h
      refine r_iinc (v := v6) (lv' := [some (zP l0), some (zI l1), none, some (zL v4), none, some (zI v6)]) C (z_d dd_Mo_number 20 rfl) rfl (Nat.le_of_ble_eq_true rfl) (by rw [e7]; rfl) rfl ?_
      refine r_goto C 7 (z_d dd_Mo_number 21 rfl) (by decide) ?_
      exact ih l0 l1 v4 v6 M h
def f_Mo_number_0 (O : zO) (n : Nat) (l0 : Nat) (l1 : Int32) (l2 : Int32) (M : zM) : Option (Int64 × zM) :=
  zlet (l2 - (1 : Int32)) fun v1 =>
  f_Mo_number_7 O n l0 l1 (0 : Int64) v1 M
set_option maxRecDepth 100000 in
set_option maxHeartbeats 4000000 in
theorem s_Mo_number_0 {X : zX} {q : Int64 × zM} (C : zC X zR12 prog_14_method_5_code 6 { frames := 0, cells := 0, slots := 0, locals := 0 }) (hr : zRt X (some .long)) (E : zE X (some (zL q.1)) q.2 0 0) : ∀ (n : Nat) (l0 : Nat) (l1 : Int32) (l2 : Int32) (M : zM), f_Mo_number_0 (zOD X) n l0 l1 l2 M = some q → zW X 0 0 0 [some (zP l0), some (zI l1), some (zI l2), none, none, none] [] M := by
  intro n l0 l1 l2 M h
  rw [f_Mo_number_0] at h
  refine r_lconst (v := (0 : Int64)) C (z_d dd_Mo_number 0 rfl) (by decide) ?_
  refine r_lstore_n (lv' := [some (zP l0), some (zI l1), some (zI l2), some (zL (0 : Int64)), none, none]) C (z_d dd_Mo_number 1 rfl) (Nat.le_of_ble_eq_true rfl) rfl ?_
  refine r_iload_n C (z_d dd_Mo_number 2 rfl) rfl ?_
  refine r_iconst (v := (1 : Int32)) C (z_d dd_Mo_number 3 rfl) (by decide) ?_
  refine r_isub C (z_d dd_Mo_number 4 rfl) ?_
  obtain ⟨v1, e2, h⟩ := zlet_ex h
  refine r_nmI e2 ?_
  refine r_istore (lv' := [some (zP l0), some (zI l1), some (zI l2), some (zL (0 : Int64)), none, some (zI v1)]) C (z_d dd_Mo_number 5 rfl) (Nat.le_of_ble_eq_true rfl) rfl ?_
  refine r_mk [true, true, false, true, false, true] ?_
  exact s_Mo_number_7 C hr E n l0 l1 (0 : Int64) v1 M h
def F_Mo_number (O : zO) (n : Nat) (l0 : Nat) (l1 : Int32) (l2 : Int32) (M : zM) : Option (Int64 × zM) := f_Mo_number_0 O n l0 l1 l2 M
theorem S_Mo_number {l : Launch} {D : zD} {n : Nat} {l0 : Nat} {l1 : Int32} {l2 : Int32} {M : zM} {q : Int64 × zM} (h : F_Mo_number D.2.2.2.2 n l0 l1 l2 M = some q) : zMet l D mi_Mo_number [zP l0, zI l1, zI l2] M (some (zL q.1)) q.2 :=
  z_met (by decide) (Nat.le_of_ble_eq_true rfl) (fun X C E hr hin hD hl => by
    subst hD
    exact s_Mo_number_0 C hr E n l0 l1 l2 M h)

def f_Mo_learn_349 (O : zO) : Nat → Nat → Int32 → zM → Option (Int32 × zM)
  | 0, _, _, _ => none
  | n + 1, l0, l3, M =>
    if (3 : Int32) ≤ l3 then
    if z_k M l0 = 13 then
    zlet (w_i M l0 1 (0 : Int32)) fun M2 =>
    some ((z_i M2 l0 5), M2)
    else none
    else
    if z_k M l0 = 13 then
    if z_k M (z_p M l0 16) = 100 then
    if zin l3 (z_n M (z_p M l0 16)) = true then
    if z_k M (z_p M l0 10) = 100 then
    if zin l3 (z_n M (z_p M l0 10)) = true then
    zlet (w_i M (z_p M l0 10) l3.toNatClampNeg (z_i M (z_p M l0 16) l3.toNatClampNeg)) fun M10 =>
    if z_k M10 (z_p M10 l0 20) = 103 then
    if zin l3 (z_n M10 (z_p M10 l0 20)) = true then
    if z_k M10 (z_p M10 l0 11) = 103 then
    if zin l3 (z_n M10 (z_p M10 l0 11)) = true then
    zlet (w_j M10 (z_p M10 l0 11) l3.toNatClampNeg (z_j M10 (z_p M10 l0 20) l3.toNatClampNeg)) fun M19 =>
    zlet (l3 + (1 : Int32)) fun v26 =>
    f_Mo_learn_349 O n l0 v26 M19
    else none
    else none
    else none
    else none
    else none
    else none
    else none
    else none
    else none
set_option maxRecDepth 100000 in
set_option maxHeartbeats 4000000 in
theorem s_Mo_learn_349 {X : zX} {q : Int32 × zM} (C : zC X zR12 prog_14_method_23_code 6 { frames := 4, cells := 0, slots := 0, locals := 117 }) (hr : zRt X (some .int)) (E : zE X (some (zI q.1)) q.2 0 0) : ∀ (n : Nat) (l0 : Nat) (l3 : Int32) (M : zM), f_Mo_learn_349 (zOD X) n l0 l3 M = some q → zW X 0 0 349 [some (zP l0), none, none, some (zI l3), none, none] [] M := by
  intro n
  induction n with
  | zero => intro l0 l3 M h; rw [f_Mo_learn_349] at h; cases h
  | succ n ih =>
    intro l0 l3 M h
    rw [f_Mo_learn_349] at h
    refine r_iload_n C (z_d dd_Mo_learn 196 rfl) rfl ?_
    refine r_iconst (v := (3 : Int32)) C (z_d dd_Mo_learn 197 rfl) (by decide) ?_
    refine r_icmp_ge C 384 (z_d dd_Mo_learn 198 rfl) (by decide) (fun c28 => ?_) (fun c28 => ?_)
    · have h := zift h c28
      refine r_aload_n C (z_d dd_Mo_learn 217 rfl) rfl ?_
      refine r_iconst (v := (0 : Int32)) C (z_d dd_Mo_learn 218 rfl) (by decide) ?_
      obtain ⟨h1, h⟩ := zif h
      obtain ⟨M2, e3, h⟩ := zlet_ex h
      have h4 := k_i e3 h1
      refine r_putI C (z_d dd_Mo_learn 219 rfl) lp_Mo_85 rfl h1 e3 ?_
      refine r_aload_n C (z_d dd_Mo_learn 220 rfl) rfl ?_
      refine r_getI C (z_d dd_Mo_learn 221 rfl) lk_Mo_149 rfl h4 rfl ?_
      obtain rfl := z_res h
      exact r_iretI C E hr (z_d dd_Mo_learn 222 rfl) (Nat.le_of_ble_eq_true rfl) (Nat.le_of_ble_eq_true rfl)
    · have h := ziff h c28
      refine r_aload_n C (z_d dd_Mo_learn 199 rfl) rfl ?_
      obtain ⟨h5, h⟩ := zif h
      refine r_getP C (z_d dd_Mo_learn 200 rfl) lk_Mo_26 rfl h5 rfl ?_
      refine r_iload_n C (z_d dd_Mo_learn 201 rfl) rfl ?_
      refine r_aload_n C (z_d dd_Mo_learn 202 rfl) rfl ?_
      refine r_getP C (z_d dd_Mo_learn 203 rfl) lk_Mo_42 rfl h5 rfl ?_
      refine r_iload_n C (z_d dd_Mo_learn 204 rfl) rfl ?_
      obtain ⟨h6, h⟩ := zif h
      obtain ⟨h7, h⟩ := zif h
      refine r_iald C (z_d dd_Mo_learn 205 rfl) h6 h7 rfl ?_
      obtain ⟨h8, h⟩ := zif h
      obtain ⟨h9, h⟩ := zif h
      obtain ⟨M10, e11, h⟩ := zlet_ex h
      have h12 := k_i e11 h5
      have h13 := k_i e11 h6
      have h14 := k_i e11 h8
      refine r_iast C (z_d dd_Mo_learn 206 rfl) h8 h9 e11 ?_
      refine r_aload_n C (z_d dd_Mo_learn 207 rfl) rfl ?_
      refine r_getP C (z_d dd_Mo_learn 208 rfl) lk_Mo_29 rfl h12 rfl ?_
      refine r_iload_n C (z_d dd_Mo_learn 209 rfl) rfl ?_
      refine r_aload_n C (z_d dd_Mo_learn 210 rfl) rfl ?_
      refine r_getP C (z_d dd_Mo_learn 211 rfl) lk_Mo_54 rfl h12 rfl ?_
      refine r_iload_n C (z_d dd_Mo_learn 212 rfl) rfl ?_
      obtain ⟨h15, h⟩ := zif h
      obtain ⟨h16, h⟩ := zif h
      refine r_lald C (z_d dd_Mo_learn 213 rfl) h15 h16 rfl ?_
      obtain ⟨h17, h⟩ := zif h
      obtain ⟨h18, h⟩ := zif h
      obtain ⟨M19, e20, h⟩ := zlet_ex h
      have h21 := k_j e20 h12
      have h22 := k_j e20 h13
      have h23 := k_j e20 h14
      have h24 := k_j e20 h15
      have h25 := k_j e20 h17
      refine r_last C (z_d dd_Mo_learn 214 rfl) h17 h18 e20 ?_
      obtain ⟨v26, e27, h⟩ := zlet_ex h
      refine r_iinc (v := v26) (lv' := [some (zP l0), none, none, some (zI v26), none, none]) C (z_d dd_Mo_learn 215 rfl) rfl (Nat.le_of_ble_eq_true rfl) (by rw [e27]; rfl) rfl ?_
      refine r_goto C 349 (z_d dd_Mo_learn 216 rfl) (by decide) ?_
      exact ih l0 v26 M19 h
def f_Mo_learn_322 (O : zO) : Nat → Nat → Int32 → zM → Option (Int32 × zM)
  | 0, _, _, _ => none
  | n + 1, l0, l3, M =>
    if (192 : Int32) ≤ l3 then
    f_Mo_learn_349 O n l0 (0 : Int32) M
    else
    if z_k M l0 = 13 then
    if z_k M (z_p M l0 15) = 100 then
    if zin l3 (z_n M (z_p M l0 15)) = true then
    if z_k M (z_p M l0 9) = 100 then
    if zin l3 (z_n M (z_p M l0 9)) = true then
    zlet (w_i M (z_p M l0 9) l3.toNatClampNeg (z_i M (z_p M l0 15) l3.toNatClampNeg)) fun M6 =>
    zlet (l3 + (1 : Int32)) fun v11 =>
    f_Mo_learn_322 O n l0 v11 M6
    else none
    else none
    else none
    else none
    else none
set_option maxRecDepth 100000 in
set_option maxHeartbeats 4000000 in
theorem s_Mo_learn_322 {X : zX} {q : Int32 × zM} (C : zC X zR12 prog_14_method_23_code 6 { frames := 4, cells := 0, slots := 0, locals := 117 }) (hr : zRt X (some .int)) (E : zE X (some (zI q.1)) q.2 0 0) : ∀ (n : Nat) (l0 : Nat) (l3 : Int32) (M : zM), f_Mo_learn_322 (zOD X) n l0 l3 M = some q → zW X 0 0 322 [some (zP l0), none, none, some (zI l3), none, none] [] M := by
  intro n
  induction n with
  | zero => intro l0 l3 M h; rw [f_Mo_learn_322] at h; cases h
  | succ n ih =>
    intro l0 l3 M h
    rw [f_Mo_learn_322] at h
    refine r_iload_n C (z_d dd_Mo_learn 181 rfl) rfl ?_
    refine r_sipush (v := (192 : Int32)) C (z_d dd_Mo_learn 182 rfl) (by decide) ?_
    refine r_icmp_ge C 347 (z_d dd_Mo_learn 183 rfl) (by decide) (fun c13 => ?_) (fun c13 => ?_)
    · have h := zift h c13
      refine r_iconst (v := (0 : Int32)) C (z_d dd_Mo_learn 194 rfl) (by decide) ?_
      refine r_istore_n (lv' := [some (zP l0), none, none, some (zI (0 : Int32)), none, none]) C (z_d dd_Mo_learn 195 rfl) (Nat.le_of_ble_eq_true rfl) rfl ?_
      exact s_Mo_learn_349 C hr E n l0 (0 : Int32) M h
    · have h := ziff h c13
      refine r_aload_n C (z_d dd_Mo_learn 184 rfl) rfl ?_
      obtain ⟨h1, h⟩ := zif h
      refine r_getP C (z_d dd_Mo_learn 185 rfl) lk_Mo_23 rfl h1 rfl ?_
      refine r_iload_n C (z_d dd_Mo_learn 186 rfl) rfl ?_
      refine r_aload_n C (z_d dd_Mo_learn 187 rfl) rfl ?_
      refine r_getP C (z_d dd_Mo_learn 188 rfl) lk_Mo_39 rfl h1 rfl ?_
      refine r_iload_n C (z_d dd_Mo_learn 189 rfl) rfl ?_
      obtain ⟨h2, h⟩ := zif h
      obtain ⟨h3, h⟩ := zif h
      refine r_iald C (z_d dd_Mo_learn 190 rfl) h2 h3 rfl ?_
      obtain ⟨h4, h⟩ := zif h
      obtain ⟨h5, h⟩ := zif h
      obtain ⟨M6, e7, h⟩ := zlet_ex h
      have h8 := k_i e7 h1
      have h9 := k_i e7 h2
      have h10 := k_i e7 h4
      refine r_iast C (z_d dd_Mo_learn 191 rfl) h4 h5 e7 ?_
      obtain ⟨v11, e12, h⟩ := zlet_ex h
      refine r_iinc (v := v11) (lv' := [some (zP l0), none, none, some (zI v11), none, none]) C (z_d dd_Mo_learn 192 rfl) rfl (Nat.le_of_ble_eq_true rfl) (by rw [e12]; rfl) rfl ?_
      refine r_goto C 322 (z_d dd_Mo_learn 193 rfl) (by decide) ?_
      exact ih l0 v11 M6 h
def f_Mo_learn_295 (O : zO) : Nat → Nat → Int32 → zM → Option (Int32 × zM)
  | 0, _, _, _ => none
  | n + 1, l0, l3, M =>
    if (256 : Int32) ≤ l3 then
    f_Mo_learn_322 O n l0 (0 : Int32) M
    else
    if z_k M l0 = 13 then
    if z_k M (z_p M l0 12) = 100 then
    if zin l3 (z_n M (z_p M l0 12)) = true then
    if z_k M (z_p M l0 8) = 100 then
    if zin l3 (z_n M (z_p M l0 8)) = true then
    zlet (w_i M (z_p M l0 8) l3.toNatClampNeg (z_i M (z_p M l0 12) l3.toNatClampNeg)) fun M6 =>
    zlet (l3 + (1 : Int32)) fun v11 =>
    f_Mo_learn_295 O n l0 v11 M6
    else none
    else none
    else none
    else none
    else none
set_option maxRecDepth 100000 in
set_option maxHeartbeats 4000000 in
theorem s_Mo_learn_295 {X : zX} {q : Int32 × zM} (C : zC X zR12 prog_14_method_23_code 6 { frames := 4, cells := 0, slots := 0, locals := 117 }) (hr : zRt X (some .int)) (E : zE X (some (zI q.1)) q.2 0 0) : ∀ (n : Nat) (l0 : Nat) (l3 : Int32) (M : zM), f_Mo_learn_295 (zOD X) n l0 l3 M = some q → zW X 0 0 295 [some (zP l0), none, none, some (zI l3), none, none] [] M := by
  intro n
  induction n with
  | zero => intro l0 l3 M h; rw [f_Mo_learn_295] at h; cases h
  | succ n ih =>
    intro l0 l3 M h
    rw [f_Mo_learn_295] at h
    refine r_iload_n C (z_d dd_Mo_learn 166 rfl) rfl ?_
    refine r_sipush (v := (256 : Int32)) C (z_d dd_Mo_learn 167 rfl) (by decide) ?_
    refine r_icmp_ge C 320 (z_d dd_Mo_learn 168 rfl) (by decide) (fun c13 => ?_) (fun c13 => ?_)
    · have h := zift h c13
      refine r_iconst (v := (0 : Int32)) C (z_d dd_Mo_learn 179 rfl) (by decide) ?_
      refine r_istore_n (lv' := [some (zP l0), none, none, some (zI (0 : Int32)), none, none]) C (z_d dd_Mo_learn 180 rfl) (Nat.le_of_ble_eq_true rfl) rfl ?_
      exact s_Mo_learn_322 C hr E n l0 (0 : Int32) M h
    · have h := ziff h c13
      refine r_aload_n C (z_d dd_Mo_learn 169 rfl) rfl ?_
      obtain ⟨h1, h⟩ := zif h
      refine r_getP C (z_d dd_Mo_learn 170 rfl) lk_Mo_20 rfl h1 rfl ?_
      refine r_iload_n C (z_d dd_Mo_learn 171 rfl) rfl ?_
      refine r_aload_n C (z_d dd_Mo_learn 172 rfl) rfl ?_
      refine r_getP C (z_d dd_Mo_learn 173 rfl) lk_Mo_33 rfl h1 rfl ?_
      refine r_iload_n C (z_d dd_Mo_learn 174 rfl) rfl ?_
      obtain ⟨h2, h⟩ := zif h
      obtain ⟨h3, h⟩ := zif h
      refine r_iald C (z_d dd_Mo_learn 175 rfl) h2 h3 rfl ?_
      obtain ⟨h4, h⟩ := zif h
      obtain ⟨h5, h⟩ := zif h
      obtain ⟨M6, e7, h⟩ := zlet_ex h
      have h8 := k_i e7 h1
      have h9 := k_i e7 h2
      have h10 := k_i e7 h4
      refine r_iast C (z_d dd_Mo_learn 176 rfl) h4 h5 e7 ?_
      obtain ⟨v11, e12, h⟩ := zlet_ex h
      refine r_iinc (v := v11) (lv' := [some (zP l0), none, none, some (zI v11), none, none]) C (z_d dd_Mo_learn 177 rfl) rfl (Nat.le_of_ble_eq_true rfl) (by rw [e12]; rfl) rfl ?_
      refine r_goto C 295 (z_d dd_Mo_learn 178 rfl) (by decide) ?_
      exact ih l0 v11 M6 h
def f_Mo_learn_265 (O : zO) : Nat → Nat → Int32 → Int32 → zM → Option (Int32 × zM)
  | 0, _, _, _, _ => none
  | n + 1, l0, l1, l3, M =>
    if z_k M l0 = 13 then
    if (z_i M l0 5) ≤ l3 then
    f_Mo_learn_295 O n l0 (0 : Int32) M
    else
    if z_k M (z_p M l0 0) = 100 then
    if zin (l1 + l3) (z_n M (z_p M l0 0)) = true then
    if z_k M (z_p M l0 4) = 100 then
    if zin l3 (z_n M (z_p M l0 4)) = true then
    zlet (w_i M (z_p M l0 4) l3.toNatClampNeg (z_i M (z_p M l0 0) (l1 + l3).toNatClampNeg)) fun M6 =>
    zlet (l3 + (1 : Int32)) fun v11 =>
    f_Mo_learn_265 O n l0 l1 v11 M6
    else none
    else none
    else none
    else none
    else none
set_option maxRecDepth 100000 in
set_option maxHeartbeats 4000000 in
theorem s_Mo_learn_265 {X : zX} {q : Int32 × zM} (C : zC X zR12 prog_14_method_23_code 6 { frames := 4, cells := 0, slots := 0, locals := 117 }) (hr : zRt X (some .int)) (E : zE X (some (zI q.1)) q.2 0 0) : ∀ (n : Nat) (l0 : Nat) (l1 : Int32) (l3 : Int32) (M : zM), f_Mo_learn_265 (zOD X) n l0 l1 l3 M = some q → zW X 0 0 265 [some (zP l0), some (zI l1), none, some (zI l3), none, none] [] M := by
  intro n
  induction n with
  | zero => intro l0 l1 l3 M h; rw [f_Mo_learn_265] at h; cases h
  | succ n ih =>
    intro l0 l1 l3 M h
    rw [f_Mo_learn_265] at h
    refine r_iload_n C (z_d dd_Mo_learn 148 rfl) rfl ?_
    refine r_aload_n C (z_d dd_Mo_learn 149 rfl) rfl ?_
    obtain ⟨h1, h⟩ := zif h
    refine r_getI C (z_d dd_Mo_learn 150 rfl) lk_Mo_149 rfl h1 rfl ?_
    refine r_icmp_ge C 293 (z_d dd_Mo_learn 151 rfl) (by decide) (fun c13 => ?_) (fun c13 => ?_)
    · have h := zift h c13
      refine r_iconst (v := (0 : Int32)) C (z_d dd_Mo_learn 164 rfl) (by decide) ?_
      refine r_istore_n (lv' := [some (zP l0), some (zI l1), none, some (zI (0 : Int32)), none, none]) C (z_d dd_Mo_learn 165 rfl) (Nat.le_of_ble_eq_true rfl) rfl ?_
      refine r_mk [true, false, false, true, false, false] ?_
      exact s_Mo_learn_295 C hr E n l0 (0 : Int32) M h
    · have h := ziff h c13
      refine r_aload_n C (z_d dd_Mo_learn 152 rfl) rfl ?_
      refine r_getP C (z_d dd_Mo_learn 153 rfl) lk_Mo_17 rfl h1 rfl ?_
      refine r_iload_n C (z_d dd_Mo_learn 154 rfl) rfl ?_
      refine r_aload_n C (z_d dd_Mo_learn 155 rfl) rfl ?_
      refine r_getP C (z_d dd_Mo_learn 156 rfl) lk_Mo_7 rfl h1 rfl ?_
      refine r_iload_n C (z_d dd_Mo_learn 157 rfl) rfl ?_
      refine r_iload_n C (z_d dd_Mo_learn 158 rfl) rfl ?_
      refine r_iadd C (z_d dd_Mo_learn 159 rfl) ?_
      obtain ⟨h2, h⟩ := zif h
      obtain ⟨h3, h⟩ := zif h
      refine r_iald C (z_d dd_Mo_learn 160 rfl) h2 h3 rfl ?_
      obtain ⟨h4, h⟩ := zif h
      obtain ⟨h5, h⟩ := zif h
      obtain ⟨M6, e7, h⟩ := zlet_ex h
      have h8 := k_i e7 h1
      have h9 := k_i e7 h2
      have h10 := k_i e7 h4
      refine r_iast C (z_d dd_Mo_learn 161 rfl) h4 h5 e7 ?_
      obtain ⟨v11, e12, h⟩ := zlet_ex h
      refine r_iinc (v := v11) (lv' := [some (zP l0), some (zI l1), none, some (zI v11), none, none]) C (z_d dd_Mo_learn 162 rfl) rfl (Nat.le_of_ble_eq_true rfl) (by rw [e12]; rfl) rfl ?_
      refine r_goto C 265 (z_d dd_Mo_learn 163 rfl) (by decide) ?_
      exact ih l0 l1 v11 M6 h
def f_Mo_learn_250 (O : zO) (n : Nat) (l0 : Nat) (l1 : Int32) (s0 : Nat) (s1 : Int32) (M : zM) : Option (Int32 × zM) :=
  if z_k M s0 = 13 then
  zlet (w_i M s0 6 s1) fun M2 =>
  if z_k M2 l0 = 13 then
  zlet (w_i M2 l0 5 ((z_i M2 l0 1) - l1)) fun M6 =>
  f_Mo_learn_265 O n l0 l1 (0 : Int32) M6
  else none
  else none
set_option maxRecDepth 100000 in
set_option maxHeartbeats 4000000 in
theorem s_Mo_learn_250 {X : zX} {q : Int32 × zM} (C : zC X zR12 prog_14_method_23_code 6 { frames := 4, cells := 0, slots := 0, locals := 117 }) (hr : zRt X (some .int)) (E : zE X (some (zI q.1)) q.2 0 0) : ∀ (n : Nat) (l0 : Nat) (l1 : Int32) (s0 : Nat) (s1 : Int32) (M : zM), f_Mo_learn_250 (zOD X) n l0 l1 s0 s1 M = some q → zW X 0 0 250 [some (zP l0), some (zI l1), none, none, none, none] [zI s1, zP s0] M := by
  intro n l0 l1 s0 s1 M h
  rw [f_Mo_learn_250] at h
  obtain ⟨h1, h⟩ := zif h
  obtain ⟨M2, e3, h⟩ := zlet_ex h
  have h4 := k_i e3 h1
  refine r_putI C (z_d dd_Mo_learn 139 rfl) lp_Mo_152 rfl h1 e3 ?_
  refine r_aload_n C (z_d dd_Mo_learn 140 rfl) rfl ?_
  refine r_aload_n C (z_d dd_Mo_learn 141 rfl) rfl ?_
  obtain ⟨h5, h⟩ := zif h
  refine r_getI C (z_d dd_Mo_learn 142 rfl) lk_Mo_85 rfl h5 rfl ?_
  refine r_iload_n C (z_d dd_Mo_learn 143 rfl) rfl ?_
  refine r_isub C (z_d dd_Mo_learn 144 rfl) ?_
  obtain ⟨M6, e7, h⟩ := zlet_ex h
  have h8 := k_i e7 h4
  have h9 := k_i e7 h5
  refine r_putI C (z_d dd_Mo_learn 145 rfl) lp_Mo_149 rfl h5 e7 ?_
  refine r_iconst (v := (0 : Int32)) C (z_d dd_Mo_learn 146 rfl) (by decide) ?_
  refine r_istore_n (lv' := [some (zP l0), some (zI l1), none, some (zI (0 : Int32)), none, none]) C (z_d dd_Mo_learn 147 rfl) (Nat.le_of_ble_eq_true rfl) rfl ?_
  exact s_Mo_learn_265 C hr E n l0 l1 (0 : Int32) M6 h
def f_Mo_learn_229 (O : zO) (n : Nat) (l0 : Nat) (l1 : Int32) (l2 : Int32) (M : zM) : Option (Int32 × zM) :=
  if z_k M l0 = 13 then
  if l2 = 0 ∨ l2 = 1 then
  zlet (w_i M l0 7 l2) fun M3 =>
  if l2 = 0 then
  f_Mo_learn_250 O n l0 l1 l0 (0 : Int32) M3
  else
  (F_Mo_number O n l0 (4 : Int32) (4 : Int32) M3).bind fun q6 =>
  f_Mo_learn_250 O n l0 l1 l0 q6.1.toInt32 q6.2
  else none
  else none
set_option maxRecDepth 100000 in
set_option maxHeartbeats 4000000 in
theorem s_Mo_learn_229 {X : zX} {q : Int32 × zM} (C : zC X zR12 prog_14_method_23_code 6 { frames := 4, cells := 0, slots := 0, locals := 117 }) (hr : zRt X (some .int)) (E : zE X (some (zI q.1)) q.2 0 0) : ∀ (n : Nat) (l0 : Nat) (l1 : Int32) (l2 : Int32) (M : zM), f_Mo_learn_229 (zOD X) n l0 l1 l2 M = some q → zW X 0 0 229 [some (zP l0), some (zI l1), some (zI l2), none, none, none] [] M := by
  intro n l0 l1 l2 M h
  rw [f_Mo_learn_229] at h
  refine r_aload_n C (z_d dd_Mo_learn 126 rfl) rfl ?_
  refine r_iload_n C (z_d dd_Mo_learn 127 rfl) rfl ?_
  obtain ⟨h1, h⟩ := zif h
  obtain ⟨h2, h⟩ := zif h
  obtain ⟨M3, e4, h⟩ := zlet_ex h
  have h5 := k_i e4 h1
  refine r_putZ C (z_d dd_Mo_learn 128 rfl) lp_Mo_155 rfl h2 h1 e4 ?_
  refine r_aload_n C (z_d dd_Mo_learn 129 rfl) rfl ?_
  refine r_iload_n C (z_d dd_Mo_learn 130 rfl) rfl ?_
  refine r_if_eq C 249 (z_d dd_Mo_learn 131 rfl) (by decide) (fun c8 => ?_) (fun c8 => ?_)
  · have h := zift h c8
    refine r_iconst (v := (0 : Int32)) C (z_d dd_Mo_learn 138 rfl) (by decide) ?_
    refine r_mk [true, true, false, false, false, false] ?_
    exact s_Mo_learn_250 C hr E n l0 l1 l0 (0 : Int32) M3 h
  · have h := ziff h c8
    refine r_aload_n C (z_d dd_Mo_learn 132 rfl) rfl ?_
    refine r_iconst (v := (4 : Int32)) C (z_d dd_Mo_learn 133 rfl) (by decide) ?_
    refine r_iconst (v := (4 : Int32)) C (z_d dd_Mo_learn 134 rfl) (by decide) ?_
    obtain ⟨q6, c7, h⟩ := zbd h
    refine r_invV (as := [zI (4 : Int32), zI (4 : Int32)]) C 12 (S_Mo_number c7) (z_d dd_Mo_learn 135 rfl) ok_Mo_number iv_Mo_number se_Mo_number ml_Mo_172 rfl rfl h5 rfl rfl rfl (Nat.le_of_ble_eq_true rfl) ⟨(Nat.le_of_ble_eq_true rfl), (Nat.le_of_ble_eq_true rfl)⟩ ⟨(Nat.le_of_ble_eq_true rfl), (Nat.le_of_ble_eq_true rfl)⟩ ?_
    refine r_l2i C (z_d dd_Mo_learn 136 rfl) ?_
    refine r_goto C 250 (z_d dd_Mo_learn 137 rfl) (by decide) ?_
    refine r_mk [true, true, false, false, false, false] ?_
    exact s_Mo_learn_250 C hr E n l0 l1 l0 q6.1.toInt32 q6.2 h
def f_Mo_learn_220 (O : zO) (n : Nat) (M : zM) : Option (Int32 × zM) :=
  some ((-4 : Int32), M)
set_option maxRecDepth 100000 in
set_option maxHeartbeats 4000000 in
theorem s_Mo_learn_220 {X : zX} {q : Int32 × zM} (C : zC X zR12 prog_14_method_23_code 6 { frames := 4, cells := 0, slots := 0, locals := 117 }) (hr : zRt X (some .int)) (E : zE X (some (zI q.1)) q.2 0 0) : ∀ (n : Nat) (M : zM), f_Mo_learn_220 (zOD X) n M = some q → zW X 0 0 220 [none, none, none, none, none, none] [] M := by
  intro n M h
  rw [f_Mo_learn_220] at h
  refine r_bipush (v := (-4 : Int32)) C (z_d dd_Mo_learn 122 rfl) (by decide) ?_
  obtain rfl := z_res h
  exact r_iretI C E hr (z_d dd_Mo_learn 123 rfl) (Nat.le_of_ble_eq_true rfl) (Nat.le_of_ble_eq_true rfl)
def f_Mo_learn_166 (O : zO) : Nat → Nat → Int32 → Int32 → Int32 → Int32 → zM → Option (Int32 × zM)
  | 0, _, _, _, _, _, _ => none
  | n + 1, l0, l1, l2, l3, l4, M =>
    if (3 : Int32) ≤ l4 then
    f_Mo_learn_229 O n l0 l1 l2 M
    else
    if z_k M l0 = 13 then
    (F_Mo_number O n l0 (l3 + ((4 : Int32) * l4)) (4 : Int32) M).bind fun q2 =>
    if z_k q2.2 (z_p M l0 20) = 103 then
    if zin l4 (z_n q2.2 (z_p M l0 20)) = true then
    zlet (w_j q2.2 (z_p M l0 20) l4.toNatClampNeg q2.1) fun M6 =>
    if z_k M6 l0 = 13 then
    if z_k M6 (z_p M6 l0 20) = 103 then
    if zin l4 (z_n M6 (z_p M6 l0 20)) = true then
    if (lg_cmp (z_j M6 (z_p M6 l0 20) l4.toNatClampNeg) (0 : Int64)) = 0 then
    f_Mo_learn_220 O n M6
    else
    if zin l4 (z_n M6 (z_p M6 l0 20)) = true then
    if (lg_cmp (z_j M6 (z_p M6 l0 20) l4.toNatClampNeg) ((z_i M6 l0 1) - l1).toInt64) ≤ 0 then
    zlet (l4 + (1 : Int32)) fun v13 =>
    f_Mo_learn_166 O n l0 l1 l2 l3 v13 M6
    else
    f_Mo_learn_220 O n M6
    else none
    else none
    else none
    else none
    else none
    else none
    else none
set_option maxRecDepth 100000 in
set_option maxHeartbeats 4000000 in
theorem s_Mo_learn_166 {X : zX} {q : Int32 × zM} (C : zC X zR12 prog_14_method_23_code 6 { frames := 4, cells := 0, slots := 0, locals := 117 }) (hr : zRt X (some .int)) (E : zE X (some (zI q.1)) q.2 0 0) : ∀ (n : Nat) (l0 : Nat) (l1 : Int32) (l2 : Int32) (l3 : Int32) (l4 : Int32) (M : zM), f_Mo_learn_166 (zOD X) n l0 l1 l2 l3 l4 M = some q → zW X 0 0 166 [some (zP l0), some (zI l1), some (zI l2), some (zI l3), some (zI l4), none] [] M := by
  intro n
  induction n with
  | zero => intro l0 l1 l2 l3 l4 M h; rw [f_Mo_learn_166] at h; cases h
  | succ n ih =>
    intro l0 l1 l2 l3 l4 M h
    rw [f_Mo_learn_166] at h
    refine r_iload C (z_d dd_Mo_learn 89 rfl) rfl ?_
    refine r_iconst (v := (3 : Int32)) C (z_d dd_Mo_learn 90 rfl) (by decide) ?_
    refine r_icmp_ge C 229 (z_d dd_Mo_learn 91 rfl) (by decide) (fun c17 => ?_) (fun c17 => ?_)
    · have h := zift h c17
      refine r_mk [true, true, true, false, false, false] ?_
      exact s_Mo_learn_229 C hr E n l0 l1 l2 M h
    · have h := ziff h c17
      refine r_aload_n C (z_d dd_Mo_learn 92 rfl) rfl ?_
      obtain ⟨h1, h⟩ := zif h
      refine r_getP C (z_d dd_Mo_learn 93 rfl) lk_Mo_54 rfl h1 rfl ?_
      refine r_iload C (z_d dd_Mo_learn 94 rfl) rfl ?_
      refine r_aload_n C (z_d dd_Mo_learn 95 rfl) rfl ?_
      refine r_iload_n C (z_d dd_Mo_learn 96 rfl) rfl ?_
      refine r_iconst (v := (4 : Int32)) C (z_d dd_Mo_learn 97 rfl) (by decide) ?_
      refine r_iload C (z_d dd_Mo_learn 98 rfl) rfl ?_
      refine r_imul C (z_d dd_Mo_learn 99 rfl) ?_
      refine r_iadd C (z_d dd_Mo_learn 100 rfl) ?_
      refine r_iconst (v := (4 : Int32)) C (z_d dd_Mo_learn 101 rfl) (by decide) ?_
      obtain ⟨q2, c3, h⟩ := zbd h
      refine r_invV (as := [zI (l3 + ((4 : Int32) * l4)), zI (4 : Int32)]) C 12 (S_Mo_number c3) (z_d dd_Mo_learn 102 rfl) ok_Mo_number iv_Mo_number se_Mo_number ml_Mo_172 rfl rfl h1 rfl rfl rfl (Nat.le_of_ble_eq_true rfl) ⟨(Nat.le_of_ble_eq_true rfl), (Nat.le_of_ble_eq_true rfl)⟩ ⟨(Nat.le_of_ble_eq_true rfl), (Nat.le_of_ble_eq_true rfl)⟩ ?_
      obtain ⟨h4, h⟩ := zif h
      obtain ⟨h5, h⟩ := zif h
      obtain ⟨M6, e7, h⟩ := zlet_ex h
      have h8 := k_j e7 h4
      refine r_last C (z_d dd_Mo_learn 103 rfl) h4 h5 e7 ?_
      refine r_aload_n C (z_d dd_Mo_learn 104 rfl) rfl ?_
      obtain ⟨h9, h⟩ := zif h
      refine r_getP C (z_d dd_Mo_learn 105 rfl) lk_Mo_54 rfl h9 rfl ?_
      refine r_iload C (z_d dd_Mo_learn 106 rfl) rfl ?_
      obtain ⟨h10, h⟩ := zif h
      obtain ⟨h11, h⟩ := zif h
      refine r_lald C (z_d dd_Mo_learn 107 rfl) h10 h11 rfl ?_
      refine r_lconst (v := (0 : Int64)) C (z_d dd_Mo_learn 108 rfl) (by decide) ?_
      refine r_lcmp C (z_d dd_Mo_learn 109 rfl) ?_
      refine r_if_eq C 220 (z_d dd_Mo_learn 110 rfl) (by decide) (fun c16 => ?_) (fun c16 => ?_)
      · have h := zift h c16
        refine r_mk [false, false, false, false, false, false] ?_
        exact s_Mo_learn_220 C hr E n M6 h
      · have h := ziff h c16
        refine r_aload_n C (z_d dd_Mo_learn 111 rfl) rfl ?_
        refine r_getP C (z_d dd_Mo_learn 112 rfl) lk_Mo_54 rfl h9 rfl ?_
        refine r_iload C (z_d dd_Mo_learn 113 rfl) rfl ?_
        obtain ⟨h12, h⟩ := zif h
        refine r_lald C (z_d dd_Mo_learn 114 rfl) h10 h12 rfl ?_
        refine r_aload_n C (z_d dd_Mo_learn 115 rfl) rfl ?_
        refine r_getI C (z_d dd_Mo_learn 116 rfl) lk_Mo_85 rfl h9 rfl ?_
        refine r_iload_n C (z_d dd_Mo_learn 117 rfl) rfl ?_
        refine r_isub C (z_d dd_Mo_learn 118 rfl) ?_
        refine r_i2l C (z_d dd_Mo_learn 119 rfl) ?_
        refine r_lcmp C (z_d dd_Mo_learn 120 rfl) ?_
        refine r_if_le C 223 (z_d dd_Mo_learn 121 rfl) (by decide) (fun c15 => ?_) (fun c15 => ?_)
        · have h := zift h c15
          obtain ⟨v13, e14, h⟩ := zlet_ex h
          refine r_iinc (v := v13) (lv' := [some (zP l0), some (zI l1), some (zI l2), some (zI l3), some (zI v13), none]) C (z_d dd_Mo_learn 124 rfl) rfl (Nat.le_of_ble_eq_true rfl) (by rw [e14]; rfl) rfl ?_
          refine r_goto C 166 (z_d dd_Mo_learn 125 rfl) (by decide) ?_
          exact ih l0 l1 l2 l3 v13 M6 h
        · have h := ziff h c15
          refine r_mk [false, false, false, false, false, false] ?_
          exact s_Mo_learn_220 C hr E n M6 h
def f_Mo_learn_117 (O : zO) (k70 : Nat → Int32 → Int32 → Int32 → zM → Option (Int32 × zM)) (n : Nat) (l0 : Nat) (l2 : Int32) (l4 : Int32) (l5 : Int32) (s0 : Nat) (s1 : Int32) (s2 : Int32) (s3 : Int32) (M : zM) : Option (Int32 × zM) :=
  (F_Mo_lastOf O n l5 M).bind fun q1 =>
  if z_k q1.2 s0 = 13 then
  (F_Mo_share O n s0 s1 s2 s3 q1.1 q1.2).bind fun q4 =>
  if 0 ≤ q4.1 then
  if z_k q4.2 l0 = 13 then
  (F_Mo_keepDraft O n l0 l5 q4.2).bind fun q7 =>
  zlet (l4 + (1 : Int32)) fun v9 =>
  k70 l0 l2 q4.1 v9 q7.2
  else none
  else
  some ((-3 : Int32), q4.2)
  else none
set_option maxRecDepth 100000 in
set_option maxHeartbeats 4000000 in
theorem s_Mo_learn_117 {X : zX} {q : Int32 × zM} (C : zC X zR12 prog_14_method_23_code 6 { frames := 4, cells := 0, slots := 0, locals := 117 }) (hr : zRt X (some .int)) (E : zE X (some (zI q.1)) q.2 0 0) {k70 : Nat → Int32 → Int32 → Int32 → zM → Option (Int32 × zM)} (hk70 : ∀ (l0 : Nat) (l2 : Int32) (l3 : Int32) (l4 : Int32) (M : zM), k70 l0 l2 l3 l4 M = some q → zW X 0 0 70 [some (zP l0), none, some (zI l2), some (zI l3), some (zI l4), none] [] M) : ∀ (n : Nat) (l0 : Nat) (l2 : Int32) (l4 : Int32) (l5 : Int32) (s0 : Nat) (s1 : Int32) (s2 : Int32) (s3 : Int32) (M : zM), f_Mo_learn_117 (zOD X) k70 n l0 l2 l4 l5 s0 s1 s2 s3 M = some q → zW X 0 0 117 [some (zP l0), none, some (zI l2), none, some (zI l4), some (zI l5)] [zI s3, zI s2, zI s1, zP s0] M := by
  intro n l0 l2 l4 l5 s0 s1 s2 s3 M h
  rw [f_Mo_learn_117] at h
  refine r_iload C (z_d dd_Mo_learn 62 rfl) rfl ?_
  obtain ⟨q1, c2, h⟩ := zbd h
  refine r_invS (as := [zI l5]) C (S_Mo_lastOf c2) (z_d dd_Mo_learn 63 rfl) ok_Mo_lastOf sv_Mo_lastOf ml_Mo_166 rfl rfl rfl (Nat.le_of_ble_eq_true rfl) ⟨(Nat.le_of_ble_eq_true rfl), (Nat.le_of_ble_eq_true rfl)⟩ ⟨(Nat.le_of_ble_eq_true rfl), (Nat.le_of_ble_eq_true rfl)⟩ ?_
  obtain ⟨h3, h⟩ := zif h
  obtain ⟨q4, c5, h⟩ := zbd h
  refine r_invV (as := [zI s1, zI s2, zI s3, zI q1.1]) C 12 (S_Mo_share c5) (z_d dd_Mo_learn 64 rfl) ok_Mo_share iv_Mo_share se_Mo_share ml_Mo_135 rfl rfl h3 rfl rfl rfl (Nat.le_of_ble_eq_true rfl) ⟨(Nat.le_of_ble_eq_true rfl), (Nat.le_of_ble_eq_true rfl)⟩ ⟨(Nat.le_of_ble_eq_true rfl), (Nat.le_of_ble_eq_true rfl)⟩ ?_
  refine r_istore_n (lv' := [some (zP l0), none, some (zI l2), some (zI q4.1), some (zI l4), some (zI l5)]) C (z_d dd_Mo_learn 65 rfl) (Nat.le_of_ble_eq_true rfl) rfl ?_
  refine r_iload_n C (z_d dd_Mo_learn 66 rfl) rfl ?_
  refine r_if_ge C 133 (z_d dd_Mo_learn 67 rfl) (by decide) (fun c11 => ?_) (fun c11 => ?_)
  · have h := zift h c11
    refine r_aload_n C (z_d dd_Mo_learn 70 rfl) rfl ?_
    refine r_iload C (z_d dd_Mo_learn 71 rfl) rfl ?_
    obtain ⟨h6, h⟩ := zif h
    obtain ⟨q7, c8, h⟩ := zbd h
    refine r_invV (as := [zI l5]) C 12 (S_Mo_keepDraft c8) (z_d dd_Mo_learn 72 rfl) ok_Mo_keepDraft iv_Mo_keepDraft se_Mo_keepDraft ml_Mo_169 rfl rfl h6 rfl rfl rfl (Nat.le_of_ble_eq_true rfl) ⟨(Nat.le_of_ble_eq_true rfl), (Nat.le_of_ble_eq_true rfl)⟩ ⟨(Nat.le_of_ble_eq_true rfl), (Nat.le_of_ble_eq_true rfl)⟩ ?_
    obtain ⟨v9, e10, h⟩ := zlet_ex h
    refine r_iinc (v := v9) (lv' := [some (zP l0), none, some (zI l2), some (zI q4.1), some (zI v9), some (zI l5)]) C (z_d dd_Mo_learn 73 rfl) rfl (Nat.le_of_ble_eq_true rfl) (by rw [e10]; rfl) rfl ?_
    refine r_goto C 70 (z_d dd_Mo_learn 74 rfl) (by decide) ?_
    refine r_mk [true, false, true, true, true, false] ?_
    exact hk70 l0 l2 q4.1 v9 q7.2 h
  · have h := ziff h c11
    refine r_bipush (v := (-3 : Int32)) C (z_d dd_Mo_learn 68 rfl) (by decide) ?_
    obtain rfl := z_res h
    exact r_iretI C E hr (z_d dd_Mo_learn 69 rfl) (Nat.le_of_ble_eq_true rfl) (Nat.le_of_ble_eq_true rfl)
def f_Mo_learn_96 (O : zO) (k70 : Nat → Int32 → Int32 → Int32 → zM → Option (Int32 × zM)) (n : Nat) (l0 : Nat) (l2 : Int32) (l3 : Int32) (l4 : Int32) (s0 : Int32) (M : zM) : Option (Int32 × zM) :=
  if z_k M l0 = 13 then
  if s0 = (1 : Int32) then
  f_Mo_learn_117 O k70 n l0 l2 l4 s0 l0 l3 (z_i M l0 1) (8 : Int32) M
  else
  f_Mo_learn_117 O k70 n l0 l2 l4 s0 l0 l3 (z_i M l0 1) (9 : Int32) M
  else none
set_option maxRecDepth 100000 in
set_option maxHeartbeats 4000000 in
theorem s_Mo_learn_96 {X : zX} {q : Int32 × zM} (C : zC X zR12 prog_14_method_23_code 6 { frames := 4, cells := 0, slots := 0, locals := 117 }) (hr : zRt X (some .int)) (E : zE X (some (zI q.1)) q.2 0 0) {k70 : Nat → Int32 → Int32 → Int32 → zM → Option (Int32 × zM)} (hk70 : ∀ (l0 : Nat) (l2 : Int32) (l3 : Int32) (l4 : Int32) (M : zM), k70 l0 l2 l3 l4 M = some q → zW X 0 0 70 [some (zP l0), none, some (zI l2), some (zI l3), some (zI l4), none] [] M) : ∀ (n : Nat) (l0 : Nat) (l2 : Int32) (l3 : Int32) (l4 : Int32) (s0 : Int32) (M : zM), f_Mo_learn_96 (zOD X) k70 n l0 l2 l3 l4 s0 M = some q → zW X 0 0 96 [some (zP l0), none, some (zI l2), some (zI l3), some (zI l4), none] [zI s0] M := by
  intro n l0 l2 l3 l4 s0 M h
  rw [f_Mo_learn_96] at h
  refine r_istore (lv' := [some (zP l0), none, some (zI l2), some (zI l3), some (zI l4), some (zI s0)]) C (z_d dd_Mo_learn 51 rfl) (Nat.le_of_ble_eq_true rfl) rfl ?_
  refine r_aload_n C (z_d dd_Mo_learn 52 rfl) rfl ?_
  refine r_iload_n C (z_d dd_Mo_learn 53 rfl) rfl ?_
  refine r_aload_n C (z_d dd_Mo_learn 54 rfl) rfl ?_
  obtain ⟨h1, h⟩ := zif h
  refine r_getI C (z_d dd_Mo_learn 55 rfl) lk_Mo_85 rfl h1 rfl ?_
  refine r_iload C (z_d dd_Mo_learn 56 rfl) rfl ?_
  refine r_iconst (v := (1 : Int32)) C (z_d dd_Mo_learn 57 rfl) (by decide) ?_
  refine r_icmp_ne C 115 (z_d dd_Mo_learn 58 rfl) (by decide) (fun c2 => ?_) (fun c2 => ?_)
  · have h := ziff h c2
    refine r_bipush (v := (9 : Int32)) C (z_d dd_Mo_learn 61 rfl) (by decide) ?_
    refine r_mk [true, false, true, false, true, true] ?_
    exact s_Mo_learn_117 C hr E hk70 n l0 l2 l4 s0 l0 l3 (z_i M l0 1) (9 : Int32) M h
  · have h := zift h c2
    refine r_bipush (v := (8 : Int32)) C (z_d dd_Mo_learn 59 rfl) (by decide) ?_
    refine r_goto C 117 (z_d dd_Mo_learn 60 rfl) (by decide) ?_
    refine r_mk [true, false, true, false, true, true] ?_
    exact s_Mo_learn_117 C hr E hk70 n l0 l2 l4 s0 l0 l3 (z_i M l0 1) (8 : Int32) M h
def f_Mo_learn_70 (O : zO) : Nat → Nat → Int32 → Int32 → Int32 → zM → Option (Int32 × zM)
  | 0, _, _, _, _, _ => none
  | n + 1, l0, l2, l3, l4, M =>
    if (3 : Int32) ≤ l4 then
    if z_k M l0 = 13 then
    if (l3 + (12 : Int32)) ≤ (z_i M l0 1) then
    zlet (l3 + (12 : Int32)) fun v2 =>
    f_Mo_learn_166 O n l0 v2 l2 l3 (0 : Int32) M
    else
    some ((-1 : Int32), M)
    else none
    else
    if l4 = 0 then
    f_Mo_learn_96 O (f_Mo_learn_70 O n) n l0 l2 l3 l4 (1 : Int32) M
    else
    if l4 = (1 : Int32) then
    f_Mo_learn_96 O (f_Mo_learn_70 O n) n l0 l2 l3 l4 (2 : Int32) M
    else
    f_Mo_learn_96 O (f_Mo_learn_70 O n) n l0 l2 l3 l4 (0 : Int32) M
set_option maxRecDepth 100000 in
set_option maxHeartbeats 4000000 in
theorem s_Mo_learn_70 {X : zX} {q : Int32 × zM} (C : zC X zR12 prog_14_method_23_code 6 { frames := 4, cells := 0, slots := 0, locals := 117 }) (hr : zRt X (some .int)) (E : zE X (some (zI q.1)) q.2 0 0) : ∀ (n : Nat) (l0 : Nat) (l2 : Int32) (l3 : Int32) (l4 : Int32) (M : zM), f_Mo_learn_70 (zOD X) n l0 l2 l3 l4 M = some q → zW X 0 0 70 [some (zP l0), none, some (zI l2), some (zI l3), some (zI l4), none] [] M := by
  intro n
  induction n with
  | zero => intro l0 l2 l3 l4 M h; rw [f_Mo_learn_70] at h; cases h
  | succ n ih =>
    intro l0 l2 l3 l4 M h
    rw [f_Mo_learn_70] at h
    refine r_iload C (z_d dd_Mo_learn 38 rfl) rfl ?_
    refine r_iconst (v := (3 : Int32)) C (z_d dd_Mo_learn 39 rfl) (by decide) ?_
    refine r_icmp_ge C 145 (z_d dd_Mo_learn 40 rfl) (by decide) (fun c7 => ?_) (fun c7 => ?_)
    · have h := zift h c7
      refine r_aload_n C (z_d dd_Mo_learn 75 rfl) rfl ?_
      obtain ⟨h1, h⟩ := zif h
      refine r_getI C (z_d dd_Mo_learn 76 rfl) lk_Mo_85 rfl h1 rfl ?_
      refine r_iload_n C (z_d dd_Mo_learn 77 rfl) rfl ?_
      refine r_bipush (v := (12 : Int32)) C (z_d dd_Mo_learn 78 rfl) (by decide) ?_
      refine r_iadd C (z_d dd_Mo_learn 79 rfl) ?_
      refine r_icmp_ge C 158 (z_d dd_Mo_learn 80 rfl) (by decide) (fun c4 => ?_) (fun c4 => ?_)
      · have h := zift h c4
        refine r_iload_n C (z_d dd_Mo_learn 83 rfl) rfl ?_
        refine r_bipush (v := (12 : Int32)) C (z_d dd_Mo_learn 84 rfl) (by decide) ?_
        refine r_iadd C (z_d dd_Mo_learn 85 rfl) ?_
        obtain ⟨v2, e3, h⟩ := zlet_ex h
        refine r_nmI e3 ?_
        refine r_istore_n (lv' := [some (zP l0), some (zI v2), some (zI l2), some (zI l3), some (zI l4), none]) C (z_d dd_Mo_learn 86 rfl) (Nat.le_of_ble_eq_true rfl) rfl ?_
        refine r_iconst (v := (0 : Int32)) C (z_d dd_Mo_learn 87 rfl) (by decide) ?_
        refine r_istore (lv' := [some (zP l0), some (zI v2), some (zI l2), some (zI l3), some (zI (0 : Int32)), none]) C (z_d dd_Mo_learn 88 rfl) (Nat.le_of_ble_eq_true rfl) rfl ?_
        exact s_Mo_learn_166 C hr E n l0 v2 l2 l3 (0 : Int32) M h
      · have h := ziff h c4
        refine r_iconst (v := (-1 : Int32)) C (z_d dd_Mo_learn 81 rfl) (by decide) ?_
        obtain rfl := z_res h
        exact r_iretI C E hr (z_d dd_Mo_learn 82 rfl) (Nat.le_of_ble_eq_true rfl) (Nat.le_of_ble_eq_true rfl)
    · have h := ziff h c7
      refine r_iload C (z_d dd_Mo_learn 41 rfl) rfl ?_
      refine r_if_ne C 85 (z_d dd_Mo_learn 42 rfl) (by decide) (fun c6 => ?_) (fun c6 => ?_)
      · have h := ziff h c6
        refine r_iload C (z_d dd_Mo_learn 45 rfl) rfl ?_
        refine r_iconst (v := (1 : Int32)) C (z_d dd_Mo_learn 46 rfl) (by decide) ?_
        refine r_icmp_ne C 95 (z_d dd_Mo_learn 47 rfl) (by decide) (fun c5 => ?_) (fun c5 => ?_)
        · have h := ziff h c5
          refine r_iconst (v := (0 : Int32)) C (z_d dd_Mo_learn 50 rfl) (by decide) ?_
          exact s_Mo_learn_96 C hr E ih n l0 l2 l3 l4 (0 : Int32) M h
        · have h := zift h c5
          refine r_iconst (v := (2 : Int32)) C (z_d dd_Mo_learn 48 rfl) (by decide) ?_
          refine r_goto C 96 (z_d dd_Mo_learn 49 rfl) (by decide) ?_
          exact s_Mo_learn_96 C hr E ih n l0 l2 l3 l4 (2 : Int32) M h
      · have h := zift h c6
        refine r_iconst (v := (1 : Int32)) C (z_d dd_Mo_learn 43 rfl) (by decide) ?_
        refine r_goto C 96 (z_d dd_Mo_learn 44 rfl) (by decide) ?_
        exact s_Mo_learn_96 C hr E ih n l0 l2 l3 l4 (1 : Int32) M h
def f_Mo_learn_33 (O : zO) (n : Nat) (l0 : Nat) (l1 : Int32) (s0 : Int32) (M : zM) : Option (Int32 × zM) :=
  if s0 = 0 then
  f_Mo_learn_229 O n l0 l1 s0 M
  else
  if z_k M l0 = 13 then
  if (8 : Int32) ≤ (z_i M l0 1) then
  (F_Mo_describe O n l0 (8 : Int32) (z_i M l0 1) M).bind fun q2 =>
  if 0 ≤ q2.1 then
  f_Mo_learn_70 O n l0 s0 q2.1 (0 : Int32) q2.2
  else
  some ((-2 : Int32), q2.2)
  else
  some ((-1 : Int32), M)
  else none
set_option maxRecDepth 100000 in
set_option maxHeartbeats 4000000 in
theorem s_Mo_learn_33 {X : zX} {q : Int32 × zM} (C : zC X zR12 prog_14_method_23_code 6 { frames := 4, cells := 0, slots := 0, locals := 117 }) (hr : zRt X (some .int)) (E : zE X (some (zI q.1)) q.2 0 0) : ∀ (n : Nat) (l0 : Nat) (l1 : Int32) (s0 : Int32) (M : zM), f_Mo_learn_33 (zOD X) n l0 l1 s0 M = some q → zW X 0 0 33 [some (zP l0), some (zI l1), none, none, none, none] [zI s0] M := by
  intro n l0 l1 s0 M h
  rw [f_Mo_learn_33] at h
  refine r_istore_n (lv' := [some (zP l0), some (zI l1), some (zI s0), none, none, none]) C (z_d dd_Mo_learn 17 rfl) (Nat.le_of_ble_eq_true rfl) rfl ?_
  refine r_iload_n C (z_d dd_Mo_learn 18 rfl) rfl ?_
  refine r_if_eq C 229 (z_d dd_Mo_learn 19 rfl) (by decide) (fun c6 => ?_) (fun c6 => ?_)
  · have h := zift h c6
    exact s_Mo_learn_229 C hr E n l0 l1 s0 M h
  · have h := ziff h c6
    refine r_aload_n C (z_d dd_Mo_learn 20 rfl) rfl ?_
    obtain ⟨h1, h⟩ := zif h
    refine r_getI C (z_d dd_Mo_learn 21 rfl) lk_Mo_85 rfl h1 rfl ?_
    refine r_bipush (v := (8 : Int32)) C (z_d dd_Mo_learn 22 rfl) (by decide) ?_
    refine r_icmp_ge C 49 (z_d dd_Mo_learn 23 rfl) (by decide) (fun c5 => ?_) (fun c5 => ?_)
    · have h := zift h c5
      refine r_aload_n C (z_d dd_Mo_learn 26 rfl) rfl ?_
      refine r_bipush (v := (8 : Int32)) C (z_d dd_Mo_learn 27 rfl) (by decide) ?_
      refine r_aload_n C (z_d dd_Mo_learn 28 rfl) rfl ?_
      refine r_getI C (z_d dd_Mo_learn 29 rfl) lk_Mo_85 rfl h1 rfl ?_
      obtain ⟨q2, c3, h⟩ := zbd h
      refine r_invV (as := [zI (8 : Int32), zI (z_i M l0 1)]) C 12 (S_Mo_describe c3) (z_d dd_Mo_learn 30 rfl) ok_Mo_describe iv_Mo_describe se_Mo_describe ml_Mo_163 rfl rfl h1 rfl rfl rfl (Nat.le_of_ble_eq_true rfl) ⟨(Nat.le_of_ble_eq_true rfl), (Nat.le_of_ble_eq_true rfl)⟩ ⟨(Nat.le_of_ble_eq_true rfl), (Nat.le_of_ble_eq_true rfl)⟩ ?_
      refine r_istore_n (lv' := [some (zP l0), some (zI l1), some (zI s0), some (zI q2.1), none, none]) C (z_d dd_Mo_learn 31 rfl) (Nat.le_of_ble_eq_true rfl) rfl ?_
      refine r_iload_n C (z_d dd_Mo_learn 32 rfl) rfl ?_
      refine r_if_ge C 67 (z_d dd_Mo_learn 33 rfl) (by decide) (fun c4 => ?_) (fun c4 => ?_)
      · have h := zift h c4
        refine r_iconst (v := (0 : Int32)) C (z_d dd_Mo_learn 36 rfl) (by decide) ?_
        refine r_istore (lv' := [some (zP l0), some (zI l1), some (zI s0), some (zI q2.1), some (zI (0 : Int32)), none]) C (z_d dd_Mo_learn 37 rfl) (Nat.le_of_ble_eq_true rfl) rfl ?_
        refine r_mk [true, false, true, true, true, false] ?_
        exact s_Mo_learn_70 C hr E n l0 s0 q2.1 (0 : Int32) q2.2 h
      · have h := ziff h c4
        refine r_bipush (v := (-2 : Int32)) C (z_d dd_Mo_learn 34 rfl) (by decide) ?_
        obtain rfl := z_res h
        exact r_iretI C E hr (z_d dd_Mo_learn 35 rfl) (Nat.le_of_ble_eq_true rfl) (Nat.le_of_ble_eq_true rfl)
    · have h := ziff h c5
      refine r_iconst (v := (-1 : Int32)) C (z_d dd_Mo_learn 24 rfl) (by decide) ?_
      obtain rfl := z_res h
      exact r_iretI C E hr (z_d dd_Mo_learn 25 rfl) (Nat.le_of_ble_eq_true rfl) (Nat.le_of_ble_eq_true rfl)
def f_Mo_learn_32 (O : zO) (n : Nat) (l0 : Nat) (l1 : Int32) (M : zM) : Option (Int32 × zM) :=
  f_Mo_learn_33 O n l0 l1 (0 : Int32) M
set_option maxRecDepth 100000 in
set_option maxHeartbeats 4000000 in
theorem s_Mo_learn_32 {X : zX} {q : Int32 × zM} (C : zC X zR12 prog_14_method_23_code 6 { frames := 4, cells := 0, slots := 0, locals := 117 }) (hr : zRt X (some .int)) (E : zE X (some (zI q.1)) q.2 0 0) : ∀ (n : Nat) (l0 : Nat) (l1 : Int32) (M : zM), f_Mo_learn_32 (zOD X) n l0 l1 M = some q → zW X 0 0 32 [some (zP l0), some (zI l1), none, none, none, none] [] M := by
  intro n l0 l1 M h
  rw [f_Mo_learn_32] at h
  refine r_iconst (v := (0 : Int32)) C (z_d dd_Mo_learn 16 rfl) (by decide) ?_
  exact s_Mo_learn_33 C hr E n l0 l1 (0 : Int32) M h
def f_Mo_learn_0 (O : zO) (n : Nat) (l0 : Nat) (M : zM) : Option (Int32 × zM) :=
  if z_k M l0 = 13 then
  if (z_i M l0 1) < (4 : Int32) then
  f_Mo_learn_32 O n l0 (0 : Int32) M
  else
  (F_Mo_stands O n l0 (0 : Int32) (55 : Int32) (164 : Int32) (48 : Int32) (236 : Int32) M).bind fun q2 =>
  if q2.1 = 0 then
  f_Mo_learn_32 O n l0 (0 : Int32) q2.2
  else
  f_Mo_learn_33 O n l0 (0 : Int32) (1 : Int32) q2.2
  else none
set_option maxRecDepth 100000 in
set_option maxHeartbeats 4000000 in
theorem s_Mo_learn_0 {X : zX} {q : Int32 × zM} (C : zC X zR12 prog_14_method_23_code 6 { frames := 4, cells := 0, slots := 0, locals := 117 }) (hr : zRt X (some .int)) (E : zE X (some (zI q.1)) q.2 0 0) : ∀ (n : Nat) (l0 : Nat) (M : zM), f_Mo_learn_0 (zOD X) n l0 M = some q → zW X 0 0 0 [some (zP l0), none, none, none, none, none] [] M := by
  intro n l0 M h
  rw [f_Mo_learn_0] at h
  refine r_iconst (v := (0 : Int32)) C (z_d dd_Mo_learn 0 rfl) (by decide) ?_
  refine r_istore_n (lv' := [some (zP l0), some (zI (0 : Int32)), none, none, none, none]) C (z_d dd_Mo_learn 1 rfl) (Nat.le_of_ble_eq_true rfl) rfl ?_
  refine r_aload_n C (z_d dd_Mo_learn 2 rfl) rfl ?_
  obtain ⟨h1, h⟩ := zif h
  refine r_getI C (z_d dd_Mo_learn 3 rfl) lk_Mo_85 rfl h1 rfl ?_
  refine r_iconst (v := (4 : Int32)) C (z_d dd_Mo_learn 4 rfl) (by decide) ?_
  refine r_icmp_lt C 32 (z_d dd_Mo_learn 5 rfl) (by decide) (fun c5 => ?_) (fun c5 => ?_)
  · have h := zift h c5
    exact s_Mo_learn_32 C hr E n l0 (0 : Int32) M h
  · have h := ziff h c5
    refine r_aload_n C (z_d dd_Mo_learn 6 rfl) rfl ?_
    refine r_iconst (v := (0 : Int32)) C (z_d dd_Mo_learn 7 rfl) (by decide) ?_
    refine r_bipush (v := (55 : Int32)) C (z_d dd_Mo_learn 8 rfl) (by decide) ?_
    refine r_sipush (v := (164 : Int32)) C (z_d dd_Mo_learn 9 rfl) (by decide) ?_
    refine r_bipush (v := (48 : Int32)) C (z_d dd_Mo_learn 10 rfl) (by decide) ?_
    refine r_sipush (v := (236 : Int32)) C (z_d dd_Mo_learn 11 rfl) (by decide) ?_
    obtain ⟨q2, c3, h⟩ := zbd h
    refine r_invV (as := [zI (0 : Int32), zI (55 : Int32), zI (164 : Int32), zI (48 : Int32), zI (236 : Int32)]) C 12 (S_Mo_stands c3) (z_d dd_Mo_learn 12 rfl) ok_Mo_stands iv_Mo_stands se_Mo_stands ml_Mo_159 rfl rfl h1 rfl rfl rfl (Nat.le_of_ble_eq_true rfl) ⟨(Nat.le_of_ble_eq_true rfl), (Nat.le_of_ble_eq_true rfl)⟩ ⟨(Nat.le_of_ble_eq_true rfl), (Nat.le_of_ble_eq_true rfl)⟩ ?_
    refine r_if_eq C 32 (z_d dd_Mo_learn 13 rfl) (by decide) (fun c4 => ?_) (fun c4 => ?_)
    · have h := zift h c4
      exact s_Mo_learn_32 C hr E n l0 (0 : Int32) q2.2 h
    · have h := ziff h c4
      refine r_iconst (v := (1 : Int32)) C (z_d dd_Mo_learn 14 rfl) (by decide) ?_
      refine r_goto C 33 (z_d dd_Mo_learn 15 rfl) (by decide) ?_
      exact s_Mo_learn_33 C hr E n l0 (0 : Int32) (1 : Int32) q2.2 h
def F_Mo_learn (O : zO) (n : Nat) (l0 : Nat) (M : zM) : Option (Int32 × zM) := f_Mo_learn_0 O n l0 M
theorem S_Mo_learn {l : Launch} {D : zD} {n : Nat} {l0 : Nat} {M : zM} {q : Int32 × zM} (h : F_Mo_learn D.2.2.2.2 n l0 M = some q) : zMet l D mi_Mo_learn [zP l0] M (some (zI q.1)) q.2 :=
  z_met (by decide) (Nat.le_of_ble_eq_true rfl) (fun X C E hr hin hD hl => by
    subst hD
    exact s_Mo_learn_0 C hr E n l0 M h)
