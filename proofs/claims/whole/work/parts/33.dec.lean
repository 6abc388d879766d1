def f_Mo_isAbove_23 (O : zO) (n : Nat) (s0 : Int32) (M : zM) : Option (Int32 × zM) :=
  if s0 = 0 ∨ s0 = 1 then
  some (s0, M)
  else none
set_option maxRecDepth 100000 in
set_option maxHeartbeats 4000000 in
theorem s_Mo_isAbove_23 {X : zX} {q : Int32 × zM} (C : zC X zR12 prog_14_method_49_code 3 { frames := 0, cells := 0, slots := 0, locals := 0 }) (hr : zRt X (some .boolean)) (E : zE X (some (zI q.1)) q.2 0 0) : ∀ (n : Nat) (s0 : Int32) (M : zM), f_Mo_isAbove_23 (zOD X) n s0 M = some q → zW X 0 0 23 [none, none, none] [zI s0] M := by
  intro n s0 M h
  rw [f_Mo_isAbove_23] at h
  obtain ⟨h1, h⟩ := zif h
  obtain rfl := z_res h
  exact r_iretZ C E hr (z_d dd_Mo_isAbove 13 rfl) h1 (Nat.le_of_ble_eq_true rfl) (Nat.le_of_ble_eq_true rfl)
def f_Mo_isAbove_22 (O : zO) (n : Nat) (M : zM) : Option (Int32 × zM) :=
  f_Mo_isAbove_23 O n (0 : Int32) M
set_option maxRecDepth 100000 in
set_option maxHeartbeats 4000000 in
theorem s_Mo_isAbove_22 {X : zX} {q : Int32 × zM} (C : zC X zR12 prog_14_method_49_code 3 { frames := 0, cells := 0, slots := 0, locals := 0 }) (hr : zRt X (some .boolean)) (E : zE X (some (zI q.1)) q.2 0 0) : ∀ (n : Nat) (M : zM), f_Mo_isAbove_22 (zOD X) n M = some q → zW X 0 0 22 [none, none, none] [] M := by
  intro n M h
  rw [f_Mo_isAbove_22] at h
  refine r_iconst (v := (0 : Int32)) C (z_d dd_Mo_isAbove 12 rfl) (by decide) ?_
  exact s_Mo_isAbove_23 C hr E n (0 : Int32) M h
def f_Mo_isAbove_0 (O : zO) (n : Nat) (l0 : Nat) (l1 : Int64) (M : zM) : Option (Int32 × zM) :=
  if z_k M l0 = 13 then
  if (lg_cmp (z_j M l0 38) (0 : Int64)) < 0 then
  f_Mo_isAbove_22 O n M
  else
  if (lg_cmp l1 (z_j M l0 38)) ≤ 0 then
  f_Mo_isAbove_22 O n M
  else
  f_Mo_isAbove_23 O n (1 : Int32) M
  else none
set_option maxRecDepth 100000 in
set_option maxHeartbeats 4000000 in
theorem s_Mo_isAbove_0 {X : zX} {q : Int32 × zM} (C : zC X zR12 prog_14_method_49_code 3 { frames := 0, cells := 0, slots := 0, locals := 0 }) (hr : zRt X (some .boolean)) (E : zE X (some (zI q.1)) q.2 0 0) : ∀ (n : Nat) (l0 : Nat) (l1 : Int64) (M : zM), f_Mo_isAbove_0 (zOD X) n l0 l1 M = some q → zW X 0 0 0 [some (zP l0), some (zL l1), none] [] M := by
  intro n l0 l1 M h
  rw [f_Mo_isAbove_0] at h
  refine r_aload_n C (z_d dd_Mo_isAbove 0 rfl) rfl ?_
  obtain ⟨h1, h⟩ := zif h
  refine r_getL C (z_d dd_Mo_isAbove 1 rfl) lk_Mo_241 rfl h1 rfl ?_
  refine r_lconst (v := (0 : Int64)) C (z_d dd_Mo_isAbove 2 rfl) (by decide) ?_
  refine r_lcmp C (z_d dd_Mo_isAbove 3 rfl) ?_
  refine r_if_lt C 22 (z_d dd_Mo_isAbove 4 rfl) (by decide) (fun c3 => ?_) (fun c3 => ?_)
  · have h := zift h c3
    refine r_mk [false, false, false] ?_
    exact s_Mo_isAbove_22 C hr E n M h
  · have h := ziff h c3
    refine r_lload_n C (z_d dd_Mo_isAbove 5 rfl) rfl ?_
    refine r_aload_n C (z_d dd_Mo_isAbove 6 rfl) rfl ?_
    refine r_getL C (z_d dd_Mo_isAbove 7 rfl) lk_Mo_241 rfl h1 rfl ?_
    refine r_lcmp C (z_d dd_Mo_isAbove 8 rfl) ?_
    refine r_if_le C 22 (z_d dd_Mo_isAbove 9 rfl) (by decide) (fun c2 => ?_) (fun c2 => ?_)
    · have h := zift h c2
      refine r_mk [false, false, false] ?_
      exact s_Mo_isAbove_22 C hr E n M h
    · have h := ziff h c2
      refine r_iconst (v := (1 : Int32)) C (z_d dd_Mo_isAbove 10 rfl) (by decide) ?_
      refine r_goto C 23 (z_d dd_Mo_isAbove 11 rfl) (by decide) ?_
      refine r_mk [false, false, false] ?_
      exact s_Mo_isAbove_23 C hr E n (1 : Int32) M h
def F_Mo_isAbove (O : zO) (n : Nat) (l0 : Nat) (l1 : Int64) (M : zM) : Option (Int32 × zM) := f_Mo_isAbove_0 O n l0 l1 M
theorem S_Mo_isAbove {l : Launch} {D : zD} {n : Nat} {l0 : Nat} {l1 : Int64} {M : zM} {q : Int32 × zM} (h : F_Mo_isAbove D.2.2.2.2 n l0 l1 M = some q) : zMet l D mi_Mo_isAbove [zP l0, zL l1] M (some (zI q.1)) q.2 :=
  z_met (by decide) (Nat.le_of_ble_eq_true rfl) (fun X C E hr hin hD hl => by
    subst hD
    exact s_Mo_isAbove_0 C hr E n l0 l1 M h)

def f_Mo_isTooFar_51 (O : zO) (n : Nat) (s0 : Int32) (M : zM) : Option (Int32 × zM) :=
  if s0 = 0 ∨ s0 = 1 then
  some (s0, M)
  else none
set_option maxRecDepth 100000 in
set_option maxHeartbeats 4000000 in
theorem s_Mo_isTooFar_51 {X : zX} {q : Int32 × zM} (C : zC X zR12 prog_14_method_48_code 5 { frames := 1, cells := 0, slots := 0, locals := 22 }) (hr : zRt X (some .boolean)) (E : zE X (some (zI q.1)) q.2 0 0) : ∀ (n : Nat) (s0 : Int32) (M : zM), f_Mo_isTooFar_51 (zOD X) n s0 M = some q → zW X 0 0 51 [none, none, none, none, none] [zI s0] M := by
  intro n s0 M h
  rw [f_Mo_isTooFar_51] at h
  obtain ⟨h1, h⟩ := zif h
  obtain rfl := z_res h
  exact r_iretZ C E hr (z_d dd_Mo_isTooFar 31 rfl) h1 (Nat.le_of_ble_eq_true rfl) (Nat.le_of_ble_eq_true rfl)
def f_Mo_isTooFar_46 (O : zO) (n : Nat) (M : zM) : Option (Int32 × zM) :=
  f_Mo_isTooFar_51 O n (1 : Int32) M
set_option maxRecDepth 100000 in
set_option maxHeartbeats 4000000 in
theorem s_Mo_isTooFar_46 {X : zX} {q : Int32 × zM} (C : zC X zR12 prog_14_method_48_code 5 { frames := 1, cells := 0, slots := 0, locals := 22 }) (hr : zRt X (some .boolean)) (E : zE X (some (zI q.1)) q.2 0 0) : ∀ (n : Nat) (M : zM), f_Mo_isTooFar_46 (zOD X) n M = some q → zW X 0 0 46 [none, none, none, none, none] [] M := by
  intro n M h
  rw [f_Mo_isTooFar_46] at h
  refine r_iconst (v := (1 : Int32)) C (z_d dd_Mo_isTooFar 28 rfl) (by decide) ?_
  refine r_goto C 51 (z_d dd_Mo_isTooFar 29 rfl) (by decide) ?_
  exact s_Mo_isTooFar_51 C hr E n (1 : Int32) M h
def f_Mo_isTooFar_50 (O : zO) (n : Nat) (M : zM) : Option (Int32 × zM) :=
  f_Mo_isTooFar_51 O n (0 : Int32) M
set_option maxRecDepth 100000 in
set_option maxHeartbeats 4000000 in
theorem s_Mo_isTooFar_50 {X : zX} {q : Int32 × zM} (C : zC X zR12 prog_14_method_48_code 5 { frames := 1, cells := 0, slots := 0, locals := 22 }) (hr : zRt X (some .boolean)) (E : zE X (some (zI q.1)) q.2 0 0) : ∀ (n : Nat) (M : zM), f_Mo_isTooFar_50 (zOD X) n M = some q → zW X 0 0 50 [none, none, none, none, none] [] M := by
  intro n M h
  rw [f_Mo_isTooFar_50] at h
  refine r_iconst (v := (0 : Int32)) C (z_d dd_Mo_isTooFar 30 rfl) (by decide) ?_
  exact s_Mo_isTooFar_51 C hr E n (0 : Int32) M h
def f_Mo_isTooFar_32 (O : zO) (n : Nat) (l0 : Nat) (l1 : Int64) (l3 : Int64) (M : zM) : Option (Int32 × zM) :=
  if (lg_cmp l1 l3) ≤ 0 then
  f_Mo_isTooFar_50 O n M
  else
  if z_k M l0 = 13 then
  (F_Mo_isAbove O n l0 l3 M).bind fun q2 =>
  if q2.1 = 0 then
  f_Mo_isTooFar_50 O n q2.2
  else
  f_Mo_isTooFar_46 O n q2.2
  else none
set_option maxRecDepth 100000 in
set_option maxHeartbeats 4000000 in
theorem s_Mo_isTooFar_32 {X : zX} {q : Int32 × zM} (C : zC X zR12 prog_14_method_48_code 5 { frames := 1, cells := 0, slots := 0, locals := 22 }) (hr : zRt X (some .boolean)) (E : zE X (some (zI q.1)) q.2 0 0) : ∀ (n : Nat) (l0 : Nat) (l1 : Int64) (l3 : Int64) (M : zM), f_Mo_isTooFar_32 (zOD X) n l0 l1 l3 M = some q → zW X 0 0 32 [some (zP l0), some (zL l1), none, some (zL l3), none] [] M := by
  intro n l0 l1 l3 M h
  rw [f_Mo_isTooFar_32] at h
  refine r_lload_n C (z_d dd_Mo_isTooFar 20 rfl) rfl ?_
  refine r_lload_n C (z_d dd_Mo_isTooFar 21 rfl) rfl ?_
  refine r_lcmp C (z_d dd_Mo_isTooFar 22 rfl) ?_
  refine r_if_le C 50 (z_d dd_Mo_isTooFar 23 rfl) (by decide) (fun c5 => ?_) (fun c5 => ?_)
  · have h := zift h c5
    refine r_mk [false, false, false, false, false] ?_
    exact s_Mo_isTooFar_50 C hr E n M h
  · have h := ziff h c5
    refine r_aload_n C (z_d dd_Mo_isTooFar 24 rfl) rfl ?_
    refine r_lload_n C (z_d dd_Mo_isTooFar 25 rfl) rfl ?_
    obtain ⟨h1, h⟩ := zif h
    obtain ⟨q2, c3, h⟩ := zbd h
    refine r_invV (as := [zL l3]) C 12 (S_Mo_isAbove c3) (z_d dd_Mo_isTooFar 26 rfl) ok_Mo_isAbove iv_Mo_isAbove se_Mo_isAbove ml_Mo_332 rfl rfl h1 rfl rfl rfl (Nat.le_of_ble_eq_true rfl) ⟨(Nat.le_of_ble_eq_true rfl), (Nat.le_of_ble_eq_true rfl)⟩ ⟨(Nat.le_of_ble_eq_true rfl), (Nat.le_of_ble_eq_true rfl)⟩ ?_
    refine r_if_eq C 50 (z_d dd_Mo_isTooFar 27 rfl) (by decide) (fun c4 => ?_) (fun c4 => ?_)
    · have h := zift h c4
      refine r_mk [false, false, false, false, false] ?_
      exact s_Mo_isTooFar_50 C hr E n q2.2 h
    · have h := ziff h c4
      refine r_mk [false, false, false, false, false] ?_
      exact s_Mo_isTooFar_46 C hr E n q2.2 h
def f_Mo_isTooFar_0 (O : zO) (n : Nat) (l0 : Nat) (l1 : Int64) (l3 : Int64) (M : zM) : Option (Int32 × zM) :=
  if (lg_cmp l1 (0 : Int64)) = 0 then
  f_Mo_isTooFar_46 O n M
  else
  if z_k M l0 = 13 then
  if 0 < (lg_cmp l1 (l3 + (z_i M l0 5).toInt64)) then
  f_Mo_isTooFar_46 O n M
  else
  if 0 < (lg_cmp l1 l3) then
  f_Mo_isTooFar_32 O n l0 l1 l3 M
  else
  (F_Mo_isAbove O n l0 l1 M).bind fun q2 =>
  if q2.1 = 0 then
  f_Mo_isTooFar_32 O n l0 l1 l3 q2.2
  else
  f_Mo_isTooFar_46 O n q2.2
  else none
set_option maxRecDepth 100000 in
set_option maxHeartbeats 4000000 in
theorem s_Mo_isTooFar_0 {X : zX} {q : Int32 × zM} (C : zC X zR12 prog_14_method_48_code 5 { frames := 1, cells := 0, slots := 0, locals := 22 }) (hr : zRt X (some .boolean)) (E : zE X (some (zI q.1)) q.2 0 0) : ∀ (n : Nat) (l0 : Nat) (l1 : Int64) (l3 : Int64) (M : zM), f_Mo_isTooFar_0 (zOD X) n l0 l1 l3 M = some q → zW X 0 0 0 [some (zP l0), some (zL l1), none, some (zL l3), none] [] M := by
  intro n l0 l1 l3 M h
  rw [f_Mo_isTooFar_0] at h
  refine r_lload_n C (z_d dd_Mo_isTooFar 0 rfl) rfl ?_
  refine r_lconst (v := (0 : Int64)) C (z_d dd_Mo_isTooFar 1 rfl) (by decide) ?_
  refine r_lcmp C (z_d dd_Mo_isTooFar 2 rfl) ?_
  refine r_if_eq C 46 (z_d dd_Mo_isTooFar 3 rfl) (by decide) (fun c7 => ?_) (fun c7 => ?_)
  · have h := zift h c7
    refine r_mk [false, false, false, false, false] ?_
    exact s_Mo_isTooFar_46 C hr E n M h
  · have h := ziff h c7
    refine r_lload_n C (z_d dd_Mo_isTooFar 4 rfl) rfl ?_
    refine r_lload_n C (z_d dd_Mo_isTooFar 5 rfl) rfl ?_
    refine r_aload_n C (z_d dd_Mo_isTooFar 6 rfl) rfl ?_
    obtain ⟨h1, h⟩ := zif h
    refine r_getI C (z_d dd_Mo_isTooFar 7 rfl) lk_Mo_149 rfl h1 rfl ?_
    refine r_i2l C (z_d dd_Mo_isTooFar 8 rfl) ?_
    refine r_ladd C (z_d dd_Mo_isTooFar 9 rfl) ?_
    refine r_lcmp C (z_d dd_Mo_isTooFar 10 rfl) ?_
    refine r_if_gt C 46 (z_d dd_Mo_isTooFar 11 rfl) (by decide) (fun c6 => ?_) (fun c6 => ?_)
    · have h := zift h c6
      refine r_mk [false, false, false, false, false] ?_
      exact s_Mo_isTooFar_46 C hr E n M h
    · have h := ziff h c6
      refine r_lload_n C (z_d dd_Mo_isTooFar 12 rfl) rfl ?_
      refine r_lload_n C (z_d dd_Mo_isTooFar 13 rfl) rfl ?_
      refine r_lcmp C (z_d dd_Mo_isTooFar 14 rfl) ?_
      refine r_if_gt C 32 (z_d dd_Mo_isTooFar 15 rfl) (by decide) (fun c5 => ?_) (fun c5 => ?_)
      · have h := zift h c5
        exact s_Mo_isTooFar_32 C hr E n l0 l1 l3 M h
      · have h := ziff h c5
        refine r_aload_n C (z_d dd_Mo_isTooFar 16 rfl) rfl ?_
        refine r_lload_n C (z_d dd_Mo_isTooFar 17 rfl) rfl ?_
        obtain ⟨q2, c3, h⟩ := zbd h
        refine r_invV (as := [zL l1]) C 12 (S_Mo_isAbove c3) (z_d dd_Mo_isTooFar 18 rfl) ok_Mo_isAbove iv_Mo_isAbove se_Mo_isAbove ml_Mo_332 rfl rfl h1 rfl rfl rfl (Nat.le_of_ble_eq_true rfl) ⟨(Nat.le_of_ble_eq_true rfl), (Nat.le_of_ble_eq_true rfl)⟩ ⟨(Nat.le_of_ble_eq_true rfl), (Nat.le_of_ble_eq_true rfl)⟩ ?_
        refine r_if_ne C 46 (z_d dd_Mo_isTooFar 19 rfl) (by decide) (fun c4 => ?_) (fun c4 => ?_)
        · have h := ziff h c4
          refine r_mk [false, false, false, false, false] ?_
          exact s_Mo_isTooFar_46 C hr E n q2.2 h
        · have h := zift h c4
          exact s_Mo_isTooFar_32 C hr E n l0 l1 l3 q2.2 h
def F_Mo_isTooFar (O : zO) (n : Nat) (l0 : Nat) (l1 : Int64) (l3 : Int64) (M : zM) : Option (Int32 × zM) := f_Mo_isTooFar_0 O n l0 l1 l3 M
theorem S_Mo_isTooFar {l : Launch} {D : zD} {n : Nat} {l0 : Nat} {l1 : Int64} {l3 : Int64} {M : zM} {q : Int32 × zM} (h : F_Mo_isTooFar D.2.2.2.2 n l0 l1 l3 M = some q) : zMet l D mi_Mo_isTooFar [zP l0, zL l1, zL l3] M (some (zI q.1)) q.2 :=
  z_met (by decide) (Nat.le_of_ble_eq_true rfl) (fun X C E hr hin hD hl => by
    subst hD
    exact s_Mo_isTooFar_0 C hr E n l0 l1 l3 M h)

def f_Mo_copy_114 (O : zO) (k56 : Nat → Int32 → Int32 → Int32 → zM → Option (Unit × zM)) (n : Nat) (l0 : Nat) (l2 : Int32) (l3 : Int32) (l4 : Int32) (s0 : Nat) (s1 : Int32) (s2 : Int32) (M : zM) : Option (Unit × zM) :=
  if z_k M s0 = 100 then
  if zin s1 (z_n M s0) = true then
  zlet (w_i M s0 s1.toNatClampNeg s2) fun M3 =>
  if z_k M3 l0 = 13 then
  zlet (w_i M3 l0 30 ((z_i M3 l0 30) + (1 : Int32))) fun M7 =>
  zlet (l4 + (1 : Int32)) fun v11 =>
  k56 l0 l2 l3 v11 M7
  else none
  else none
  else none
set_option maxRecDepth 100000 in
set_option maxHeartbeats 4000000 in
theorem s_Mo_copy_114 {X : zX} {q : Unit × zM} (C : zC X zR12 prog_14_method_50_code 6 { frames := 0, cells := 0, slots := 0, locals := 0 }) (hr : zRt X none) (E : zE X none q.2 0 0) {k56 : Nat → Int32 → Int32 → Int32 → zM → Option (Unit × zM)} (hk56 : ∀ (l0 : Nat) (l2 : Int32) (l3 : Int32) (l4 : Int32) (M : zM), k56 l0 l2 l3 l4 M = some q → zW X 0 0 56 [some (zP l0), none, some (zI l2), some (zI l3), some (zI l4), none] [] M) : ∀ (n : Nat) (l0 : Nat) (l2 : Int32) (l3 : Int32) (l4 : Int32) (s0 : Nat) (s1 : Int32) (s2 : Int32) (M : zM), f_Mo_copy_114 (zOD X) k56 n l0 l2 l3 l4 s0 s1 s2 M = some q → zW X 0 0 114 [some (zP l0), none, some (zI l2), some (zI l3), some (zI l4), none] [zI s2, zI s1, zP s0] M := by
  intro n l0 l2 l3 l4 s0 s1 s2 M h
  rw [f_Mo_copy_114] at h
  obtain ⟨h1, h⟩ := zif h
  obtain ⟨h2, h⟩ := zif h
  obtain ⟨M3, e4, h⟩ := zlet_ex h
  have h5 := k_i e4 h1
  refine r_iast C (z_d dd_Mo_copy 62 rfl) h1 h2 e4 ?_
  refine r_aload_n C (z_d dd_Mo_copy 63 rfl) rfl ?_
  refine r_dupP C (z_d dd_Mo_copy 64 rfl) ?_
  obtain ⟨h6, h⟩ := zif h
  refine r_getI C (z_d dd_Mo_copy 65 rfl) lk_Mo_213 rfl h6 rfl ?_
  refine r_iconst (v := (1 : Int32)) C (z_d dd_Mo_copy 66 rfl) (by decide) ?_
  refine r_iadd C (z_d dd_Mo_copy 67 rfl) ?_
  obtain ⟨M7, e8, h⟩ := zlet_ex h
  have h9 := k_i e8 h5
  have h10 := k_i e8 h6
  refine r_putI C (z_d dd_Mo_copy 68 rfl) lp_Mo_213 rfl h6 e8 ?_
  obtain ⟨v11, e12, h⟩ := zlet_ex h
  refine r_iinc (v := v11) (lv' := [some (zP l0), none, some (zI l2), some (zI l3), some (zI v11), none]) C (z_d dd_Mo_copy 69 rfl) rfl (Nat.le_of_ble_eq_true rfl) (by rw [e12]; rfl) rfl ?_
  refine r_goto C 56 (z_d dd_Mo_copy 70 rfl) (by decide) ?_
  exact hk56 l0 l2 l3 v11 M7 h
def f_Mo_copy_56 (O : zO) : Nat → Nat → Int32 → Int32 → Int32 → zM → Option (Unit × zM)
  | 0, _, _, _, _, _ => none
  | n + 1, l0, l2, l3, l4, M =>
    if l3 ≤ l4 then
    some ((), M)
    else
    if z_k M l0 = 13 then
    zlet ((z_i M l0 30) - l2) fun v2 =>
    if v2 < (z_i M l0 31) then
    if z_k M (z_p M l0 4) = 100 then
    if zin (((z_i M l0 5) + v2) - (z_i M l0 31)) (z_n M (z_p M l0 4)) = true then
    f_Mo_copy_114 O (f_Mo_copy_56 O n) n l0 l2 l3 l4 (z_p M l0 40) (z_i M l0 30) (z_i M (z_p M l0 4) (((z_i M l0 5) + v2) - (z_i M l0 31)).toNatClampNeg) M
    else none
    else none
    else
    if z_k M (z_p M l0 40) = 100 then
    if zin v2 (z_n M (z_p M l0 40)) = true then
    f_Mo_copy_114 O (f_Mo_copy_56 O n) n l0 l2 l3 l4 (z_p M l0 40) (z_i M l0 30) (z_i M (z_p M l0 40) v2.toNatClampNeg) M
    else none
    else none
    else none
set_option maxRecDepth 100000 in
set_option maxHeartbeats 4000000 in
theorem s_Mo_copy_56 {X : zX} {q : Unit × zM} (C : zC X zR12 prog_14_method_50_code 6 { frames := 0, cells := 0, slots := 0, locals := 0 }) (hr : zRt X none) (E : zE X none q.2 0 0) : ∀ (n : Nat) (l0 : Nat) (l2 : Int32) (l3 : Int32) (l4 : Int32) (M : zM), f_Mo_copy_56 (zOD X) n l0 l2 l3 l4 M = some q → zW X 0 0 56 [some (zP l0), none, some (zI l2), some (zI l3), some (zI l4), none] [] M := by
  intro n
  induction n with
  | zero => intro l0 l2 l3 l4 M h; rw [f_Mo_copy_56] at h; cases h
  | succ n ih =>
    intro l0 l2 l3 l4 M h
    rw [f_Mo_copy_56] at h
    refine r_iload C (z_d dd_Mo_copy 31 rfl) rfl ?_
    refine r_iload_n C (z_d dd_Mo_copy 32 rfl) rfl ?_
    refine r_icmp_ge C 131 (z_d dd_Mo_copy 33 rfl) (by decide) (fun c9 => ?_) (fun c9 => ?_)
    · have h := zift h c9
      obtain rfl := z_res h
      exact r_vret C E hr (z_d dd_Mo_copy 71 rfl) (Nat.le_of_ble_eq_true rfl) (Nat.le_of_ble_eq_true rfl)
    · have h := ziff h c9
      refine r_aload_n C (z_d dd_Mo_copy 34 rfl) rfl ?_
      obtain ⟨h1, h⟩ := zif h
      refine r_getI C (z_d dd_Mo_copy 35 rfl) lk_Mo_213 rfl h1 rfl ?_
      refine r_iload_n C (z_d dd_Mo_copy 36 rfl) rfl ?_
      refine r_isub C (z_d dd_Mo_copy 37 rfl) ?_
      obtain ⟨v2, e3, h⟩ := zlet_ex h
      refine r_nmI e3 ?_
      refine r_istore (lv' := [some (zP l0), none, some (zI l2), some (zI l3), some (zI l4), some (zI v2)]) C (z_d dd_Mo_copy 38 rfl) (Nat.le_of_ble_eq_true rfl) rfl ?_
      refine r_aload_n C (z_d dd_Mo_copy 39 rfl) rfl ?_
      refine r_getP C (z_d dd_Mo_copy 40 rfl) lk_Mo_75 rfl h1 rfl ?_
      refine r_aload_n C (z_d dd_Mo_copy 41 rfl) rfl ?_
      refine r_getI C (z_d dd_Mo_copy 42 rfl) lk_Mo_213 rfl h1 rfl ?_
      refine r_iload C (z_d dd_Mo_copy 43 rfl) rfl ?_
      refine r_aload_n C (z_d dd_Mo_copy 44 rfl) rfl ?_
      refine r_getI C (z_d dd_Mo_copy 45 rfl) lk_Mo_258 rfl h1 rfl ?_
      refine r_icmp_lt C 97 (z_d dd_Mo_copy 46 rfl) (by decide) (fun c8 => ?_) (fun c8 => ?_)
      · have h := zift h c8
        refine r_aload_n C (z_d dd_Mo_copy 52 rfl) rfl ?_
        refine r_getP C (z_d dd_Mo_copy 53 rfl) lk_Mo_17 rfl h1 rfl ?_
        refine r_aload_n C (z_d dd_Mo_copy 54 rfl) rfl ?_
        refine r_getI C (z_d dd_Mo_copy 55 rfl) lk_Mo_149 rfl h1 rfl ?_
        refine r_iload C (z_d dd_Mo_copy 56 rfl) rfl ?_
        refine r_iadd C (z_d dd_Mo_copy 57 rfl) ?_
        refine r_aload_n C (z_d dd_Mo_copy 58 rfl) rfl ?_
        refine r_getI C (z_d dd_Mo_copy 59 rfl) lk_Mo_258 rfl h1 rfl ?_
        refine r_isub C (z_d dd_Mo_copy 60 rfl) ?_
        obtain ⟨h4, h⟩ := zif h
        obtain ⟨h5, h⟩ := zif h
        refine r_iald C (z_d dd_Mo_copy 61 rfl) h4 h5 rfl ?_
        refine r_mk [true, false, true, true, true, false] ?_
        exact s_Mo_copy_114 C hr E ih n l0 l2 l3 l4 (z_p M l0 40) (z_i M l0 30) (z_i M (z_p M l0 4) (((z_i M l0 5) + v2) - (z_i M l0 31)).toNatClampNeg) M h
      · have h := ziff h c8
        refine r_aload_n C (z_d dd_Mo_copy 47 rfl) rfl ?_
        refine r_getP C (z_d dd_Mo_copy 48 rfl) lk_Mo_75 rfl h1 rfl ?_
        refine r_iload C (z_d dd_Mo_copy 49 rfl) rfl ?_
        obtain ⟨h6, h⟩ := zif h
        obtain ⟨h7, h⟩ := zif h
        refine r_iald C (z_d dd_Mo_copy 50 rfl) h6 h7 rfl ?_
        refine r_goto C 114 (z_d dd_Mo_copy 51 rfl) (by decide) ?_
        refine r_mk [true, false, true, true, true, false] ?_
        exact s_Mo_copy_114 C hr E ih n l0 l2 l3 l4 (z_p M l0 40) (z_i M l0 30) (z_i M (z_p M l0 40) v2.toNatClampNeg) M h
def f_Mo_copy_3 (O : zO) : Nat → Nat → Int32 → Int32 → Int32 → Int32 → zM → Option (Unit × zM)
  | 0, _, _, _, _, _, _ => none
  | n + 1, l0, l1, l2, l3, l4, M =>
    if l1 ≤ l4 then
    f_Mo_copy_56 O n l0 l2 l3 (0 : Int32) M
    else
    if z_k M l0 = 13 then
    if z_k M (z_p M l0 41) = 100 then
    if zin (z_i M l0 43) (z_n M (z_p M l0 41)) = true then
    if z_k M (z_p M l0 40) = 100 then
    if zin (z_i M l0 30) (z_n M (z_p M l0 40)) = true then
    zlet (w_i M (z_p M l0 40) (z_i M l0 30).toNatClampNeg (z_i M (z_p M l0 41) (z_i M l0 43).toNatClampNeg)) fun M6 =>
    zlet (w_i M6 l0 30 ((z_i M6 l0 30) + (1 : Int32))) fun M11 =>
    zlet (w_i M11 l0 43 ((z_i M11 l0 43) + (1 : Int32))) fun M16 =>
    zlet (l4 + (1 : Int32)) fun v21 =>
    f_Mo_copy_3 O n l0 l1 l2 l3 v21 M16
    else none
    else none
    else none
    else none
    else none
set_option maxRecDepth 100000 in
set_option maxHeartbeats 4000000 in
theorem s_Mo_copy_3 {X : zX} {q : Unit × zM} (C : zC X zR12 prog_14_method_50_code 6 { frames := 0, cells := 0, slots := 0, locals := 0 }) (hr : zRt X none) (E : zE X none q.2 0 0) : ∀ (n : Nat) (l0 : Nat) (l1 : Int32) (l2 : Int32) (l3 : Int32) (l4 : Int32) (M : zM), f_Mo_copy_3 (zOD X) n l0 l1 l2 l3 l4 M = some q → zW X 0 0 3 [some (zP l0), some (zI l1), some (zI l2), some (zI l3), some (zI l4), none] [] M := by
  intro n
  induction n with
  | zero => intro l0 l1 l2 l3 l4 M h; rw [f_Mo_copy_3] at h; cases h
  | succ n ih =>
    intro l0 l1 l2 l3 l4 M h
    rw [f_Mo_copy_3] at h
    refine r_iload C (z_d dd_Mo_copy 2 rfl) rfl ?_
    refine r_iload_n C (z_d dd_Mo_copy 3 rfl) rfl ?_
    refine r_icmp_ge C 53 (z_d dd_Mo_copy 4 rfl) (by decide) (fun c23 => ?_) (fun c23 => ?_)
    · have h := zift h c23
      refine r_iconst (v := (0 : Int32)) C (z_d dd_Mo_copy 29 rfl) (by decide) ?_
      refine r_istore (lv' := [some (zP l0), some (zI l1), some (zI l2), some (zI l3), some (zI (0 : Int32)), none]) C (z_d dd_Mo_copy 30 rfl) (Nat.le_of_ble_eq_true rfl) rfl ?_
      refine r_mk [true, false, true, true, true, false] ?_
      exact s_Mo_copy_56 C hr E n l0 l2 l3 (0 : Int32) M h
    · have h := ziff h c23
      refine r_aload_n C (z_d dd_Mo_copy 5 rfl) rfl ?_
      obtain ⟨h1, h⟩ := zif h
      refine r_getP C (z_d dd_Mo_copy 6 rfl) lk_Mo_75 rfl h1 rfl ?_
      refine r_aload_n C (z_d dd_Mo_copy 7 rfl) rfl ?_
      refine r_getI C (z_d dd_Mo_copy 8 rfl) lk_Mo_213 rfl h1 rfl ?_
      refine r_aload_n C (z_d dd_Mo_copy 9 rfl) rfl ?_
      refine r_getP C (z_d dd_Mo_copy 10 rfl) lk_Mo_79 rfl h1 rfl ?_
      refine r_aload_n C (z_d dd_Mo_copy 11 rfl) rfl ?_
      refine r_getI C (z_d dd_Mo_copy 12 rfl) lk_Mo_276 rfl h1 rfl ?_
      obtain ⟨h2, h⟩ := zif h
      obtain ⟨h3, h⟩ := zif h
      refine r_iald C (z_d dd_Mo_copy 13 rfl) h2 h3 rfl ?_
      obtain ⟨h4, h⟩ := zif h
      obtain ⟨h5, h⟩ := zif h
      obtain ⟨M6, e7, h⟩ := zlet_ex h
      have h8 := k_i e7 h1
      have h9 := k_i e7 h2
      have h10 := k_i e7 h4
      refine r_iast C (z_d dd_Mo_copy 14 rfl) h4 h5 e7 ?_
      refine r_aload_n C (z_d dd_Mo_copy 15 rfl) rfl ?_
      refine r_dupP C (z_d dd_Mo_copy 16 rfl) ?_
      refine r_getI C (z_d dd_Mo_copy 17 rfl) lk_Mo_213 rfl h8 rfl ?_
      refine r_iconst (v := (1 : Int32)) C (z_d dd_Mo_copy 18 rfl) (by decide) ?_
      refine r_iadd C (z_d dd_Mo_copy 19 rfl) ?_
      obtain ⟨M11, e12, h⟩ := zlet_ex h
      have h13 := k_i e12 h8
      have h14 := k_i e12 h9
      have h15 := k_i e12 h10
      refine r_putI C (z_d dd_Mo_copy 20 rfl) lp_Mo_213 rfl h8 e12 ?_
      refine r_aload_n C (z_d dd_Mo_copy 21 rfl) rfl ?_
      refine r_dupP C (z_d dd_Mo_copy 22 rfl) ?_
      refine r_getI C (z_d dd_Mo_copy 23 rfl) lk_Mo_276 rfl h13 rfl ?_
      refine r_iconst (v := (1 : Int32)) C (z_d dd_Mo_copy 24 rfl) (by decide) ?_
      refine r_iadd C (z_d dd_Mo_copy 25 rfl) ?_
      obtain ⟨M16, e17, h⟩ := zlet_ex h
      have h18 := k_i e17 h13
      have h19 := k_i e17 h14
      have h20 := k_i e17 h15
      refine r_putI C (z_d dd_Mo_copy 26 rfl) lp_Mo_276 rfl h13 e17 ?_
      obtain ⟨v21, e22, h⟩ := zlet_ex h
      refine r_iinc (v := v21) (lv' := [some (zP l0), some (zI l1), some (zI l2), some (zI l3), some (zI v21), none]) C (z_d dd_Mo_copy 27 rfl) rfl (Nat.le_of_ble_eq_true rfl) (by rw [e22]; rfl) rfl ?_
      refine r_goto C 3 (z_d dd_Mo_copy 28 rfl) (by decide) ?_
      exact ih l0 l1 l2 l3 v21 M16 h
def f_Mo_copy_0 (O : zO) (n : Nat) (l0 : Nat) (l1 : Int32) (l2 : Int32) (l3 : Int32) (M : zM) : Option (Unit × zM) :=
  f_Mo_copy_3 O n l0 l1 l2 l3 (0 : Int32) M
set_option maxRecDepth 100000 in
set_option maxHeartbeats 4000000 in
theorem s_Mo_copy_0 {X : zX} {q : Unit × zM} (C : zC X zR12 prog_14_method_50_code 6 { frames := 0, cells := 0, slots := 0, locals := 0 }) (hr : zRt X none) (E : zE X none q.2 0 0) : ∀ (n : Nat) (l0 : Nat) (l1 : Int32) (l2 : Int32) (l3 : Int32) (M : zM), f_Mo_copy_0 (zOD X) n l0 l1 l2 l3 M = some q → zW X 0 0 0 [some (zP l0), some (zI l1), some (zI l2), some (zI l3), none, none] [] M := by
  intro n l0 l1 l2 l3 M h
  rw [f_Mo_copy_0] at h
  refine r_iconst (v := (0 : Int32)) C (z_d dd_Mo_copy 0 rfl) (by decide) ?_
  refine r_istore (lv' := [some (zP l0), some (zI l1), some (zI l2), some (zI l3), some (zI (0 : Int32)), none]) C (z_d dd_Mo_copy 1 rfl) (Nat.le_of_ble_eq_true rfl) rfl ?_
  exact s_Mo_copy_3 C hr E n l0 l1 l2 l3 (0 : Int32) M h
def F_Mo_copy (O : zO) (n : Nat) (l0 : Nat) (l1 : Int32) (l2 : Int32) (l3 : Int32) (M : zM) : Option (Unit × zM) := f_Mo_copy_0 O n l0 l1 l2 l3 M
theorem S_Mo_copy {l : Launch} {D : zD} {n : Nat} {l0 : Nat} {l1 : Int32} {l2 : Int32} {l3 : Int32} {M : zM} {q : Unit × zM} (h : F_Mo_copy D.2.2.2.2 n l0 l1 l2 l3 M = some q) : zMet l D mi_Mo_copy [zP l0, zI l1, zI l2, zI l3] M none q.2 :=
  z_met (by decide) (Nat.le_of_ble_eq_true rfl) (fun X C E hr hin hD hl => by
    subst hD
    exact s_Mo_copy_0 C hr E n l0 l1 l2 l3 M h)

def f_Mo_rest_0 (O : zO) : Nat → Nat → zM → Option (Unit × zM)
  | 0, _, _ => none
  | n + 1, l0, M =>
    if z_k M l0 = 13 then
    if (z_i M l0 42) ≤ (z_i M l0 43) then
    some ((), M)
    else
    if z_k M (z_p M l0 41) = 100 then
    if zin (z_i M l0 43) (z_n M (z_p M l0 41)) = true then
    if z_k M (z_p M l0 40) = 100 then
    if zin (z_i M l0 30) (z_n M (z_p M l0 40)) = true then
    zlet (w_i M (z_p M l0 40) (z_i M l0 30).toNatClampNeg (z_i M (z_p M l0 41) (z_i M l0 43).toNatClampNeg)) fun M6 =>
    zlet (w_i M6 l0 30 ((z_i M6 l0 30) + (1 : Int32))) fun M11 =>
    zlet (w_i M11 l0 43 ((z_i M11 l0 43) + (1 : Int32))) fun M16 =>
    f_Mo_rest_0 O n l0 M16
    else none
    else none
    else none
    else none
    else none
set_option maxRecDepth 100000 in
set_option maxHeartbeats 4000000 in
theorem s_Mo_rest_0 {X : zX} {q : Unit × zM} (C : zC X zR12 prog_14_method_38_code 1 { frames := 0, cells := 0, slots := 0, locals := 0 }) (hr : zRt X none) (E : zE X none q.2 0 0) : ∀ (n : Nat) (l0 : Nat) (M : zM), f_Mo_rest_0 (zOD X) n l0 M = some q → zW X 0 0 0 [some (zP l0)] [] M := by
  intro n
  induction n with
  | zero => intro l0 M h; rw [f_Mo_rest_0] at h; cases h
  | succ n ih =>
    intro l0 M h
    rw [f_Mo_rest_0] at h
    refine r_aload_n C (z_d dd_Mo_rest 0 rfl) rfl ?_
    obtain ⟨h1, h⟩ := zif h
    refine r_getI C (z_d dd_Mo_rest 1 rfl) lk_Mo_276 rfl h1 rfl ?_
    refine r_aload_n C (z_d dd_Mo_rest 2 rfl) rfl ?_
    refine r_getI C (z_d dd_Mo_rest 3 rfl) lk_Mo_146 rfl h1 rfl ?_
    refine r_icmp_ge C 52 (z_d dd_Mo_rest 4 rfl) (by decide) (fun c21 => ?_) (fun c21 => ?_)
    · have h := zift h c21
      obtain rfl := z_res h
      exact r_vret C E hr (z_d dd_Mo_rest 28 rfl) (Nat.le_of_ble_eq_true rfl) (Nat.le_of_ble_eq_true rfl)
    · have h := ziff h c21
      refine r_aload_n C (z_d dd_Mo_rest 5 rfl) rfl ?_
      refine r_getP C (z_d dd_Mo_rest 6 rfl) lk_Mo_75 rfl h1 rfl ?_
      refine r_aload_n C (z_d dd_Mo_rest 7 rfl) rfl ?_
      refine r_getI C (z_d dd_Mo_rest 8 rfl) lk_Mo_213 rfl h1 rfl ?_
      refine r_aload_n C (z_d dd_Mo_rest 9 rfl) rfl ?_
      refine r_getP C (z_d dd_Mo_rest 10 rfl) lk_Mo_79 rfl h1 rfl ?_
      refine r_aload_n C (z_d dd_Mo_rest 11 rfl) rfl ?_
      refine r_getI C (z_d dd_Mo_rest 12 rfl) lk_Mo_276 rfl h1 rfl ?_
      obtain ⟨h2, h⟩ := zif h
      obtain ⟨h3, h⟩ := zif h
      refine r_iald C (z_d dd_Mo_rest 13 rfl) h2 h3 rfl ?_
      obtain ⟨h4, h⟩ := zif h
      obtain ⟨h5, h⟩ := zif h
      obtain ⟨M6, e7, h⟩ := zlet_ex h
      have h8 := k_i e7 h1
      have h9 := k_i e7 h2
      have h10 := k_i e7 h4
      refine r_iast C (z_d dd_Mo_rest 14 rfl) h4 h5 e7 ?_
      refine r_aload_n C (z_d dd_Mo_rest 15 rfl) rfl ?_
      refine r_dupP C (z_d dd_Mo_rest 16 rfl) ?_
      refine r_getI C (z_d dd_Mo_rest 17 rfl) lk_Mo_213 rfl h8 rfl ?_
      refine r_iconst (v := (1 : Int32)) C (z_d dd_Mo_rest 18 rfl) (by decide) ?_
      refine r_iadd C (z_d dd_Mo_rest 19 rfl) ?_
      obtain ⟨M11, e12, h⟩ := zlet_ex h
      have h13 := k_i e12 h8
      have h14 := k_i e12 h9
      have h15 := k_i e12 h10
      refine r_putI C (z_d dd_Mo_rest 20 rfl) lp_Mo_213 rfl h8 e12 ?_
      refine r_aload_n C (z_d dd_Mo_rest 21 rfl) rfl ?_
      refine r_dupP C (z_d dd_Mo_rest 22 rfl) ?_
      refine r_getI C (z_d dd_Mo_rest 23 rfl) lk_Mo_276 rfl h13 rfl ?_
      refine r_iconst (v := (1 : Int32)) C (z_d dd_Mo_rest 24 rfl) (by decide) ?_
      refine r_iadd C (z_d dd_Mo_rest 25 rfl) ?_
      obtain ⟨M16, e17, h⟩ := zlet_ex h
      have h18 := k_i e17 h13
      have h19 := k_i e17 h14
      have h20 := k_i e17 h15
      refine r_putI C (z_d dd_Mo_rest 26 rfl) lp_Mo_276 rfl h13 e17 ?_
      refine r_goto C 0 (z_d dd_Mo_rest 27 rfl) (by decide) ?_
      exact ih l0 M16 h
def F_Mo_rest (O : zO) (n : Nat) (l0 : Nat) (M : zM) : Option (Unit × zM) := f_Mo_rest_0 O n l0 M
theorem S_Mo_rest {l : Launch} {D : zD} {n : Nat} {l0 : Nat} {M : zM} {q : Unit × zM} (h : F_Mo_rest D.2.2.2.2 n l0 M = some q) : zMet l D mi_Mo_rest [zP l0] M none q.2 :=
  z_met (by decide) (Nat.le_of_ble_eq_true rfl) (fun X C E hr hin hD hl => by
    subst hD
    exact s_Mo_rest_0 C hr E n l0 M h)

def f_Mo_sequences_54 (O : zO) (n : Nat) (l0 : Nat) (l3 : Int32) (M : zM) : Option (Int32 × zM) :=
  if z_k M l0 = 13 then
  (F_Mo_wrong O n l0 (17 : Int32) l3 M).bind fun q2 =>
  if q2.1 = 0 ∨ q2.1 = 1 then
  some (q2.1, q2.2)
  else none
  else none
set_option maxRecDepth 100000 in
set_option maxHeartbeats 4000000 in
theorem s_Mo_sequences_54 {X : zX} {q : Int32 × zM} (C : zC X zR12 prog_14_method_46_code 19 { frames := 5, cells := 0, slots := 0, locals := 128 }) (hr : zRt X (some .boolean)) (E : zE X (some (zI q.1)) q.2 0 0) : ∀ (n : Nat) (l0 : Nat) (l3 : Int32) (M : zM), f_Mo_sequences_54 (zOD X) n l0 l3 M = some q → zW X 0 0 54 [some (zP l0), none, none, some (zI l3), none, none, none, none, none, none, none, none, none, none, none, none, none, none, none] [] M := by
  intro n l0 l3 M h
  rw [f_Mo_sequences_54] at h
  refine r_aload_n C (z_d dd_Mo_sequences 32 rfl) rfl ?_
  refine r_bipush (v := (17 : Int32)) C (z_d dd_Mo_sequences 33 rfl) (by decide) ?_
  refine r_iload_n C (z_d dd_Mo_sequences 34 rfl) rfl ?_
  obtain ⟨h1, h⟩ := zif h
  obtain ⟨q2, c3, h⟩ := zbd h
  refine r_invV (as := [zI (17 : Int32), zI l3]) C 12 (S_Mo_wrong c3) (z_d dd_Mo_sequences 35 rfl) ok_Mo_wrong iv_Mo_wrong se_Mo_wrong ml_Mo_207 rfl rfl h1 rfl rfl rfl (Nat.le_of_ble_eq_true rfl) ⟨(Nat.le_of_ble_eq_true rfl), (Nat.le_of_ble_eq_true rfl)⟩ ⟨(Nat.le_of_ble_eq_true rfl), (Nat.le_of_ble_eq_true rfl)⟩ ?_
  obtain ⟨h4, h⟩ := zif h
  obtain rfl := z_res h
  exact r_iretZ C E hr (z_d dd_Mo_sequences 36 rfl) h4 (Nat.le_of_ble_eq_true rfl) (Nat.le_of_ble_eq_true rfl)
def f_Mo_sequences_412 (O : zO) (k116 : Nat → Int32 → Int32 → Int32 → Int32 → zM → Option (Int32 × zM)) (n : Nat) (l0 : Nat) (l2 : Int32) (l3 : Int32) (l4 : Int32) (l5 : Int32) (l11 : Int64) (l13 : Int32) (l14 : Int32) (M : zM) : Option (Int32 × zM) :=
  if z_k M l0 = 13 then
  if l14 ≤ ((z_i M l0 42) - (z_i M l0 43)) then
  (F_Mo_distanceOf O n l0 l11 l14 M).bind fun q2 =>
  if z_k q2.2 l0 = 13 then
  zlet (((z_i q2.2 l0 30) + l14) - (z_i q2.2 l0 31)).toInt64 fun v5 =>
  (F_Mo_isTooFar O n l0 q2.1 v5 q2.2).bind fun q7 =>
  if q7.1 = 0 then
  if z_k q7.2 l0 = 13 then
  if ((((z_i q7.2 l0 30) - l4) + l14) + l13) ≤ (z_i q7.2 l0 32) then
  if (l14 + l13) ≤ ((z_i q7.2 l0 29) - (z_i q7.2 l0 30)) then
  (F_Mo_copy O n l0 l14 q2.1.toInt32 l13 q7.2).bind fun q10 =>
  if z_k q10.2 l0 = 13 then
  zlet (w_i q10.2 l0 37 ((z_i q10.2 l0 37) + (1 : Int32))) fun M13 =>
  zlet (l5 + (1 : Int32)) fun v16 =>
  k116 l0 l2 l3 l4 v16 M13
  else none
  else
  (F_Mo_wrong O n l0 (7 : Int32) l3 q7.2).bind fun q18 =>
  if q18.1 = 0 ∨ q18.1 = 1 then
  some (q18.1, q18.2)
  else none
  else
  (F_Mo_wrong O n l0 (20 : Int32) l3 q7.2).bind fun q22 =>
  if q22.1 = 0 ∨ q22.1 = 1 then
  some (q22.1, q22.2)
  else none
  else none
  else
  if z_k q7.2 l0 = 13 then
  (F_Mo_wrong O n l0 (18 : Int32) l3 q7.2).bind fun q27 =>
  if q27.1 = 0 ∨ q27.1 = 1 then
  some (q27.1, q27.2)
  else none
  else none
  else none
  else
  (F_Mo_wrong O n l0 (19 : Int32) l3 M).bind fun q31 =>
  if q31.1 = 0 ∨ q31.1 = 1 then
  some (q31.1, q31.2)
  else none
  else none
set_option maxRecDepth 100000 in
set_option maxHeartbeats 4000000 in
theorem s_Mo_sequences_412 {X : zX} {q : Int32 × zM} (C : zC X zR12 prog_14_method_46_code 19 { frames := 5, cells := 0, slots := 0, locals := 128 }) (hr : zRt X (some .boolean)) (E : zE X (some (zI q.1)) q.2 0 0) {k116 : Nat → Int32 → Int32 → Int32 → Int32 → zM → Option (Int32 × zM)} (hk116 : ∀ (l0 : Nat) (l2 : Int32) (l3 : Int32) (l4 : Int32) (l5 : Int32) (M : zM), k116 l0 l2 l3 l4 l5 M = some q → zW X 0 0 116 [some (zP l0), none, some (zI l2), some (zI l3), some (zI l4), some (zI l5), none, none, none, none, none, none, none, none, none, none, none, none, none] [] M) : ∀ (n : Nat) (l0 : Nat) (l2 : Int32) (l3 : Int32) (l4 : Int32) (l5 : Int32) (l11 : Int64) (l13 : Int32) (l14 : Int32) (M : zM), f_Mo_sequences_412 (zOD X) k116 n l0 l2 l3 l4 l5 l11 l13 l14 M = some q → zW X 0 0 412 [some (zP l0), none, some (zI l2), some (zI l3), some (zI l4), some (zI l5), none, none, none, none, none, some (zL l11), none, some (zI l13), some (zI l14), none, none, none, none] [] M := by
  intro n l0 l2 l3 l4 l5 l11 l13 l14 M h
  rw [f_Mo_sequences_412] at h
  refine r_iload C (z_d dd_Mo_sequences 230 rfl) rfl ?_
  refine r_aload_n C (z_d dd_Mo_sequences 231 rfl) rfl ?_
  obtain ⟨h1, h⟩ := zif h
  refine r_getI C (z_d dd_Mo_sequences 232 rfl) lk_Mo_146 rfl h1 rfl ?_
  refine r_aload_n C (z_d dd_Mo_sequences 233 rfl) rfl ?_
  refine r_getI C (z_d dd_Mo_sequences 234 rfl) lk_Mo_276 rfl h1 rfl ?_
  refine r_isub C (z_d dd_Mo_sequences 235 rfl) ?_
  refine r_icmp_le C 434 (z_d dd_Mo_sequences 236 rfl) (by decide) (fun c34 => ?_) (fun c34 => ?_)
  · have h := zift h c34
    refine r_aload_n C (z_d dd_Mo_sequences 242 rfl) rfl ?_
    refine r_lload C (z_d dd_Mo_sequences 243 rfl) rfl ?_
    refine r_iload C (z_d dd_Mo_sequences 244 rfl) rfl ?_
    obtain ⟨q2, c3, h⟩ := zbd h
    refine r_invV (as := [zL l11, zI l14]) C 12 (S_Mo_distanceOf c3) (z_d dd_Mo_sequences 245 rfl) ok_Mo_distanceOf iv_Mo_distanceOf se_Mo_distanceOf ml_Mo_319 rfl rfl h1 rfl rfl rfl (Nat.le_of_ble_eq_true rfl) ⟨(Nat.le_of_ble_eq_true rfl), (Nat.le_of_ble_eq_true rfl)⟩ ⟨(Nat.le_of_ble_eq_true rfl), (Nat.le_of_ble_eq_true rfl)⟩ ?_
    refine r_lstore (lv' := [some (zP l0), none, some (zI l2), some (zI l3), some (zI l4), some (zI l5), none, none, none, none, none, some (zL l11), none, some (zI l13), some (zI l14), some (zL q2.1), none, none, none]) C (z_d dd_Mo_sequences 246 rfl) (Nat.le_of_ble_eq_true rfl) rfl ?_
    refine r_aload_n C (z_d dd_Mo_sequences 247 rfl) rfl ?_
    obtain ⟨h4, h⟩ := zif h
    refine r_getI C (z_d dd_Mo_sequences 248 rfl) lk_Mo_213 rfl h4 rfl ?_
    refine r_iload C (z_d dd_Mo_sequences 249 rfl) rfl ?_
    refine r_iadd C (z_d dd_Mo_sequences 250 rfl) ?_
    refine r_aload_n C (z_d dd_Mo_sequences 251 rfl) rfl ?_
    refine r_getI C (z_d dd_Mo_sequences 252 rfl) lk_Mo_258 rfl h4 rfl ?_
    refine r_isub C (z_d dd_Mo_sequences 253 rfl) ?_
    refine r_i2l C (z_d dd_Mo_sequences 254 rfl) ?_
    obtain ⟨v5, e6, h⟩ := zlet_ex h
    refine r_nmL e6 ?_
    refine r_lstore (lv' := [some (zP l0), none, some (zI l2), some (zI l3), some (zI l4), some (zI l5), none, none, none, none, none, some (zL l11), none, some (zI l13), some (zI l14), some (zL q2.1), none, some (zL v5), none]) C (z_d dd_Mo_sequences 255 rfl) (Nat.le_of_ble_eq_true rfl) rfl ?_
    refine r_aload_n C (z_d dd_Mo_sequences 256 rfl) rfl ?_
    refine r_lload C (z_d dd_Mo_sequences 257 rfl) rfl ?_
    refine r_lload C (z_d dd_Mo_sequences 258 rfl) rfl ?_
    obtain ⟨q7, c8, h⟩ := zbd h
    refine r_invV (as := [zL q2.1, zL v5]) C 12 (S_Mo_isTooFar c8) (z_d dd_Mo_sequences 259 rfl) ok_Mo_isTooFar iv_Mo_isTooFar se_Mo_isTooFar ml_Mo_322 rfl rfl h4 rfl rfl rfl (Nat.le_of_ble_eq_true rfl) ⟨(Nat.le_of_ble_eq_true rfl), (Nat.le_of_ble_eq_true rfl)⟩ ⟨(Nat.le_of_ble_eq_true rfl), (Nat.le_of_ble_eq_true rfl)⟩ ?_
    refine r_if_eq C 478 (z_d dd_Mo_sequences 260 rfl) (by decide) (fun c30 => ?_) (fun c30 => ?_)
    · have h := zift h c30
      refine r_aload_n C (z_d dd_Mo_sequences 266 rfl) rfl ?_
      obtain ⟨h9, h⟩ := zif h
      refine r_getI C (z_d dd_Mo_sequences 267 rfl) lk_Mo_213 rfl h9 rfl ?_
      refine r_iload C (z_d dd_Mo_sequences 268 rfl) rfl ?_
      refine r_isub C (z_d dd_Mo_sequences 269 rfl) ?_
      refine r_iload C (z_d dd_Mo_sequences 270 rfl) rfl ?_
      refine r_iadd C (z_d dd_Mo_sequences 271 rfl) ?_
      refine r_iload C (z_d dd_Mo_sequences 272 rfl) rfl ?_
      refine r_iadd C (z_d dd_Mo_sequences 273 rfl) ?_
      refine r_aload_n C (z_d dd_Mo_sequences 274 rfl) rfl ?_
      refine r_getI C (z_d dd_Mo_sequences 275 rfl) lk_Mo_252 rfl h9 rfl ?_
      refine r_icmp_le C 506 (z_d dd_Mo_sequences 276 rfl) (by decide) (fun c25 => ?_) (fun c25 => ?_)
      · have h := zift h c25
        refine r_iload C (z_d dd_Mo_sequences 282 rfl) rfl ?_
        refine r_iload C (z_d dd_Mo_sequences 283 rfl) rfl ?_
        refine r_iadd C (z_d dd_Mo_sequences 284 rfl) ?_
        refine r_aload_n C (z_d dd_Mo_sequences 285 rfl) rfl ?_
        refine r_getI C (z_d dd_Mo_sequences 286 rfl) lk_Mo_210 rfl h9 rfl ?_
        refine r_aload_n C (z_d dd_Mo_sequences 287 rfl) rfl ?_
        refine r_getI C (z_d dd_Mo_sequences 288 rfl) lk_Mo_213 rfl h9 rfl ?_
        refine r_isub C (z_d dd_Mo_sequences 289 rfl) ?_
        refine r_icmp_le C 531 (z_d dd_Mo_sequences 290 rfl) (by decide) (fun c21 => ?_) (fun c21 => ?_)
        · have h := zift h c21
          refine r_aload_n C (z_d dd_Mo_sequences 296 rfl) rfl ?_
          refine r_iload C (z_d dd_Mo_sequences 297 rfl) rfl ?_
          refine r_lload C (z_d dd_Mo_sequences 298 rfl) rfl ?_
          refine r_l2i C (z_d dd_Mo_sequences 299 rfl) ?_
          refine r_iload C (z_d dd_Mo_sequences 300 rfl) rfl ?_
          obtain ⟨q10, c11, h⟩ := zbd h
          refine r_invV (as := [zI l14, zI q2.1.toInt32, zI l13]) C 12 (S_Mo_copy c11) (z_d dd_Mo_sequences 301 rfl) ok_Mo_copy iv_Mo_copy se_Mo_copy ml_Mo_326 rfl rfl h9 rfl rfl rfl (Nat.le_of_ble_eq_true rfl) ⟨(Nat.le_of_ble_eq_true rfl), (Nat.le_of_ble_eq_true rfl)⟩ ⟨(Nat.le_of_ble_eq_true rfl), (Nat.le_of_ble_eq_true rfl)⟩ ?_
          refine r_aload_n C (z_d dd_Mo_sequences 302 rfl) rfl ?_
          refine r_dupP C (z_d dd_Mo_sequences 303 rfl) ?_
          obtain ⟨h12, h⟩ := zif h
          refine r_getI C (z_d dd_Mo_sequences 304 rfl) lk_Mo_222 rfl h12 rfl ?_
          refine r_iconst (v := (1 : Int32)) C (z_d dd_Mo_sequences 305 rfl) (by decide) ?_
          refine r_iadd C (z_d dd_Mo_sequences 306 rfl) ?_
          obtain ⟨M13, e14, h⟩ := zlet_ex h
          have h15 := k_i e14 h12
          refine r_putI C (z_d dd_Mo_sequences 307 rfl) lp_Mo_222 rfl h12 e14 ?_
          obtain ⟨v16, e17, h⟩ := zlet_ex h
          refine r_iinc (v := v16) (lv' := [some (zP l0), none, some (zI l2), some (zI l3), some (zI l4), some (zI v16), none, none, none, none, none, some (zL l11), none, some (zI l13), some (zI l14), some (zL q2.1), none, some (zL v5), none]) C (z_d dd_Mo_sequences 308 rfl) rfl (Nat.le_of_ble_eq_true rfl) (by rw [e17]; rfl) rfl ?_
          refine r_goto C 116 (z_d dd_Mo_sequences 309 rfl) (by decide) ?_
          refine r_mk [true, false, true, true, true, true, false, false, false, false, false, false, false, false, false, false, false, false, false] ?_
          exact hk116 l0 l2 l3 l4 v16 M13 h
        · have h := ziff h c21
          refine r_aload_n C (z_d dd_Mo_sequences 291 rfl) rfl ?_
          refine r_bipush (v := (7 : Int32)) C (z_d dd_Mo_sequences 292 rfl) (by decide) ?_
          refine r_iload_n C (z_d dd_Mo_sequences 293 rfl) rfl ?_
          obtain ⟨q18, c19, h⟩ := zbd h
          refine r_invV (as := [zI (7 : Int32), zI l3]) C 12 (S_Mo_wrong c19) (z_d dd_Mo_sequences 294 rfl) ok_Mo_wrong iv_Mo_wrong se_Mo_wrong ml_Mo_207 rfl rfl h9 rfl rfl rfl (Nat.le_of_ble_eq_true rfl) ⟨(Nat.le_of_ble_eq_true rfl), (Nat.le_of_ble_eq_true rfl)⟩ ⟨(Nat.le_of_ble_eq_true rfl), (Nat.le_of_ble_eq_true rfl)⟩ ?_
          obtain ⟨h20, h⟩ := zif h
          obtain rfl := z_res h
          exact r_iretZ C E hr (z_d dd_Mo_sequences 295 rfl) h20 (Nat.le_of_ble_eq_true rfl) (Nat.le_of_ble_eq_true rfl)
      · have h := ziff h c25
        refine r_aload_n C (z_d dd_Mo_sequences 277 rfl) rfl ?_
        refine r_bipush (v := (20 : Int32)) C (z_d dd_Mo_sequences 278 rfl) (by decide) ?_
        refine r_iload_n C (z_d dd_Mo_sequences 279 rfl) rfl ?_
        obtain ⟨q22, c23, h⟩ := zbd h
        refine r_invV (as := [zI (20 : Int32), zI l3]) C 12 (S_Mo_wrong c23) (z_d dd_Mo_sequences 280 rfl) ok_Mo_wrong iv_Mo_wrong se_Mo_wrong ml_Mo_207 rfl rfl h9 rfl rfl rfl (Nat.le_of_ble_eq_true rfl) ⟨(Nat.le_of_ble_eq_true rfl), (Nat.le_of_ble_eq_true rfl)⟩ ⟨(Nat.le_of_ble_eq_true rfl), (Nat.le_of_ble_eq_true rfl)⟩ ?_
        obtain ⟨h24, h⟩ := zif h
        obtain rfl := z_res h
        exact r_iretZ C E hr (z_d dd_Mo_sequences 281 rfl) h24 (Nat.le_of_ble_eq_true rfl) (Nat.le_of_ble_eq_true rfl)
    · have h := ziff h c30
      refine r_aload_n C (z_d dd_Mo_sequences 261 rfl) rfl ?_
      refine r_bipush (v := (18 : Int32)) C (z_d dd_Mo_sequences 262 rfl) (by decide) ?_
      refine r_iload_n C (z_d dd_Mo_sequences 263 rfl) rfl ?_
      obtain ⟨h26, h⟩ := zif h
      obtain ⟨q27, c28, h⟩ := zbd h
      refine r_invV (as := [zI (18 : Int32), zI l3]) C 12 (S_Mo_wrong c28) (z_d dd_Mo_sequences 264 rfl) ok_Mo_wrong iv_Mo_wrong se_Mo_wrong ml_Mo_207 rfl rfl h26 rfl rfl rfl (Nat.le_of_ble_eq_true rfl) ⟨(Nat.le_of_ble_eq_true rfl), (Nat.le_of_ble_eq_true rfl)⟩ ⟨(Nat.le_of_ble_eq_true rfl), (Nat.le_of_ble_eq_true rfl)⟩ ?_
      obtain ⟨h29, h⟩ := zif h
      obtain rfl := z_res h
      exact r_iretZ C E hr (z_d dd_Mo_sequences 265 rfl) h29 (Nat.le_of_ble_eq_true rfl) (Nat.le_of_ble_eq_true rfl)
  · have h := ziff h c34
    refine r_aload_n C (z_d dd_Mo_sequences 237 rfl) rfl ?_
    refine r_bipush (v := (19 : Int32)) C (z_d dd_Mo_sequences 238 rfl) (by decide) ?_
    refine r_iload_n C (z_d dd_Mo_sequences 239 rfl) rfl ?_
    obtain ⟨q31, c32, h⟩ := zbd h
    refine r_invV (as := [zI (19 : Int32), zI l3]) C 12 (S_Mo_wrong c32) (z_d dd_Mo_sequences 240 rfl) ok_Mo_wrong iv_Mo_wrong se_Mo_wrong ml_Mo_207 rfl rfl h1 rfl rfl rfl (Nat.le_of_ble_eq_true rfl) ⟨(Nat.le_of_ble_eq_true rfl), (Nat.le_of_ble_eq_true rfl)⟩ ⟨(Nat.le_of_ble_eq_true rfl), (Nat.le_of_ble_eq_true rfl)⟩ ?_
    obtain ⟨h33, h⟩ := zif h
    obtain rfl := z_res h
    exact r_iretZ C E hr (z_d dd_Mo_sequences 241 rfl) h33 (Nat.le_of_ble_eq_true rfl) (Nat.le_of_ble_eq_true rfl)
def f_Mo_sequences_224 (O : zO) (k116 : Nat → Int32 → Int32 → Int32 → Int32 → zM → Option (Int32 × zM)) (n : Nat) (l0 : Nat) (l2 : Int32) (l3 : Int32) (l4 : Int32) (l5 : Int32) (l6 : Int32) (l7 : Int32) (l8 : Int32) (l9 : Int32) (s0 : Int32) (M : zM) : Option (Int32 × zM) :=
  if z_k M l0 = 13 then
  (F_Mo_matchBits O n l8 M).bind fun q2 =>
  (F_Mo_literalBits O n l6 q2.2).bind fun q4 =>
  if (((l7 + q2.1) + q4.1) + s0) ≤ (z_i M l0 48) then
  if z_k q4.2 l0 = 13 then
  (F_Mo_take O n l0 l7 q4.2).bind fun q7 =>
  zlet (((1 : Int64) <<< (l7.toInt64 &&& 63)) + q7.1) fun v9 =>
  (F_Mo_matchBase O n l8 q7.2).bind fun q11 =>
  (F_Mo_matchBits O n l8 q11.2).bind fun q13 =>
  if z_k q13.2 l0 = 13 then
  (F_Mo_take O n l0 q13.1 q13.2).bind fun q16 =>
  zlet (q11.1 + q16.1.toInt32) fun v18 =>
  (F_Mo_literalBase O n l6 q16.2).bind fun q20 =>
  (F_Mo_literalBits O n l6 q20.2).bind fun q22 =>
  if z_k q22.2 l0 = 13 then
  (F_Mo_take O n l0 q22.1 q22.2).bind fun q25 =>
  zlet (q20.1 + q25.1.toInt32) fun v27 =>
  if l9 = 0 then
  if z_k q25.2 l0 = 13 then
  if z_k q25.2 (z_p q25.2 l0 19) = 100 then
  if zin (z_i q25.2 l0 44) (z_n q25.2 (z_p q25.2 l0 19)) = true then
  if z_k q25.2 (z_p q25.2 l0 18) = 100 then
  if zin (z_i q25.2 l0 44) (z_n q25.2 (z_p q25.2 l0 18)) = true then
  (F_Mo_take O n l0 (z_i q25.2 (z_p q25.2 l0 18) (z_i q25.2 l0 44).toNatClampNeg) q25.2).bind fun q34 =>
  if z_k q34.2 l0 = 13 then
  zlet (w_i q34.2 l0 44 ((z_i q25.2 (z_p q25.2 l0 19) (z_i q25.2 l0 44).toNatClampNeg) + q34.1.toInt32)) fun M37 =>
  if z_k M37 (z_p M37 l0 19) = 100 then
  if zin ((1024 : Int32) + (z_i M37 l0 46)) (z_n M37 (z_p M37 l0 19)) = true then
  if z_k M37 (z_p M37 l0 18) = 100 then
  if zin ((1024 : Int32) + (z_i M37 l0 46)) (z_n M37 (z_p M37 l0 18)) = true then
  (F_Mo_take O n l0 (z_i M37 (z_p M37 l0 18) ((1024 : Int32) + (z_i M37 l0 46)).toNatClampNeg) M37).bind fun q44 =>
  if z_k q44.2 l0 = 13 then
  zlet (w_i q44.2 l0 46 ((z_i M37 (z_p M37 l0 19) ((1024 : Int32) + (z_i M37 l0 46)).toNatClampNeg) + q44.1.toInt32)) fun M47 =>
  if z_k M47 (z_p M47 l0 19) = 100 then
  if zin ((512 : Int32) + (z_i M47 l0 45)) (z_n M47 (z_p M47 l0 19)) = true then
  if z_k M47 (z_p M47 l0 18) = 100 then
  if zin ((512 : Int32) + (z_i M47 l0 45)) (z_n M47 (z_p M47 l0 18)) = true then
  (F_Mo_take O n l0 (z_i M47 (z_p M47 l0 18) ((512 : Int32) + (z_i M47 l0 45)).toNatClampNeg) M47).bind fun q54 =>
  if z_k q54.2 l0 = 13 then
  zlet (w_i q54.2 l0 45 ((z_i M47 (z_p M47 l0 19) ((512 : Int32) + (z_i M47 l0 45)).toNatClampNeg) + q54.1.toInt32)) fun M57 =>
  f_Mo_sequences_412 O k116 n l0 l2 l3 l4 l5 v9 v18 v27 M57
  else none
  else none
  else none
  else none
  else none
  else none
  else none
  else none
  else none
  else none
  else none
  else none
  else none
  else none
  else none
  else none
  else
  f_Mo_sequences_412 O k116 n l0 l2 l3 l4 l5 v9 v18 v27 q25.2
  else none
  else none
  else none
  else
  if z_k q4.2 l0 = 13 then
  (F_Mo_wrong O n l0 (17 : Int32) l3 q4.2).bind fun q62 =>
  if q62.1 = 0 ∨ q62.1 = 1 then
  some (q62.1, q62.2)
  else none
  else none
  else none
set_option maxRecDepth 100000 in
set_option maxHeartbeats 4000000 in
theorem s_Mo_sequences_224 {X : zX} {q : Int32 × zM} (C : zC X zR12 prog_14_method_46_code 19 { frames := 5, cells := 0, slots := 0, locals := 128 }) (hr : zRt X (some .boolean)) (E : zE X (some (zI q.1)) q.2 0 0) {k116 : Nat → Int32 → Int32 → Int32 → Int32 → zM → Option (Int32 × zM)} (hk116 : ∀ (l0 : Nat) (l2 : Int32) (l3 : Int32) (l4 : Int32) (l5 : Int32) (M : zM), k116 l0 l2 l3 l4 l5 M = some q → zW X 0 0 116 [some (zP l0), none, some (zI l2), some (zI l3), some (zI l4), some (zI l5), none, none, none, none, none, none, none, none, none, none, none, none, none] [] M) : ∀ (n : Nat) (l0 : Nat) (l2 : Int32) (l3 : Int32) (l4 : Int32) (l5 : Int32) (l6 : Int32) (l7 : Int32) (l8 : Int32) (l9 : Int32) (s0 : Int32) (M : zM), f_Mo_sequences_224 (zOD X) k116 n l0 l2 l3 l4 l5 l6 l7 l8 l9 s0 M = some q → zW X 0 0 224 [some (zP l0), none, some (zI l2), some (zI l3), some (zI l4), some (zI l5), some (zI l6), some (zI l7), some (zI l8), some (zI l9), none, none, none, none, none, none, none, none, none] [zI s0] M := by
  intro n l0 l2 l3 l4 l5 l6 l7 l8 l9 s0 M h
  rw [f_Mo_sequences_224] at h
  refine r_istore (lv' := [some (zP l0), none, some (zI l2), some (zI l3), some (zI l4), some (zI l5), some (zI l6), some (zI l7), some (zI l8), some (zI l9), some (zI s0), none, none, none, none, none, none, none, none]) C (z_d dd_Mo_sequences 128 rfl) (Nat.le_of_ble_eq_true rfl) rfl ?_
  refine r_aload_n C (z_d dd_Mo_sequences 129 rfl) rfl ?_
  obtain ⟨h1, h⟩ := zif h
  refine r_getI C (z_d dd_Mo_sequences 130 rfl) lk_Mo_116 rfl h1 rfl ?_
  refine r_iload C (z_d dd_Mo_sequences 131 rfl) rfl ?_
  refine r_iload C (z_d dd_Mo_sequences 132 rfl) rfl ?_
  obtain ⟨q2, c3, h⟩ := zbd h
  refine r_invS (as := [zI l8]) C (S_Mo_matchBits c3) (z_d dd_Mo_sequences 133 rfl) ok_Mo_matchBits sv_Mo_matchBits ml_Mo_307 rfl rfl rfl (Nat.le_of_ble_eq_true rfl) ⟨(Nat.le_of_ble_eq_true rfl), (Nat.le_of_ble_eq_true rfl)⟩ ⟨(Nat.le_of_ble_eq_true rfl), (Nat.le_of_ble_eq_true rfl)⟩ ?_
  refine r_iadd C (z_d dd_Mo_sequences 134 rfl) ?_
  refine r_iload C (z_d dd_Mo_sequences 135 rfl) rfl ?_
  obtain ⟨q4, c5, h⟩ := zbd h
  refine r_invS (as := [zI l6]) C (S_Mo_literalBits c5) (z_d dd_Mo_sequences 136 rfl) ok_Mo_literalBits sv_Mo_literalBits ml_Mo_310 rfl rfl rfl (Nat.le_of_ble_eq_true rfl) ⟨(Nat.le_of_ble_eq_true rfl), (Nat.le_of_ble_eq_true rfl)⟩ ⟨(Nat.le_of_ble_eq_true rfl), (Nat.le_of_ble_eq_true rfl)⟩ ?_
  refine r_iadd C (z_d dd_Mo_sequences 137 rfl) ?_
  refine r_iload C (z_d dd_Mo_sequences 138 rfl) rfl ?_
  refine r_iadd C (z_d dd_Mo_sequences 139 rfl) ?_
  refine r_icmp_ge C 258 (z_d dd_Mo_sequences 140 rfl) (by decide) (fun c65 => ?_) (fun c65 => ?_)
  · have h := zift h c65
    refine r_lconst (v := (1 : Int64)) C (z_d dd_Mo_sequences 146 rfl) (by decide) ?_
    refine r_iload C (z_d dd_Mo_sequences 147 rfl) rfl ?_
    refine r_lshl C (z_d dd_Mo_sequences 148 rfl) ?_
    refine r_aload_n C (z_d dd_Mo_sequences 149 rfl) rfl ?_
    refine r_iload C (z_d dd_Mo_sequences 150 rfl) rfl ?_
    obtain ⟨h6, h⟩ := zif h
    obtain ⟨q7, c8, h⟩ := zbd h
    refine r_invV (as := [zI l7]) C 12 (S_Mo_take c8) (z_d dd_Mo_sequences 151 rfl) ok_Mo_take iv_Mo_take se_Mo_take ml_Mo_142 rfl rfl h6 rfl rfl rfl (Nat.le_of_ble_eq_true rfl) ⟨(Nat.le_of_ble_eq_true rfl), (Nat.le_of_ble_eq_true rfl)⟩ ⟨(Nat.le_of_ble_eq_true rfl), (Nat.le_of_ble_eq_true rfl)⟩ ?_
    refine r_ladd C (z_d dd_Mo_sequences 152 rfl) ?_
    obtain ⟨v9, e10, h⟩ := zlet_ex h
    refine r_nmL e10 ?_
    refine r_lstore (lv' := [some (zP l0), none, some (zI l2), some (zI l3), some (zI l4), some (zI l5), some (zI l6), some (zI l7), some (zI l8), some (zI l9), some (zI s0), some (zL v9), none, none, none, none, none, none, none]) C (z_d dd_Mo_sequences 153 rfl) (Nat.le_of_ble_eq_true rfl) rfl ?_
    refine r_iload C (z_d dd_Mo_sequences 154 rfl) rfl ?_
    obtain ⟨q11, c12, h⟩ := zbd h
    refine r_invS (as := [zI l8]) C (S_Mo_matchBase c12) (z_d dd_Mo_sequences 155 rfl) ok_Mo_matchBase sv_Mo_matchBase ml_Mo_313 rfl rfl rfl (Nat.le_of_ble_eq_true rfl) ⟨(Nat.le_of_ble_eq_true rfl), (Nat.le_of_ble_eq_true rfl)⟩ ⟨(Nat.le_of_ble_eq_true rfl), (Nat.le_of_ble_eq_true rfl)⟩ ?_
    refine r_aload_n C (z_d dd_Mo_sequences 156 rfl) rfl ?_
    refine r_iload C (z_d dd_Mo_sequences 157 rfl) rfl ?_
    obtain ⟨q13, c14, h⟩ := zbd h
    refine r_invS (as := [zI l8]) C (S_Mo_matchBits c14) (z_d dd_Mo_sequences 158 rfl) ok_Mo_matchBits sv_Mo_matchBits ml_Mo_307 rfl rfl rfl (Nat.le_of_ble_eq_true rfl) ⟨(Nat.le_of_ble_eq_true rfl), (Nat.le_of_ble_eq_true rfl)⟩ ⟨(Nat.le_of_ble_eq_true rfl), (Nat.le_of_ble_eq_true rfl)⟩ ?_
    obtain ⟨h15, h⟩ := zif h
    obtain ⟨q16, c17, h⟩ := zbd h
    refine r_invV (as := [zI q13.1]) C 12 (S_Mo_take c17) (z_d dd_Mo_sequences 159 rfl) ok_Mo_take iv_Mo_take se_Mo_take ml_Mo_142 rfl rfl h15 rfl rfl rfl (Nat.le_of_ble_eq_true rfl) ⟨(Nat.le_of_ble_eq_true rfl), (Nat.le_of_ble_eq_true rfl)⟩ ⟨(Nat.le_of_ble_eq_true rfl), (Nat.le_of_ble_eq_true rfl)⟩ ?_
    refine r_l2i C (z_d dd_Mo_sequences 160 rfl) ?_
    refine r_iadd C (z_d dd_Mo_sequences 161 rfl) ?_
    obtain ⟨v18, e19, h⟩ := zlet_ex h
    refine r_nmI e19 ?_
    refine r_istore (lv' := [some (zP l0), none, some (zI l2), some (zI l3), some (zI l4), some (zI l5), some (zI l6), some (zI l7), some (zI l8), some (zI l9), some (zI s0), some (zL v9), none, some (zI v18), none, none, none, none, none]) C (z_d dd_Mo_sequences 162 rfl) (Nat.le_of_ble_eq_true rfl) rfl ?_
    refine r_iload C (z_d dd_Mo_sequences 163 rfl) rfl ?_
    obtain ⟨q20, c21, h⟩ := zbd h
    refine r_invS (as := [zI l6]) C (S_Mo_literalBase c21) (z_d dd_Mo_sequences 164 rfl) ok_Mo_literalBase sv_Mo_literalBase ml_Mo_316 rfl rfl rfl (Nat.le_of_ble_eq_true rfl) ⟨(Nat.le_of_ble_eq_true rfl), (Nat.le_of_ble_eq_true rfl)⟩ ⟨(Nat.le_of_ble_eq_true rfl), (Nat.le_of_ble_eq_true rfl)⟩ ?_
    refine r_aload_n C (z_d dd_Mo_sequences 165 rfl) rfl ?_
    refine r_iload C (z_d dd_Mo_sequences 166 rfl) rfl ?_
    obtain ⟨q22, c23, h⟩ := zbd h
    refine r_invS (as := [zI l6]) C (S_Mo_literalBits c23) (z_d dd_Mo_sequences 167 rfl) ok_Mo_literalBits sv_Mo_literalBits ml_Mo_310 rfl rfl rfl (Nat.le_of_ble_eq_true rfl) ⟨(Nat.le_of_ble_eq_true rfl), (Nat.le_of_ble_eq_true rfl)⟩ ⟨(Nat.le_of_ble_eq_true rfl), (Nat.le_of_ble_eq_true rfl)⟩ ?_
    obtain ⟨h24, h⟩ := zif h
    obtain ⟨q25, c26, h⟩ := zbd h
    refine r_invV (as := [zI q22.1]) C 12 (S_Mo_take c26) (z_d dd_Mo_sequences 168 rfl) ok_Mo_take iv_Mo_take se_Mo_take ml_Mo_142 rfl rfl h24 rfl rfl rfl (Nat.le_of_ble_eq_true rfl) ⟨(Nat.le_of_ble_eq_true rfl), (Nat.le_of_ble_eq_true rfl)⟩ ⟨(Nat.le_of_ble_eq_true rfl), (Nat.le_of_ble_eq_true rfl)⟩ ?_
    refine r_l2i C (z_d dd_Mo_sequences 169 rfl) ?_
    refine r_iadd C (z_d dd_Mo_sequences 170 rfl) ?_
    obtain ⟨v27, e28, h⟩ := zlet_ex h
    refine r_nmI e28 ?_
    refine r_istore (lv' := [some (zP l0), none, some (zI l2), some (zI l3), some (zI l4), some (zI l5), some (zI l6), some (zI l7), some (zI l8), some (zI l9), some (zI s0), some (zL v9), none, some (zI v18), some (zI v27), none, none, none, none]) C (z_d dd_Mo_sequences 171 rfl) (Nat.le_of_ble_eq_true rfl) rfl ?_
    refine r_iload C (z_d dd_Mo_sequences 172 rfl) rfl ?_
    refine r_if_ne C 412 (z_d dd_Mo_sequences 173 rfl) (by decide) (fun c60 => ?_) (fun c60 => ?_)
    · have h := ziff h c60
      refine r_mk [true, false, true, true, true, true, false, false, false, false, false, true, false, true, true, false, false, false, false] ?_
      exact s_Mo_sequences_412 C hr E hk116 n l0 l2 l3 l4 l5 v9 v18 v27 q25.2 h
    · have h := zift h c60
      refine r_aload_n C (z_d dd_Mo_sequences 174 rfl) rfl ?_
      refine r_aload_n C (z_d dd_Mo_sequences 175 rfl) rfl ?_
      obtain ⟨h29, h⟩ := zif h
      refine r_getP C (z_d dd_Mo_sequences 176 rfl) lk_Mo_51 rfl h29 rfl ?_
      refine r_aload_n C (z_d dd_Mo_sequences 177 rfl) rfl ?_
      refine r_getI C (z_d dd_Mo_sequences 178 rfl) lk_Mo_298 rfl h29 rfl ?_
      obtain ⟨h30, h⟩ := zif h
      obtain ⟨h31, h⟩ := zif h
      refine r_iald C (z_d dd_Mo_sequences 179 rfl) h30 h31 rfl ?_
      refine r_aload_n C (z_d dd_Mo_sequences 180 rfl) rfl ?_
      refine r_aload_n C (z_d dd_Mo_sequences 181 rfl) rfl ?_
      refine r_getP C (z_d dd_Mo_sequences 182 rfl) lk_Mo_48 rfl h29 rfl ?_
      refine r_aload_n C (z_d dd_Mo_sequences 183 rfl) rfl ?_
      refine r_getI C (z_d dd_Mo_sequences 184 rfl) lk_Mo_298 rfl h29 rfl ?_
      obtain ⟨h32, h⟩ := zif h
      obtain ⟨h33, h⟩ := zif h
      refine r_iald C (z_d dd_Mo_sequences 185 rfl) h32 h33 rfl ?_
      obtain ⟨q34, c35, h⟩ := zbd h
      refine r_invV (as := [zI (z_i q25.2 (z_p q25.2 l0 18) (z_i q25.2 l0 44).toNatClampNeg)]) C 12 (S_Mo_take c35) (z_d dd_Mo_sequences 186 rfl) ok_Mo_take iv_Mo_take se_Mo_take ml_Mo_142 rfl rfl h29 rfl rfl rfl (Nat.le_of_ble_eq_true rfl) ⟨(Nat.le_of_ble_eq_true rfl), (Nat.le_of_ble_eq_true rfl)⟩ ⟨(Nat.le_of_ble_eq_true rfl), (Nat.le_of_ble_eq_true rfl)⟩ ?_
      refine r_l2i C (z_d dd_Mo_sequences 187 rfl) ?_
      refine r_iadd C (z_d dd_Mo_sequences 188 rfl) ?_
      obtain ⟨h36, h⟩ := zif h
      obtain ⟨M37, e38, h⟩ := zlet_ex h
      have h39 := k_i e38 h36
      refine r_putI C (z_d dd_Mo_sequences 189 rfl) lp_Mo_298 rfl h36 e38 ?_
      refine r_aload_n C (z_d dd_Mo_sequences 190 rfl) rfl ?_
      refine r_aload_n C (z_d dd_Mo_sequences 191 rfl) rfl ?_
      refine r_getP C (z_d dd_Mo_sequences 192 rfl) lk_Mo_51 rfl h39 rfl ?_
      refine r_sipush (v := (1024 : Int32)) C (z_d dd_Mo_sequences 193 rfl) (by decide) ?_
      refine r_aload_n C (z_d dd_Mo_sequences 194 rfl) rfl ?_
      refine r_getI C (z_d dd_Mo_sequences 195 rfl) lk_Mo_304 rfl h39 rfl ?_
      refine r_iadd C (z_d dd_Mo_sequences 196 rfl) ?_
      obtain ⟨h40, h⟩ := zif h
      obtain ⟨h41, h⟩ := zif h
      refine r_iald C (z_d dd_Mo_sequences 197 rfl) h40 h41 rfl ?_
      refine r_aload_n C (z_d dd_Mo_sequences 198 rfl) rfl ?_
      refine r_aload_n C (z_d dd_Mo_sequences 199 rfl) rfl ?_
      refine r_getP C (z_d dd_Mo_sequences 200 rfl) lk_Mo_48 rfl h39 rfl ?_
      refine r_sipush (v := (1024 : Int32)) C (z_d dd_Mo_sequences 201 rfl) (by decide) ?_
      refine r_aload_n C (z_d dd_Mo_sequences 202 rfl) rfl ?_
      refine r_getI C (z_d dd_Mo_sequences 203 rfl) lk_Mo_304 rfl h39 rfl ?_
      refine r_iadd C (z_d dd_Mo_sequences 204 rfl) ?_
      obtain ⟨h42, h⟩ := zif h
      obtain ⟨h43, h⟩ := zif h
      refine r_iald C (z_d dd_Mo_sequences 205 rfl) h42 h43 rfl ?_
      obtain ⟨q44, c45, h⟩ := zbd h
      refine r_invV (as := [zI (z_i M37 (z_p M37 l0 18) ((1024 : Int32) + (z_i M37 l0 46)).toNatClampNeg)]) C 12 (S_Mo_take c45) (z_d dd_Mo_sequences 206 rfl) ok_Mo_take iv_Mo_take se_Mo_take ml_Mo_142 rfl rfl h39 rfl rfl rfl (Nat.le_of_ble_eq_true rfl) ⟨(Nat.le_of_ble_eq_true rfl), (Nat.le_of_ble_eq_true rfl)⟩ ⟨(Nat.le_of_ble_eq_true rfl), (Nat.le_of_ble_eq_true rfl)⟩ ?_
      refine r_l2i C (z_d dd_Mo_sequences 207 rfl) ?_
      refine r_iadd C (z_d dd_Mo_sequences 208 rfl) ?_
      obtain ⟨h46, h⟩ := zif h
      obtain ⟨M47, e48, h⟩ := zlet_ex h
      have h49 := k_i e48 h46
      refine r_putI C (z_d dd_Mo_sequences 209 rfl) lp_Mo_304 rfl h46 e48 ?_
      refine r_aload_n C (z_d dd_Mo_sequences 210 rfl) rfl ?_
      refine r_aload_n C (z_d dd_Mo_sequences 211 rfl) rfl ?_
      refine r_getP C (z_d dd_Mo_sequences 212 rfl) lk_Mo_51 rfl h49 rfl ?_
      refine r_sipush (v := (512 : Int32)) C (z_d dd_Mo_sequences 213 rfl) (by decide) ?_
      refine r_aload_n C (z_d dd_Mo_sequences 214 rfl) rfl ?_
      refine r_getI C (z_d dd_Mo_sequences 215 rfl) lk_Mo_301 rfl h49 rfl ?_
      refine r_iadd C (z_d dd_Mo_sequences 216 rfl) ?_
      obtain ⟨h50, h⟩ := zif h
      obtain ⟨h51, h⟩ := zif h
      refine r_iald C (z_d dd_Mo_sequences 217 rfl) h50 h51 rfl ?_
      refine r_aload_n C (z_d dd_Mo_sequences 218 rfl) rfl ?_
      refine r_aload_n C (z_d dd_Mo_sequences 219 rfl) rfl ?_
      refine r_getP C (z_d dd_Mo_sequences 220 rfl) lk_Mo_48 rfl h49 rfl ?_
      refine r_sipush (v := (512 : Int32)) C (z_d dd_Mo_sequences 221 rfl) (by decide) ?_
      refine r_aload_n C (z_d dd_Mo_sequences 222 rfl) rfl ?_
      refine r_getI C (z_d dd_Mo_sequences 223 rfl) lk_Mo_301 rfl h49 rfl ?_
      refine r_iadd C (z_d dd_Mo_sequences 224 rfl) ?_
      obtain ⟨h52, h⟩ := zif h
      obtain ⟨h53, h⟩ := zif h
      refine r_iald C (z_d dd_Mo_sequences 225 rfl) h52 h53 rfl ?_
      obtain ⟨q54, c55, h⟩ := zbd h
      refine r_invV (as := [zI (z_i M47 (z_p M47 l0 18) ((512 : Int32) + (z_i M47 l0 45)).toNatClampNeg)]) C 12 (S_Mo_take c55) (z_d dd_Mo_sequences 226 rfl) ok_Mo_take iv_Mo_take se_Mo_take ml_Mo_142 rfl rfl h49 rfl rfl rfl (Nat.le_of_ble_eq_true rfl) ⟨(Nat.le_of_ble_eq_true rfl), (Nat.le_of_ble_eq_true rfl)⟩ ⟨(Nat.le_of_ble_eq_true rfl), (Nat.le_of_ble_eq_true rfl)⟩ ?_
      refine r_l2i C (z_d dd_Mo_sequences 227 rfl) ?_
      refine r_iadd C (z_d dd_Mo_sequences 228 rfl) ?_
      obtain ⟨h56, h⟩ := zif h
      obtain ⟨M57, e58, h⟩ := zlet_ex h
      have h59 := k_i e58 h56
      refine r_putI C (z_d dd_Mo_sequences 229 rfl) lp_Mo_301 rfl h56 e58 ?_
      refine r_mk [true, false, true, true, true, true, false, false, false, false, false, true, false, true, true, false, false, false, false] ?_
      exact s_Mo_sequences_412 C hr E hk116 n l0 l2 l3 l4 l5 v9 v18 v27 M57 h
  · have h := ziff h c65
    refine r_aload_n C (z_d dd_Mo_sequences 141 rfl) rfl ?_
    refine r_bipush (v := (17 : Int32)) C (z_d dd_Mo_sequences 142 rfl) (by decide) ?_
    refine r_iload_n C (z_d dd_Mo_sequences 143 rfl) rfl ?_
    obtain ⟨h61, h⟩ := zif h
    obtain ⟨q62, c63, h⟩ := zbd h
    refine r_invV (as := [zI (17 : Int32), zI l3]) C 12 (S_Mo_wrong c63) (z_d dd_Mo_sequences 144 rfl) ok_Mo_wrong iv_Mo_wrong se_Mo_wrong ml_Mo_207 rfl rfl h61 rfl rfl rfl (Nat.le_of_ble_eq_true rfl) ⟨(Nat.le_of_ble_eq_true rfl), (Nat.le_of_ble_eq_true rfl)⟩ ⟨(Nat.le_of_ble_eq_true rfl), (Nat.le_of_ble_eq_true rfl)⟩ ?_
    obtain ⟨h64, h⟩ := zif h
    obtain rfl := z_res h
    exact r_iretZ C E hr (z_d dd_Mo_sequences 145 rfl) h64 (Nat.le_of_ble_eq_true rfl) (Nat.le_of_ble_eq_true rfl)
def f_Mo_sequences_176 (O : zO) (k116 : Nat → Int32 → Int32 → Int32 → Int32 → zM → Option (Int32 × zM)) (n : Nat) (l0 : Nat) (l2 : Int32) (l3 : Int32) (l4 : Int32) (l5 : Int32) (l6 : Int32) (l7 : Int32) (l8 : Int32) (s0 : Int32) (M : zM) : Option (Int32 × zM) :=
  if s0 = 0 then
  if z_k M l0 = 13 then
  if z_k M (z_p M l0 18) = 100 then
  if zin (z_i M l0 44) (z_n M (z_p M l0 18)) = true then
  if zin ((512 : Int32) + (z_i M l0 45)) (z_n M (z_p M l0 18)) = true then
  if zin ((1024 : Int32) + (z_i M l0 46)) (z_n M (z_p M l0 18)) = true then
  f_Mo_sequences_224 O k116 n l0 l2 l3 l4 l5 l6 l7 l8 s0 (((z_i M (z_p M l0 18) (z_i M l0 44).toNatClampNeg) + (z_i M (z_p M l0 18) ((512 : Int32) + (z_i M l0 45)).toNatClampNeg)) + (z_i M (z_p M l0 18) ((1024 : Int32) + (z_i M l0 46)).toNatClampNeg)) M
  else none
  else none
  else none
  else none
  else none
  else
  f_Mo_sequences_224 O k116 n l0 l2 l3 l4 l5 l6 l7 l8 s0 (0 : Int32) M
set_option maxRecDepth 100000 in
set_option maxHeartbeats 4000000 in
theorem s_Mo_sequences_176 {X : zX} {q : Int32 × zM} (C : zC X zR12 prog_14_method_46_code 19 { frames := 5, cells := 0, slots := 0, locals := 128 }) (hr : zRt X (some .boolean)) (E : zE X (some (zI q.1)) q.2 0 0) {k116 : Nat → Int32 → Int32 → Int32 → Int32 → zM → Option (Int32 × zM)} (hk116 : ∀ (l0 : Nat) (l2 : Int32) (l3 : Int32) (l4 : Int32) (l5 : Int32) (M : zM), k116 l0 l2 l3 l4 l5 M = some q → zW X 0 0 116 [some (zP l0), none, some (zI l2), some (zI l3), some (zI l4), some (zI l5), none, none, none, none, none, none, none, none, none, none, none, none, none] [] M) : ∀ (n : Nat) (l0 : Nat) (l2 : Int32) (l3 : Int32) (l4 : Int32) (l5 : Int32) (l6 : Int32) (l7 : Int32) (l8 : Int32) (s0 : Int32) (M : zM), f_Mo_sequences_176 (zOD X) k116 n l0 l2 l3 l4 l5 l6 l7 l8 s0 M = some q → zW X 0 0 176 [some (zP l0), none, some (zI l2), some (zI l3), some (zI l4), some (zI l5), some (zI l6), some (zI l7), some (zI l8), none, none, none, none, none, none, none, none, none, none] [zI s0] M := by
  intro n l0 l2 l3 l4 l5 l6 l7 l8 s0 M h
  rw [f_Mo_sequences_176] at h
  refine r_istore (lv' := [some (zP l0), none, some (zI l2), some (zI l3), some (zI l4), some (zI l5), some (zI l6), some (zI l7), some (zI l8), some (zI s0), none, none, none, none, none, none, none, none, none]) C (z_d dd_Mo_sequences 102 rfl) (Nat.le_of_ble_eq_true rfl) rfl ?_
  refine r_iload C (z_d dd_Mo_sequences 103 rfl) rfl ?_
  refine r_if_eq C 187 (z_d dd_Mo_sequences 104 rfl) (by decide) (fun c6 => ?_) (fun c6 => ?_)
  · have h := zift h c6
    refine r_aload_n C (z_d dd_Mo_sequences 107 rfl) rfl ?_
    obtain ⟨h1, h⟩ := zif h
    refine r_getP C (z_d dd_Mo_sequences 108 rfl) lk_Mo_48 rfl h1 rfl ?_
    refine r_aload_n C (z_d dd_Mo_sequences 109 rfl) rfl ?_
    refine r_getI C (z_d dd_Mo_sequences 110 rfl) lk_Mo_298 rfl h1 rfl ?_
    obtain ⟨h2, h⟩ := zif h
    obtain ⟨h3, h⟩ := zif h
    refine r_iald C (z_d dd_Mo_sequences 111 rfl) h2 h3 rfl ?_
    refine r_aload_n C (z_d dd_Mo_sequences 112 rfl) rfl ?_
    refine r_getP C (z_d dd_Mo_sequences 113 rfl) lk_Mo_48 rfl h1 rfl ?_
    refine r_sipush (v := (512 : Int32)) C (z_d dd_Mo_sequences 114 rfl) (by decide) ?_
    refine r_aload_n C (z_d dd_Mo_sequences 115 rfl) rfl ?_
    refine r_getI C (z_d dd_Mo_sequences 116 rfl) lk_Mo_301 rfl h1 rfl ?_
    refine r_iadd C (z_d dd_Mo_sequences 117 rfl) ?_
    obtain ⟨h4, h⟩ := zif h
    refine r_iald C (z_d dd_Mo_sequences 118 rfl) h2 h4 rfl ?_
    refine r_iadd C (z_d dd_Mo_sequences 119 rfl) ?_
    refine r_aload_n C (z_d dd_Mo_sequences 120 rfl) rfl ?_
    refine r_getP C (z_d dd_Mo_sequences 121 rfl) lk_Mo_48 rfl h1 rfl ?_
    refine r_sipush (v := (1024 : Int32)) C (z_d dd_Mo_sequences 122 rfl) (by decide) ?_
    refine r_aload_n C (z_d dd_Mo_sequences 123 rfl) rfl ?_
    refine r_getI C (z_d dd_Mo_sequences 124 rfl) lk_Mo_304 rfl h1 rfl ?_
    refine r_iadd C (z_d dd_Mo_sequences 125 rfl) ?_
    obtain ⟨h5, h⟩ := zif h
    refine r_iald C (z_d dd_Mo_sequences 126 rfl) h2 h5 rfl ?_
    refine r_iadd C (z_d dd_Mo_sequences 127 rfl) ?_
    exact s_Mo_sequences_224 C hr E hk116 n l0 l2 l3 l4 l5 l6 l7 l8 s0 (((z_i M (z_p M l0 18) (z_i M l0 44).toNatClampNeg) + (z_i M (z_p M l0 18) ((512 : Int32) + (z_i M l0 45)).toNatClampNeg)) + (z_i M (z_p M l0 18) ((1024 : Int32) + (z_i M l0 46)).toNatClampNeg)) M h
  · have h := ziff h c6
    refine r_iconst (v := (0 : Int32)) C (z_d dd_Mo_sequences 105 rfl) (by decide) ?_
    refine r_goto C 224 (z_d dd_Mo_sequences 106 rfl) (by decide) ?_
    exact s_Mo_sequences_224 C hr E hk116 n l0 l2 l3 l4 l5 l6 l7 l8 s0 (0 : Int32) M h
def f_Mo_sequences_116 (O : zO) : Nat → Nat → Int32 → Int32 → Int32 → Int32 → zM → Option (Int32 × zM)
  | 0, _, _, _, _, _, _ => none
  | n + 1, l0, l2, l3, l4, l5, M =>
    if l2 ≤ l5 then
    if z_k M l0 = 13 then
    if (z_i M l0 48) ≤ 0 then
    if ((((z_i M l0 30) - l4) + (z_i M l0 42)) - (z_i M l0 43)) ≤ (z_i M l0 32) then
    if ((z_i M l0 42) - (z_i M l0 43)) ≤ ((z_i M l0 29) - (z_i M l0 30)) then
    (F_Mo_rest O n l0 M).bind fun q2 =>
    some ((1 : Int32), q2.2)
    else
    (F_Mo_wrong O n l0 (7 : Int32) l3 M).bind fun q4 =>
    if q4.1 = 0 ∨ q4.1 = 1 then
    some (q4.1, q4.2)
    else none
    else
    (F_Mo_wrong O n l0 (20 : Int32) l3 M).bind fun q8 =>
    if q8.1 = 0 ∨ q8.1 = 1 then
    some (q8.1, q8.2)
    else none
    else
    (F_Mo_wrong O n l0 (17 : Int32) l3 M).bind fun q12 =>
    if q12.1 = 0 ∨ q12.1 = 1 then
    some (q12.1, q12.2)
    else none
    else none
    else
    if z_k M l0 = 13 then
    if z_k M (z_p M l0 17) = 100 then
    if zin (z_i M l0 44) (z_n M (z_p M l0 17)) = true then
    zlet (z_i M (z_p M l0 17) (z_i M l0 44).toNatClampNeg) fun v19 =>
    if zin ((512 : Int32) + (z_i M l0 45)) (z_n M (z_p M l0 17)) = true then
    zlet (z_i M (z_p M l0 17) ((512 : Int32) + (z_i M l0 45)).toNatClampNeg) fun v22 =>
    if zin ((1024 : Int32) + (z_i M l0 46)) (z_n M (z_p M l0 17)) = true then
    zlet (z_i M (z_p M l0 17) ((1024 : Int32) + (z_i M l0 46)).toNatClampNeg) fun v25 =>
    if l5 = (l2 - (1 : Int32)) then
    f_Mo_sequences_176 O (f_Mo_sequences_116 O n) n l0 l2 l3 l4 l5 v19 v22 v25 (1 : Int32) M
    else
    f_Mo_sequences_176 O (f_Mo_sequences_116 O n) n l0 l2 l3 l4 l5 v19 v22 v25 (0 : Int32) M
    else none
    else none
    else none
    else none
    else none
set_option maxRecDepth 100000 in
set_option maxHeartbeats 4000000 in
theorem s_Mo_sequences_116 {X : zX} {q : Int32 × zM} (C : zC X zR12 prog_14_method_46_code 19 { frames := 5, cells := 0, slots := 0, locals := 128 }) (hr : zRt X (some .boolean)) (E : zE X (some (zI q.1)) q.2 0 0) : ∀ (n : Nat) (l0 : Nat) (l2 : Int32) (l3 : Int32) (l4 : Int32) (l5 : Int32) (M : zM), f_Mo_sequences_116 (zOD X) n l0 l2 l3 l4 l5 M = some q → zW X 0 0 116 [some (zP l0), none, some (zI l2), some (zI l3), some (zI l4), some (zI l5), none, none, none, none, none, none, none, none, none, none, none, none, none] [] M := by
  intro n
  induction n with
  | zero => intro l0 l2 l3 l4 l5 M h; rw [f_Mo_sequences_116] at h; cases h
  | succ n ih =>
    intro l0 l2 l3 l4 l5 M h
    rw [f_Mo_sequences_116] at h
    refine r_iload C (z_d dd_Mo_sequences 69 rfl) rfl ?_
    refine r_iload_n C (z_d dd_Mo_sequences 70 rfl) rfl ?_
    refine r_icmp_ge C 558 (z_d dd_Mo_sequences 71 rfl) (by decide) (fun c28 => ?_) (fun c28 => ?_)
    · have h := zift h c28
      refine r_aload_n C (z_d dd_Mo_sequences 310 rfl) rfl ?_
      obtain ⟨h1, h⟩ := zif h
      refine r_getI C (z_d dd_Mo_sequences 311 rfl) lk_Mo_116 rfl h1 rfl ?_
      refine r_if_le C 573 (z_d dd_Mo_sequences 312 rfl) (by decide) (fun c15 => ?_) (fun c15 => ?_)
      · have h := zift h c15
        refine r_aload_n C (z_d dd_Mo_sequences 318 rfl) rfl ?_
        refine r_getI C (z_d dd_Mo_sequences 319 rfl) lk_Mo_213 rfl h1 rfl ?_
        refine r_iload C (z_d dd_Mo_sequences 320 rfl) rfl ?_
        refine r_isub C (z_d dd_Mo_sequences 321 rfl) ?_
        refine r_aload_n C (z_d dd_Mo_sequences 322 rfl) rfl ?_
        refine r_getI C (z_d dd_Mo_sequences 323 rfl) lk_Mo_146 rfl h1 rfl ?_
        refine r_iadd C (z_d dd_Mo_sequences 324 rfl) ?_
        refine r_aload_n C (z_d dd_Mo_sequences 325 rfl) rfl ?_
        refine r_getI C (z_d dd_Mo_sequences 326 rfl) lk_Mo_276 rfl h1 rfl ?_
        refine r_isub C (z_d dd_Mo_sequences 327 rfl) ?_
        refine r_aload_n C (z_d dd_Mo_sequences 328 rfl) rfl ?_
        refine r_getI C (z_d dd_Mo_sequences 329 rfl) lk_Mo_252 rfl h1 rfl ?_
        refine r_icmp_le C 605 (z_d dd_Mo_sequences 330 rfl) (by decide) (fun c11 => ?_) (fun c11 => ?_)
        · have h := zift h c11
          refine r_aload_n C (z_d dd_Mo_sequences 336 rfl) rfl ?_
          refine r_getI C (z_d dd_Mo_sequences 337 rfl) lk_Mo_146 rfl h1 rfl ?_
          refine r_aload_n C (z_d dd_Mo_sequences 338 rfl) rfl ?_
          refine r_getI C (z_d dd_Mo_sequences 339 rfl) lk_Mo_276 rfl h1 rfl ?_
          refine r_isub C (z_d dd_Mo_sequences 340 rfl) ?_
          refine r_aload_n C (z_d dd_Mo_sequences 341 rfl) rfl ?_
          refine r_getI C (z_d dd_Mo_sequences 342 rfl) lk_Mo_210 rfl h1 rfl ?_
          refine r_aload_n C (z_d dd_Mo_sequences 343 rfl) rfl ?_
          refine r_getI C (z_d dd_Mo_sequences 344 rfl) lk_Mo_213 rfl h1 rfl ?_
          refine r_isub C (z_d dd_Mo_sequences 345 rfl) ?_
          refine r_icmp_le C 634 (z_d dd_Mo_sequences 346 rfl) (by decide) (fun c7 => ?_) (fun c7 => ?_)
          · have h := zift h c7
            refine r_aload_n C (z_d dd_Mo_sequences 352 rfl) rfl ?_
            obtain ⟨q2, c3, h⟩ := zbd h
            refine r_invV (as := []) C 12 (S_Mo_rest c3) (z_d dd_Mo_sequences 353 rfl) ok_Mo_rest iv_Mo_rest se_Mo_rest ml_Mo_282 rfl rfl h1 rfl rfl rfl (Nat.le_of_ble_eq_true rfl) ⟨(Nat.le_of_ble_eq_true rfl), (Nat.le_of_ble_eq_true rfl)⟩ ⟨(Nat.le_of_ble_eq_true rfl), (Nat.le_of_ble_eq_true rfl)⟩ ?_
            refine r_iconst (v := (1 : Int32)) C (z_d dd_Mo_sequences 354 rfl) (by decide) ?_
            obtain rfl := z_res h
            exact r_iretZ C E hr (z_d dd_Mo_sequences 355 rfl) (by decide) (Nat.le_of_ble_eq_true rfl) (Nat.le_of_ble_eq_true rfl)
          · have h := ziff h c7
            refine r_aload_n C (z_d dd_Mo_sequences 347 rfl) rfl ?_
            refine r_bipush (v := (7 : Int32)) C (z_d dd_Mo_sequences 348 rfl) (by decide) ?_
            refine r_iload_n C (z_d dd_Mo_sequences 349 rfl) rfl ?_
            obtain ⟨q4, c5, h⟩ := zbd h
            refine r_invV (as := [zI (7 : Int32), zI l3]) C 12 (S_Mo_wrong c5) (z_d dd_Mo_sequences 350 rfl) ok_Mo_wrong iv_Mo_wrong se_Mo_wrong ml_Mo_207 rfl rfl h1 rfl rfl rfl (Nat.le_of_ble_eq_true rfl) ⟨(Nat.le_of_ble_eq_true rfl), (Nat.le_of_ble_eq_true rfl)⟩ ⟨(Nat.le_of_ble_eq_true rfl), (Nat.le_of_ble_eq_true rfl)⟩ ?_
            obtain ⟨h6, h⟩ := zif h
            obtain rfl := z_res h
            exact r_iretZ C E hr (z_d dd_Mo_sequences 351 rfl) h6 (Nat.le_of_ble_eq_true rfl) (Nat.le_of_ble_eq_true rfl)
        · have h := ziff h c11
          refine r_aload_n C (z_d dd_Mo_sequences 331 rfl) rfl ?_
          refine r_bipush (v := (20 : Int32)) C (z_d dd_Mo_sequences 332 rfl) (by decide) ?_
          refine r_iload_n C (z_d dd_Mo_sequences 333 rfl) rfl ?_
          obtain ⟨q8, c9, h⟩ := zbd h
          refine r_invV (as := [zI (20 : Int32), zI l3]) C 12 (S_Mo_wrong c9) (z_d dd_Mo_sequences 334 rfl) ok_Mo_wrong iv_Mo_wrong se_Mo_wrong ml_Mo_207 rfl rfl h1 rfl rfl rfl (Nat.le_of_ble_eq_true rfl) ⟨(Nat.le_of_ble_eq_true rfl), (Nat.le_of_ble_eq_true rfl)⟩ ⟨(Nat.le_of_ble_eq_true rfl), (Nat.le_of_ble_eq_true rfl)⟩ ?_
          obtain ⟨h10, h⟩ := zif h
          obtain rfl := z_res h
          exact r_iretZ C E hr (z_d dd_Mo_sequences 335 rfl) h10 (Nat.le_of_ble_eq_true rfl) (Nat.le_of_ble_eq_true rfl)
      · have h := ziff h c15
        refine r_aload_n C (z_d dd_Mo_sequences 313 rfl) rfl ?_
        refine r_bipush (v := (17 : Int32)) C (z_d dd_Mo_sequences 314 rfl) (by decide) ?_
        refine r_iload_n C (z_d dd_Mo_sequences 315 rfl) rfl ?_
        obtain ⟨q12, c13, h⟩ := zbd h
        refine r_invV (as := [zI (17 : Int32), zI l3]) C 12 (S_Mo_wrong c13) (z_d dd_Mo_sequences 316 rfl) ok_Mo_wrong iv_Mo_wrong se_Mo_wrong ml_Mo_207 rfl rfl h1 rfl rfl rfl (Nat.le_of_ble_eq_true rfl) ⟨(Nat.le_of_ble_eq_true rfl), (Nat.le_of_ble_eq_true rfl)⟩ ⟨(Nat.le_of_ble_eq_true rfl), (Nat.le_of_ble_eq_true rfl)⟩ ?_
        obtain ⟨h14, h⟩ := zif h
        obtain rfl := z_res h
        exact r_iretZ C E hr (z_d dd_Mo_sequences 317 rfl) h14 (Nat.le_of_ble_eq_true rfl) (Nat.le_of_ble_eq_true rfl)
    · have h := ziff h c28
      refine r_aload_n C (z_d dd_Mo_sequences 72 rfl) rfl ?_
      obtain ⟨h16, h⟩ := zif h
      refine r_getP C (z_d dd_Mo_sequences 73 rfl) lk_Mo_45 rfl h16 rfl ?_
      refine r_aload_n C (z_d dd_Mo_sequences 74 rfl) rfl ?_
      refine r_getI C (z_d dd_Mo_sequences 75 rfl) lk_Mo_298 rfl h16 rfl ?_
      obtain ⟨h17, h⟩ := zif h
      obtain ⟨h18, h⟩ := zif h
      refine r_iald C (z_d dd_Mo_sequences 76 rfl) h17 h18 rfl ?_
      obtain ⟨v19, e20, h⟩ := zlet_ex h
      refine r_nmI e20 ?_
      refine r_istore (lv' := [some (zP l0), none, some (zI l2), some (zI l3), some (zI l4), some (zI l5), some (zI v19), none, none, none, none, none, none, none, none, none, none, none, none]) C (z_d dd_Mo_sequences 77 rfl) (Nat.le_of_ble_eq_true rfl) rfl ?_
      refine r_aload_n C (z_d dd_Mo_sequences 78 rfl) rfl ?_
      refine r_getP C (z_d dd_Mo_sequences 79 rfl) lk_Mo_45 rfl h16 rfl ?_
      refine r_sipush (v := (512 : Int32)) C (z_d dd_Mo_sequences 80 rfl) (by decide) ?_
      refine r_aload_n C (z_d dd_Mo_sequences 81 rfl) rfl ?_
      refine r_getI C (z_d dd_Mo_sequences 82 rfl) lk_Mo_301 rfl h16 rfl ?_
      refine r_iadd C (z_d dd_Mo_sequences 83 rfl) ?_
      obtain ⟨h21, h⟩ := zif h
      refine r_iald C (z_d dd_Mo_sequences 84 rfl) h17 h21 rfl ?_
      obtain ⟨v22, e23, h⟩ := zlet_ex h
      refine r_nmI e23 ?_
      refine r_istore (lv' := [some (zP l0), none, some (zI l2), some (zI l3), some (zI l4), some (zI l5), some (zI v19), some (zI v22), none, none, none, none, none, none, none, none, none, none, none]) C (z_d dd_Mo_sequences 85 rfl) (Nat.le_of_ble_eq_true rfl) rfl ?_
      refine r_aload_n C (z_d dd_Mo_sequences 86 rfl) rfl ?_
      refine r_getP C (z_d dd_Mo_sequences 87 rfl) lk_Mo_45 rfl h16 rfl ?_
      refine r_sipush (v := (1024 : Int32)) C (z_d dd_Mo_sequences 88 rfl) (by decide) ?_
      refine r_aload_n C (z_d dd_Mo_sequences 89 rfl) rfl ?_
      refine r_getI C (z_d dd_Mo_sequences 90 rfl) lk_Mo_304 rfl h16 rfl ?_
      refine r_iadd C (z_d dd_Mo_sequences 91 rfl) ?_
      obtain ⟨h24, h⟩ := zif h
      refine r_iald C (z_d dd_Mo_sequences 92 rfl) h17 h24 rfl ?_
      obtain ⟨v25, e26, h⟩ := zlet_ex h
      refine r_nmI e26 ?_
      refine r_istore (lv' := [some (zP l0), none, some (zI l2), some (zI l3), some (zI l4), some (zI l5), some (zI v19), some (zI v22), some (zI v25), none, none, none, none, none, none, none, none, none, none]) C (z_d dd_Mo_sequences 93 rfl) (Nat.le_of_ble_eq_true rfl) rfl ?_
      refine r_iload C (z_d dd_Mo_sequences 94 rfl) rfl ?_
      refine r_iload_n C (z_d dd_Mo_sequences 95 rfl) rfl ?_
      refine r_iconst (v := (1 : Int32)) C (z_d dd_Mo_sequences 96 rfl) (by decide) ?_
      refine r_isub C (z_d dd_Mo_sequences 97 rfl) ?_
      refine r_icmp_ne C 175 (z_d dd_Mo_sequences 98 rfl) (by decide) (fun c27 => ?_) (fun c27 => ?_)
      · have h := ziff h c27
        refine r_iconst (v := (0 : Int32)) C (z_d dd_Mo_sequences 101 rfl) (by decide) ?_
        exact s_Mo_sequences_176 C hr E ih n l0 l2 l3 l4 l5 v19 v22 v25 (0 : Int32) M h
      · have h := zift h c27
        refine r_iconst (v := (1 : Int32)) C (z_d dd_Mo_sequences 99 rfl) (by decide) ?_
        refine r_goto C 176 (z_d dd_Mo_sequences 100 rfl) (by decide) ?_
        exact s_Mo_sequences_176 C hr E ih n l0 l2 l3 l4 l5 v19 v22 v25 (1 : Int32) M h
def f_Mo_sequences_0 (O : zO) (n : Nat) (l0 : Nat) (l1 : Int32) (l2 : Int32) (M : zM) : Option (Int32 × zM) :=
  if z_k M l0 = 13 then
  (F_Mo_tables O n l0 l1 M).bind fun q2 =>
  if q2.1 = 0 then
  some ((0 : Int32), q2.2)
  else
  if z_k q2.2 l0 = 13 then
  zlet (z_i q2.2 l0 28) fun v5 =>
  (F_Mo_open O n l0 (z_i q2.2 l0 28) l1 q2.2).bind fun q7 =>
  if q7.1 = 0 then
  f_Mo_sequences_54 O n l0 v5 q7.2
  else
  if z_k q7.2 l0 = 13 then
  if z_k q7.2 (z_p q7.2 l0 16) = 100 then
  if zin (0 : Int32) (z_n q7.2 (z_p q7.2 l0 16)) = true then
  if zin (1 : Int32) (z_n q7.2 (z_p q7.2 l0 16)) = true then
  if zin (2 : Int32) (z_n q7.2 (z_p q7.2 l0 16)) = true then
  if (((z_i q7.2 (z_p q7.2 l0 16) (0 : Int32).toNatClampNeg) + (z_i q7.2 (z_p q7.2 l0 16) (1 : Int32).toNatClampNeg)) + (z_i q7.2 (z_p q7.2 l0 16) (2 : Int32).toNatClampNeg)) ≤ (z_i q7.2 l0 48) then
  if zin (0 : Int32) (z_n q7.2 (z_p q7.2 l0 16)) = true then
  (F_Mo_take O n l0 (z_i q7.2 (z_p q7.2 l0 16) (0 : Int32).toNatClampNeg) q7.2).bind fun q15 =>
  if z_k q15.2 l0 = 13 then
  zlet (w_i q15.2 l0 44 q15.1.toInt32) fun M18 =>
  if z_k M18 (z_p M18 l0 16) = 100 then
  if zin (1 : Int32) (z_n M18 (z_p M18 l0 16)) = true then
  (F_Mo_take O n l0 (z_i M18 (z_p M18 l0 16) (1 : Int32).toNatClampNeg) M18).bind fun q23 =>
  if z_k q23.2 l0 = 13 then
  zlet (w_i q23.2 l0 45 q23.1.toInt32) fun M26 =>
  if z_k M26 (z_p M26 l0 16) = 100 then
  if zin (2 : Int32) (z_n M26 (z_p M26 l0 16)) = true then
  (F_Mo_take O n l0 (z_i M26 (z_p M26 l0 16) (2 : Int32).toNatClampNeg) M26).bind fun q31 =>
  if z_k q31.2 l0 = 13 then
  zlet (w_i q31.2 l0 46 q31.1.toInt32) fun M34 =>
  zlet (z_i M34 l0 30) fun v37 =>
  f_Mo_sequences_116 O n l0 l2 v5 v37 (0 : Int32) M34
  else none
  else none
  else none
  else none
  else none
  else none
  else none
  else none
  else
  f_Mo_sequences_54 O n l0 v5 q7.2
  else none
  else none
  else none
  else none
  else none
  else none
  else none
set_option maxRecDepth 100000 in
set_option maxHeartbeats 4000000 in
theorem s_Mo_sequences_0 {X : zX} {q : Int32 × zM} (C : zC X zR12 prog_14_method_46_code 19 { frames := 5, cells := 0, slots := 0, locals := 128 }) (hr : zRt X (some .boolean)) (E : zE X (some (zI q.1)) q.2 0 0) : ∀ (n : Nat) (l0 : Nat) (l1 : Int32) (l2 : Int32) (M : zM), f_Mo_sequences_0 (zOD X) n l0 l1 l2 M = some q → zW X 0 0 0 [some (zP l0), some (zI l1), some (zI l2), none, none, none, none, none, none, none, none, none, none, none, none, none, none, none, none] [] M := by
  intro n l0 l1 l2 M h
  rw [f_Mo_sequences_0] at h
  refine r_aload_n C (z_d dd_Mo_sequences 0 rfl) rfl ?_
  refine r_iload_n C (z_d dd_Mo_sequences 1 rfl) rfl ?_
  obtain ⟨h1, h⟩ := zif h
  obtain ⟨q2, c3, h⟩ := zbd h
  refine r_invV (as := [zI l1]) C 12 (S_Mo_tables c3) (z_d dd_Mo_sequences 2 rfl) ok_Mo_tables iv_Mo_tables se_Mo_tables ml_Mo_295 rfl rfl h1 rfl rfl rfl (Nat.le_of_ble_eq_true rfl) ⟨(Nat.le_of_ble_eq_true rfl), (Nat.le_of_ble_eq_true rfl)⟩ ⟨(Nat.le_of_ble_eq_true rfl), (Nat.le_of_ble_eq_true rfl)⟩ ?_
  refine r_if_ne C 10 (z_d dd_Mo_sequences 3 rfl) (by decide) (fun c41 => ?_) (fun c41 => ?_)
  · have h := ziff h c41
    refine r_aload_n C (z_d dd_Mo_sequences 6 rfl) rfl ?_
    obtain ⟨h4, h⟩ := zif h
    refine r_getI C (z_d dd_Mo_sequences 7 rfl) lk_Mo_204 rfl h4 rfl ?_
    obtain ⟨v5, e6, h⟩ := zlet_ex h
    refine r_nmI e6 ?_
    refine r_istore_n (lv' := [some (zP l0), some (zI l1), some (zI l2), some (zI v5), none, none, none, none, none, none, none, none, none, none, none, none, none, none, none]) C (z_d dd_Mo_sequences 8 rfl) (Nat.le_of_ble_eq_true rfl) rfl ?_
    refine r_aload_n C (z_d dd_Mo_sequences 9 rfl) rfl ?_
    refine r_aload_n C (z_d dd_Mo_sequences 10 rfl) rfl ?_
    refine r_getI C (z_d dd_Mo_sequences 11 rfl) lk_Mo_204 rfl h4 rfl ?_
    refine r_iload_n C (z_d dd_Mo_sequences 12 rfl) rfl ?_
    obtain ⟨q7, c8, h⟩ := zbd h
    refine r_invV (as := [zI (z_i q2.2 l0 28), zI l1]) C 12 (S_Mo_open c8) (z_d dd_Mo_sequences 13 rfl) ok_Mo_open iv_Mo_open se_Mo_open ml_Mo_138 rfl rfl h4 rfl rfl rfl (Nat.le_of_ble_eq_true rfl) ⟨(Nat.le_of_ble_eq_true rfl), (Nat.le_of_ble_eq_true rfl)⟩ ⟨(Nat.le_of_ble_eq_true rfl), (Nat.le_of_ble_eq_true rfl)⟩ ?_
    refine r_if_eq C 54 (z_d dd_Mo_sequences 14 rfl) (by decide) (fun c40 => ?_) (fun c40 => ?_)
    · have h := zift h c40
      refine r_mk [true, false, false, true, false, false, false, false, false, false, false, false, false, false, false, false, false, false, false] ?_
      exact s_Mo_sequences_54 C hr E n l0 v5 q7.2 h
    · have h := ziff h c40
      refine r_aload_n C (z_d dd_Mo_sequences 15 rfl) rfl ?_
      obtain ⟨h9, h⟩ := zif h
      refine r_getI C (z_d dd_Mo_sequences 16 rfl) lk_Mo_116 rfl h9 rfl ?_
      refine r_aload_n C (z_d dd_Mo_sequences 17 rfl) rfl ?_
      refine r_getP C (z_d dd_Mo_sequences 18 rfl) lk_Mo_42 rfl h9 rfl ?_
      refine r_iconst (v := (0 : Int32)) C (z_d dd_Mo_sequences 19 rfl) (by decide) ?_
      obtain ⟨h10, h⟩ := zif h
      obtain ⟨h11, h⟩ := zif h
      refine r_iald C (z_d dd_Mo_sequences 20 rfl) h10 h11 rfl ?_
      refine r_aload_n C (z_d dd_Mo_sequences 21 rfl) rfl ?_
      refine r_getP C (z_d dd_Mo_sequences 22 rfl) lk_Mo_42 rfl h9 rfl ?_
      refine r_iconst (v := (1 : Int32)) C (z_d dd_Mo_sequences 23 rfl) (by decide) ?_
      obtain ⟨h12, h⟩ := zif h
      refine r_iald C (z_d dd_Mo_sequences 24 rfl) h10 h12 rfl ?_
      refine r_iadd C (z_d dd_Mo_sequences 25 rfl) ?_
      refine r_aload_n C (z_d dd_Mo_sequences 26 rfl) rfl ?_
      refine r_getP C (z_d dd_Mo_sequences 27 rfl) lk_Mo_42 rfl h9 rfl ?_
      refine r_iconst (v := (2 : Int32)) C (z_d dd_Mo_sequences 28 rfl) (by decide) ?_
      obtain ⟨h13, h⟩ := zif h
      refine r_iald C (z_d dd_Mo_sequences 29 rfl) h10 h13 rfl ?_
      refine r_iadd C (z_d dd_Mo_sequences 30 rfl) ?_
      refine r_icmp_ge C 62 (z_d dd_Mo_sequences 31 rfl) (by decide) (fun c39 => ?_) (fun c39 => ?_)
      · have h := zift h c39
        refine r_aload_n C (z_d dd_Mo_sequences 37 rfl) rfl ?_
        refine r_aload_n C (z_d dd_Mo_sequences 38 rfl) rfl ?_
        refine r_aload_n C (z_d dd_Mo_sequences 39 rfl) rfl ?_
        refine r_getP C (z_d dd_Mo_sequences 40 rfl) lk_Mo_42 rfl h9 rfl ?_
        refine r_iconst (v := (0 : Int32)) C (z_d dd_Mo_sequences 41 rfl) (by decide) ?_
        obtain ⟨h14, h⟩ := zif h
        refine r_iald C (z_d dd_Mo_sequences 42 rfl) h10 h14 rfl ?_
        obtain ⟨q15, c16, h⟩ := zbd h
        refine r_invV (as := [zI (z_i q7.2 (z_p q7.2 l0 16) (0 : Int32).toNatClampNeg)]) C 12 (S_Mo_take c16) (z_d dd_Mo_sequences 43 rfl) ok_Mo_take iv_Mo_take se_Mo_take ml_Mo_142 rfl rfl h9 rfl rfl rfl (Nat.le_of_ble_eq_true rfl) ⟨(Nat.le_of_ble_eq_true rfl), (Nat.le_of_ble_eq_true rfl)⟩ ⟨(Nat.le_of_ble_eq_true rfl), (Nat.le_of_ble_eq_true rfl)⟩ ?_
        refine r_l2i C (z_d dd_Mo_sequences 44 rfl) ?_
        obtain ⟨h17, h⟩ := zif h
        obtain ⟨M18, e19, h⟩ := zlet_ex h
        have h20 := k_i e19 h17
        refine r_putI C (z_d dd_Mo_sequences 45 rfl) lp_Mo_298 rfl h17 e19 ?_
        refine r_aload_n C (z_d dd_Mo_sequences 46 rfl) rfl ?_
        refine r_aload_n C (z_d dd_Mo_sequences 47 rfl) rfl ?_
        refine r_aload_n C (z_d dd_Mo_sequences 48 rfl) rfl ?_
        refine r_getP C (z_d dd_Mo_sequences 49 rfl) lk_Mo_42 rfl h20 rfl ?_
        refine r_iconst (v := (1 : Int32)) C (z_d dd_Mo_sequences 50 rfl) (by decide) ?_
        obtain ⟨h21, h⟩ := zif h
        obtain ⟨h22, h⟩ := zif h
        refine r_iald C (z_d dd_Mo_sequences 51 rfl) h21 h22 rfl ?_
        obtain ⟨q23, c24, h⟩ := zbd h
        refine r_invV (as := [zI (z_i M18 (z_p M18 l0 16) (1 : Int32).toNatClampNeg)]) C 12 (S_Mo_take c24) (z_d dd_Mo_sequences 52 rfl) ok_Mo_take iv_Mo_take se_Mo_take ml_Mo_142 rfl rfl h20 rfl rfl rfl (Nat.le_of_ble_eq_true rfl) ⟨(Nat.le_of_ble_eq_true rfl), (Nat.le_of_ble_eq_true rfl)⟩ ⟨(Nat.le_of_ble_eq_true rfl), (Nat.le_of_ble_eq_true rfl)⟩ ?_
        refine r_l2i C (z_d dd_Mo_sequences 53 rfl) ?_
        obtain ⟨h25, h⟩ := zif h
        obtain ⟨M26, e27, h⟩ := zlet_ex h
        have h28 := k_i e27 h25
        refine r_putI C (z_d dd_Mo_sequences 54 rfl) lp_Mo_301 rfl h25 e27 ?_
        refine r_aload_n C (z_d dd_Mo_sequences 55 rfl) rfl ?_
        refine r_aload_n C (z_d dd_Mo_sequences 56 rfl) rfl ?_
        refine r_aload_n C (z_d dd_Mo_sequences 57 rfl) rfl ?_
        refine r_getP C (z_d dd_Mo_sequences 58 rfl) lk_Mo_42 rfl h28 rfl ?_
        refine r_iconst (v := (2 : Int32)) C (z_d dd_Mo_sequences 59 rfl) (by decide) ?_
        obtain ⟨h29, h⟩ := zif h
        obtain ⟨h30, h⟩ := zif h
        refine r_iald C (z_d dd_Mo_sequences 60 rfl) h29 h30 rfl ?_
        obtain ⟨q31, c32, h⟩ := zbd h
        refine r_invV (as := [zI (z_i M26 (z_p M26 l0 16) (2 : Int32).toNatClampNeg)]) C 12 (S_Mo_take c32) (z_d dd_Mo_sequences 61 rfl) ok_Mo_take iv_Mo_take se_Mo_take ml_Mo_142 rfl rfl h28 rfl rfl rfl (Nat.le_of_ble_eq_true rfl) ⟨(Nat.le_of_ble_eq_true rfl), (Nat.le_of_ble_eq_true rfl)⟩ ⟨(Nat.le_of_ble_eq_true rfl), (Nat.le_of_ble_eq_true rfl)⟩ ?_
        refine r_l2i C (z_d dd_Mo_sequences 62 rfl) ?_
        obtain ⟨h33, h⟩ := zif h
        obtain ⟨M34, e35, h⟩ := zlet_ex h
        have h36 := k_i e35 h33
        refine r_putI C (z_d dd_Mo_sequences 63 rfl) lp_Mo_304 rfl h33 e35 ?_
        refine r_aload_n C (z_d dd_Mo_sequences 64 rfl) rfl ?_
        refine r_getI C (z_d dd_Mo_sequences 65 rfl) lk_Mo_213 rfl h36 rfl ?_
        obtain ⟨v37, e38, h⟩ := zlet_ex h
        refine r_nmI e38 ?_
        refine r_istore (lv' := [some (zP l0), some (zI l1), some (zI l2), some (zI v5), some (zI v37), none, none, none, none, none, none, none, none, none, none, none, none, none, none]) C (z_d dd_Mo_sequences 66 rfl) (Nat.le_of_ble_eq_true rfl) rfl ?_
        refine r_iconst (v := (0 : Int32)) C (z_d dd_Mo_sequences 67 rfl) (by decide) ?_
        refine r_istore (lv' := [some (zP l0), some (zI l1), some (zI l2), some (zI v5), some (zI v37), some (zI (0 : Int32)), none, none, none, none, none, none, none, none, none, none, none, none, none]) C (z_d dd_Mo_sequences 68 rfl) (Nat.le_of_ble_eq_true rfl) rfl ?_
        refine r_mk [true, false, true, true, true, true, false, false, false, false, false, false, false, false, false, false, false, false, false] ?_
        exact s_Mo_sequences_116 C hr E n l0 l2 v5 v37 (0 : Int32) M34 h
      · have h := ziff h c39
        refine r_mk [true, false, false, true, false, false, false, false, false, false, false, false, false, false, false, false, false, false, false] ?_
        exact s_Mo_sequences_54 C hr E n l0 v5 q7.2 h
  · have h := zift h c41
    refine r_iconst (v := (0 : Int32)) C (z_d dd_Mo_sequences 4 rfl) (by decide) ?_
    obtain rfl := z_res h
    exact r_iretZ C E hr (z_d dd_Mo_sequences 5 rfl) (by decide) (Nat.le_of_ble_eq_true rfl) (Nat.le_of_ble_eq_true rfl)
def F_Mo_sequences (O : zO) (n : Nat) (l0 : Nat) (l1 : Int32) (l2 : Int32) (M : zM) : Option (Int32 × zM) := f_Mo_sequences_0 O n l0 l1 l2 M
theorem S_Mo_sequences {l : Launch} {D : zD} {n : Nat} {l0 : Nat} {l1 : Int32} {l2 : Int32} {M : zM} {q : Int32 × zM} (h : F_Mo_sequences D.2.2.2.2 n l0 l1 l2 M = some q) : zMet l D mi_Mo_sequences [zP l0, zI l1, zI l2] M (some (zI q.1)) q.2 :=
  z_met (by decide) (Nat.le_of_ble_eq_true rfl) (fun X C E hr hin hD hl => by
    subst hD
    exact s_Mo_sequences_0 C hr E n l0 l1 l2 M h)

def f_Mo_packed_160 (O : zO) (n : Nat) (l0 : Nat) (l1 : Int32) (l2 : Int32) (l4 : Int32) (M : zM) : Option (Int32 × zM) :=
  if z_k M l0 = 13 then
  zlet (w_i M l0 43 (0 : Int32)) fun M2 =>
  if l4 ≤ 0 then
  if l1 ≤ (z_i M2 l0 28) then
  if (z_i M2 l0 42) ≤ ((z_i M2 l0 29) - (z_i M2 l0 30)) then
  (F_Mo_rest O n l0 M2).bind fun q5 =>
  some ((1 : Int32), q5.2)
  else
  (F_Mo_wrong O n l0 (7 : Int32) l2 M2).bind fun q7 =>
  if q7.1 = 0 ∨ q7.1 = 1 then
  some (q7.1, q7.2)
  else none
  else
  (F_Mo_wrong O n l0 (15 : Int32) (z_i M2 l0 28) M2).bind fun q11 =>
  if q11.1 = 0 ∨ q11.1 = 1 then
  some (q11.1, q11.2)
  else none
  else
  (F_Mo_sequences O n l0 l1 l4 M2).bind fun q15 =>
  if q15.1 = 0 ∨ q15.1 = 1 then
  some (q15.1, q15.2)
  else none
  else none
set_option maxRecDepth 100000 in
set_option maxHeartbeats 4000000 in
theorem s_Mo_packed_160 {X : zX} {q : Int32 × zM} (C : zC X zR12 prog_14_method_37_code 5 { frames := 6, cells := 0, slots := 0, locals := 166 }) (hr : zRt X (some .boolean)) (E : zE X (some (zI q.1)) q.2 0 0) : ∀ (n : Nat) (l0 : Nat) (l1 : Int32) (l2 : Int32) (l4 : Int32) (M : zM), f_Mo_packed_160 (zOD X) n l0 l1 l2 l4 M = some q → zW X 0 0 160 [some (zP l0), some (zI l1), some (zI l2), none, some (zI l4)] [] M := by
  intro n l0 l1 l2 l4 M h
  rw [f_Mo_packed_160] at h
  refine r_aload_n C (z_d dd_Mo_packed 89 rfl) rfl ?_
  refine r_iconst (v := (0 : Int32)) C (z_d dd_Mo_packed 90 rfl) (by decide) ?_
  obtain ⟨h1, h⟩ := zif h
  obtain ⟨M2, e3, h⟩ := zlet_ex h
  have h4 := k_i e3 h1
  refine r_putI C (z_d dd_Mo_packed 91 rfl) lp_Mo_276 rfl h1 e3 ?_
  refine r_iload C (z_d dd_Mo_packed 92 rfl) rfl ?_
  refine r_if_le C 178 (z_d dd_Mo_packed 93 rfl) (by decide) (fun c18 => ?_) (fun c18 => ?_)
  · have h := zift h c18
    refine r_aload_n C (z_d dd_Mo_packed 99 rfl) rfl ?_
    refine r_getI C (z_d dd_Mo_packed 100 rfl) lk_Mo_204 rfl h4 rfl ?_
    refine r_iload_n C (z_d dd_Mo_packed 101 rfl) rfl ?_
    refine r_icmp_ge C 197 (z_d dd_Mo_packed 102 rfl) (by decide) (fun c14 => ?_) (fun c14 => ?_)
    · have h := zift h c14
      refine r_aload_n C (z_d dd_Mo_packed 109 rfl) rfl ?_
      refine r_getI C (z_d dd_Mo_packed 110 rfl) lk_Mo_146 rfl h4 rfl ?_
      refine r_aload_n C (z_d dd_Mo_packed 111 rfl) rfl ?_
      refine r_getI C (z_d dd_Mo_packed 112 rfl) lk_Mo_210 rfl h4 rfl ?_
      refine r_aload_n C (z_d dd_Mo_packed 113 rfl) rfl ?_
      refine r_getI C (z_d dd_Mo_packed 114 rfl) lk_Mo_213 rfl h4 rfl ?_
      refine r_isub C (z_d dd_Mo_packed 115 rfl) ?_
      refine r_icmp_le C 221 (z_d dd_Mo_packed 116 rfl) (by decide) (fun c10 => ?_) (fun c10 => ?_)
      · have h := zift h c10
        refine r_aload_n C (z_d dd_Mo_packed 122 rfl) rfl ?_
        obtain ⟨q5, c6, h⟩ := zbd h
        refine r_invV (as := []) C 12 (S_Mo_rest c6) (z_d dd_Mo_packed 123 rfl) ok_Mo_rest iv_Mo_rest se_Mo_rest ml_Mo_282 rfl rfl h4 rfl rfl rfl (Nat.le_of_ble_eq_true rfl) ⟨(Nat.le_of_ble_eq_true rfl), (Nat.le_of_ble_eq_true rfl)⟩ ⟨(Nat.le_of_ble_eq_true rfl), (Nat.le_of_ble_eq_true rfl)⟩ ?_
        refine r_iconst (v := (1 : Int32)) C (z_d dd_Mo_packed 124 rfl) (by decide) ?_
        obtain rfl := z_res h
        exact r_iretZ C E hr (z_d dd_Mo_packed 125 rfl) (by decide) (Nat.le_of_ble_eq_true rfl) (Nat.le_of_ble_eq_true rfl)
      · have h := ziff h c10
        refine r_aload_n C (z_d dd_Mo_packed 117 rfl) rfl ?_
        refine r_bipush (v := (7 : Int32)) C (z_d dd_Mo_packed 118 rfl) (by decide) ?_
        refine r_iload_n C (z_d dd_Mo_packed 119 rfl) rfl ?_
        obtain ⟨q7, c8, h⟩ := zbd h
        refine r_invV (as := [zI (7 : Int32), zI l2]) C 12 (S_Mo_wrong c8) (z_d dd_Mo_packed 120 rfl) ok_Mo_wrong iv_Mo_wrong se_Mo_wrong ml_Mo_207 rfl rfl h4 rfl rfl rfl (Nat.le_of_ble_eq_true rfl) ⟨(Nat.le_of_ble_eq_true rfl), (Nat.le_of_ble_eq_true rfl)⟩ ⟨(Nat.le_of_ble_eq_true rfl), (Nat.le_of_ble_eq_true rfl)⟩ ?_
        obtain ⟨h9, h⟩ := zif h
        obtain rfl := z_res h
        exact r_iretZ C E hr (z_d dd_Mo_packed 121 rfl) h9 (Nat.le_of_ble_eq_true rfl) (Nat.le_of_ble_eq_true rfl)
    · have h := ziff h c14
      refine r_aload_n C (z_d dd_Mo_packed 103 rfl) rfl ?_
      refine r_bipush (v := (15 : Int32)) C (z_d dd_Mo_packed 104 rfl) (by decide) ?_
      refine r_aload_n C (z_d dd_Mo_packed 105 rfl) rfl ?_
      refine r_getI C (z_d dd_Mo_packed 106 rfl) lk_Mo_204 rfl h4 rfl ?_
      obtain ⟨q11, c12, h⟩ := zbd h
      refine r_invV (as := [zI (15 : Int32), zI (z_i M2 l0 28)]) C 12 (S_Mo_wrong c12) (z_d dd_Mo_packed 107 rfl) ok_Mo_wrong iv_Mo_wrong se_Mo_wrong ml_Mo_207 rfl rfl h4 rfl rfl rfl (Nat.le_of_ble_eq_true rfl) ⟨(Nat.le_of_ble_eq_true rfl), (Nat.le_of_ble_eq_true rfl)⟩ ⟨(Nat.le_of_ble_eq_true rfl), (Nat.le_of_ble_eq_true rfl)⟩ ?_
      obtain ⟨h13, h⟩ := zif h
      obtain rfl := z_res h
      exact r_iretZ C E hr (z_d dd_Mo_packed 108 rfl) h13 (Nat.le_of_ble_eq_true rfl) (Nat.le_of_ble_eq_true rfl)
  · have h := ziff h c18
    refine r_aload_n C (z_d dd_Mo_packed 94 rfl) rfl ?_
    refine r_iload_n C (z_d dd_Mo_packed 95 rfl) rfl ?_
    refine r_iload C (z_d dd_Mo_packed 96 rfl) rfl ?_
    obtain ⟨q15, c16, h⟩ := zbd h
    refine r_invV (as := [zI l1, zI l4]) C 12 (S_Mo_sequences c16) (z_d dd_Mo_packed 97 rfl) ok_Mo_sequences iv_Mo_sequences se_Mo_sequences ml_Mo_279 rfl rfl h4 rfl rfl rfl (Nat.le_of_ble_eq_true rfl) ⟨(Nat.le_of_ble_eq_true rfl), (Nat.le_of_ble_eq_true rfl)⟩ ⟨(Nat.le_of_ble_eq_true rfl), (Nat.le_of_ble_eq_true rfl)⟩ ?_
    obtain ⟨h17, h⟩ := zif h
    obtain rfl := z_res h
    exact r_iretZ C E hr (z_d dd_Mo_packed 98 rfl) h17 (Nat.le_of_ble_eq_true rfl) (Nat.le_of_ble_eq_true rfl)
def f_Mo_packed_156 (O : zO) (n : Nat) (l0 : Nat) (l1 : Int32) (l2 : Int32) (l4 : Int32) (s0 : Nat) (s1 : Int32) (s2 : Int32) (M : zM) : Option (Int32 × zM) :=
  if z_k M s0 = 13 then
  zlet (w_i M s0 28 (s1 + s2)) fun M2 =>
  f_Mo_packed_160 O n l0 l1 l2 l4 M2
  else none
set_option maxRecDepth 100000 in
set_option maxHeartbeats 4000000 in
theorem s_Mo_packed_156 {X : zX} {q : Int32 × zM} (C : zC X zR12 prog_14_method_37_code 5 { frames := 6, cells := 0, slots := 0, locals := 166 }) (hr : zRt X (some .boolean)) (E : zE X (some (zI q.1)) q.2 0 0) : ∀ (n : Nat) (l0 : Nat) (l1 : Int32) (l2 : Int32) (l4 : Int32) (s0 : Nat) (s1 : Int32) (s2 : Int32) (M : zM), f_Mo_packed_156 (zOD X) n l0 l1 l2 l4 s0 s1 s2 M = some q → zW X 0 0 156 [some (zP l0), some (zI l1), some (zI l2), none, some (zI l4)] [zI s2, zI s1, zP s0] M := by
  intro n l0 l1 l2 l4 s0 s1 s2 M h
  rw [f_Mo_packed_156] at h
  refine r_iadd C (z_d dd_Mo_packed 87 rfl) ?_
  obtain ⟨h1, h⟩ := zif h
  obtain ⟨M2, e3, h⟩ := zlet_ex h
  have h4 := k_i e3 h1
  refine r_putI C (z_d dd_Mo_packed 88 rfl) lp_Mo_204 rfl h1 e3 ?_
  exact s_Mo_packed_160 C hr E n l0 l1 l2 l4 M2 h
def f_Mo_packed_137 (O : zO) (n : Nat) (l0 : Nat) (l1 : Int32) (l2 : Int32) (l3 : Int32) (s0 : Int32) (M : zM) : Option (Int32 × zM) :=
  if z_k M l0 = 13 then
  if l3 = (255 : Int32) then
  f_Mo_packed_156 O n l0 l1 l2 s0 l0 (z_i M l0 28) (2 : Int32) M
  else
  f_Mo_packed_156 O n l0 l1 l2 s0 l0 (z_i M l0 28) (1 : Int32) M
  else none
set_option maxRecDepth 100000 in
set_option maxHeartbeats 4000000 in
theorem s_Mo_packed_137 {X : zX} {q : Int32 × zM} (C : zC X zR12 prog_14_method_37_code 5 { frames := 6, cells := 0, slots := 0, locals := 166 }) (hr : zRt X (some .boolean)) (E : zE X (some (zI q.1)) q.2 0 0) : ∀ (n : Nat) (l0 : Nat) (l1 : Int32) (l2 : Int32) (l3 : Int32) (s0 : Int32) (M : zM), f_Mo_packed_137 (zOD X) n l0 l1 l2 l3 s0 M = some q → zW X 0 0 137 [some (zP l0), some (zI l1), some (zI l2), some (zI l3), none] [zI s0] M := by
  intro n l0 l1 l2 l3 s0 M h
  rw [f_Mo_packed_137] at h
  refine r_istore (lv' := [some (zP l0), some (zI l1), some (zI l2), some (zI l3), some (zI s0)]) C (z_d dd_Mo_packed 77 rfl) (Nat.le_of_ble_eq_true rfl) rfl ?_
  refine r_aload_n C (z_d dd_Mo_packed 78 rfl) rfl ?_
  refine r_dupP C (z_d dd_Mo_packed 79 rfl) ?_
  obtain ⟨h1, h⟩ := zif h
  refine r_getI C (z_d dd_Mo_packed 80 rfl) lk_Mo_204 rfl h1 rfl ?_
  refine r_iload_n C (z_d dd_Mo_packed 81 rfl) rfl ?_
  refine r_sipush (v := (255 : Int32)) C (z_d dd_Mo_packed 82 rfl) (by decide) ?_
  refine r_icmp_ne C 155 (z_d dd_Mo_packed 83 rfl) (by decide) (fun c2 => ?_) (fun c2 => ?_)
  · have h := ziff h c2
    refine r_iconst (v := (1 : Int32)) C (z_d dd_Mo_packed 86 rfl) (by decide) ?_
    refine r_mk [true, true, true, false, true] ?_
    exact s_Mo_packed_156 C hr E n l0 l1 l2 s0 l0 (z_i M l0 28) (1 : Int32) M h
  · have h := zift h c2
    refine r_iconst (v := (2 : Int32)) C (z_d dd_Mo_packed 84 rfl) (by decide) ?_
    refine r_goto C 156 (z_d dd_Mo_packed 85 rfl) (by decide) ?_
    refine r_mk [true, true, true, false, true] ?_
    exact s_Mo_packed_156 C hr E n l0 l1 l2 s0 l0 (z_i M l0 28) (2 : Int32) M h
def f_Mo_packed_83 (O : zO) (n : Nat) (l0 : Nat) (l1 : Int32) (l2 : Int32) (l3 : Int32) (s0 : Int32) (s1 : Int32) (M : zM) : Option (Int32 × zM) :=
  if s1 ≤ s0 then
  if l3 = (255 : Int32) then
  if z_k M l0 = 13 then
  (F_Mo_number O n l0 (z_i M l0 28) (2 : Int32) M).bind fun q5 =>
  f_Mo_packed_137 O n l0 l1 l2 l3 (q5.1.toInt32 + (32512 : Int32)) q5.2
  else none
  else
  if z_k M l0 = 13 then
  if z_k M (z_p M l0 0) = 100 then
  if zin (z_i M l0 28) (z_n M (z_p M l0 0)) = true then
  f_Mo_packed_137 O n l0 l1 l2 l3 (((256 : Int32) * (l3 - (128 : Int32))) + (z_i M (z_p M l0 0) (z_i M l0 28).toNatClampNeg)) M
  else none
  else none
  else none
  else
  if z_k M l0 = 13 then
  (F_Mo_wrong O n l0 (10 : Int32) l1 M).bind fun q9 =>
  if q9.1 = 0 ∨ q9.1 = 1 then
  some (q9.1, q9.2)
  else none
  else none
set_option maxRecDepth 100000 in
set_option maxHeartbeats 4000000 in
theorem s_Mo_packed_83 {X : zX} {q : Int32 × zM} (C : zC X zR12 prog_14_method_37_code 5 { frames := 6, cells := 0, slots := 0, locals := 166 }) (hr : zRt X (some .boolean)) (E : zE X (some (zI q.1)) q.2 0 0) : ∀ (n : Nat) (l0 : Nat) (l1 : Int32) (l2 : Int32) (l3 : Int32) (s0 : Int32) (s1 : Int32) (M : zM), f_Mo_packed_83 (zOD X) n l0 l1 l2 l3 s0 s1 M = some q → zW X 0 0 83 [some (zP l0), some (zI l1), some (zI l2), some (zI l3), none] [zI s1, zI s0] M := by
  intro n l0 l1 l2 l3 s0 s1 M h
  rw [f_Mo_packed_83] at h
  refine r_icmp_ge C 94 (z_d dd_Mo_packed 48 rfl) (by decide) (fun c12 => ?_) (fun c12 => ?_)
  · have h := zift h c12
    refine r_iload_n C (z_d dd_Mo_packed 54 rfl) rfl ?_
    refine r_sipush (v := (255 : Int32)) C (z_d dd_Mo_packed 55 rfl) (by decide) ?_
    refine r_icmp_ne C 118 (z_d dd_Mo_packed 56 rfl) (by decide) (fun c7 => ?_) (fun c7 => ?_)
    · have h := ziff h c7
      refine r_sipush (v := (256 : Int32)) C (z_d dd_Mo_packed 66 rfl) (by decide) ?_
      refine r_iload_n C (z_d dd_Mo_packed 67 rfl) rfl ?_
      refine r_sipush (v := (128 : Int32)) C (z_d dd_Mo_packed 68 rfl) (by decide) ?_
      refine r_isub C (z_d dd_Mo_packed 69 rfl) ?_
      refine r_imul C (z_d dd_Mo_packed 70 rfl) ?_
      refine r_aload_n C (z_d dd_Mo_packed 71 rfl) rfl ?_
      obtain ⟨h1, h⟩ := zif h
      refine r_getP C (z_d dd_Mo_packed 72 rfl) lk_Mo_7 rfl h1 rfl ?_
      refine r_aload_n C (z_d dd_Mo_packed 73 rfl) rfl ?_
      refine r_getI C (z_d dd_Mo_packed 74 rfl) lk_Mo_204 rfl h1 rfl ?_
      obtain ⟨h2, h⟩ := zif h
      obtain ⟨h3, h⟩ := zif h
      refine r_iald C (z_d dd_Mo_packed 75 rfl) h2 h3 rfl ?_
      refine r_iadd C (z_d dd_Mo_packed 76 rfl) ?_
      exact s_Mo_packed_137 C hr E n l0 l1 l2 l3 (((256 : Int32) * (l3 - (128 : Int32))) + (z_i M (z_p M l0 0) (z_i M l0 28).toNatClampNeg)) M h
    · have h := zift h c7
      refine r_aload_n C (z_d dd_Mo_packed 57 rfl) rfl ?_
      refine r_aload_n C (z_d dd_Mo_packed 58 rfl) rfl ?_
      obtain ⟨h4, h⟩ := zif h
      refine r_getI C (z_d dd_Mo_packed 59 rfl) lk_Mo_204 rfl h4 rfl ?_
      refine r_iconst (v := (2 : Int32)) C (z_d dd_Mo_packed 60 rfl) (by decide) ?_
      obtain ⟨q5, c6, h⟩ := zbd h
      refine r_invV (as := [zI (z_i M l0 28), zI (2 : Int32)]) C 12 (S_Mo_number c6) (z_d dd_Mo_packed 61 rfl) ok_Mo_number iv_Mo_number se_Mo_number ml_Mo_172 rfl rfl h4 rfl rfl rfl (Nat.le_of_ble_eq_true rfl) ⟨(Nat.le_of_ble_eq_true rfl), (Nat.le_of_ble_eq_true rfl)⟩ ⟨(Nat.le_of_ble_eq_true rfl), (Nat.le_of_ble_eq_true rfl)⟩ ?_
      refine r_l2i C (z_d dd_Mo_packed 62 rfl) ?_
      refine r_sipush (v := (32512 : Int32)) C (z_d dd_Mo_packed 63 rfl) (by decide) ?_
      refine r_iadd C (z_d dd_Mo_packed 64 rfl) ?_
      refine r_goto C 137 (z_d dd_Mo_packed 65 rfl) (by decide) ?_
      exact s_Mo_packed_137 C hr E n l0 l1 l2 l3 (q5.1.toInt32 + (32512 : Int32)) q5.2 h
  · have h := ziff h c12
    refine r_aload_n C (z_d dd_Mo_packed 49 rfl) rfl ?_
    refine r_bipush (v := (10 : Int32)) C (z_d dd_Mo_packed 50 rfl) (by decide) ?_
    refine r_iload_n C (z_d dd_Mo_packed 51 rfl) rfl ?_
    obtain ⟨h8, h⟩ := zif h
    obtain ⟨q9, c10, h⟩ := zbd h
    refine r_invV (as := [zI (10 : Int32), zI l1]) C 12 (S_Mo_wrong c10) (z_d dd_Mo_packed 52 rfl) ok_Mo_wrong iv_Mo_wrong se_Mo_wrong ml_Mo_207 rfl rfl h8 rfl rfl rfl (Nat.le_of_ble_eq_true rfl) ⟨(Nat.le_of_ble_eq_true rfl), (Nat.le_of_ble_eq_true rfl)⟩ ⟨(Nat.le_of_ble_eq_true rfl), (Nat.le_of_ble_eq_true rfl)⟩ ?_
    obtain ⟨h11, h⟩ := zif h
    obtain rfl := z_res h
    exact r_iretZ C E hr (z_d dd_Mo_packed 53 rfl) h11 (Nat.le_of_ble_eq_true rfl) (Nat.le_of_ble_eq_true rfl)
def f_Mo_packed_0 (O : zO) (n : Nat) (l0 : Nat) (l1 : Int32) (M : zM) : Option (Int32 × zM) :=
  if z_k M l0 = 13 then
  zlet (z_i M l0 28) fun v2 =>
  zlet (w_i M l0 42 (0 : Int32)) fun M4 =>
  (F_Mo_readLiterals O n l0 l1 M4).bind fun q7 =>
  if q7.1 = 0 then
  some ((0 : Int32), q7.2)
  else
  if z_k q7.2 l0 = 13 then
  if (z_i q7.2 l0 28) < l1 then
  if z_k q7.2 (z_p q7.2 l0 0) = 100 then
  if zin (z_i q7.2 l0 28) (z_n q7.2 (z_p q7.2 l0 0)) = true then
  zlet (z_i q7.2 (z_p q7.2 l0 0) (z_i q7.2 l0 28).toNatClampNeg) fun v12 =>
  zlet (w_i q7.2 l0 28 ((z_i q7.2 l0 28) + (1 : Int32))) fun M14 =>
  if v12 ≤ (127 : Int32) then
  f_Mo_packed_160 O n l0 l1 v2 v12 M14
  else
  if v12 = (255 : Int32) then
  f_Mo_packed_83 O n l0 l1 v2 v12 (l1 - (z_i M14 l0 28)) (2 : Int32) M14
  else
  f_Mo_packed_83 O n l0 l1 v2 v12 (l1 - (z_i M14 l0 28)) (1 : Int32) M14
  else none
  else none
  else
  (F_Mo_wrong O n l0 (10 : Int32) l1 q7.2).bind fun q20 =>
  if q20.1 = 0 ∨ q20.1 = 1 then
  some (q20.1, q20.2)
  else none
  else none
  else none
set_option maxRecDepth 100000 in
set_option maxHeartbeats 4000000 in
theorem s_Mo_packed_0 {X : zX} {q : Int32 × zM} (C : zC X zR12 prog_14_method_37_code 5 { frames := 6, cells := 0, slots := 0, locals := 166 }) (hr : zRt X (some .boolean)) (E : zE X (some (zI q.1)) q.2 0 0) : ∀ (n : Nat) (l0 : Nat) (l1 : Int32) (M : zM), f_Mo_packed_0 (zOD X) n l0 l1 M = some q → zW X 0 0 0 [some (zP l0), some (zI l1), none, none, none] [] M := by
  intro n l0 l1 M h
  rw [f_Mo_packed_0] at h
  refine r_aload_n C (z_d dd_Mo_packed 0 rfl) rfl ?_
  obtain ⟨h1, h⟩ := zif h
  refine r_getI C (z_d dd_Mo_packed 1 rfl) lk_Mo_204 rfl h1 rfl ?_
  obtain ⟨v2, e3, h⟩ := zlet_ex h
  refine r_nmI e3 ?_
  refine r_istore_n (lv' := [some (zP l0), some (zI l1), some (zI v2), none, none]) C (z_d dd_Mo_packed 2 rfl) (Nat.le_of_ble_eq_true rfl) rfl ?_
  refine r_aload_n C (z_d dd_Mo_packed 3 rfl) rfl ?_
  refine r_iconst (v := (0 : Int32)) C (z_d dd_Mo_packed 4 rfl) (by decide) ?_
  obtain ⟨M4, e5, h⟩ := zlet_ex h
  have h6 := k_i e5 h1
  refine r_putI C (z_d dd_Mo_packed 5 rfl) lp_Mo_146 rfl h1 e5 ?_
  refine r_aload_n C (z_d dd_Mo_packed 6 rfl) rfl ?_
  refine r_iload_n C (z_d dd_Mo_packed 7 rfl) rfl ?_
  obtain ⟨q7, c8, h⟩ := zbd h
  refine r_invV (as := [zI l1]) C 12 (S_Mo_readLiterals c8) (z_d dd_Mo_packed 8 rfl) ok_Mo_readLiterals iv_Mo_readLiterals se_Mo_readLiterals ml_Mo_273 rfl rfl h6 rfl rfl rfl (Nat.le_of_ble_eq_true rfl) ⟨(Nat.le_of_ble_eq_true rfl), (Nat.le_of_ble_eq_true rfl)⟩ ⟨(Nat.le_of_ble_eq_true rfl), (Nat.le_of_ble_eq_true rfl)⟩ ?_
  refine r_if_ne C 20 (z_d dd_Mo_packed 9 rfl) (by decide) (fun c24 => ?_) (fun c24 => ?_)
  · have h := ziff h c24
    refine r_aload_n C (z_d dd_Mo_packed 12 rfl) rfl ?_
    obtain ⟨h9, h⟩ := zif h
    refine r_getI C (z_d dd_Mo_packed 13 rfl) lk_Mo_204 rfl h9 rfl ?_
    refine r_iload_n C (z_d dd_Mo_packed 14 rfl) rfl ?_
    refine r_icmp_lt C 36 (z_d dd_Mo_packed 15 rfl) (by decide) (fun c23 => ?_) (fun c23 => ?_)
    · have h := zift h c23
      refine r_aload_n C (z_d dd_Mo_packed 21 rfl) rfl ?_
      refine r_getP C (z_d dd_Mo_packed 22 rfl) lk_Mo_7 rfl h9 rfl ?_
      refine r_aload_n C (z_d dd_Mo_packed 23 rfl) rfl ?_
      refine r_getI C (z_d dd_Mo_packed 24 rfl) lk_Mo_204 rfl h9 rfl ?_
      obtain ⟨h10, h⟩ := zif h
      obtain ⟨h11, h⟩ := zif h
      refine r_iald C (z_d dd_Mo_packed 25 rfl) h10 h11 rfl ?_
      obtain ⟨v12, e13, h⟩ := zlet_ex h
      refine r_nmI e13 ?_
      refine r_istore_n (lv' := [some (zP l0), some (zI l1), some (zI v2), some (zI v12), none]) C (z_d dd_Mo_packed 26 rfl) (Nat.le_of_ble_eq_true rfl) rfl ?_
      refine r_aload_n C (z_d dd_Mo_packed 27 rfl) rfl ?_
      refine r_dupP C (z_d dd_Mo_packed 28 rfl) ?_
      refine r_getI C (z_d dd_Mo_packed 29 rfl) lk_Mo_204 rfl h9 rfl ?_
      refine r_iconst (v := (1 : Int32)) C (z_d dd_Mo_packed 30 rfl) (by decide) ?_
      refine r_iadd C (z_d dd_Mo_packed 31 rfl) ?_
      obtain ⟨M14, e15, h⟩ := zlet_ex h
      have h16 := k_i e15 h9
      have h17 := k_i e15 h10
      refine r_putI C (z_d dd_Mo_packed 32 rfl) lp_Mo_204 rfl h9 e15 ?_
      refine r_iload_n C (z_d dd_Mo_packed 33 rfl) rfl ?_
      refine r_istore (lv' := [some (zP l0), some (zI l1), some (zI v2), some (zI v12), some (zI v12)]) C (z_d dd_Mo_packed 34 rfl) (Nat.le_of_ble_eq_true rfl) rfl ?_
      refine r_iload_n C (z_d dd_Mo_packed 35 rfl) rfl ?_
      refine r_bipush (v := (127 : Int32)) C (z_d dd_Mo_packed 36 rfl) (by decide) ?_
      refine r_icmp_le C 160 (z_d dd_Mo_packed 37 rfl) (by decide) (fun c19 => ?_) (fun c19 => ?_)
      · have h := zift h c19
        refine r_mk [true, true, true, false, true] ?_
        exact s_Mo_packed_160 C hr E n l0 l1 v2 v12 M14 h
      · have h := ziff h c19
        refine r_iload_n C (z_d dd_Mo_packed 38 rfl) rfl ?_
        refine r_aload_n C (z_d dd_Mo_packed 39 rfl) rfl ?_
        refine r_getI C (z_d dd_Mo_packed 40 rfl) lk_Mo_204 rfl h16 rfl ?_
        refine r_isub C (z_d dd_Mo_packed 41 rfl) ?_
        refine r_iload_n C (z_d dd_Mo_packed 42 rfl) rfl ?_
        refine r_sipush (v := (255 : Int32)) C (z_d dd_Mo_packed 43 rfl) (by decide) ?_
        refine r_icmp_ne C 82 (z_d dd_Mo_packed 44 rfl) (by decide) (fun c18 => ?_) (fun c18 => ?_)
        · have h := ziff h c18
          refine r_iconst (v := (1 : Int32)) C (z_d dd_Mo_packed 47 rfl) (by decide) ?_
          refine r_mk [true, true, true, true, false] ?_
          exact s_Mo_packed_83 C hr E n l0 l1 v2 v12 (l1 - (z_i M14 l0 28)) (1 : Int32) M14 h
        · have h := zift h c18
          refine r_iconst (v := (2 : Int32)) C (z_d dd_Mo_packed 45 rfl) (by decide) ?_
          refine r_goto C 83 (z_d dd_Mo_packed 46 rfl) (by decide) ?_
          refine r_mk [true, true, true, true, false] ?_
          exact s_Mo_packed_83 C hr E n l0 l1 v2 v12 (l1 - (z_i M14 l0 28)) (2 : Int32) M14 h
    · have h := ziff h c23
      refine r_aload_n C (z_d dd_Mo_packed 16 rfl) rfl ?_
      refine r_bipush (v := (10 : Int32)) C (z_d dd_Mo_packed 17 rfl) (by decide) ?_
      refine r_iload_n C (z_d dd_Mo_packed 18 rfl) rfl ?_
      obtain ⟨q20, c21, h⟩ := zbd h
      refine r_invV (as := [zI (10 : Int32), zI l1]) C 12 (S_Mo_wrong c21) (z_d dd_Mo_packed 19 rfl) ok_Mo_wrong iv_Mo_wrong se_Mo_wrong ml_Mo_207 rfl rfl h9 rfl rfl rfl (Nat.le_of_ble_eq_true rfl) ⟨(Nat.le_of_ble_eq_true rfl), (Nat.le_of_ble_eq_true rfl)⟩ ⟨(Nat.le_of_ble_eq_true rfl), (Nat.le_of_ble_eq_true rfl)⟩ ?_
      obtain ⟨h22, h⟩ := zif h
      obtain rfl := z_res h
      exact r_iretZ C E hr (z_d dd_Mo_packed 20 rfl) h22 (Nat.le_of_ble_eq_true rfl) (Nat.le_of_ble_eq_true rfl)
  · have h := zift h c24
    refine r_iconst (v := (0 : Int32)) C (z_d dd_Mo_packed 10 rfl) (by decide) ?_
    obtain rfl := z_res h
    exact r_iretZ C E hr (z_d dd_Mo_packed 11 rfl) (by decide) (Nat.le_of_ble_eq_true rfl) (Nat.le_of_ble_eq_true rfl)
def F_Mo_packed (O : zO) (n : Nat) (l0 : Nat) (l1 : Int32) (M : zM) : Option (Int32 × zM) := f_Mo_packed_0 O n l0 l1 M
theorem S_Mo_packed {l : Launch} {D : zD} {n : Nat} {l0 : Nat} {l1 : Int32} {M : zM} {q : Int32 × zM} (h : F_Mo_packed D.2.2.2.2 n l0 l1 M = some q) : zMet l D mi_Mo_packed [zP l0, zI l1] M (some (zI q.1)) q.2 :=
  z_met (by decide) (Nat.le_of_ble_eq_true rfl) (fun X C E hr hin hD hl => by
    subst hD
    exact s_Mo_packed_0 C hr E n l0 l1 M h)
