def f_Mo_highest_4 (O : zO) : Nat → Int32 → Int32 → zM → Option (Int32 × zM)
  | 0, _, _, _ => none
  | n + 1, l1, l2, M =>
    if l2 ≤ 0 then
    some (l1, M)
    else
    zlet (l1 + (1 : Int32)) fun v1 =>
    zlet (l2 / (2 : Int32)) fun v3 =>
    f_Mo_highest_4 O n v1 v3 M
set_option maxRecDepth 100000 in
set_option maxHeartbeats 4000000 in
theorem s_Mo_highest_4 {X : zX} {q : Int32 × zM} (C : zC X zR12 prog_14_method_8_code 3 { frames := 0, cells := 0, slots := 0, locals := 0 }) (hr : zRt X (some .int)) (E : zE X (some (zI q.1)) q.2 0 0) : ∀ (n : Nat) (l1 : Int32) (l2 : Int32) (M : zM), f_Mo_highest_4 (zOD X) n l1 l2 M = some q → zW X 0 0 4 [none, some (zI l1), some (zI l2)] [] M := by
  intro n
  induction n with
  | zero => intro l1 l2 M h; rw [f_Mo_highest_4] at h; cases h
  | succ n ih =>
    intro l1 l2 M h
    rw [f_Mo_highest_4] at h
    refine r_iload_n C (z_d dd_Mo_highest 4 rfl) rfl ?_
    refine r_if_le C 18 (z_d dd_Mo_highest 5 rfl) (by decide) (fun c5 => ?_) (fun c5 => ?_)
    · have h := zift h c5
      refine r_iload_n C (z_d dd_Mo_highest 12 rfl) rfl ?_
      obtain rfl := z_res h
      exact r_iretI C E hr (z_d dd_Mo_highest 13 rfl) (Nat.le_of_ble_eq_true rfl) (Nat.le_of_ble_eq_true rfl)
    · have h := ziff h c5
      obtain ⟨v1, e2, h⟩ := zlet_ex h
      refine r_iinc (v := v1) (lv' := [none, some (zI v1), some (zI l2)]) C (z_d dd_Mo_highest 6 rfl) rfl (Nat.le_of_ble_eq_true rfl) (by rw [e2]; rfl) rfl ?_
      refine r_iload_n C (z_d dd_Mo_highest 7 rfl) rfl ?_
      refine r_iconst (v := (2 : Int32)) C (z_d dd_Mo_highest 8 rfl) (by decide) ?_
      refine r_idiv C (z_d dd_Mo_highest 9 rfl) (by decide) ?_
      obtain ⟨v3, e4, h⟩ := zlet_ex h
      refine r_nmI e4 ?_
      refine r_istore_n (lv' := [none, some (zI v1), some (zI v3)]) C (z_d dd_Mo_highest 10 rfl) (Nat.le_of_ble_eq_true rfl) rfl ?_
      refine r_goto C 4 (z_d dd_Mo_highest 11 rfl) (by decide) ?_
      exact ih v1 v3 M h
def f_Mo_highest_0 (O : zO) (n : Nat) (l0 : Int32) (M : zM) : Option (Int32 × zM) :=
  f_Mo_highest_4 O n (-1 : Int32) l0 M
set_option maxRecDepth 100000 in
set_option maxHeartbeats 4000000 in
theorem s_Mo_highest_0 {X : zX} {q : Int32 × zM} (C : zC X zR12 prog_14_method_8_code 3 { frames := 0, cells := 0, slots := 0, locals := 0 }) (hr : zRt X (some .int)) (E : zE X (some (zI q.1)) q.2 0 0) : ∀ (n : Nat) (l0 : Int32) (M : zM), f_Mo_highest_0 (zOD X) n l0 M = some q → zW X 0 0 0 [some (zI l0), none, none] [] M := by
  intro n l0 M h
  rw [f_Mo_highest_0] at h
  refine r_iconst (v := (-1 : Int32)) C (z_d dd_Mo_highest 0 rfl) (by decide) ?_
  refine r_istore_n (lv' := [some (zI l0), some (zI (-1 : Int32)), none]) C (z_d dd_Mo_highest 1 rfl) (Nat.le_of_ble_eq_true rfl) rfl ?_
  refine r_iload_n C (z_d dd_Mo_highest 2 rfl) rfl ?_
  refine r_istore_n (lv' := [some (zI l0), some (zI (-1 : Int32)), some (zI l0)]) C (z_d dd_Mo_highest 3 rfl) (Nat.le_of_ble_eq_true rfl) rfl ?_
  refine r_mk [false, true, true] ?_
  exact s_Mo_highest_4 C hr E n (-1 : Int32) l0 M h
def F_Mo_highest (O : zO) (n : Nat) (l0 : Int32) (M : zM) : Option (Int32 × zM) := f_Mo_highest_0 O n l0 M
theorem S_Mo_highest {l : Launch} {D : zD} {n : Nat} {l0 : Int32} {M : zM} {q : Int32 × zM} (h : F_Mo_highest D.2.2.2.2 n l0 M = some q) : zMet l D mi_Mo_highest [zI l0] M (some (zI q.1)) q.2 :=
  z_met (by decide) (Nat.le_of_ble_eq_true rfl) (fun X C E hr hin hD hl => by
    subst hD
    exact s_Mo_highest_0 C hr E n l0 M h)

def f_Mo_share_379 (O : zO) (k118 : Nat → Int32 → Int32 → Int32 → Int32 → Int32 → zM → Option (Int32 × zM)) (k312 : Nat → Int32 → Int32 → Int32 → Int32 → Int32 → Int32 → zM → Option (Int32 × zM)) (n : Nat) (l0 : Nat) (l4 : Int32) (l5 : Int32) (l6 : Int32) (l7 : Int32) (l8 : Int32) (s0 : Int32) (M : zM) : Option (Int32 × zM) :=
  k312 l0 l4 l5 l6 l7 l8 s0 M
set_option maxRecDepth 100000 in
set_option maxHeartbeats 4000000 in
theorem s_Mo_share_379 {X : zX} {q : Int32 × zM} (C : zC X zR12 prog_14_method_9_code 15 { frames := 1, cells := 0, slots := 0, locals := 22 }) (hr : zRt X (some .int)) (E : zE X (some (zI q.1)) q.2 0 0) {k118 : Nat → Int32 → Int32 → Int32 → Int32 → Int32 → zM → Option (Int32 × zM)} (hk118 : ∀ (l0 : Nat) (l4 : Int32) (l5 : Int32) (l6 : Int32) (l7 : Int32) (l8 : Int32) (M : zM), k118 l0 l4 l5 l6 l7 l8 M = some q → zW X 0 0 118 [some (zP l0), none, none, none, some (zI l4), some (zI l5), some (zI l6), some (zI l7), some (zI l8), none, none, none, none, none, none] [] M) {k312 : Nat → Int32 → Int32 → Int32 → Int32 → Int32 → Int32 → zM → Option (Int32 × zM)} (hk312 : ∀ (l0 : Nat) (l4 : Int32) (l5 : Int32) (l6 : Int32) (l7 : Int32) (l8 : Int32) (l13 : Int32) (M : zM), k312 l0 l4 l5 l6 l7 l8 l13 M = some q → zW X 0 0 312 [some (zP l0), none, none, none, some (zI l4), some (zI l5), some (zI l6), some (zI l7), some (zI l8), none, none, none, none, some (zI l13), none] [] M) : ∀ (n : Nat) (l0 : Nat) (l4 : Int32) (l5 : Int32) (l6 : Int32) (l7 : Int32) (l8 : Int32) (s0 : Int32) (M : zM), f_Mo_share_379 (zOD X) k118 k312 n l0 l4 l5 l6 l7 l8 s0 M = some q → zW X 0 0 379 [some (zP l0), none, none, none, some (zI l4), some (zI l5), some (zI l6), some (zI l7), some (zI l8), none, none, none, none, none, none] [zI s0] M := by
  intro n l0 l4 l5 l6 l7 l8 s0 M h
  rw [f_Mo_share_379] at h
  refine r_istore (lv' := [some (zP l0), none, none, none, some (zI l4), some (zI l5), some (zI l6), some (zI l7), some (zI l8), none, none, none, none, some (zI s0), none]) C (z_d dd_Mo_share 218 rfl) (Nat.le_of_ble_eq_true rfl) rfl ?_
  refine r_goto C 312 (z_d dd_Mo_share 219 rfl) (by decide) ?_
  exact hk312 l0 l4 l5 l6 l7 l8 s0 M h
def f_Mo_share_312 (O : zO) (k118 : Nat → Int32 → Int32 → Int32 → Int32 → Int32 → zM → Option (Int32 × zM)) : Nat → Nat → Int32 → Int32 → Int32 → Int32 → Int32 → Int32 → zM → Option (Int32 × zM)
  | 0, _, _, _, _, _, _, _, _ => none
  | n + 1, l0, l4, l5, l6, l7, l8, l13, M =>
    if l13 = 0 then
    k118 l0 l4 l5 l6 l7 l8 M
    else
    if (l5 + (2 : Int32)) ≤ l6 then
    if z_k M l0 = 13 then
    (F_Mo_bit O n l0 l5 M).bind fun q2 =>
    if z_k q2.2 l0 = 13 then
    (F_Mo_bit O n l0 (l5 + (1 : Int32)) q2.2).bind fun q5 =>
    zlet (q2.1 + ((2 : Int32) * q5.1)) fun v7 =>
    zlet (l5 + (2 : Int32)) fun v9 =>
    zlet (l8 + v7) fun v11 =>
    if v11 ≤ (l4 + (1 : Int32)) then
    if v7 = (3 : Int32) then
    f_Mo_share_379 O k118 (f_Mo_share_312 O k118 n) n l0 l4 v9 l6 l7 v11 (1 : Int32) q5.2
    else
    f_Mo_share_379 O k118 (f_Mo_share_312 O k118 n) n l0 l4 v9 l6 l7 v11 (0 : Int32) q5.2
    else
    some ((-1 : Int32), q5.2)
    else none
    else none
    else
    some ((-1 : Int32), M)
set_option maxRecDepth 100000 in
set_option maxHeartbeats 4000000 in
theorem s_Mo_share_312 {X : zX} {q : Int32 × zM} (C : zC X zR12 prog_14_method_9_code 15 { frames := 1, cells := 0, slots := 0, locals := 22 }) (hr : zRt X (some .int)) (E : zE X (some (zI q.1)) q.2 0 0) {k118 : Nat → Int32 → Int32 → Int32 → Int32 → Int32 → zM → Option (Int32 × zM)} (hk118 : ∀ (l0 : Nat) (l4 : Int32) (l5 : Int32) (l6 : Int32) (l7 : Int32) (l8 : Int32) (M : zM), k118 l0 l4 l5 l6 l7 l8 M = some q → zW X 0 0 118 [some (zP l0), none, none, none, some (zI l4), some (zI l5), some (zI l6), some (zI l7), some (zI l8), none, none, none, none, none, none] [] M) : ∀ (n : Nat) (l0 : Nat) (l4 : Int32) (l5 : Int32) (l6 : Int32) (l7 : Int32) (l8 : Int32) (l13 : Int32) (M : zM), f_Mo_share_312 (zOD X) k118 n l0 l4 l5 l6 l7 l8 l13 M = some q → zW X 0 0 312 [some (zP l0), none, none, none, some (zI l4), some (zI l5), some (zI l6), some (zI l7), some (zI l8), none, none, none, none, some (zI l13), none] [] M := by
  intro n
  induction n with
  | zero => intro l0 l4 l5 l6 l7 l8 l13 M h; rw [f_Mo_share_312] at h; cases h
  | succ n ih =>
    intro l0 l4 l5 l6 l7 l8 l13 M h
    rw [f_Mo_share_312] at h
    refine r_iload C (z_d dd_Mo_share 179 rfl) rfl ?_
    refine r_if_eq C 384 (z_d dd_Mo_share 180 rfl) (by decide) (fun c16 => ?_) (fun c16 => ?_)
    · have h := zift h c16
      refine r_goto C 118 (z_d dd_Mo_share 220 rfl) (by decide) ?_
      refine r_mk [true, false, false, false, true, true, true, true, true, false, false, false, false, false, false] ?_
      exact hk118 l0 l4 l5 l6 l7 l8 M h
    · have h := ziff h c16
      refine r_iload C (z_d dd_Mo_share 181 rfl) rfl ?_
      refine r_iconst (v := (2 : Int32)) C (z_d dd_Mo_share 182 rfl) (by decide) ?_
      refine r_iadd C (z_d dd_Mo_share 183 rfl) ?_
      refine r_iload C (z_d dd_Mo_share 184 rfl) rfl ?_
      refine r_icmp_le C 328 (z_d dd_Mo_share 185 rfl) (by decide) (fun c15 => ?_) (fun c15 => ?_)
      · have h := zift h c15
        refine r_aload_n C (z_d dd_Mo_share 188 rfl) rfl ?_
        refine r_iload C (z_d dd_Mo_share 189 rfl) rfl ?_
        obtain ⟨h1, h⟩ := zif h
        obtain ⟨q2, c3, h⟩ := zbd h
        refine r_invV (as := [zI l5]) C 12 (S_Mo_bit c3) (z_d dd_Mo_share 190 rfl) ok_Mo_bit iv_Mo_bit se_Mo_bit ml_Mo_91 rfl rfl h1 rfl rfl rfl (Nat.le_of_ble_eq_true rfl) ⟨(Nat.le_of_ble_eq_true rfl), (Nat.le_of_ble_eq_true rfl)⟩ ⟨(Nat.le_of_ble_eq_true rfl), (Nat.le_of_ble_eq_true rfl)⟩ ?_
        refine r_iconst (v := (2 : Int32)) C (z_d dd_Mo_share 191 rfl) (by decide) ?_
        refine r_aload_n C (z_d dd_Mo_share 192 rfl) rfl ?_
        refine r_iload C (z_d dd_Mo_share 193 rfl) rfl ?_
        refine r_iconst (v := (1 : Int32)) C (z_d dd_Mo_share 194 rfl) (by decide) ?_
        refine r_iadd C (z_d dd_Mo_share 195 rfl) ?_
        obtain ⟨h4, h⟩ := zif h
        obtain ⟨q5, c6, h⟩ := zbd h
        refine r_invV (as := [zI (l5 + (1 : Int32))]) C 12 (S_Mo_bit c6) (z_d dd_Mo_share 196 rfl) ok_Mo_bit iv_Mo_bit se_Mo_bit ml_Mo_91 rfl rfl h4 rfl rfl rfl (Nat.le_of_ble_eq_true rfl) ⟨(Nat.le_of_ble_eq_true rfl), (Nat.le_of_ble_eq_true rfl)⟩ ⟨(Nat.le_of_ble_eq_true rfl), (Nat.le_of_ble_eq_true rfl)⟩ ?_
        refine r_imul C (z_d dd_Mo_share 197 rfl) ?_
        refine r_iadd C (z_d dd_Mo_share 198 rfl) ?_
        obtain ⟨v7, e8, h⟩ := zlet_ex h
        refine r_nmI e8 ?_
        refine r_istore (lv' := [some (zP l0), none, none, none, some (zI l4), some (zI l5), some (zI l6), some (zI l7), some (zI l8), none, none, none, none, some (zI l13), some (zI v7)]) C (z_d dd_Mo_share 199 rfl) (Nat.le_of_ble_eq_true rfl) rfl ?_
        obtain ⟨v9, e10, h⟩ := zlet_ex h
        refine r_iinc (v := v9) (lv' := [some (zP l0), none, none, none, some (zI l4), some (zI v9), some (zI l6), some (zI l7), some (zI l8), none, none, none, none, some (zI l13), some (zI v7)]) C (z_d dd_Mo_share 200 rfl) rfl (Nat.le_of_ble_eq_true rfl) (by rw [e10]; rfl) rfl ?_
        refine r_iload C (z_d dd_Mo_share 201 rfl) rfl ?_
        refine r_iload C (z_d dd_Mo_share 202 rfl) rfl ?_
        refine r_iadd C (z_d dd_Mo_share 203 rfl) ?_
        obtain ⟨v11, e12, h⟩ := zlet_ex h
        refine r_nmI e12 ?_
        refine r_istore (lv' := [some (zP l0), none, none, none, some (zI l4), some (zI v9), some (zI l6), some (zI l7), some (zI v11), none, none, none, none, some (zI l13), some (zI v7)]) C (z_d dd_Mo_share 204 rfl) (Nat.le_of_ble_eq_true rfl) rfl ?_
        refine r_iload C (z_d dd_Mo_share 205 rfl) rfl ?_
        refine r_iload C (z_d dd_Mo_share 206 rfl) rfl ?_
        refine r_iconst (v := (1 : Int32)) C (z_d dd_Mo_share 207 rfl) (by decide) ?_
        refine r_iadd C (z_d dd_Mo_share 208 rfl) ?_
        refine r_icmp_le C 368 (z_d dd_Mo_share 209 rfl) (by decide) (fun c14 => ?_) (fun c14 => ?_)
        · have h := zift h c14
          refine r_iload C (z_d dd_Mo_share 212 rfl) rfl ?_
          refine r_iconst (v := (3 : Int32)) C (z_d dd_Mo_share 213 rfl) (by decide) ?_
          refine r_icmp_ne C 378 (z_d dd_Mo_share 214 rfl) (by decide) (fun c13 => ?_) (fun c13 => ?_)
          · have h := ziff h c13
            refine r_iconst (v := (0 : Int32)) C (z_d dd_Mo_share 217 rfl) (by decide) ?_
            refine r_mk [true, false, false, false, true, true, true, true, true, false, false, false, false, false, false] ?_
            exact s_Mo_share_379 C hr E hk118 ih n l0 l4 v9 l6 l7 v11 (0 : Int32) q5.2 h
          · have h := zift h c13
            refine r_iconst (v := (1 : Int32)) C (z_d dd_Mo_share 215 rfl) (by decide) ?_
            refine r_goto C 379 (z_d dd_Mo_share 216 rfl) (by decide) ?_
            refine r_mk [true, false, false, false, true, true, true, true, true, false, false, false, false, false, false] ?_
            exact s_Mo_share_379 C hr E hk118 ih n l0 l4 v9 l6 l7 v11 (1 : Int32) q5.2 h
        · have h := ziff h c14
          refine r_iconst (v := (-1 : Int32)) C (z_d dd_Mo_share 210 rfl) (by decide) ?_
          obtain rfl := z_res h
          exact r_iretI C E hr (z_d dd_Mo_share 211 rfl) (Nat.le_of_ble_eq_true rfl) (Nat.le_of_ble_eq_true rfl)
      · have h := ziff h c15
        refine r_iconst (v := (-1 : Int32)) C (z_d dd_Mo_share 186 rfl) (by decide) ?_
        obtain rfl := z_res h
        exact r_iretI C E hr (z_d dd_Mo_share 187 rfl) (Nat.le_of_ble_eq_true rfl) (Nat.le_of_ble_eq_true rfl)
def f_Mo_share_310 (O : zO) (k118 : Nat → Int32 → Int32 → Int32 → Int32 → Int32 → zM → Option (Int32 × zM)) (n : Nat) (l0 : Nat) (l4 : Int32) (l5 : Int32) (l6 : Int32) (l7 : Int32) (l8 : Int32) (s0 : Int32) (M : zM) : Option (Int32 × zM) :=
  f_Mo_share_312 O k118 n l0 l4 l5 l6 l7 l8 s0 M
set_option maxRecDepth 100000 in
set_option maxHeartbeats 4000000 in
theorem s_Mo_share_310 {X : zX} {q : Int32 × zM} (C : zC X zR12 prog_14_method_9_code 15 { frames := 1, cells := 0, slots := 0, locals := 22 }) (hr : zRt X (some .int)) (E : zE X (some (zI q.1)) q.2 0 0) {k118 : Nat → Int32 → Int32 → Int32 → Int32 → Int32 → zM → Option (Int32 × zM)} (hk118 : ∀ (l0 : Nat) (l4 : Int32) (l5 : Int32) (l6 : Int32) (l7 : Int32) (l8 : Int32) (M : zM), k118 l0 l4 l5 l6 l7 l8 M = some q → zW X 0 0 118 [some (zP l0), none, none, none, some (zI l4), some (zI l5), some (zI l6), some (zI l7), some (zI l8), none, none, none, none, none, none] [] M) : ∀ (n : Nat) (l0 : Nat) (l4 : Int32) (l5 : Int32) (l6 : Int32) (l7 : Int32) (l8 : Int32) (s0 : Int32) (M : zM), f_Mo_share_310 (zOD X) k118 n l0 l4 l5 l6 l7 l8 s0 M = some q → zW X 0 0 310 [some (zP l0), none, none, none, some (zI l4), some (zI l5), some (zI l6), some (zI l7), some (zI l8), none, none, none, none, none, none] [zI s0] M := by
  intro n l0 l4 l5 l6 l7 l8 s0 M h
  rw [f_Mo_share_310] at h
  refine r_istore (lv' := [some (zP l0), none, none, none, some (zI l4), some (zI l5), some (zI l6), some (zI l7), some (zI l8), none, none, none, none, some (zI s0), none]) C (z_d dd_Mo_share 178 rfl) (Nat.le_of_ble_eq_true rfl) rfl ?_
  exact s_Mo_share_312 C hr E hk118 n l0 l4 l5 l6 l7 l8 s0 M h
def f_Mo_share_293 (O : zO) (k118 : Nat → Int32 → Int32 → Int32 → Int32 → Int32 → zM → Option (Int32 × zM)) (n : Nat) (l0 : Nat) (l4 : Int32) (l5 : Int32) (l6 : Int32) (l8 : Int32) (l12 : Int32) (s0 : Int32) (s1 : Int32) (M : zM) : Option (Int32 × zM) :=
  zlet (s0 - s1) fun v1 =>
  zlet (l8 + (1 : Int32)) fun v3 =>
  if l12 = (1 : Int32) then
  f_Mo_share_310 O k118 n l0 l4 l5 l6 v1 v3 (1 : Int32) M
  else
  f_Mo_share_310 O k118 n l0 l4 l5 l6 v1 v3 (0 : Int32) M
set_option maxRecDepth 100000 in
set_option maxHeartbeats 4000000 in
theorem s_Mo_share_293 {X : zX} {q : Int32 × zM} (C : zC X zR12 prog_14_method_9_code 15 { frames := 1, cells := 0, slots := 0, locals := 22 }) (hr : zRt X (some .int)) (E : zE X (some (zI q.1)) q.2 0 0) {k118 : Nat → Int32 → Int32 → Int32 → Int32 → Int32 → zM → Option (Int32 × zM)} (hk118 : ∀ (l0 : Nat) (l4 : Int32) (l5 : Int32) (l6 : Int32) (l7 : Int32) (l8 : Int32) (M : zM), k118 l0 l4 l5 l6 l7 l8 M = some q → zW X 0 0 118 [some (zP l0), none, none, none, some (zI l4), some (zI l5), some (zI l6), some (zI l7), some (zI l8), none, none, none, none, none, none] [] M) : ∀ (n : Nat) (l0 : Nat) (l4 : Int32) (l5 : Int32) (l6 : Int32) (l8 : Int32) (l12 : Int32) (s0 : Int32) (s1 : Int32) (M : zM), f_Mo_share_293 (zOD X) k118 n l0 l4 l5 l6 l8 l12 s0 s1 M = some q → zW X 0 0 293 [some (zP l0), none, none, none, some (zI l4), some (zI l5), some (zI l6), none, some (zI l8), none, none, none, some (zI l12), none, none] [zI s1, zI s0] M := by
  intro n l0 l4 l5 l6 l8 l12 s0 s1 M h
  rw [f_Mo_share_293] at h
  refine r_isub C (z_d dd_Mo_share 169 rfl) ?_
  obtain ⟨v1, e2, h⟩ := zlet_ex h
  refine r_nmI e2 ?_
  refine r_istore (lv' := [some (zP l0), none, none, none, some (zI l4), some (zI l5), some (zI l6), some (zI v1), some (zI l8), none, none, none, some (zI l12), none, none]) C (z_d dd_Mo_share 170 rfl) (Nat.le_of_ble_eq_true rfl) rfl ?_
  obtain ⟨v3, e4, h⟩ := zlet_ex h
  refine r_iinc (v := v3) (lv' := [some (zP l0), none, none, none, some (zI l4), some (zI l5), some (zI l6), some (zI v1), some (zI v3), none, none, none, some (zI l12), none, none]) C (z_d dd_Mo_share 171 rfl) rfl (Nat.le_of_ble_eq_true rfl) (by rw [e4]; rfl) rfl ?_
  refine r_iload C (z_d dd_Mo_share 172 rfl) rfl ?_
  refine r_iconst (v := (1 : Int32)) C (z_d dd_Mo_share 173 rfl) (by decide) ?_
  refine r_icmp_ne C 309 (z_d dd_Mo_share 174 rfl) (by decide) (fun c5 => ?_) (fun c5 => ?_)
  · have h := ziff h c5
    refine r_iconst (v := (0 : Int32)) C (z_d dd_Mo_share 177 rfl) (by decide) ?_
    refine r_mk [true, false, false, false, true, true, true, true, true, false, false, false, false, false, false] ?_
    exact s_Mo_share_310 C hr E hk118 n l0 l4 l5 l6 v1 v3 (0 : Int32) M h
  · have h := zift h c5
    refine r_iconst (v := (1 : Int32)) C (z_d dd_Mo_share 175 rfl) (by decide) ?_
    refine r_goto C 310 (z_d dd_Mo_share 176 rfl) (by decide) ?_
    refine r_mk [true, false, false, false, true, true, true, true, true, false, false, false, false, false, false] ?_
    exact s_Mo_share_310 C hr E hk118 n l0 l4 l5 l6 v1 v3 (1 : Int32) M h
def f_Mo_share_267 (O : zO) (k118 : Nat → Int32 → Int32 → Int32 → Int32 → Int32 → zM → Option (Int32 × zM)) (n : Nat) (l0 : Nat) (l4 : Int32) (l5 : Int32) (l6 : Int32) (l7 : Int32) (l8 : Int32) (l12 : Int32) (M : zM) : Option (Int32 × zM) :=
  if z_k M l0 = 13 then
  if z_k M (z_p M l0 21) = 100 then
  if zin l8 (z_n M (z_p M l0 21)) = true then
  zlet (w_i M (z_p M l0 21) l8.toNatClampNeg (l12 - (1 : Int32))) fun M4 =>
  if l12 = 0 then
  f_Mo_share_293 O k118 n l0 l4 l5 l6 l8 l12 l7 (1 : Int32) M4
  else
  f_Mo_share_293 O k118 n l0 l4 l5 l6 l8 l12 l7 (l12 - (1 : Int32)) M4
  else none
  else none
  else none
set_option maxRecDepth 100000 in
set_option maxHeartbeats 4000000 in
theorem s_Mo_share_267 {X : zX} {q : Int32 × zM} (C : zC X zR12 prog_14_method_9_code 15 { frames := 1, cells := 0, slots := 0, locals := 22 }) (hr : zRt X (some .int)) (E : zE X (some (zI q.1)) q.2 0 0) {k118 : Nat → Int32 → Int32 → Int32 → Int32 → Int32 → zM → Option (Int32 × zM)} (hk118 : ∀ (l0 : Nat) (l4 : Int32) (l5 : Int32) (l6 : Int32) (l7 : Int32) (l8 : Int32) (M : zM), k118 l0 l4 l5 l6 l7 l8 M = some q → zW X 0 0 118 [some (zP l0), none, none, none, some (zI l4), some (zI l5), some (zI l6), some (zI l7), some (zI l8), none, none, none, none, none, none] [] M) : ∀ (n : Nat) (l0 : Nat) (l4 : Int32) (l5 : Int32) (l6 : Int32) (l7 : Int32) (l8 : Int32) (l12 : Int32) (M : zM), f_Mo_share_267 (zOD X) k118 n l0 l4 l5 l6 l7 l8 l12 M = some q → zW X 0 0 267 [some (zP l0), none, none, none, some (zI l4), some (zI l5), some (zI l6), some (zI l7), some (zI l8), none, none, none, some (zI l12), none, none] [] M := by
  intro n l0 l4 l5 l6 l7 l8 l12 M h
  rw [f_Mo_share_267] at h
  refine r_aload_n C (z_d dd_Mo_share 154 rfl) rfl ?_
  obtain ⟨h1, h⟩ := zif h
  refine r_getP C (z_d dd_Mo_share 155 rfl) lk_Mo_57 rfl h1 rfl ?_
  refine r_iload C (z_d dd_Mo_share 156 rfl) rfl ?_
  refine r_iload C (z_d dd_Mo_share 157 rfl) rfl ?_
  refine r_iconst (v := (1 : Int32)) C (z_d dd_Mo_share 158 rfl) (by decide) ?_
  refine r_isub C (z_d dd_Mo_share 159 rfl) ?_
  obtain ⟨h2, h⟩ := zif h
  obtain ⟨h3, h⟩ := zif h
  obtain ⟨M4, e5, h⟩ := zlet_ex h
  have h6 := k_i e5 h1
  have h7 := k_i e5 h2
  refine r_iast C (z_d dd_Mo_share 160 rfl) h2 h3 e5 ?_
  refine r_iload C (z_d dd_Mo_share 161 rfl) rfl ?_
  refine r_iload C (z_d dd_Mo_share 162 rfl) rfl ?_
  refine r_if_ne C 289 (z_d dd_Mo_share 163 rfl) (by decide) (fun c8 => ?_) (fun c8 => ?_)
  · have h := ziff h c8
    refine r_iload C (z_d dd_Mo_share 166 rfl) rfl ?_
    refine r_iconst (v := (1 : Int32)) C (z_d dd_Mo_share 167 rfl) (by decide) ?_
    refine r_isub C (z_d dd_Mo_share 168 rfl) ?_
    refine r_mk [true, false, false, false, true, true, true, false, true, false, false, false, true, false, false] ?_
    exact s_Mo_share_293 C hr E hk118 n l0 l4 l5 l6 l8 l12 l7 (l12 - (1 : Int32)) M4 h
  · have h := zift h c8
    refine r_iconst (v := (1 : Int32)) C (z_d dd_Mo_share 164 rfl) (by decide) ?_
    refine r_goto C 293 (z_d dd_Mo_share 165 rfl) (by decide) ?_
    refine r_mk [true, false, false, false, true, true, true, false, true, false, false, false, true, false, false] ?_
    exact s_Mo_share_293 C hr E hk118 n l0 l4 l5 l6 l8 l12 l7 (1 : Int32) M4 h
def f_Mo_share_265 (O : zO) (k118 : Nat → Int32 → Int32 → Int32 → Int32 → Int32 → zM → Option (Int32 × zM)) (n : Nat) (l0 : Nat) (l4 : Int32) (l5 : Int32) (l6 : Int32) (l7 : Int32) (l8 : Int32) (s0 : Int32) (M : zM) : Option (Int32 × zM) :=
  f_Mo_share_267 O k118 n l0 l4 l5 l6 l7 l8 s0 M
set_option maxRecDepth 100000 in
set_option maxHeartbeats 4000000 in
theorem s_Mo_share_265 {X : zX} {q : Int32 × zM} (C : zC X zR12 prog_14_method_9_code 15 { frames := 1, cells := 0, slots := 0, locals := 22 }) (hr : zRt X (some .int)) (E : zE X (some (zI q.1)) q.2 0 0) {k118 : Nat → Int32 → Int32 → Int32 → Int32 → Int32 → zM → Option (Int32 × zM)} (hk118 : ∀ (l0 : Nat) (l4 : Int32) (l5 : Int32) (l6 : Int32) (l7 : Int32) (l8 : Int32) (M : zM), k118 l0 l4 l5 l6 l7 l8 M = some q → zW X 0 0 118 [some (zP l0), none, none, none, some (zI l4), some (zI l5), some (zI l6), some (zI l7), some (zI l8), none, none, none, none, none, none] [] M) : ∀ (n : Nat) (l0 : Nat) (l4 : Int32) (l5 : Int32) (l6 : Int32) (l7 : Int32) (l8 : Int32) (s0 : Int32) (M : zM), f_Mo_share_265 (zOD X) k118 n l0 l4 l5 l6 l7 l8 s0 M = some q → zW X 0 0 265 [some (zP l0), none, none, none, some (zI l4), some (zI l5), some (zI l6), some (zI l7), some (zI l8), none, none, none, none, none, none] [zI s0] M := by
  intro n l0 l4 l5 l6 l7 l8 s0 M h
  rw [f_Mo_share_265] at h
  refine r_istore (lv' := [some (zP l0), none, none, none, some (zI l4), some (zI l5), some (zI l6), some (zI l7), some (zI l8), none, none, none, some (zI s0), none, none]) C (z_d dd_Mo_share 153 rfl) (Nat.le_of_ble_eq_true rfl) rfl ?_
  exact s_Mo_share_267 C hr E hk118 n l0 l4 l5 l6 l7 l8 s0 M h
def f_Mo_share_176 (O : zO) (k118 : Nat → Int32 → Int32 → Int32 → Int32 → Int32 → zM → Option (Int32 × zM)) : Nat → Nat → Int32 → Int32 → Int32 → Int32 → Int32 → Int32 → Int32 → Int32 → Int32 → Int32 → zM → Option (Int32 × zM)
  | 0, _, _, _, _, _, _, _, _, _, _, _, _ => none
  | n + 1, l0, l4, l5, l6, l7, l8, l9, l10, l11, l12, l13, M =>
    if l9 ≤ l13 then
    zlet (l5 + l9) fun v1 =>
    if l12 < l11 then
    f_Mo_share_267 O k118 n l0 l4 v1 l6 l7 l8 l12 M
    else
    if (v1 + (1 : Int32)) ≤ l6 then
    if z_k M l0 = 13 then
    (F_Mo_bit O n l0 v1 M).bind fun q4 =>
    zlet (l12 + (q4.1 <<< (l9 &&& 31))) fun v6 =>
    zlet (v1 + (1 : Int32)) fun v8 =>
    if v6 < l10 then
    f_Mo_share_265 O k118 n l0 l4 v8 l6 l7 l8 v6 q4.2
    else
    f_Mo_share_265 O k118 n l0 l4 v8 l6 l7 l8 (v6 - l11) q4.2
    else none
    else
    some ((-1 : Int32), M)
    else
    if z_k M l0 = 13 then
    (F_Mo_bit O n l0 (l5 + l13) M).bind fun q14 =>
    zlet (l12 + (q14.1 <<< (l13 &&& 31))) fun v16 =>
    zlet (l13 + (1 : Int32)) fun v18 =>
    f_Mo_share_176 O k118 n l0 l4 l5 l6 l7 l8 l9 l10 l11 v16 v18 q14.2
    else none
set_option maxRecDepth 100000 in
set_option maxHeartbeats 4000000 in
theorem s_Mo_share_176 {X : zX} {q : Int32 × zM} (C : zC X zR12 prog_14_method_9_code 15 { frames := 1, cells := 0, slots := 0, locals := 22 }) (hr : zRt X (some .int)) (E : zE X (some (zI q.1)) q.2 0 0) {k118 : Nat → Int32 → Int32 → Int32 → Int32 → Int32 → zM → Option (Int32 × zM)} (hk118 : ∀ (l0 : Nat) (l4 : Int32) (l5 : Int32) (l6 : Int32) (l7 : Int32) (l8 : Int32) (M : zM), k118 l0 l4 l5 l6 l7 l8 M = some q → zW X 0 0 118 [some (zP l0), none, none, none, some (zI l4), some (zI l5), some (zI l6), some (zI l7), some (zI l8), none, none, none, none, none, none] [] M) : ∀ (n : Nat) (l0 : Nat) (l4 : Int32) (l5 : Int32) (l6 : Int32) (l7 : Int32) (l8 : Int32) (l9 : Int32) (l10 : Int32) (l11 : Int32) (l12 : Int32) (l13 : Int32) (M : zM), f_Mo_share_176 (zOD X) k118 n l0 l4 l5 l6 l7 l8 l9 l10 l11 l12 l13 M = some q → zW X 0 0 176 [some (zP l0), none, none, none, some (zI l4), some (zI l5), some (zI l6), some (zI l7), some (zI l8), some (zI l9), some (zI l10), some (zI l11), some (zI l12), some (zI l13), none] [] M := by
  intro n
  induction n with
  | zero => intro l0 l4 l5 l6 l7 l8 l9 l10 l11 l12 l13 M h; rw [f_Mo_share_176] at h; cases h
  | succ n ih =>
    intro l0 l4 l5 l6 l7 l8 l9 l10 l11 l12 l13 M h
    rw [f_Mo_share_176] at h
    refine r_iload C (z_d dd_Mo_share 107 rfl) rfl ?_
    refine r_iload C (z_d dd_Mo_share 108 rfl) rfl ?_
    refine r_icmp_ge C 206 (z_d dd_Mo_share 109 rfl) (by decide) (fun c20 => ?_) (fun c20 => ?_)
    · have h := zift h c20
      refine r_iload C (z_d dd_Mo_share 122 rfl) rfl ?_
      refine r_iload C (z_d dd_Mo_share 123 rfl) rfl ?_
      refine r_iadd C (z_d dd_Mo_share 124 rfl) ?_
      obtain ⟨v1, e2, h⟩ := zlet_ex h
      refine r_nmI e2 ?_
      refine r_istore (lv' := [some (zP l0), none, none, none, some (zI l4), some (zI v1), some (zI l6), some (zI l7), some (zI l8), some (zI l9), some (zI l10), some (zI l11), some (zI l12), some (zI l13), none]) C (z_d dd_Mo_share 125 rfl) (Nat.le_of_ble_eq_true rfl) rfl ?_
      refine r_iload C (z_d dd_Mo_share 126 rfl) rfl ?_
      refine r_iload C (z_d dd_Mo_share 127 rfl) rfl ?_
      refine r_icmp_lt C 267 (z_d dd_Mo_share 128 rfl) (by decide) (fun c12 => ?_) (fun c12 => ?_)
      · have h := zift h c12
        refine r_mk [true, false, false, false, true, true, true, true, true, false, false, false, true, false, false] ?_
        exact s_Mo_share_267 C hr E hk118 n l0 l4 v1 l6 l7 l8 l12 M h
      · have h := ziff h c12
        refine r_iload C (z_d dd_Mo_share 129 rfl) rfl ?_
        refine r_iconst (v := (1 : Int32)) C (z_d dd_Mo_share 130 rfl) (by decide) ?_
        refine r_iadd C (z_d dd_Mo_share 131 rfl) ?_
        refine r_iload C (z_d dd_Mo_share 132 rfl) rfl ?_
        refine r_icmp_le C 231 (z_d dd_Mo_share 133 rfl) (by decide) (fun c11 => ?_) (fun c11 => ?_)
        · have h := zift h c11
          refine r_iload C (z_d dd_Mo_share 136 rfl) rfl ?_
          refine r_aload_n C (z_d dd_Mo_share 137 rfl) rfl ?_
          refine r_iload C (z_d dd_Mo_share 138 rfl) rfl ?_
          obtain ⟨h3, h⟩ := zif h
          obtain ⟨q4, c5, h⟩ := zbd h
          refine r_invV (as := [zI v1]) C 12 (S_Mo_bit c5) (z_d dd_Mo_share 139 rfl) ok_Mo_bit iv_Mo_bit se_Mo_bit ml_Mo_91 rfl rfl h3 rfl rfl rfl (Nat.le_of_ble_eq_true rfl) ⟨(Nat.le_of_ble_eq_true rfl), (Nat.le_of_ble_eq_true rfl)⟩ ⟨(Nat.le_of_ble_eq_true rfl), (Nat.le_of_ble_eq_true rfl)⟩ ?_
          refine r_iload C (z_d dd_Mo_share 140 rfl) rfl ?_
          refine r_ishl C (z_d dd_Mo_share 141 rfl) ?_
          refine r_iadd C (z_d dd_Mo_share 142 rfl) ?_
          obtain ⟨v6, e7, h⟩ := zlet_ex h
          refine r_nmI e7 ?_
          refine r_istore (lv' := [some (zP l0), none, none, none, some (zI l4), some (zI v1), some (zI l6), some (zI l7), some (zI l8), some (zI l9), some (zI l10), some (zI l11), some (zI v6), some (zI l13), none]) C (z_d dd_Mo_share 143 rfl) (Nat.le_of_ble_eq_true rfl) rfl ?_
          obtain ⟨v8, e9, h⟩ := zlet_ex h
          refine r_iinc (v := v8) (lv' := [some (zP l0), none, none, none, some (zI l4), some (zI v8), some (zI l6), some (zI l7), some (zI l8), some (zI l9), some (zI l10), some (zI l11), some (zI v6), some (zI l13), none]) C (z_d dd_Mo_share 144 rfl) rfl (Nat.le_of_ble_eq_true rfl) (by rw [e9]; rfl) rfl ?_
          refine r_iload C (z_d dd_Mo_share 145 rfl) rfl ?_
          refine r_iload C (z_d dd_Mo_share 146 rfl) rfl ?_
          refine r_icmp_lt C 263 (z_d dd_Mo_share 147 rfl) (by decide) (fun c10 => ?_) (fun c10 => ?_)
          · have h := zift h c10
            refine r_iload C (z_d dd_Mo_share 152 rfl) rfl ?_
            refine r_mk [true, false, false, false, true, true, true, true, true, false, false, false, false, false, false] ?_
            exact s_Mo_share_265 C hr E hk118 n l0 l4 v8 l6 l7 l8 v6 q4.2 h
          · have h := ziff h c10
            refine r_iload C (z_d dd_Mo_share 148 rfl) rfl ?_
            refine r_iload C (z_d dd_Mo_share 149 rfl) rfl ?_
            refine r_isub C (z_d dd_Mo_share 150 rfl) ?_
            refine r_goto C 265 (z_d dd_Mo_share 151 rfl) (by decide) ?_
            refine r_mk [true, false, false, false, true, true, true, true, true, false, false, false, false, false, false] ?_
            exact s_Mo_share_265 C hr E hk118 n l0 l4 v8 l6 l7 l8 (v6 - l11) q4.2 h
        · have h := ziff h c11
          refine r_iconst (v := (-1 : Int32)) C (z_d dd_Mo_share 134 rfl) (by decide) ?_
          obtain rfl := z_res h
          exact r_iretI C E hr (z_d dd_Mo_share 135 rfl) (Nat.le_of_ble_eq_true rfl) (Nat.le_of_ble_eq_true rfl)
    · have h := ziff h c20
      refine r_iload C (z_d dd_Mo_share 110 rfl) rfl ?_
      refine r_aload_n C (z_d dd_Mo_share 111 rfl) rfl ?_
      refine r_iload C (z_d dd_Mo_share 112 rfl) rfl ?_
      refine r_iload C (z_d dd_Mo_share 113 rfl) rfl ?_
      refine r_iadd C (z_d dd_Mo_share 114 rfl) ?_
      obtain ⟨h13, h⟩ := zif h
      obtain ⟨q14, c15, h⟩ := zbd h
      refine r_invV (as := [zI (l5 + l13)]) C 12 (S_Mo_bit c15) (z_d dd_Mo_share 115 rfl) ok_Mo_bit iv_Mo_bit se_Mo_bit ml_Mo_91 rfl rfl h13 rfl rfl rfl (Nat.le_of_ble_eq_true rfl) ⟨(Nat.le_of_ble_eq_true rfl), (Nat.le_of_ble_eq_true rfl)⟩ ⟨(Nat.le_of_ble_eq_true rfl), (Nat.le_of_ble_eq_true rfl)⟩ ?_
      refine r_iload C (z_d dd_Mo_share 116 rfl) rfl ?_
      refine r_ishl C (z_d dd_Mo_share 117 rfl) ?_
      refine r_iadd C (z_d dd_Mo_share 118 rfl) ?_
      obtain ⟨v16, e17, h⟩ := zlet_ex h
      refine r_nmI e17 ?_
      refine r_istore (lv' := [some (zP l0), none, none, none, some (zI l4), some (zI l5), some (zI l6), some (zI l7), some (zI l8), some (zI l9), some (zI l10), some (zI l11), some (zI v16), some (zI l13), none]) C (z_d dd_Mo_share 119 rfl) (Nat.le_of_ble_eq_true rfl) rfl ?_
      obtain ⟨v18, e19, h⟩ := zlet_ex h
      refine r_iinc (v := v18) (lv' := [some (zP l0), none, none, none, some (zI l4), some (zI l5), some (zI l6), some (zI l7), some (zI l8), some (zI l9), some (zI l10), some (zI l11), some (zI v16), some (zI v18), none]) C (z_d dd_Mo_share 120 rfl) rfl (Nat.le_of_ble_eq_true rfl) (by rw [e19]; rfl) rfl ?_
      refine r_goto C 176 (z_d dd_Mo_share 121 rfl) (by decide) ?_
      exact ih l0 l4 l5 l6 l7 l8 l9 l10 l11 v16 v18 q14.2 h
def f_Mo_share_118 (O : zO) : Nat → Nat → Int32 → Int32 → Int32 → Int32 → Int32 → zM → Option (Int32 × zM)
  | 0, _, _, _, _, _, _, _ => none
  | n + 1, l0, l4, l5, l6, l7, l8, M =>
    if l7 ≤ 0 then
    some (((l5 + (7 : Int32)) / (8 : Int32)), M)
    else
    if l8 ≤ l4 then
    (F_Mo_highest O n (l7 + (1 : Int32)) M).bind fun q1 =>
    zlet ((1 : Int32) <<< (q1.1 &&& 31)) fun v3 =>
    zlet ((((2 : Int32) * v3) - (2 : Int32)) - l7) fun v5 =>
    if (l5 + q1.1) ≤ l6 then
    f_Mo_share_176 O (f_Mo_share_118 O n) n l0 l4 l5 l6 l7 l8 q1.1 v3 v5 (0 : Int32) (0 : Int32) q1.2
    else
    some ((-1 : Int32), q1.2)
    else
    some ((-1 : Int32), M)
set_option maxRecDepth 100000 in
set_option maxHeartbeats 4000000 in
theorem s_Mo_share_118 {X : zX} {q : Int32 × zM} (C : zC X zR12 prog_14_method_9_code 15 { frames := 1, cells := 0, slots := 0, locals := 22 }) (hr : zRt X (some .int)) (E : zE X (some (zI q.1)) q.2 0 0) : ∀ (n : Nat) (l0 : Nat) (l4 : Int32) (l5 : Int32) (l6 : Int32) (l7 : Int32) (l8 : Int32) (M : zM), f_Mo_share_118 (zOD X) n l0 l4 l5 l6 l7 l8 M = some q → zW X 0 0 118 [some (zP l0), none, none, none, some (zI l4), some (zI l5), some (zI l6), some (zI l7), some (zI l8), none, none, none, none, none, none] [] M := by
  intro n
  induction n with
  | zero => intro l0 l4 l5 l6 l7 l8 M h; rw [f_Mo_share_118] at h; cases h
  | succ n ih =>
    intro l0 l4 l5 l6 l7 l8 M h
    rw [f_Mo_share_118] at h
    refine r_iload C (z_d dd_Mo_share 72 rfl) rfl ?_
    refine r_if_le C 387 (z_d dd_Mo_share 73 rfl) (by decide) (fun c9 => ?_) (fun c9 => ?_)
    · have h := zift h c9
      refine r_iload C (z_d dd_Mo_share 221 rfl) rfl ?_
      refine r_bipush (v := (7 : Int32)) C (z_d dd_Mo_share 222 rfl) (by decide) ?_
      refine r_iadd C (z_d dd_Mo_share 223 rfl) ?_
      refine r_bipush (v := (8 : Int32)) C (z_d dd_Mo_share 224 rfl) (by decide) ?_
      refine r_idiv C (z_d dd_Mo_share 225 rfl) (by decide) ?_
      obtain rfl := z_res h
      exact r_iretI C E hr (z_d dd_Mo_share 226 rfl) (Nat.le_of_ble_eq_true rfl) (Nat.le_of_ble_eq_true rfl)
    · have h := ziff h c9
      refine r_iload C (z_d dd_Mo_share 74 rfl) rfl ?_
      refine r_iload C (z_d dd_Mo_share 75 rfl) rfl ?_
      refine r_icmp_le C 132 (z_d dd_Mo_share 76 rfl) (by decide) (fun c8 => ?_) (fun c8 => ?_)
      · have h := zift h c8
        refine r_iload C (z_d dd_Mo_share 79 rfl) rfl ?_
        refine r_iconst (v := (1 : Int32)) C (z_d dd_Mo_share 80 rfl) (by decide) ?_
        refine r_iadd C (z_d dd_Mo_share 81 rfl) ?_
        obtain ⟨q1, c2, h⟩ := zbd h
        refine r_invS (as := [zI (l7 + (1 : Int32))]) C (S_Mo_highest c2) (z_d dd_Mo_share 82 rfl) ok_Mo_highest sv_Mo_highest ml_Mo_98 rfl rfl rfl (Nat.le_of_ble_eq_true rfl) ⟨(Nat.le_of_ble_eq_true rfl), (Nat.le_of_ble_eq_true rfl)⟩ ⟨(Nat.le_of_ble_eq_true rfl), (Nat.le_of_ble_eq_true rfl)⟩ ?_
        refine r_istore (lv' := [some (zP l0), none, none, none, some (zI l4), some (zI l5), some (zI l6), some (zI l7), some (zI l8), some (zI q1.1), none, none, none, none, none]) C (z_d dd_Mo_share 83 rfl) (Nat.le_of_ble_eq_true rfl) rfl ?_
        refine r_iconst (v := (1 : Int32)) C (z_d dd_Mo_share 84 rfl) (by decide) ?_
        refine r_iload C (z_d dd_Mo_share 85 rfl) rfl ?_
        refine r_ishl C (z_d dd_Mo_share 86 rfl) ?_
        obtain ⟨v3, e4, h⟩ := zlet_ex h
        refine r_nmI e4 ?_
        refine r_istore (lv' := [some (zP l0), none, none, none, some (zI l4), some (zI l5), some (zI l6), some (zI l7), some (zI l8), some (zI q1.1), some (zI v3), none, none, none, none]) C (z_d dd_Mo_share 87 rfl) (Nat.le_of_ble_eq_true rfl) rfl ?_
        refine r_iconst (v := (2 : Int32)) C (z_d dd_Mo_share 88 rfl) (by decide) ?_
        refine r_iload C (z_d dd_Mo_share 89 rfl) rfl ?_
        refine r_imul C (z_d dd_Mo_share 90 rfl) ?_
        refine r_iconst (v := (2 : Int32)) C (z_d dd_Mo_share 91 rfl) (by decide) ?_
        refine r_isub C (z_d dd_Mo_share 92 rfl) ?_
        refine r_iload C (z_d dd_Mo_share 93 rfl) rfl ?_
        refine r_isub C (z_d dd_Mo_share 94 rfl) ?_
        obtain ⟨v5, e6, h⟩ := zlet_ex h
        refine r_nmI e6 ?_
        refine r_istore (lv' := [some (zP l0), none, none, none, some (zI l4), some (zI l5), some (zI l6), some (zI l7), some (zI l8), some (zI q1.1), some (zI v3), some (zI v5), none, none, none]) C (z_d dd_Mo_share 95 rfl) (Nat.le_of_ble_eq_true rfl) rfl ?_
        refine r_iload C (z_d dd_Mo_share 96 rfl) rfl ?_
        refine r_iload C (z_d dd_Mo_share 97 rfl) rfl ?_
        refine r_iadd C (z_d dd_Mo_share 98 rfl) ?_
        refine r_iload C (z_d dd_Mo_share 99 rfl) rfl ?_
        refine r_icmp_le C 170 (z_d dd_Mo_share 100 rfl) (by decide) (fun c7 => ?_) (fun c7 => ?_)
        · have h := zift h c7
          refine r_iconst (v := (0 : Int32)) C (z_d dd_Mo_share 103 rfl) (by decide) ?_
          refine r_istore (lv' := [some (zP l0), none, none, none, some (zI l4), some (zI l5), some (zI l6), some (zI l7), some (zI l8), some (zI q1.1), some (zI v3), some (zI v5), some (zI (0 : Int32)), none, none]) C (z_d dd_Mo_share 104 rfl) (Nat.le_of_ble_eq_true rfl) rfl ?_
          refine r_iconst (v := (0 : Int32)) C (z_d dd_Mo_share 105 rfl) (by decide) ?_
          refine r_istore (lv' := [some (zP l0), none, none, none, some (zI l4), some (zI l5), some (zI l6), some (zI l7), some (zI l8), some (zI q1.1), some (zI v3), some (zI v5), some (zI (0 : Int32)), some (zI (0 : Int32)), none]) C (z_d dd_Mo_share 106 rfl) (Nat.le_of_ble_eq_true rfl) rfl ?_
          exact s_Mo_share_176 C hr E ih n l0 l4 l5 l6 l7 l8 q1.1 v3 v5 (0 : Int32) (0 : Int32) q1.2 h
        · have h := ziff h c7
          refine r_iconst (v := (-1 : Int32)) C (z_d dd_Mo_share 101 rfl) (by decide) ?_
          obtain rfl := z_res h
          exact r_iretI C E hr (z_d dd_Mo_share 102 rfl) (Nat.le_of_ble_eq_true rfl) (Nat.le_of_ble_eq_true rfl)
      · have h := ziff h c8
        refine r_iconst (v := (-1 : Int32)) C (z_d dd_Mo_share 77 rfl) (by decide) ?_
        obtain rfl := z_res h
        exact r_iretI C E hr (z_d dd_Mo_share 78 rfl) (Nat.le_of_ble_eq_true rfl) (Nat.le_of_ble_eq_true rfl)
def f_Mo_share_85 (O : zO) : Nat → Nat → Int32 → Int32 → Int32 → Int32 → zM → Option (Int32 × zM)
  | 0, _, _, _, _, _, _ => none
  | n + 1, l0, l4, l5, l6, l7, M =>
    if (256 : Int32) ≤ l7 then
    if z_k M l0 = 13 then
    zlet ((1 : Int32) <<< ((z_i M l0 22) &&& 31)) fun v2 =>
    f_Mo_share_118 O n l0 l4 l5 l6 v2 (0 : Int32) M
    else none
    else
    if z_k M l0 = 13 then
    if z_k M (z_p M l0 21) = 100 then
    if zin l7 (z_n M (z_p M l0 21)) = true then
    zlet (w_i M (z_p M l0 21) l7.toNatClampNeg (0 : Int32)) fun M7 =>
    zlet (l7 + (1 : Int32)) fun v11 =>
    f_Mo_share_85 O n l0 l4 l5 l6 v11 M7
    else none
    else none
    else none
set_option maxRecDepth 100000 in
set_option maxHeartbeats 4000000 in
theorem s_Mo_share_85 {X : zX} {q : Int32 × zM} (C : zC X zR12 prog_14_method_9_code 15 { frames := 1, cells := 0, slots := 0, locals := 22 }) (hr : zRt X (some .int)) (E : zE X (some (zI q.1)) q.2 0 0) : ∀ (n : Nat) (l0 : Nat) (l4 : Int32) (l5 : Int32) (l6 : Int32) (l7 : Int32) (M : zM), f_Mo_share_85 (zOD X) n l0 l4 l5 l6 l7 M = some q → zW X 0 0 85 [some (zP l0), none, none, none, some (zI l4), some (zI l5), some (zI l6), some (zI l7), none, none, none, none, none, none, none] [] M := by
  intro n
  induction n with
  | zero => intro l0 l4 l5 l6 l7 M h; rw [f_Mo_share_85] at h; cases h
  | succ n ih =>
    intro l0 l4 l5 l6 l7 M h
    rw [f_Mo_share_85] at h
    refine r_iload C (z_d dd_Mo_share 55 rfl) rfl ?_
    refine r_sipush (v := (256 : Int32)) C (z_d dd_Mo_share 56 rfl) (by decide) ?_
    refine r_icmp_ge C 107 (z_d dd_Mo_share 57 rfl) (by decide) (fun c13 => ?_) (fun c13 => ?_)
    · have h := zift h c13
      refine r_iconst (v := (1 : Int32)) C (z_d dd_Mo_share 65 rfl) (by decide) ?_
      refine r_aload_n C (z_d dd_Mo_share 66 rfl) rfl ?_
      obtain ⟨h1, h⟩ := zif h
      refine r_getI C (z_d dd_Mo_share 67 rfl) lk_Mo_95 rfl h1 rfl ?_
      refine r_ishl C (z_d dd_Mo_share 68 rfl) ?_
      obtain ⟨v2, e3, h⟩ := zlet_ex h
      refine r_nmI e3 ?_
      refine r_istore (lv' := [some (zP l0), none, none, none, some (zI l4), some (zI l5), some (zI l6), some (zI v2), none, none, none, none, none, none, none]) C (z_d dd_Mo_share 69 rfl) (Nat.le_of_ble_eq_true rfl) rfl ?_
      refine r_iconst (v := (0 : Int32)) C (z_d dd_Mo_share 70 rfl) (by decide) ?_
      refine r_istore (lv' := [some (zP l0), none, none, none, some (zI l4), some (zI l5), some (zI l6), some (zI v2), some (zI (0 : Int32)), none, none, none, none, none, none]) C (z_d dd_Mo_share 71 rfl) (Nat.le_of_ble_eq_true rfl) rfl ?_
      exact s_Mo_share_118 C hr E n l0 l4 l5 l6 v2 (0 : Int32) M h
    · have h := ziff h c13
      refine r_aload_n C (z_d dd_Mo_share 58 rfl) rfl ?_
      obtain ⟨h4, h⟩ := zif h
      refine r_getP C (z_d dd_Mo_share 59 rfl) lk_Mo_57 rfl h4 rfl ?_
      refine r_iload C (z_d dd_Mo_share 60 rfl) rfl ?_
      refine r_iconst (v := (0 : Int32)) C (z_d dd_Mo_share 61 rfl) (by decide) ?_
      obtain ⟨h5, h⟩ := zif h
      obtain ⟨h6, h⟩ := zif h
      obtain ⟨M7, e8, h⟩ := zlet_ex h
      have h9 := k_i e8 h4
      have h10 := k_i e8 h5
      refine r_iast C (z_d dd_Mo_share 62 rfl) h5 h6 e8 ?_
      obtain ⟨v11, e12, h⟩ := zlet_ex h
      refine r_iinc (v := v11) (lv' := [some (zP l0), none, none, none, some (zI l4), some (zI l5), some (zI l6), some (zI v11), none, none, none, none, none, none, none]) C (z_d dd_Mo_share 63 rfl) rfl (Nat.le_of_ble_eq_true rfl) (by rw [e12]; rfl) rfl ?_
      refine r_goto C 85 (z_d dd_Mo_share 64 rfl) (by decide) ?_
      exact ih l0 l4 l5 l6 v11 M7 h
def f_Mo_share_0 (O : zO) (n : Nat) (l0 : Nat) (l1 : Int32) (l2 : Int32) (l3 : Int32) (l4 : Int32) (M : zM) : Option (Int32 × zM) :=
  zlet ((8 : Int32) * l1) fun v1 =>
  zlet ((8 : Int32) * l2) fun v3 =>
  if (v1 + (4 : Int32)) ≤ v3 then
  if z_k M l0 = 13 then
  (F_Mo_bit O n l0 v1 M).bind fun q6 =>
  if z_k q6.2 l0 = 13 then
  (F_Mo_bit O n l0 (v1 + (1 : Int32)) q6.2).bind fun q9 =>
  if z_k q9.2 l0 = 13 then
  (F_Mo_bit O n l0 (v1 + (2 : Int32)) q9.2).bind fun q12 =>
  if z_k q12.2 l0 = 13 then
  (F_Mo_bit O n l0 (v1 + (3 : Int32)) q12.2).bind fun q15 =>
  if z_k q15.2 l0 = 13 then
  zlet (w_i q15.2 l0 22 (((((5 : Int32) + q6.1) + ((2 : Int32) * q9.1)) + ((4 : Int32) * q12.1)) + ((8 : Int32) * q15.1))) fun M18 =>
  zlet (v1 + (4 : Int32)) fun v21 =>
  if (z_i M18 l0 22) ≤ l3 then
  f_Mo_share_85 O n l0 l4 v21 v3 (0 : Int32) M18
  else
  some ((-1 : Int32), M18)
  else none
  else none
  else none
  else none
  else none
  else
  some ((-1 : Int32), M)
set_option maxRecDepth 100000 in
set_option maxHeartbeats 4000000 in
theorem s_Mo_share_0 {X : zX} {q : Int32 × zM} (C : zC X zR12 prog_14_method_9_code 15 { frames := 1, cells := 0, slots := 0, locals := 22 }) (hr : zRt X (some .int)) (E : zE X (some (zI q.1)) q.2 0 0) : ∀ (n : Nat) (l0 : Nat) (l1 : Int32) (l2 : Int32) (l3 : Int32) (l4 : Int32) (M : zM), f_Mo_share_0 (zOD X) n l0 l1 l2 l3 l4 M = some q → zW X 0 0 0 [some (zP l0), some (zI l1), some (zI l2), some (zI l3), some (zI l4), none, none, none, none, none, none, none, none, none, none] [] M := by
  intro n l0 l1 l2 l3 l4 M h
  rw [f_Mo_share_0] at h
  refine r_bipush (v := (8 : Int32)) C (z_d dd_Mo_share 0 rfl) (by decide) ?_
  refine r_iload_n C (z_d dd_Mo_share 1 rfl) rfl ?_
  refine r_imul C (z_d dd_Mo_share 2 rfl) ?_
  obtain ⟨v1, e2, h⟩ := zlet_ex h
  refine r_nmI e2 ?_
  refine r_istore (lv' := [some (zP l0), some (zI l1), some (zI l2), some (zI l3), some (zI l4), some (zI v1), none, none, none, none, none, none, none, none, none]) C (z_d dd_Mo_share 3 rfl) (Nat.le_of_ble_eq_true rfl) rfl ?_
  refine r_bipush (v := (8 : Int32)) C (z_d dd_Mo_share 4 rfl) (by decide) ?_
  refine r_iload_n C (z_d dd_Mo_share 5 rfl) rfl ?_
  refine r_imul C (z_d dd_Mo_share 6 rfl) ?_
  obtain ⟨v3, e4, h⟩ := zlet_ex h
  refine r_nmI e4 ?_
  refine r_istore (lv' := [some (zP l0), some (zI l1), some (zI l2), some (zI l3), some (zI l4), some (zI v1), some (zI v3), none, none, none, none, none, none, none, none]) C (z_d dd_Mo_share 7 rfl) (Nat.le_of_ble_eq_true rfl) rfl ?_
  refine r_iload C (z_d dd_Mo_share 8 rfl) rfl ?_
  refine r_iconst (v := (4 : Int32)) C (z_d dd_Mo_share 9 rfl) (by decide) ?_
  refine r_iadd C (z_d dd_Mo_share 10 rfl) ?_
  refine r_iload C (z_d dd_Mo_share 11 rfl) rfl ?_
  refine r_icmp_le C 23 (z_d dd_Mo_share 12 rfl) (by decide) (fun c24 => ?_) (fun c24 => ?_)
  · have h := zift h c24
    refine r_aload_n C (z_d dd_Mo_share 15 rfl) rfl ?_
    refine r_iconst (v := (5 : Int32)) C (z_d dd_Mo_share 16 rfl) (by decide) ?_
    refine r_aload_n C (z_d dd_Mo_share 17 rfl) rfl ?_
    refine r_iload C (z_d dd_Mo_share 18 rfl) rfl ?_
    obtain ⟨h5, h⟩ := zif h
    obtain ⟨q6, c7, h⟩ := zbd h
    refine r_invV (as := [zI v1]) C 12 (S_Mo_bit c7) (z_d dd_Mo_share 19 rfl) ok_Mo_bit iv_Mo_bit se_Mo_bit ml_Mo_91 rfl rfl h5 rfl rfl rfl (Nat.le_of_ble_eq_true rfl) ⟨(Nat.le_of_ble_eq_true rfl), (Nat.le_of_ble_eq_true rfl)⟩ ⟨(Nat.le_of_ble_eq_true rfl), (Nat.le_of_ble_eq_true rfl)⟩ ?_
    refine r_iadd C (z_d dd_Mo_share 20 rfl) ?_
    refine r_iconst (v := (2 : Int32)) C (z_d dd_Mo_share 21 rfl) (by decide) ?_
    refine r_aload_n C (z_d dd_Mo_share 22 rfl) rfl ?_
    refine r_iload C (z_d dd_Mo_share 23 rfl) rfl ?_
    refine r_iconst (v := (1 : Int32)) C (z_d dd_Mo_share 24 rfl) (by decide) ?_
    refine r_iadd C (z_d dd_Mo_share 25 rfl) ?_
    obtain ⟨h8, h⟩ := zif h
    obtain ⟨q9, c10, h⟩ := zbd h
    refine r_invV (as := [zI (v1 + (1 : Int32))]) C 12 (S_Mo_bit c10) (z_d dd_Mo_share 26 rfl) ok_Mo_bit iv_Mo_bit se_Mo_bit ml_Mo_91 rfl rfl h8 rfl rfl rfl (Nat.le_of_ble_eq_true rfl) ⟨(Nat.le_of_ble_eq_true rfl), (Nat.le_of_ble_eq_true rfl)⟩ ⟨(Nat.le_of_ble_eq_true rfl), (Nat.le_of_ble_eq_true rfl)⟩ ?_
    refine r_imul C (z_d dd_Mo_share 27 rfl) ?_
    refine r_iadd C (z_d dd_Mo_share 28 rfl) ?_
    refine r_iconst (v := (4 : Int32)) C (z_d dd_Mo_share 29 rfl) (by decide) ?_
    refine r_aload_n C (z_d dd_Mo_share 30 rfl) rfl ?_
    refine r_iload C (z_d dd_Mo_share 31 rfl) rfl ?_
    refine r_iconst (v := (2 : Int32)) C (z_d dd_Mo_share 32 rfl) (by decide) ?_
    refine r_iadd C (z_d dd_Mo_share 33 rfl) ?_
    obtain ⟨h11, h⟩ := zif h
    obtain ⟨q12, c13, h⟩ := zbd h
    refine r_invV (as := [zI (v1 + (2 : Int32))]) C 12 (S_Mo_bit c13) (z_d dd_Mo_share 34 rfl) ok_Mo_bit iv_Mo_bit se_Mo_bit ml_Mo_91 rfl rfl h11 rfl rfl rfl (Nat.le_of_ble_eq_true rfl) ⟨(Nat.le_of_ble_eq_true rfl), (Nat.le_of_ble_eq_true rfl)⟩ ⟨(Nat.le_of_ble_eq_true rfl), (Nat.le_of_ble_eq_true rfl)⟩ ?_
    refine r_imul C (z_d dd_Mo_share 35 rfl) ?_
    refine r_iadd C (z_d dd_Mo_share 36 rfl) ?_
    refine r_bipush (v := (8 : Int32)) C (z_d dd_Mo_share 37 rfl) (by decide) ?_
    refine r_aload_n C (z_d dd_Mo_share 38 rfl) rfl ?_
    refine r_iload C (z_d dd_Mo_share 39 rfl) rfl ?_
    refine r_iconst (v := (3 : Int32)) C (z_d dd_Mo_share 40 rfl) (by decide) ?_
    refine r_iadd C (z_d dd_Mo_share 41 rfl) ?_
    obtain ⟨h14, h⟩ := zif h
    obtain ⟨q15, c16, h⟩ := zbd h
    refine r_invV (as := [zI (v1 + (3 : Int32))]) C 12 (S_Mo_bit c16) (z_d dd_Mo_share 42 rfl) ok_Mo_bit iv_Mo_bit se_Mo_bit ml_Mo_91 rfl rfl h14 rfl rfl rfl (Nat.le_of_ble_eq_true rfl) ⟨(Nat.le_of_ble_eq_true rfl), (Nat.le_of_ble_eq_true rfl)⟩ ⟨(Nat.le_of_ble_eq_true rfl), (Nat.le_of_ble_eq_true rfl)⟩ ?_
    refine r_imul C (z_d dd_Mo_share 43 rfl) ?_
    refine r_iadd C (z_d dd_Mo_share 44 rfl) ?_
    obtain ⟨h17, h⟩ := zif h
    obtain ⟨M18, e19, h⟩ := zlet_ex h
    have h20 := k_i e19 h17
    refine r_putI C (z_d dd_Mo_share 45 rfl) lp_Mo_95 rfl h17 e19 ?_
    obtain ⟨v21, e22, h⟩ := zlet_ex h
    refine r_iinc (v := v21) (lv' := [some (zP l0), some (zI l1), some (zI l2), some (zI l3), some (zI l4), some (zI v21), some (zI v3), none, none, none, none, none, none, none, none]) C (z_d dd_Mo_share 46 rfl) rfl (Nat.le_of_ble_eq_true rfl) (by rw [e22]; rfl) rfl ?_
    refine r_aload_n C (z_d dd_Mo_share 47 rfl) rfl ?_
    refine r_getI C (z_d dd_Mo_share 48 rfl) lk_Mo_95 rfl h20 rfl ?_
    refine r_iload_n C (z_d dd_Mo_share 49 rfl) rfl ?_
    refine r_icmp_le C 82 (z_d dd_Mo_share 50 rfl) (by decide) (fun c23 => ?_) (fun c23 => ?_)
    · have h := zift h c23
      refine r_iconst (v := (0 : Int32)) C (z_d dd_Mo_share 53 rfl) (by decide) ?_
      refine r_istore (lv' := [some (zP l0), some (zI l1), some (zI l2), some (zI l3), some (zI l4), some (zI v21), some (zI v3), some (zI (0 : Int32)), none, none, none, none, none, none, none]) C (z_d dd_Mo_share 54 rfl) (Nat.le_of_ble_eq_true rfl) rfl ?_
      refine r_mk [true, false, false, false, true, true, true, true, false, false, false, false, false, false, false] ?_
      exact s_Mo_share_85 C hr E n l0 l4 v21 v3 (0 : Int32) M18 h
    · have h := ziff h c23
      refine r_iconst (v := (-1 : Int32)) C (z_d dd_Mo_share 51 rfl) (by decide) ?_
      obtain rfl := z_res h
      exact r_iretI C E hr (z_d dd_Mo_share 52 rfl) (Nat.le_of_ble_eq_true rfl) (Nat.le_of_ble_eq_true rfl)
  · have h := ziff h c24
    refine r_iconst (v := (-1 : Int32)) C (z_d dd_Mo_share 13 rfl) (by decide) ?_
    obtain rfl := z_res h
    exact r_iretI C E hr (z_d dd_Mo_share 14 rfl) (Nat.le_of_ble_eq_true rfl) (Nat.le_of_ble_eq_true rfl)
def F_Mo_share (O : zO) (n : Nat) (l0 : Nat) (l1 : Int32) (l2 : Int32) (l3 : Int32) (l4 : Int32) (M : zM) : Option (Int32 × zM) := f_Mo_share_0 O n l0 l1 l2 l3 l4 M
theorem S_Mo_share {l : Launch} {D : zD} {n : Nat} {l0 : Nat} {l1 : Int32} {l2 : Int32} {l3 : Int32} {l4 : Int32} {M : zM} {q : Int32 × zM} (h : F_Mo_share D.2.2.2.2 n l0 l1 l2 l3 l4 M = some q) : zMet l D mi_Mo_share [zP l0, zI l1, zI l2, zI l3, zI l4] M (some (zI q.1)) q.2 :=
  z_met (by decide) (Nat.le_of_ble_eq_true rfl) (fun X C E hr hin hD hl => by
    subst hD
    exact s_Mo_share_0 C hr E n l0 l1 l2 l3 l4 M h)

def f_Mo_open_16 (O : zO) (n : Nat) (M : zM) : Option (Int32 × zM) :=
  some ((0 : Int32), M)
set_option maxRecDepth 100000 in
set_option maxHeartbeats 4000000 in
theorem s_Mo_open_16 {X : zX} {q : Int32 × zM} (C : zC X zR12 prog_14_method_15_code 3 { frames := 1, cells := 0, slots := 0, locals := 22 }) (hr : zRt X (some .boolean)) (E : zE X (some (zI q.1)) q.2 0 0) : ∀ (n : Nat) (M : zM), f_Mo_open_16 (zOD X) n M = some q → zW X 0 0 16 [none, none, none] [] M := by
  intro n M h
  rw [f_Mo_open_16] at h
  refine r_iconst (v := (0 : Int32)) C (z_d dd_Mo_open 10 rfl) (by decide) ?_
  obtain rfl := z_res h
  exact r_iretZ C E hr (z_d dd_Mo_open 11 rfl) (by decide) (Nat.le_of_ble_eq_true rfl) (Nat.le_of_ble_eq_true rfl)
def f_Mo_open_0 (O : zO) (n : Nat) (l0 : Nat) (l1 : Int32) (l2 : Int32) (M : zM) : Option (Int32 × zM) :=
  if l2 ≤ l1 then
  f_Mo_open_16 O n M
  else
  if z_k M l0 = 13 then
  if z_k M (z_p M l0 0) = 100 then
  if zin (l2 - (1 : Int32)) (z_n M (z_p M l0 0)) = true then
  if (z_i M (z_p M l0 0) (l2 - (1 : Int32)).toNatClampNeg) = 0 then
  f_Mo_open_16 O n M
  else
  zlet (w_i M l0 47 ((8 : Int32) * l1)) fun M4 =>
  if z_k M4 (z_p M4 l0 0) = 100 then
  if zin (l2 - (1 : Int32)) (z_n M4 (z_p M4 l0 0)) = true then
  (F_Mo_highest O n (z_i M4 (z_p M4 l0 0) (l2 - (1 : Int32)).toNatClampNeg) M4).bind fun q10 =>
  if z_k q10.2 l0 = 13 then
  zlet (w_i q10.2 l0 48 (((8 : Int32) * ((l2 - (1 : Int32)) - l1)) + q10.1)) fun M13 =>
  some ((1 : Int32), M13)
  else none
  else none
  else none
  else none
  else none
  else none
set_option maxRecDepth 100000 in
set_option maxHeartbeats 4000000 in
theorem s_Mo_open_0 {X : zX} {q : Int32 × zM} (C : zC X zR12 prog_14_method_15_code 3 { frames := 1, cells := 0, slots := 0, locals := 22 }) (hr : zRt X (some .boolean)) (E : zE X (some (zI q.1)) q.2 0 0) : ∀ (n : Nat) (l0 : Nat) (l1 : Int32) (l2 : Int32) (M : zM), f_Mo_open_0 (zOD X) n l0 l1 l2 M = some q → zW X 0 0 0 [some (zP l0), some (zI l1), some (zI l2)] [] M := by
  intro n l0 l1 l2 M h
  rw [f_Mo_open_0] at h
  refine r_iload_n C (z_d dd_Mo_open 0 rfl) rfl ?_
  refine r_iload_n C (z_d dd_Mo_open 1 rfl) rfl ?_
  refine r_icmp_ge C 16 (z_d dd_Mo_open 2 rfl) (by decide) (fun c17 => ?_) (fun c17 => ?_)
  · have h := zift h c17
    refine r_mk [false, false, false] ?_
    exact s_Mo_open_16 C hr E n M h
  · have h := ziff h c17
    refine r_aload_n C (z_d dd_Mo_open 3 rfl) rfl ?_
    obtain ⟨h1, h⟩ := zif h
    refine r_getP C (z_d dd_Mo_open 4 rfl) lk_Mo_7 rfl h1 rfl ?_
    refine r_iload_n C (z_d dd_Mo_open 5 rfl) rfl ?_
    refine r_iconst (v := (1 : Int32)) C (z_d dd_Mo_open 6 rfl) (by decide) ?_
    refine r_isub C (z_d dd_Mo_open 7 rfl) ?_
    obtain ⟨h2, h⟩ := zif h
    obtain ⟨h3, h⟩ := zif h
    refine r_iald C (z_d dd_Mo_open 8 rfl) h2 h3 rfl ?_
    refine r_if_ne C 18 (z_d dd_Mo_open 9 rfl) (by decide) (fun c16 => ?_) (fun c16 => ?_)
    · have h := ziff h c16
      refine r_aload_n C (z_d dd_Mo_open 12 rfl) rfl ?_
      refine r_bipush (v := (8 : Int32)) C (z_d dd_Mo_open 13 rfl) (by decide) ?_
      refine r_iload_n C (z_d dd_Mo_open 14 rfl) rfl ?_
      refine r_imul C (z_d dd_Mo_open 15 rfl) ?_
      obtain ⟨M4, e5, h⟩ := zlet_ex h
      have h6 := k_i e5 h1
      have h7 := k_i e5 h2
      refine r_putI C (z_d dd_Mo_open 16 rfl) lp_Mo_113 rfl h1 e5 ?_
      refine r_aload_n C (z_d dd_Mo_open 17 rfl) rfl ?_
      refine r_bipush (v := (8 : Int32)) C (z_d dd_Mo_open 18 rfl) (by decide) ?_
      refine r_iload_n C (z_d dd_Mo_open 19 rfl) rfl ?_
      refine r_iconst (v := (1 : Int32)) C (z_d dd_Mo_open 20 rfl) (by decide) ?_
      refine r_isub C (z_d dd_Mo_open 21 rfl) ?_
      refine r_iload_n C (z_d dd_Mo_open 22 rfl) rfl ?_
      refine r_isub C (z_d dd_Mo_open 23 rfl) ?_
      refine r_imul C (z_d dd_Mo_open 24 rfl) ?_
      refine r_aload_n C (z_d dd_Mo_open 25 rfl) rfl ?_
      refine r_getP C (z_d dd_Mo_open 26 rfl) lk_Mo_7 rfl h6 rfl ?_
      refine r_iload_n C (z_d dd_Mo_open 27 rfl) rfl ?_
      refine r_iconst (v := (1 : Int32)) C (z_d dd_Mo_open 28 rfl) (by decide) ?_
      refine r_isub C (z_d dd_Mo_open 29 rfl) ?_
      obtain ⟨h8, h⟩ := zif h
      obtain ⟨h9, h⟩ := zif h
      refine r_iald C (z_d dd_Mo_open 30 rfl) h8 h9 rfl ?_
      obtain ⟨q10, c11, h⟩ := zbd h
      refine r_invS (as := [zI (z_i M4 (z_p M4 l0 0) (l2 - (1 : Int32)).toNatClampNeg)]) C (S_Mo_highest c11) (z_d dd_Mo_open 31 rfl) ok_Mo_highest sv_Mo_highest ml_Mo_98 rfl rfl rfl (Nat.le_of_ble_eq_true rfl) ⟨(Nat.le_of_ble_eq_true rfl), (Nat.le_of_ble_eq_true rfl)⟩ ⟨(Nat.le_of_ble_eq_true rfl), (Nat.le_of_ble_eq_true rfl)⟩ ?_
      refine r_iadd C (z_d dd_Mo_open 32 rfl) ?_
      obtain ⟨h12, h⟩ := zif h
      obtain ⟨M13, e14, h⟩ := zlet_ex h
      have h15 := k_i e14 h12
      refine r_putI C (z_d dd_Mo_open 33 rfl) lp_Mo_116 rfl h12 e14 ?_
      refine r_iconst (v := (1 : Int32)) C (z_d dd_Mo_open 34 rfl) (by decide) ?_
      obtain rfl := z_res h
      exact r_iretZ C E hr (z_d dd_Mo_open 35 rfl) (by decide) (Nat.le_of_ble_eq_true rfl) (Nat.le_of_ble_eq_true rfl)
    · have h := zift h c16
      refine r_mk [false, false, false] ?_
      exact s_Mo_open_16 C hr E n M h
def F_Mo_open (O : zO) (n : Nat) (l0 : Nat) (l1 : Int32) (l2 : Int32) (M : zM) : Option (Int32 × zM) := f_Mo_open_0 O n l0 l1 l2 M
theorem S_Mo_open {l : Launch} {D : zD} {n : Nat} {l0 : Nat} {l1 : Int32} {l2 : Int32} {M : zM} {q : Int32 × zM} (h : F_Mo_open D.2.2.2.2 n l0 l1 l2 M = some q) : zMet l D mi_Mo_open [zP l0, zI l1, zI l2] M (some (zI q.1)) q.2 :=
  z_met (by decide) (Nat.le_of_ble_eq_true rfl) (fun X C E hr hin hD hl => by
    subst hD
    exact s_Mo_open_0 C hr E n l0 l1 l2 M h)

def f_Mo_lay_207 (O : zO) : Nat → Nat → Int32 → Nat → Nat → Nat → Int32 → Int32 → Int32 → zM → Option (Unit × zM)
  | 0, _, _, _, _, _, _, _, _, _ => none
  | n + 1, l0, l4, l5, l6, l7, l8, l9, l13, M =>
    if l9 ≤ l13 then
    some ((), M)
    else
    if z_k M l5 = 100 then
    if zin (l8 + l13) (z_n M l5) = true then
    zlet (z_i M l5 (l8 + l13).toNatClampNeg) fun v3 =>
    if z_k M l0 = 13 then
    if z_k M (z_p M l0 24) = 100 then
    if zin v3 (z_n M (z_p M l0 24)) = true then
    zlet (z_i M (z_p M l0 24) v3.toNatClampNeg) fun v8 =>
    if zin v3 (z_n M (z_p M l0 24)) = true then
    if zin v3 (z_n M (z_p M l0 24)) = true then
    zlet (w_i M (z_p M l0 24) v3.toNatClampNeg ((z_i M (z_p M l0 24) v3.toNatClampNeg) + (1 : Int32))) fun M12 =>
    (F_Mo_highest O n v8 M12).bind fun q17 =>
    zlet (l4 - q17.1) fun v19 =>
    if z_k q17.2 l6 = 100 then
    if zin (l8 + l13) (z_n q17.2 l6) = true then
    zlet (w_i q17.2 l6 (l8 + l13).toNatClampNeg v19) fun M23 =>
    if z_k M23 l7 = 100 then
    if zin (l8 + l13) (z_n M23 l7) = true then
    zlet (w_i M23 l7 (l8 + l13).toNatClampNeg ((v8 <<< (v19 &&& 31)) - l9)) fun M28 =>
    zlet (l13 + (1 : Int32)) fun v32 =>
    f_Mo_lay_207 O n l0 l4 l5 l6 l7 l8 l9 v32 M28
    else none
    else none
    else none
    else none
    else none
    else none
    else none
    else none
    else none
    else none
    else none
set_option maxRecDepth 100000 in
set_option maxHeartbeats 4000000 in
theorem s_Mo_lay_207 {X : zX} {q : Unit × zM} (C : zC X zR12 prog_14_method_10_code 17 { frames := 1, cells := 0, slots := 0, locals := 22 }) (hr : zRt X none) (E : zE X none q.2 0 0) : ∀ (n : Nat) (l0 : Nat) (l4 : Int32) (l5 : Nat) (l6 : Nat) (l7 : Nat) (l8 : Int32) (l9 : Int32) (l13 : Int32) (M : zM), f_Mo_lay_207 (zOD X) n l0 l4 l5 l6 l7 l8 l9 l13 M = some q → zW X 0 0 207 [some (zP l0), none, none, none, some (zI l4), some (zP l5), some (zP l6), some (zP l7), some (zI l8), some (zI l9), none, none, none, some (zI l13), none, none, none] [] M := by
  intro n
  induction n with
  | zero => intro l0 l4 l5 l6 l7 l8 l9 l13 M h; rw [f_Mo_lay_207] at h; cases h
  | succ n ih =>
    intro l0 l4 l5 l6 l7 l8 l9 l13 M h
    rw [f_Mo_lay_207] at h
    refine r_iload C (z_d dd_Mo_lay 117 rfl) rfl ?_
    refine r_iload C (z_d dd_Mo_lay 118 rfl) rfl ?_
    refine r_icmp_ge C 286 (z_d dd_Mo_lay 119 rfl) (by decide) (fun c34 => ?_) (fun c34 => ?_)
    · have h := zift h c34
      obtain rfl := z_res h
      exact r_vret C E hr (z_d dd_Mo_lay 162 rfl) (Nat.le_of_ble_eq_true rfl) (Nat.le_of_ble_eq_true rfl)
    · have h := ziff h c34
      refine r_aload C (z_d dd_Mo_lay 120 rfl) rfl ?_
      refine r_iload C (z_d dd_Mo_lay 121 rfl) rfl ?_
      refine r_iload C (z_d dd_Mo_lay 122 rfl) rfl ?_
      refine r_iadd C (z_d dd_Mo_lay 123 rfl) ?_
      obtain ⟨h1, h⟩ := zif h
      obtain ⟨h2, h⟩ := zif h
      refine r_iald C (z_d dd_Mo_lay 124 rfl) h1 h2 rfl ?_
      obtain ⟨v3, e4, h⟩ := zlet_ex h
      refine r_nmI e4 ?_
      refine r_istore (lv' := [some (zP l0), none, none, none, some (zI l4), some (zP l5), some (zP l6), some (zP l7), some (zI l8), some (zI l9), none, none, none, some (zI l13), some (zI v3), none, none]) C (z_d dd_Mo_lay 125 rfl) (Nat.le_of_ble_eq_true rfl) rfl ?_
      refine r_aload_n C (z_d dd_Mo_lay 126 rfl) rfl ?_
      obtain ⟨h5, h⟩ := zif h
      refine r_getP C (z_d dd_Mo_lay 127 rfl) lk_Mo_63 rfl h5 rfl ?_
      refine r_iload C (z_d dd_Mo_lay 128 rfl) rfl ?_
      obtain ⟨h6, h⟩ := zif h
      obtain ⟨h7, h⟩ := zif h
      refine r_iald C (z_d dd_Mo_lay 129 rfl) h6 h7 rfl ?_
      obtain ⟨v8, e9, h⟩ := zlet_ex h
      refine r_nmI e9 ?_
      refine r_istore (lv' := [some (zP l0), none, none, none, some (zI l4), some (zP l5), some (zP l6), some (zP l7), some (zI l8), some (zI l9), none, none, none, some (zI l13), some (zI v3), some (zI v8), none]) C (z_d dd_Mo_lay 130 rfl) (Nat.le_of_ble_eq_true rfl) rfl ?_
      refine r_aload_n C (z_d dd_Mo_lay 131 rfl) rfl ?_
      refine r_getP C (z_d dd_Mo_lay 132 rfl) lk_Mo_63 rfl h5 rfl ?_
      refine r_iload C (z_d dd_Mo_lay 133 rfl) rfl ?_
      refine r_dup2IP C (z_d dd_Mo_lay 134 rfl) ?_
      obtain ⟨h10, h⟩ := zif h
      refine r_iald C (z_d dd_Mo_lay 135 rfl) h6 h10 rfl ?_
      refine r_iconst (v := (1 : Int32)) C (z_d dd_Mo_lay 136 rfl) (by decide) ?_
      refine r_iadd C (z_d dd_Mo_lay 137 rfl) ?_
      obtain ⟨h11, h⟩ := zif h
      obtain ⟨M12, e13, h⟩ := zlet_ex h
      have h14 := k_i e13 h1
      have h15 := k_i e13 h5
      have h16 := k_i e13 h6
      refine r_iast C (z_d dd_Mo_lay 138 rfl) h6 h11 e13 ?_
      refine r_iload C (z_d dd_Mo_lay 139 rfl) rfl ?_
      refine r_iload C (z_d dd_Mo_lay 140 rfl) rfl ?_
      obtain ⟨q17, c18, h⟩ := zbd h
      refine r_invS (as := [zI v8]) C (S_Mo_highest c18) (z_d dd_Mo_lay 141 rfl) ok_Mo_highest sv_Mo_highest ml_Mo_98 rfl rfl rfl (Nat.le_of_ble_eq_true rfl) ⟨(Nat.le_of_ble_eq_true rfl), (Nat.le_of_ble_eq_true rfl)⟩ ⟨(Nat.le_of_ble_eq_true rfl), (Nat.le_of_ble_eq_true rfl)⟩ ?_
      refine r_isub C (z_d dd_Mo_lay 142 rfl) ?_
      obtain ⟨v19, e20, h⟩ := zlet_ex h
      refine r_nmI e20 ?_
      refine r_istore (lv' := [some (zP l0), none, none, none, some (zI l4), some (zP l5), some (zP l6), some (zP l7), some (zI l8), some (zI l9), none, none, none, some (zI l13), some (zI v3), some (zI v8), some (zI v19)]) C (z_d dd_Mo_lay 143 rfl) (Nat.le_of_ble_eq_true rfl) rfl ?_
      refine r_aload C (z_d dd_Mo_lay 144 rfl) rfl ?_
      refine r_iload C (z_d dd_Mo_lay 145 rfl) rfl ?_
      refine r_iload C (z_d dd_Mo_lay 146 rfl) rfl ?_
      refine r_iadd C (z_d dd_Mo_lay 147 rfl) ?_
      refine r_iload C (z_d dd_Mo_lay 148 rfl) rfl ?_
      obtain ⟨h21, h⟩ := zif h
      obtain ⟨h22, h⟩ := zif h
      obtain ⟨M23, e24, h⟩ := zlet_ex h
      have h25 := k_i e24 h21
      refine r_iast C (z_d dd_Mo_lay 149 rfl) h21 h22 e24 ?_
      refine r_aload C (z_d dd_Mo_lay 150 rfl) rfl ?_
      refine r_iload C (z_d dd_Mo_lay 151 rfl) rfl ?_
      refine r_iload C (z_d dd_Mo_lay 152 rfl) rfl ?_
      refine r_iadd C (z_d dd_Mo_lay 153 rfl) ?_
      refine r_iload C (z_d dd_Mo_lay 154 rfl) rfl ?_
      refine r_iload C (z_d dd_Mo_lay 155 rfl) rfl ?_
      refine r_ishl C (z_d dd_Mo_lay 156 rfl) ?_
      refine r_iload C (z_d dd_Mo_lay 157 rfl) rfl ?_
      refine r_isub C (z_d dd_Mo_lay 158 rfl) ?_
      obtain ⟨h26, h⟩ := zif h
      obtain ⟨h27, h⟩ := zif h
      obtain ⟨M28, e29, h⟩ := zlet_ex h
      have h30 := k_i e29 h25
      have h31 := k_i e29 h26
      refine r_iast C (z_d dd_Mo_lay 159 rfl) h26 h27 e29 ?_
      obtain ⟨v32, e33, h⟩ := zlet_ex h
      refine r_iinc (v := v32) (lv' := [some (zP l0), none, none, none, some (zI l4), some (zP l5), some (zP l6), some (zP l7), some (zI l8), some (zI l9), none, none, none, some (zI v32), some (zI v3), some (zI v8), some (zI v19)]) C (z_d dd_Mo_lay 160 rfl) rfl (Nat.le_of_ble_eq_true rfl) (by rw [e33]; rfl) rfl ?_
      refine r_goto C 207 (z_d dd_Mo_lay 161 rfl) (by decide) ?_
      refine r_mk [true, false, false, false, true, true, true, true, true, true, false, false, false, true, false, false, false] ?_
      exact ih l0 l4 l5 l6 l7 l8 l9 v32 M28 h
def f_Mo_lay_197 (O : zO) (k165 : Nat → Nat → Int32 → Int32 → Int32 → Nat → Nat → Nat → Int32 → Int32 → Int32 → zM → Option (Unit × zM)) (n : Nat) (l0 : Nat) (l1 : Nat) (l2 : Int32) (l3 : Int32) (l4 : Int32) (l5 : Nat) (l6 : Nat) (l7 : Nat) (l8 : Int32) (l9 : Int32) (l13 : Int32) (s0 : Nat) (s1 : Int32) (s2 : Int32) (M : zM) : Option (Unit × zM) :=
  if z_k M s0 = 100 then
  if zin s1 (z_n M s0) = true then
  zlet (w_i M s0 s1.toNatClampNeg s2) fun M3 =>
  zlet (l13 + (1 : Int32)) fun v6 =>
  k165 l0 l1 l2 l3 l4 l5 l6 l7 l8 l9 v6 M3
  else none
  else none
set_option maxRecDepth 100000 in
set_option maxHeartbeats 4000000 in
theorem s_Mo_lay_197 {X : zX} {q : Unit × zM} (C : zC X zR12 prog_14_method_10_code 17 { frames := 1, cells := 0, slots := 0, locals := 22 }) (hr : zRt X none) (E : zE X none q.2 0 0) {k165 : Nat → Nat → Int32 → Int32 → Int32 → Nat → Nat → Nat → Int32 → Int32 → Int32 → zM → Option (Unit × zM)} (hk165 : ∀ (l0 : Nat) (l1 : Nat) (l2 : Int32) (l3 : Int32) (l4 : Int32) (l5 : Nat) (l6 : Nat) (l7 : Nat) (l8 : Int32) (l9 : Int32) (l13 : Int32) (M : zM), k165 l0 l1 l2 l3 l4 l5 l6 l7 l8 l9 l13 M = some q → zW X 0 0 165 [some (zP l0), some (zP l1), some (zI l2), some (zI l3), some (zI l4), some (zP l5), some (zP l6), some (zP l7), some (zI l8), some (zI l9), none, none, none, some (zI l13), none, none, none] [] M) : ∀ (n : Nat) (l0 : Nat) (l1 : Nat) (l2 : Int32) (l3 : Int32) (l4 : Int32) (l5 : Nat) (l6 : Nat) (l7 : Nat) (l8 : Int32) (l9 : Int32) (l13 : Int32) (s0 : Nat) (s1 : Int32) (s2 : Int32) (M : zM), f_Mo_lay_197 (zOD X) k165 n l0 l1 l2 l3 l4 l5 l6 l7 l8 l9 l13 s0 s1 s2 M = some q → zW X 0 0 197 [some (zP l0), some (zP l1), some (zI l2), some (zI l3), some (zI l4), some (zP l5), some (zP l6), some (zP l7), some (zI l8), some (zI l9), none, none, none, some (zI l13), none, none, none] [zI s2, zI s1, zP s0] M := by
  intro n l0 l1 l2 l3 l4 l5 l6 l7 l8 l9 l13 s0 s1 s2 M h
  rw [f_Mo_lay_197] at h
  obtain ⟨h1, h⟩ := zif h
  obtain ⟨h2, h⟩ := zif h
  obtain ⟨M3, e4, h⟩ := zlet_ex h
  have h5 := k_i e4 h1
  refine r_iast C (z_d dd_Mo_lay 112 rfl) h1 h2 e4 ?_
  obtain ⟨v6, e7, h⟩ := zlet_ex h
  refine r_iinc (v := v6) (lv' := [some (zP l0), some (zP l1), some (zI l2), some (zI l3), some (zI l4), some (zP l5), some (zP l6), some (zP l7), some (zI l8), some (zI l9), none, none, none, some (zI v6), none, none, none]) C (z_d dd_Mo_lay 113 rfl) rfl (Nat.le_of_ble_eq_true rfl) (by rw [e7]; rfl) rfl ?_
  refine r_goto C 165 (z_d dd_Mo_lay 114 rfl) (by decide) ?_
  exact hk165 l0 l1 l2 l3 l4 l5 l6 l7 l8 l9 v6 M3 h
def f_Mo_lay_165 (O : zO) : Nat → Nat → Nat → Int32 → Int32 → Int32 → Nat → Nat → Nat → Int32 → Int32 → Int32 → zM → Option (Unit × zM)
  | 0, _, _, _, _, _, _, _, _, _, _, _, _ => none
  | n + 1, l0, l1, l2, l3, l4, l5, l6, l7, l8, l9, l13, M =>
    if l3 ≤ l13 then
    f_Mo_lay_207 O n l0 l4 l5 l6 l7 l8 l9 (0 : Int32) M
    else
    if z_k M l0 = 13 then
    if z_k M l1 = 100 then
    if zin (l2 + l13) (z_n M l1) = true then
    if (z_i M l1 (l2 + l13).toNatClampNeg) = (-1 : Int32) then
    f_Mo_lay_197 O (f_Mo_lay_165 O n) n l0 l1 l2 l3 l4 l5 l6 l7 l8 l9 l13 (z_p M l0 24) l13 (1 : Int32) M
    else
    if zin (l2 + l13) (z_n M l1) = true then
    f_Mo_lay_197 O (f_Mo_lay_165 O n) n l0 l1 l2 l3 l4 l5 l6 l7 l8 l9 l13 (z_p M l0 24) l13 (z_i M l1 (l2 + l13).toNatClampNeg) M
    else none
    else none
    else none
    else none
set_option maxRecDepth 100000 in
set_option maxHeartbeats 4000000 in
theorem s_Mo_lay_165 {X : zX} {q : Unit × zM} (C : zC X zR12 prog_14_method_10_code 17 { frames := 1, cells := 0, slots := 0, locals := 22 }) (hr : zRt X none) (E : zE X none q.2 0 0) : ∀ (n : Nat) (l0 : Nat) (l1 : Nat) (l2 : Int32) (l3 : Int32) (l4 : Int32) (l5 : Nat) (l6 : Nat) (l7 : Nat) (l8 : Int32) (l9 : Int32) (l13 : Int32) (M : zM), f_Mo_lay_165 (zOD X) n l0 l1 l2 l3 l4 l5 l6 l7 l8 l9 l13 M = some q → zW X 0 0 165 [some (zP l0), some (zP l1), some (zI l2), some (zI l3), some (zI l4), some (zP l5), some (zP l6), some (zP l7), some (zI l8), some (zI l9), none, none, none, some (zI l13), none, none, none] [] M := by
  intro n
  induction n with
  | zero => intro l0 l1 l2 l3 l4 l5 l6 l7 l8 l9 l13 M h; rw [f_Mo_lay_165] at h; cases h
  | succ n ih =>
    intro l0 l1 l2 l3 l4 l5 l6 l7 l8 l9 l13 M h
    rw [f_Mo_lay_165] at h
    refine r_iload C (z_d dd_Mo_lay 92 rfl) rfl ?_
    refine r_iload_n C (z_d dd_Mo_lay 93 rfl) rfl ?_
    refine r_icmp_ge C 204 (z_d dd_Mo_lay 94 rfl) (by decide) (fun c6 => ?_) (fun c6 => ?_)
    · have h := zift h c6
      refine r_iconst (v := (0 : Int32)) C (z_d dd_Mo_lay 115 rfl) (by decide) ?_
      refine r_istore (lv' := [some (zP l0), some (zP l1), some (zI l2), some (zI l3), some (zI l4), some (zP l5), some (zP l6), some (zP l7), some (zI l8), some (zI l9), none, none, none, some (zI (0 : Int32)), none, none, none]) C (z_d dd_Mo_lay 116 rfl) (Nat.le_of_ble_eq_true rfl) rfl ?_
      refine r_mk [true, false, false, false, true, true, true, true, true, true, false, false, false, true, false, false, false] ?_
      exact s_Mo_lay_207 C hr E n l0 l4 l5 l6 l7 l8 l9 (0 : Int32) M h
    · have h := ziff h c6
      refine r_aload_n C (z_d dd_Mo_lay 95 rfl) rfl ?_
      obtain ⟨h1, h⟩ := zif h
      refine r_getP C (z_d dd_Mo_lay 96 rfl) lk_Mo_63 rfl h1 rfl ?_
      refine r_iload C (z_d dd_Mo_lay 97 rfl) rfl ?_
      refine r_aload_n C (z_d dd_Mo_lay 98 rfl) rfl ?_
      refine r_iload_n C (z_d dd_Mo_lay 99 rfl) rfl ?_
      refine r_iload C (z_d dd_Mo_lay 100 rfl) rfl ?_
      refine r_iadd C (z_d dd_Mo_lay 101 rfl) ?_
      obtain ⟨h2, h⟩ := zif h
      obtain ⟨h3, h⟩ := zif h
      refine r_iald C (z_d dd_Mo_lay 102 rfl) h2 h3 rfl ?_
      refine r_iconst (v := (-1 : Int32)) C (z_d dd_Mo_lay 103 rfl) (by decide) ?_
      refine r_icmp_ne C 191 (z_d dd_Mo_lay 104 rfl) (by decide) (fun c5 => ?_) (fun c5 => ?_)
      · have h := ziff h c5
        refine r_aload_n C (z_d dd_Mo_lay 107 rfl) rfl ?_
        refine r_iload_n C (z_d dd_Mo_lay 108 rfl) rfl ?_
        refine r_iload C (z_d dd_Mo_lay 109 rfl) rfl ?_
        refine r_iadd C (z_d dd_Mo_lay 110 rfl) ?_
        obtain ⟨h4, h⟩ := zif h
        refine r_iald C (z_d dd_Mo_lay 111 rfl) h2 h4 rfl ?_
        exact s_Mo_lay_197 C hr E ih n l0 l1 l2 l3 l4 l5 l6 l7 l8 l9 l13 (z_p M l0 24) l13 (z_i M l1 (l2 + l13).toNatClampNeg) M h
      · have h := zift h c5
        refine r_iconst (v := (1 : Int32)) C (z_d dd_Mo_lay 105 rfl) (by decide) ?_
        refine r_goto C 197 (z_d dd_Mo_lay 106 rfl) (by decide) ?_
        exact s_Mo_lay_197 C hr E ih n l0 l1 l2 l3 l4 l5 l6 l7 l8 l9 l13 (z_p M l0 24) l13 (1 : Int32) M h
def f_Mo_lay_116 (O : zO) (k96 : Nat → Nat → Int32 → Int32 → Int32 → Nat → Nat → Nat → Int32 → Int32 → Int32 → Int32 → Int32 → zM → Option (Unit × zM)) (k105 : Nat → Nat → Int32 → Int32 → Int32 → Nat → Nat → Nat → Int32 → Int32 → Int32 → Int32 → Int32 → Int32 → zM → Option (Unit × zM)) : Nat → Nat → Nat → Int32 → Int32 → Int32 → Nat → Nat → Nat → Int32 → Int32 → Int32 → Int32 → Int32 → Int32 → zM → Option (Unit × zM)
  | 0, _, _, _, _, _, _, _, _, _, _, _, _, _, _, _ => none
  | n + 1, l0, l1, l2, l3, l4, l5, l6, l7, l8, l9, l11, l12, l13, l14, M =>
    if z_k M l5 = 100 then
    if zin (l8 + l12) (z_n M l5) = true then
    if (z_i M l5 (l8 + l12).toNatClampNeg) < 0 then
    if zin (l8 + l12) (z_n M l5) = true then
    zlet (w_i M l5 (l8 + l12).toNatClampNeg l13) fun M4 =>
    zlet (l14 + (1 : Int32)) fun v7 =>
    k105 l0 l1 l2 l3 l4 l5 l6 l7 l8 l9 l11 l12 l13 v7 M4
    else none
    else
    if ¬ l9 = 0 then
    zlet ((l12 + l11) - (l12 + l11) / l9 * l9) fun v10 =>
    f_Mo_lay_116 O k96 k105 n l0 l1 l2 l3 l4 l5 l6 l7 l8 l9 l11 v10 l13 l14 M
    else none
    else none
    else none
set_option maxRecDepth 100000 in
set_option maxHeartbeats 4000000 in
theorem s_Mo_lay_116 {X : zX} {q : Unit × zM} (C : zC X zR12 prog_14_method_10_code 17 { frames := 1, cells := 0, slots := 0, locals := 22 }) (hr : zRt X none) (E : zE X none q.2 0 0) {k96 : Nat → Nat → Int32 → Int32 → Int32 → Nat → Nat → Nat → Int32 → Int32 → Int32 → Int32 → Int32 → zM → Option (Unit × zM)} (hk96 : ∀ (l0 : Nat) (l1 : Nat) (l2 : Int32) (l3 : Int32) (l4 : Int32) (l5 : Nat) (l6 : Nat) (l7 : Nat) (l8 : Int32) (l9 : Int32) (l11 : Int32) (l12 : Int32) (l13 : Int32) (M : zM), k96 l0 l1 l2 l3 l4 l5 l6 l7 l8 l9 l11 l12 l13 M = some q → zW X 0 0 96 [some (zP l0), some (zP l1), some (zI l2), some (zI l3), some (zI l4), some (zP l5), some (zP l6), some (zP l7), some (zI l8), some (zI l9), none, some (zI l11), some (zI l12), some (zI l13), none, none, none] [] M) {k105 : Nat → Nat → Int32 → Int32 → Int32 → Nat → Nat → Nat → Int32 → Int32 → Int32 → Int32 → Int32 → Int32 → zM → Option (Unit × zM)} (hk105 : ∀ (l0 : Nat) (l1 : Nat) (l2 : Int32) (l3 : Int32) (l4 : Int32) (l5 : Nat) (l6 : Nat) (l7 : Nat) (l8 : Int32) (l9 : Int32) (l11 : Int32) (l12 : Int32) (l13 : Int32) (l14 : Int32) (M : zM), k105 l0 l1 l2 l3 l4 l5 l6 l7 l8 l9 l11 l12 l13 l14 M = some q → zW X 0 0 105 [some (zP l0), some (zP l1), some (zI l2), some (zI l3), some (zI l4), some (zP l5), some (zP l6), some (zP l7), some (zI l8), some (zI l9), none, some (zI l11), some (zI l12), some (zI l13), some (zI l14), none, none] [] M) : ∀ (n : Nat) (l0 : Nat) (l1 : Nat) (l2 : Int32) (l3 : Int32) (l4 : Int32) (l5 : Nat) (l6 : Nat) (l7 : Nat) (l8 : Int32) (l9 : Int32) (l11 : Int32) (l12 : Int32) (l13 : Int32) (l14 : Int32) (M : zM), f_Mo_lay_116 (zOD X) k96 k105 n l0 l1 l2 l3 l4 l5 l6 l7 l8 l9 l11 l12 l13 l14 M = some q → zW X 0 0 116 [some (zP l0), some (zP l1), some (zI l2), some (zI l3), some (zI l4), some (zP l5), some (zP l6), some (zP l7), some (zI l8), some (zI l9), none, some (zI l11), some (zI l12), some (zI l13), some (zI l14), none, none] [] M := by
  intro n
  induction n with
  | zero => intro l0 l1 l2 l3 l4 l5 l6 l7 l8 l9 l11 l12 l13 l14 M h; rw [f_Mo_lay_116] at h; cases h
  | succ n ih =>
    intro l0 l1 l2 l3 l4 l5 l6 l7 l8 l9 l11 l12 l13 l14 M h
    rw [f_Mo_lay_116] at h
    refine r_aload C (z_d dd_Mo_lay 67 rfl) rfl ?_
    refine r_iload C (z_d dd_Mo_lay 68 rfl) rfl ?_
    refine r_iload C (z_d dd_Mo_lay 69 rfl) rfl ?_
    refine r_iadd C (z_d dd_Mo_lay 70 rfl) ?_
    obtain ⟨h1, h⟩ := zif h
    obtain ⟨h2, h⟩ := zif h
    refine r_iald C (z_d dd_Mo_lay 71 rfl) h1 h2 rfl ?_
    refine r_if_lt C 140 (z_d dd_Mo_lay 72 rfl) (by decide) (fun c12 => ?_) (fun c12 => ?_)
    · have h := zift h c12
      refine r_aload C (z_d dd_Mo_lay 80 rfl) rfl ?_
      refine r_iload C (z_d dd_Mo_lay 81 rfl) rfl ?_
      refine r_iload C (z_d dd_Mo_lay 82 rfl) rfl ?_
      refine r_iadd C (z_d dd_Mo_lay 83 rfl) ?_
      refine r_iload C (z_d dd_Mo_lay 84 rfl) rfl ?_
      obtain ⟨h3, h⟩ := zif h
      obtain ⟨M4, e5, h⟩ := zlet_ex h
      have h6 := k_i e5 h1
      refine r_iast C (z_d dd_Mo_lay 85 rfl) h1 h3 e5 ?_
      obtain ⟨v7, e8, h⟩ := zlet_ex h
      refine r_iinc (v := v7) (lv' := [some (zP l0), some (zP l1), some (zI l2), some (zI l3), some (zI l4), some (zP l5), some (zP l6), some (zP l7), some (zI l8), some (zI l9), none, some (zI l11), some (zI l12), some (zI l13), some (zI v7), none, none]) C (z_d dd_Mo_lay 86 rfl) rfl (Nat.le_of_ble_eq_true rfl) (by rw [e8]; rfl) rfl ?_
      refine r_goto C 105 (z_d dd_Mo_lay 87 rfl) (by decide) ?_
      exact hk105 l0 l1 l2 l3 l4 l5 l6 l7 l8 l9 l11 l12 l13 v7 M4 h
    · have h := ziff h c12
      refine r_iload C (z_d dd_Mo_lay 73 rfl) rfl ?_
      refine r_iload C (z_d dd_Mo_lay 74 rfl) rfl ?_
      refine r_iadd C (z_d dd_Mo_lay 75 rfl) ?_
      refine r_iload C (z_d dd_Mo_lay 76 rfl) rfl ?_
      obtain ⟨h9, h⟩ := zif h
      refine r_irem C (z_d dd_Mo_lay 77 rfl) h9 ?_
      obtain ⟨v10, e11, h⟩ := zlet_ex h
      refine r_nmI e11 ?_
      refine r_istore (lv' := [some (zP l0), some (zP l1), some (zI l2), some (zI l3), some (zI l4), some (zP l5), some (zP l6), some (zP l7), some (zI l8), some (zI l9), none, some (zI l11), some (zI v10), some (zI l13), some (zI l14), none, none]) C (z_d dd_Mo_lay 78 rfl) (Nat.le_of_ble_eq_true rfl) rfl ?_
      refine r_goto C 116 (z_d dd_Mo_lay 79 rfl) (by decide) ?_
      exact ih l0 l1 l2 l3 l4 l5 l6 l7 l8 l9 l11 v10 l13 l14 M h
def f_Mo_lay_105 (O : zO) (k96 : Nat → Nat → Int32 → Int32 → Int32 → Nat → Nat → Nat → Int32 → Int32 → Int32 → Int32 → Int32 → zM → Option (Unit × zM)) : Nat → Nat → Nat → Int32 → Int32 → Int32 → Nat → Nat → Nat → Int32 → Int32 → Int32 → Int32 → Int32 → Int32 → zM → Option (Unit × zM)
  | 0, _, _, _, _, _, _, _, _, _, _, _, _, _, _, _ => none
  | n + 1, l0, l1, l2, l3, l4, l5, l6, l7, l8, l9, l11, l12, l13, l14, M =>
    if z_k M l1 = 100 then
    if zin (l2 + l13) (z_n M l1) = true then
    if (z_i M l1 (l2 + l13).toNatClampNeg) ≤ l14 then
    zlet (l13 + (1 : Int32)) fun v3 =>
    k96 l0 l1 l2 l3 l4 l5 l6 l7 l8 l9 l11 l12 v3 M
    else
    f_Mo_lay_116 O k96 (f_Mo_lay_105 O k96 n) n l0 l1 l2 l3 l4 l5 l6 l7 l8 l9 l11 l12 l13 l14 M
    else none
    else none
set_option maxRecDepth 100000 in
set_option maxHeartbeats 4000000 in
theorem s_Mo_lay_105 {X : zX} {q : Unit × zM} (C : zC X zR12 prog_14_method_10_code 17 { frames := 1, cells := 0, slots := 0, locals := 22 }) (hr : zRt X none) (E : zE X none q.2 0 0) {k96 : Nat → Nat → Int32 → Int32 → Int32 → Nat → Nat → Nat → Int32 → Int32 → Int32 → Int32 → Int32 → zM → Option (Unit × zM)} (hk96 : ∀ (l0 : Nat) (l1 : Nat) (l2 : Int32) (l3 : Int32) (l4 : Int32) (l5 : Nat) (l6 : Nat) (l7 : Nat) (l8 : Int32) (l9 : Int32) (l11 : Int32) (l12 : Int32) (l13 : Int32) (M : zM), k96 l0 l1 l2 l3 l4 l5 l6 l7 l8 l9 l11 l12 l13 M = some q → zW X 0 0 96 [some (zP l0), some (zP l1), some (zI l2), some (zI l3), some (zI l4), some (zP l5), some (zP l6), some (zP l7), some (zI l8), some (zI l9), none, some (zI l11), some (zI l12), some (zI l13), none, none, none] [] M) : ∀ (n : Nat) (l0 : Nat) (l1 : Nat) (l2 : Int32) (l3 : Int32) (l4 : Int32) (l5 : Nat) (l6 : Nat) (l7 : Nat) (l8 : Int32) (l9 : Int32) (l11 : Int32) (l12 : Int32) (l13 : Int32) (l14 : Int32) (M : zM), f_Mo_lay_105 (zOD X) k96 n l0 l1 l2 l3 l4 l5 l6 l7 l8 l9 l11 l12 l13 l14 M = some q → zW X 0 0 105 [some (zP l0), some (zP l1), some (zI l2), some (zI l3), some (zI l4), some (zP l5), some (zP l6), some (zP l7), some (zI l8), some (zI l9), none, some (zI l11), some (zI l12), some (zI l13), some (zI l14), none, none] [] M := by
  intro n
  induction n with
  | zero => intro l0 l1 l2 l3 l4 l5 l6 l7 l8 l9 l11 l12 l13 l14 M h; rw [f_Mo_lay_105] at h; cases h
  | succ n ih =>
    intro l0 l1 l2 l3 l4 l5 l6 l7 l8 l9 l11 l12 l13 l14 M h
    rw [f_Mo_lay_105] at h
    refine r_iload C (z_d dd_Mo_lay 60 rfl) rfl ?_
    refine r_aload_n C (z_d dd_Mo_lay 61 rfl) rfl ?_
    refine r_iload_n C (z_d dd_Mo_lay 62 rfl) rfl ?_
    refine r_iload C (z_d dd_Mo_lay 63 rfl) rfl ?_
    refine r_iadd C (z_d dd_Mo_lay 64 rfl) ?_
    obtain ⟨h1, h⟩ := zif h
    obtain ⟨h2, h⟩ := zif h
    refine r_iald C (z_d dd_Mo_lay 65 rfl) h1 h2 rfl ?_
    refine r_icmp_ge C 156 (z_d dd_Mo_lay 66 rfl) (by decide) (fun c5 => ?_) (fun c5 => ?_)
    · have h := zift h c5
      obtain ⟨v3, e4, h⟩ := zlet_ex h
      refine r_iinc (v := v3) (lv' := [some (zP l0), some (zP l1), some (zI l2), some (zI l3), some (zI l4), some (zP l5), some (zP l6), some (zP l7), some (zI l8), some (zI l9), none, some (zI l11), some (zI l12), some (zI v3), some (zI l14), none, none]) C (z_d dd_Mo_lay 88 rfl) rfl (Nat.le_of_ble_eq_true rfl) (by rw [e4]; rfl) rfl ?_
      refine r_goto C 96 (z_d dd_Mo_lay 89 rfl) (by decide) ?_
      refine r_mk [true, true, true, true, true, true, true, true, true, true, false, true, true, true, false, false, false] ?_
      exact hk96 l0 l1 l2 l3 l4 l5 l6 l7 l8 l9 l11 l12 v3 M h
    · have h := ziff h c5
      exact s_Mo_lay_116 C hr E hk96 ih n l0 l1 l2 l3 l4 l5 l6 l7 l8 l9 l11 l12 l13 l14 M h
def f_Mo_lay_96 (O : zO) : Nat → Nat → Nat → Int32 → Int32 → Int32 → Nat → Nat → Nat → Int32 → Int32 → Int32 → Int32 → Int32 → zM → Option (Unit × zM)
  | 0, _, _, _, _, _, _, _, _, _, _, _, _, _, _ => none
  | n + 1, l0, l1, l2, l3, l4, l5, l6, l7, l8, l9, l11, l12, l13, M =>
    if l3 ≤ l13 then
    f_Mo_lay_165 O n l0 l1 l2 l3 l4 l5 l6 l7 l8 l9 (0 : Int32) M
    else
    f_Mo_lay_105 O (f_Mo_lay_96 O n) n l0 l1 l2 l3 l4 l5 l6 l7 l8 l9 l11 l12 l13 (0 : Int32) M
set_option maxRecDepth 100000 in
set_option maxHeartbeats 4000000 in
theorem s_Mo_lay_96 {X : zX} {q : Unit × zM} (C : zC X zR12 prog_14_method_10_code 17 { frames := 1, cells := 0, slots := 0, locals := 22 }) (hr : zRt X none) (E : zE X none q.2 0 0) : ∀ (n : Nat) (l0 : Nat) (l1 : Nat) (l2 : Int32) (l3 : Int32) (l4 : Int32) (l5 : Nat) (l6 : Nat) (l7 : Nat) (l8 : Int32) (l9 : Int32) (l11 : Int32) (l12 : Int32) (l13 : Int32) (M : zM), f_Mo_lay_96 (zOD X) n l0 l1 l2 l3 l4 l5 l6 l7 l8 l9 l11 l12 l13 M = some q → zW X 0 0 96 [some (zP l0), some (zP l1), some (zI l2), some (zI l3), some (zI l4), some (zP l5), some (zP l6), some (zP l7), some (zI l8), some (zI l9), none, some (zI l11), some (zI l12), some (zI l13), none, none, none] [] M := by
  intro n
  induction n with
  | zero => intro l0 l1 l2 l3 l4 l5 l6 l7 l8 l9 l11 l12 l13 M h; rw [f_Mo_lay_96] at h; cases h
  | succ n ih =>
    intro l0 l1 l2 l3 l4 l5 l6 l7 l8 l9 l11 l12 l13 M h
    rw [f_Mo_lay_96] at h
    refine r_iload C (z_d dd_Mo_lay 55 rfl) rfl ?_
    refine r_iload_n C (z_d dd_Mo_lay 56 rfl) rfl ?_
    refine r_icmp_ge C 162 (z_d dd_Mo_lay 57 rfl) (by decide) (fun c1 => ?_) (fun c1 => ?_)
    · have h := zift h c1
      refine r_iconst (v := (0 : Int32)) C (z_d dd_Mo_lay 90 rfl) (by decide) ?_
      refine r_istore (lv' := [some (zP l0), some (zP l1), some (zI l2), some (zI l3), some (zI l4), some (zP l5), some (zP l6), some (zP l7), some (zI l8), some (zI l9), none, some (zI l11), some (zI l12), some (zI (0 : Int32)), none, none, none]) C (z_d dd_Mo_lay 91 rfl) (Nat.le_of_ble_eq_true rfl) rfl ?_
      refine r_mk [true, true, true, true, true, true, true, true, true, true, false, false, false, true, false, false, false] ?_
      exact s_Mo_lay_165 C hr E n l0 l1 l2 l3 l4 l5 l6 l7 l8 l9 (0 : Int32) M h
    · have h := ziff h c1
      refine r_iconst (v := (0 : Int32)) C (z_d dd_Mo_lay 58 rfl) (by decide) ?_
      refine r_istore (lv' := [some (zP l0), some (zP l1), some (zI l2), some (zI l3), some (zI l4), some (zP l5), some (zP l6), some (zP l7), some (zI l8), some (zI l9), none, some (zI l11), some (zI l12), some (zI l13), some (zI (0 : Int32)), none, none]) C (z_d dd_Mo_lay 59 rfl) (Nat.le_of_ble_eq_true rfl) rfl ?_
      exact s_Mo_lay_105 C hr E ih n l0 l1 l2 l3 l4 l5 l6 l7 l8 l9 l11 l12 l13 (0 : Int32) M h
def f_Mo_lay_70 (O : zO) (k38 : Nat → Nat → Int32 → Int32 → Int32 → Nat → Nat → Nat → Int32 → Int32 → Int32 → Int32 → zM → Option (Unit × zM)) (n : Nat) (l0 : Nat) (l1 : Nat) (l2 : Int32) (l3 : Int32) (l4 : Int32) (l5 : Nat) (l6 : Nat) (l7 : Nat) (l8 : Int32) (l9 : Int32) (l10 : Int32) (l11 : Int32) (M : zM) : Option (Unit × zM) :=
  zlet (l11 + (1 : Int32)) fun v1 =>
  k38 l0 l1 l2 l3 l4 l5 l6 l7 l8 l9 l10 v1 M
set_option maxRecDepth 100000 in
set_option maxHeartbeats 4000000 in
theorem s_Mo_lay_70 {X : zX} {q : Unit × zM} (C : zC X zR12 prog_14_method_10_code 17 { frames := 1, cells := 0, slots := 0, locals := 22 }) (hr : zRt X none) (E : zE X none q.2 0 0) {k38 : Nat → Nat → Int32 → Int32 → Int32 → Nat → Nat → Nat → Int32 → Int32 → Int32 → Int32 → zM → Option (Unit × zM)} (hk38 : ∀ (l0 : Nat) (l1 : Nat) (l2 : Int32) (l3 : Int32) (l4 : Int32) (l5 : Nat) (l6 : Nat) (l7 : Nat) (l8 : Int32) (l9 : Int32) (l10 : Int32) (l11 : Int32) (M : zM), k38 l0 l1 l2 l3 l4 l5 l6 l7 l8 l9 l10 l11 M = some q → zW X 0 0 38 [some (zP l0), some (zP l1), some (zI l2), some (zI l3), some (zI l4), some (zP l5), some (zP l6), some (zP l7), some (zI l8), some (zI l9), some (zI l10), some (zI l11), none, none, none, none, none] [] M) : ∀ (n : Nat) (l0 : Nat) (l1 : Nat) (l2 : Int32) (l3 : Int32) (l4 : Int32) (l5 : Nat) (l6 : Nat) (l7 : Nat) (l8 : Int32) (l9 : Int32) (l10 : Int32) (l11 : Int32) (M : zM), f_Mo_lay_70 (zOD X) k38 n l0 l1 l2 l3 l4 l5 l6 l7 l8 l9 l10 l11 M = some q → zW X 0 0 70 [some (zP l0), some (zP l1), some (zI l2), some (zI l3), some (zI l4), some (zP l5), some (zP l6), some (zP l7), some (zI l8), some (zI l9), some (zI l10), some (zI l11), none, none, none, none, none] [] M := by
  intro n l0 l1 l2 l3 l4 l5 l6 l7 l8 l9 l10 l11 M h
  rw [f_Mo_lay_70] at h
  obtain ⟨v1, e2, h⟩ := zlet_ex h
  refine r_iinc (v := v1) (lv' := [some (zP l0), some (zP l1), some (zI l2), some (zI l3), some (zI l4), some (zP l5), some (zP l6), some (zP l7), some (zI l8), some (zI l9), some (zI l10), some (zI v1), none, none, none, none, none]) C (z_d dd_Mo_lay 39 rfl) rfl (Nat.le_of_ble_eq_true rfl) (by rw [e2]; rfl) rfl ?_
  refine r_goto C 38 (z_d dd_Mo_lay 40 rfl) (by decide) ?_
  exact hk38 l0 l1 l2 l3 l4 l5 l6 l7 l8 l9 l10 v1 M h
def f_Mo_lay_38 (O : zO) : Nat → Nat → Nat → Int32 → Int32 → Int32 → Nat → Nat → Nat → Int32 → Int32 → Int32 → Int32 → zM → Option (Unit × zM)
  | 0, _, _, _, _, _, _, _, _, _, _, _, _, _ => none
  | n + 1, l0, l1, l2, l3, l4, l5, l6, l7, l8, l9, l10, l11, M =>
    if l3 ≤ l11 then
    zlet (((l9 / (2 : Int32)) + (l9 / (8 : Int32))) + (3 : Int32)) fun v1 =>
    f_Mo_lay_96 O n l0 l1 l2 l3 l4 l5 l6 l7 l8 l9 v1 (0 : Int32) (0 : Int32) M
    else
    if z_k M l1 = 100 then
    if zin (l2 + l11) (z_n M l1) = true then
    if (z_i M l1 (l2 + l11).toNatClampNeg) = (-1 : Int32) then
    zlet (l10 + (-1 : Int32)) fun v5 =>
    if z_k M l5 = 100 then
    if zin (l8 + v5) (z_n M l5) = true then
    zlet (w_i M l5 (l8 + v5).toNatClampNeg l11) fun M9 =>
    f_Mo_lay_70 O (f_Mo_lay_38 O n) n l0 l1 l2 l3 l4 l5 l6 l7 l8 l9 v5 l11 M9
    else none
    else none
    else
    f_Mo_lay_70 O (f_Mo_lay_38 O n) n l0 l1 l2 l3 l4 l5 l6 l7 l8 l9 l10 l11 M
    else none
    else none
set_option maxRecDepth 100000 in
set_option maxHeartbeats 4000000 in
theorem s_Mo_lay_38 {X : zX} {q : Unit × zM} (C : zC X zR12 prog_14_method_10_code 17 { frames := 1, cells := 0, slots := 0, locals := 22 }) (hr : zRt X none) (E : zE X none q.2 0 0) : ∀ (n : Nat) (l0 : Nat) (l1 : Nat) (l2 : Int32) (l3 : Int32) (l4 : Int32) (l5 : Nat) (l6 : Nat) (l7 : Nat) (l8 : Int32) (l9 : Int32) (l10 : Int32) (l11 : Int32) (M : zM), f_Mo_lay_38 (zOD X) n l0 l1 l2 l3 l4 l5 l6 l7 l8 l9 l10 l11 M = some q → zW X 0 0 38 [some (zP l0), some (zP l1), some (zI l2), some (zI l3), some (zI l4), some (zP l5), some (zP l6), some (zP l7), some (zI l8), some (zI l9), some (zI l10), some (zI l11), none, none, none, none, none] [] M := by
  intro n
  induction n with
  | zero => intro l0 l1 l2 l3 l4 l5 l6 l7 l8 l9 l10 l11 M h; rw [f_Mo_lay_38] at h; cases h
  | succ n ih =>
    intro l0 l1 l2 l3 l4 l5 l6 l7 l8 l9 l10 l11 M h
    rw [f_Mo_lay_38] at h
    refine r_iload C (z_d dd_Mo_lay 21 rfl) rfl ?_
    refine r_iload_n C (z_d dd_Mo_lay 22 rfl) rfl ?_
    refine r_icmp_ge C 76 (z_d dd_Mo_lay 23 rfl) (by decide) (fun c14 => ?_) (fun c14 => ?_)
    · have h := zift h c14
      refine r_iload C (z_d dd_Mo_lay 41 rfl) rfl ?_
      refine r_iconst (v := (2 : Int32)) C (z_d dd_Mo_lay 42 rfl) (by decide) ?_
      refine r_idiv C (z_d dd_Mo_lay 43 rfl) (by decide) ?_
      refine r_iload C (z_d dd_Mo_lay 44 rfl) rfl ?_
      refine r_bipush (v := (8 : Int32)) C (z_d dd_Mo_lay 45 rfl) (by decide) ?_
      refine r_idiv C (z_d dd_Mo_lay 46 rfl) (by decide) ?_
      refine r_iadd C (z_d dd_Mo_lay 47 rfl) ?_
      refine r_iconst (v := (3 : Int32)) C (z_d dd_Mo_lay 48 rfl) (by decide) ?_
      refine r_iadd C (z_d dd_Mo_lay 49 rfl) ?_
      obtain ⟨v1, e2, h⟩ := zlet_ex h
      refine r_nmI e2 ?_
      refine r_istore (lv' := [some (zP l0), some (zP l1), some (zI l2), some (zI l3), some (zI l4), some (zP l5), some (zP l6), some (zP l7), some (zI l8), some (zI l9), some (zI l10), some (zI v1), none, none, none, none, none]) C (z_d dd_Mo_lay 50 rfl) (Nat.le_of_ble_eq_true rfl) rfl ?_
      refine r_iconst (v := (0 : Int32)) C (z_d dd_Mo_lay 51 rfl) (by decide) ?_
      refine r_istore (lv' := [some (zP l0), some (zP l1), some (zI l2), some (zI l3), some (zI l4), some (zP l5), some (zP l6), some (zP l7), some (zI l8), some (zI l9), some (zI l10), some (zI v1), some (zI (0 : Int32)), none, none, none, none]) C (z_d dd_Mo_lay 52 rfl) (Nat.le_of_ble_eq_true rfl) rfl ?_
      refine r_iconst (v := (0 : Int32)) C (z_d dd_Mo_lay 53 rfl) (by decide) ?_
      refine r_istore (lv' := [some (zP l0), some (zP l1), some (zI l2), some (zI l3), some (zI l4), some (zP l5), some (zP l6), some (zP l7), some (zI l8), some (zI l9), some (zI l10), some (zI v1), some (zI (0 : Int32)), some (zI (0 : Int32)), none, none, none]) C (z_d dd_Mo_lay 54 rfl) (Nat.le_of_ble_eq_true rfl) rfl ?_
      refine r_mk [true, true, true, true, true, true, true, true, true, true, false, true, true, true, false, false, false] ?_
      exact s_Mo_lay_96 C hr E n l0 l1 l2 l3 l4 l5 l6 l7 l8 l9 v1 (0 : Int32) (0 : Int32) M h
    · have h := ziff h c14
      refine r_aload_n C (z_d dd_Mo_lay 24 rfl) rfl ?_
      refine r_iload_n C (z_d dd_Mo_lay 25 rfl) rfl ?_
      refine r_iload C (z_d dd_Mo_lay 26 rfl) rfl ?_
      refine r_iadd C (z_d dd_Mo_lay 27 rfl) ?_
      obtain ⟨h3, h⟩ := zif h
      obtain ⟨h4, h⟩ := zif h
      refine r_iald C (z_d dd_Mo_lay 28 rfl) h3 h4 rfl ?_
      refine r_iconst (v := (-1 : Int32)) C (z_d dd_Mo_lay 29 rfl) (by decide) ?_
      refine r_icmp_eq C 57 (z_d dd_Mo_lay 30 rfl) (by decide) (fun c13 => ?_) (fun c13 => ?_)
      · have h := zift h c13
        obtain ⟨v5, e6, h⟩ := zlet_ex h
        refine r_iinc (v := v5) (lv' := [some (zP l0), some (zP l1), some (zI l2), some (zI l3), some (zI l4), some (zP l5), some (zP l6), some (zP l7), some (zI l8), some (zI l9), some (zI v5), some (zI l11), none, none, none, none, none]) C (z_d dd_Mo_lay 32 rfl) rfl (Nat.le_of_ble_eq_true rfl) (by rw [e6]; rfl) rfl ?_
        refine r_aload C (z_d dd_Mo_lay 33 rfl) rfl ?_
        refine r_iload C (z_d dd_Mo_lay 34 rfl) rfl ?_
        refine r_iload C (z_d dd_Mo_lay 35 rfl) rfl ?_
        refine r_iadd C (z_d dd_Mo_lay 36 rfl) ?_
        refine r_iload C (z_d dd_Mo_lay 37 rfl) rfl ?_
        obtain ⟨h7, h⟩ := zif h
        obtain ⟨h8, h⟩ := zif h
        obtain ⟨M9, e10, h⟩ := zlet_ex h
        have h11 := k_i e10 h3
        have h12 := k_i e10 h7
        refine r_iast C (z_d dd_Mo_lay 38 rfl) h7 h8 e10 ?_
        exact s_Mo_lay_70 C hr E ih n l0 l1 l2 l3 l4 l5 l6 l7 l8 l9 v5 l11 M9 h
      · have h := ziff h c13
        refine r_goto C 70 (z_d dd_Mo_lay 31 rfl) (by decide) ?_
        exact s_Mo_lay_70 C hr E ih n l0 l1 l2 l3 l4 l5 l6 l7 l8 l9 l10 l11 M h
def f_Mo_lay_9 (O : zO) : Nat → Nat → Nat → Int32 → Int32 → Int32 → Nat → Nat → Nat → Int32 → Int32 → Int32 → zM → Option (Unit × zM)
  | 0, _, _, _, _, _, _, _, _, _, _, _, _ => none
  | n + 1, l0, l1, l2, l3, l4, l5, l6, l7, l8, l9, l10, M =>
    if l9 ≤ l10 then
    f_Mo_lay_38 O n l0 l1 l2 l3 l4 l5 l6 l7 l8 l9 l9 (0 : Int32) M
    else
    if z_k M l5 = 100 then
    if zin (l8 + l10) (z_n M l5) = true then
    zlet (w_i M l5 (l8 + l10).toNatClampNeg (-1 : Int32)) fun M3 =>
    zlet (l10 + (1 : Int32)) fun v6 =>
    f_Mo_lay_9 O n l0 l1 l2 l3 l4 l5 l6 l7 l8 l9 v6 M3
    else none
    else none
set_option maxRecDepth 100000 in
set_option maxHeartbeats 4000000 in
theorem s_Mo_lay_9 {X : zX} {q : Unit × zM} (C : zC X zR12 prog_14_method_10_code 17 { frames := 1, cells := 0, slots := 0, locals := 22 }) (hr : zRt X none) (E : zE X none q.2 0 0) : ∀ (n : Nat) (l0 : Nat) (l1 : Nat) (l2 : Int32) (l3 : Int32) (l4 : Int32) (l5 : Nat) (l6 : Nat) (l7 : Nat) (l8 : Int32) (l9 : Int32) (l10 : Int32) (M : zM), f_Mo_lay_9 (zOD X) n l0 l1 l2 l3 l4 l5 l6 l7 l8 l9 l10 M = some q → zW X 0 0 9 [some (zP l0), some (zP l1), some (zI l2), some (zI l3), some (zI l4), some (zP l5), some (zP l6), some (zP l7), some (zI l8), some (zI l9), some (zI l10), none, none, none, none, none, none] [] M := by
  intro n
  induction n with
  | zero => intro l0 l1 l2 l3 l4 l5 l6 l7 l8 l9 l10 M h; rw [f_Mo_lay_9] at h; cases h
  | succ n ih =>
    intro l0 l1 l2 l3 l4 l5 l6 l7 l8 l9 l10 M h
    rw [f_Mo_lay_9] at h
    refine r_iload C (z_d dd_Mo_lay 6 rfl) rfl ?_
    refine r_iload C (z_d dd_Mo_lay 7 rfl) rfl ?_
    refine r_icmp_ge C 31 (z_d dd_Mo_lay 8 rfl) (by decide) (fun c8 => ?_) (fun c8 => ?_)
    · have h := zift h c8
      refine r_iload C (z_d dd_Mo_lay 17 rfl) rfl ?_
      refine r_istore (lv' := [some (zP l0), some (zP l1), some (zI l2), some (zI l3), some (zI l4), some (zP l5), some (zP l6), some (zP l7), some (zI l8), some (zI l9), some (zI l9), none, none, none, none, none, none]) C (z_d dd_Mo_lay 18 rfl) (Nat.le_of_ble_eq_true rfl) rfl ?_
      refine r_iconst (v := (0 : Int32)) C (z_d dd_Mo_lay 19 rfl) (by decide) ?_
      refine r_istore (lv' := [some (zP l0), some (zP l1), some (zI l2), some (zI l3), some (zI l4), some (zP l5), some (zP l6), some (zP l7), some (zI l8), some (zI l9), some (zI l9), some (zI (0 : Int32)), none, none, none, none, none]) C (z_d dd_Mo_lay 20 rfl) (Nat.le_of_ble_eq_true rfl) rfl ?_
      exact s_Mo_lay_38 C hr E n l0 l1 l2 l3 l4 l5 l6 l7 l8 l9 l9 (0 : Int32) M h
    · have h := ziff h c8
      refine r_aload C (z_d dd_Mo_lay 9 rfl) rfl ?_
      refine r_iload C (z_d dd_Mo_lay 10 rfl) rfl ?_
      refine r_iload C (z_d dd_Mo_lay 11 rfl) rfl ?_
      refine r_iadd C (z_d dd_Mo_lay 12 rfl) ?_
      refine r_iconst (v := (-1 : Int32)) C (z_d dd_Mo_lay 13 rfl) (by decide) ?_
      obtain ⟨h1, h⟩ := zif h
      obtain ⟨h2, h⟩ := zif h
      obtain ⟨M3, e4, h⟩ := zlet_ex h
      have h5 := k_i e4 h1
      refine r_iast C (z_d dd_Mo_lay 14 rfl) h1 h2 e4 ?_
      obtain ⟨v6, e7, h⟩ := zlet_ex h
      refine r_iinc (v := v6) (lv' := [some (zP l0), some (zP l1), some (zI l2), some (zI l3), some (zI l4), some (zP l5), some (zP l6), some (zP l7), some (zI l8), some (zI l9), some (zI v6), none, none, none, none, none, none]) C (z_d dd_Mo_lay 15 rfl) rfl (Nat.le_of_ble_eq_true rfl) (by rw [e7]; rfl) rfl ?_
      refine r_goto C 9 (z_d dd_Mo_lay 16 rfl) (by decide) ?_
      exact ih l0 l1 l2 l3 l4 l5 l6 l7 l8 l9 v6 M3 h
def f_Mo_lay_0 (O : zO) (n : Nat) (l0 : Nat) (l1 : Nat) (l2 : Int32) (l3 : Int32) (l4 : Int32) (l5 : Nat) (l6 : Nat) (l7 : Nat) (l8 : Int32) (M : zM) : Option (Unit × zM) :=
  zlet ((1 : Int32) <<< (l4 &&& 31)) fun v1 =>
  f_Mo_lay_9 O n l0 l1 l2 l3 l4 l5 l6 l7 l8 v1 (0 : Int32) M
set_option maxRecDepth 100000 in
set_option maxHeartbeats 4000000 in
theorem s_Mo_lay_0 {X : zX} {q : Unit × zM} (C : zC X zR12 prog_14_method_10_code 17 { frames := 1, cells := 0, slots := 0, locals := 22 }) (hr : zRt X none) (E : zE X none q.2 0 0) : ∀ (n : Nat) (l0 : Nat) (l1 : Nat) (l2 : Int32) (l3 : Int32) (l4 : Int32) (l5 : Nat) (l6 : Nat) (l7 : Nat) (l8 : Int32) (M : zM), f_Mo_lay_0 (zOD X) n l0 l1 l2 l3 l4 l5 l6 l7 l8 M = some q → zW X 0 0 0 [some (zP l0), some (zP l1), some (zI l2), some (zI l3), some (zI l4), some (zP l5), some (zP l6), some (zP l7), some (zI l8), none, none, none, none, none, none, none, none] [] M := by
  intro n l0 l1 l2 l3 l4 l5 l6 l7 l8 M h
  rw [f_Mo_lay_0] at h
  refine r_iconst (v := (1 : Int32)) C (z_d dd_Mo_lay 0 rfl) (by decide) ?_
  refine r_iload C (z_d dd_Mo_lay 1 rfl) rfl ?_
  refine r_ishl C (z_d dd_Mo_lay 2 rfl) ?_
  obtain ⟨v1, e2, h⟩ := zlet_ex h
  refine r_nmI e2 ?_
  refine r_istore (lv' := [some (zP l0), some (zP l1), some (zI l2), some (zI l3), some (zI l4), some (zP l5), some (zP l6), some (zP l7), some (zI l8), some (zI v1), none, none, none, none, none, none, none]) C (z_d dd_Mo_lay 3 rfl) (Nat.le_of_ble_eq_true rfl) rfl ?_
  refine r_iconst (v := (0 : Int32)) C (z_d dd_Mo_lay 4 rfl) (by decide) ?_
  refine r_istore (lv' := [some (zP l0), some (zP l1), some (zI l2), some (zI l3), some (zI l4), some (zP l5), some (zP l6), some (zP l7), some (zI l8), some (zI v1), some (zI (0 : Int32)), none, none, none, none, none, none]) C (z_d dd_Mo_lay 5 rfl) (Nat.le_of_ble_eq_true rfl) rfl ?_
  exact s_Mo_lay_9 C hr E n l0 l1 l2 l3 l4 l5 l6 l7 l8 v1 (0 : Int32) M h
def F_Mo_lay (O : zO) (n : Nat) (l0 : Nat) (l1 : Nat) (l2 : Int32) (l3 : Int32) (l4 : Int32) (l5 : Nat) (l6 : Nat) (l7 : Nat) (l8 : Int32) (M : zM) : Option (Unit × zM) := f_Mo_lay_0 O n l0 l1 l2 l3 l4 l5 l6 l7 l8 M
theorem S_Mo_lay {l : Launch} {D : zD} {n : Nat} {l0 : Nat} {l1 : Nat} {l2 : Int32} {l3 : Int32} {l4 : Int32} {l5 : Nat} {l6 : Nat} {l7 : Nat} {l8 : Int32} {M : zM} {q : Unit × zM} (h : F_Mo_lay D.2.2.2.2 n l0 l1 l2 l3 l4 l5 l6 l7 l8 M = some q) : zMet l D mi_Mo_lay [zP l0, zP l1, zI l2, zI l3, zI l4, zP l5, zP l6, zP l7, zI l8] M none q.2 :=
  z_met (by decide) (Nat.le_of_ble_eq_true rfl) (fun X C E hr hin hD hl => by
    subst hD
    exact s_Mo_lay_0 C hr E n l0 l1 l2 l3 l4 l5 l6 l7 l8 M h)

def f_Mo_take_5 (O : zO) : Nat → Nat → Int32 → Int64 → Int32 → zM → Option (Int64 × zM)
  | 0, _, _, _, _, _ => none
  | n + 1, l0, l1, l2, l4, M =>
    if l1 ≤ l4 then
    some (l2, M)
    else
    if z_k M l0 = 13 then
    zlet (w_i M l0 48 ((z_i M l0 48) - (1 : Int32))) fun M2 =>
    (F_Mo_bit O n l0 ((z_i M2 l0 47) + (z_i M2 l0 48)) M2).bind fun q5 =>
    zlet (((2 : Int64) * l2) + q5.1.toInt64) fun v7 =>
    zlet (l4 + (1 : Int32)) fun v9 =>
    f_Mo_take_5 O n l0 l1 v7 v9 q5.2
    else none
set_option maxRecDepth 100000 in
set_option maxHeartbeats 4000000 in
theorem s_Mo_take_5 {X : zX} {q : Int64 × zM} (C : zC X zR12 prog_14_method_16_code 5 { frames := 1, cells := 0, slots := 0, locals := 21 }) (hr : zRt X (some .long)) (E : zE X (some (zL q.1)) q.2 0 0) : ∀ (n : Nat) (l0 : Nat) (l1 : Int32) (l2 : Int64) (l4 : Int32) (M : zM), f_Mo_take_5 (zOD X) n l0 l1 l2 l4 M = some q → zW X 0 0 5 [some (zP l0), some (zI l1), some (zL l2), none, some (zI l4)] [] M := by
  intro n
  induction n with
  | zero => intro l0 l1 l2 l4 M h; rw [f_Mo_take_5] at h; cases h
  | succ n ih =>
    intro l0 l1 l2 l4 M h
    rw [f_Mo_take_5] at h
    refine r_iload C (z_d dd_Mo_take 4 rfl) rfl ?_
    refine r_iload_n C (z_d dd_Mo_take 5 rfl) rfl ?_
    refine r_icmp_ge C 48 (z_d dd_Mo_take 6 rfl) (by decide) (fun c11 => ?_) (fun c11 => ?_)
    · have h := zift h c11
      refine r_lload_n C (z_d dd_Mo_take 28 rfl) rfl ?_
      obtain rfl := z_res h
      exact r_lret C E hr (z_d dd_Mo_take 29 rfl) (Nat.le_of_ble_eq_true rfl) (Nat.le_of_ble_eq_true rfl)
    · have h := ziff h c11
      refine r_aload_n C (z_d dd_Mo_take 7 rfl) rfl ?_
      refine r_dupP C (z_d dd_Mo_take 8 rfl) ?_
      obtain ⟨h1, h⟩ := zif h
      refine r_getI C (z_d dd_Mo_take 9 rfl) lk_Mo_116 rfl h1 rfl ?_
      refine r_iconst (v := (1 : Int32)) C (z_d dd_Mo_take 10 rfl) (by decide) ?_
      refine r_isub C (z_d dd_Mo_take 11 rfl) ?_
      obtain ⟨M2, e3, h⟩ := zlet_ex h
      have h4 := k_i e3 h1
      refine r_putI C (z_d dd_Mo_take 12 rfl) lp_Mo_116 rfl h1 e3 ?_
      refine r_ldc2 (v := (2 : Int64)) C (z_d dd_Mo_take 13 rfl) kl_Mo_119 ?_
      refine r_lload_n C (z_d dd_Mo_take 14 rfl) rfl ?_
      refine r_lmul C (z_d dd_Mo_take 15 rfl) ?_
      refine r_aload_n C (z_d dd_Mo_take 16 rfl) rfl ?_
      refine r_aload_n C (z_d dd_Mo_take 17 rfl) rfl ?_
      refine r_getI C (z_d dd_Mo_take 18 rfl) lk_Mo_113 rfl h4 rfl ?_
      refine r_aload_n C (z_d dd_Mo_take 19 rfl) rfl ?_
      refine r_getI C (z_d dd_Mo_take 20 rfl) lk_Mo_116 rfl h4 rfl ?_
      refine r_iadd C (z_d dd_Mo_take 21 rfl) ?_
      obtain ⟨q5, c6, h⟩ := zbd h
      refine r_invV (as := [zI ((z_i M2 l0 47) + (z_i M2 l0 48))]) C 12 (S_Mo_bit c6) (z_d dd_Mo_take 22 rfl) ok_Mo_bit iv_Mo_bit se_Mo_bit ml_Mo_91 rfl rfl h4 rfl rfl rfl (Nat.le_of_ble_eq_true rfl) ⟨(Nat.le_of_ble_eq_true rfl), (Nat.le_of_ble_eq_true rfl)⟩ ⟨(Nat.le_of_ble_eq_true rfl), (Nat.le_of_ble_eq_true rfl)⟩ ?_
      refine r_i2l C (z_d dd_Mo_take 23 rfl) ?_
      refine r_ladd C (z_d dd_Mo_take 24 rfl) ?_
      obtain ⟨v7, e8, h⟩ := zlet_ex h
      refine r_nmL e8 ?_
      refine r_lstore_n (lv' := [some (zP l0), some (zI l1), some (zL v7), none, some (zI l4)]) C (z_d dd_Mo_take 25 rfl) (Nat.le_of_ble_eq_true rfl) rfl ?_
      obtain ⟨v9, e10, h⟩ := zlet_ex h
      refine r_iinc (v := v9) (lv' := [some (zP l0), some (zI l1), some (zL v7), none, some (zI v9)]) C (z_d dd_Mo_take 26 rfl) rfl (Nat.le_of_ble_eq_true rfl) (by rw [e10]; rfl) rfl ?_
      refine r_goto C 5 (z_d dd_Mo_take 27 rfl) (by decide) ?_
      exact ih l0 l1 v7 v9 q5.2 h
def f_Mo_take_0 (O : zO) (n : Nat) (l0 : Nat) (l1 : Int32) (M : zM) : Option (Int64 × zM) :=
  f_Mo_take_5 O n l0 l1 (0 : Int64) (0 : Int32) M
set_option maxRecDepth 100000 in
set_option maxHeartbeats 4000000 in
theorem s_Mo_take_0 {X : zX} {q : Int64 × zM} (C : zC X zR12 prog_14_method_16_code 5 { frames := 1, cells := 0, slots := 0, locals := 21 }) (hr : zRt X (some .long)) (E : zE X (some (zL q.1)) q.2 0 0) : ∀ (n : Nat) (l0 : Nat) (l1 : Int32) (M : zM), f_Mo_take_0 (zOD X) n l0 l1 M = some q → zW X 0 0 0 [some (zP l0), some (zI l1), none, none, none] [] M := by
  intro n l0 l1 M h
  rw [f_Mo_take_0] at h
  refine r_lconst (v := (0 : Int64)) C (z_d dd_Mo_take 0 rfl) (by decide) ?_
  refine r_lstore_n (lv' := [some (zP l0), some (zI l1), some (zL (0 : Int64)), none, none]) C (z_d dd_Mo_take 1 rfl) (Nat.le_of_ble_eq_true rfl) rfl ?_
  refine r_iconst (v := (0 : Int32)) C (z_d dd_Mo_take 2 rfl) (by decide) ?_
  refine r_istore (lv' := [some (zP l0), some (zI l1), some (zL (0 : Int64)), none, some (zI (0 : Int32))]) C (z_d dd_Mo_take 3 rfl) (Nat.le_of_ble_eq_true rfl) rfl ?_
  exact s_Mo_take_5 C hr E n l0 l1 (0 : Int64) (0 : Int32) M h
def F_Mo_take (O : zO) (n : Nat) (l0 : Nat) (l1 : Int32) (M : zM) : Option (Int64 × zM) := f_Mo_take_0 O n l0 l1 M
theorem S_Mo_take {l : Launch} {D : zD} {n : Nat} {l0 : Nat} {l1 : Int32} {M : zM} {q : Int64 × zM} (h : F_Mo_take D.2.2.2.2 n l0 l1 M = some q) : zMet l D mi_Mo_take [zP l0, zI l1] M (some (zL q.1)) q.2 :=
  z_met (by decide) (Nat.le_of_ble_eq_true rfl) (fun X C E hr hin hD hl => by
    subst hD
    exact s_Mo_take_0 C hr E n l0 l1 M h)

def f_Mo_weightsByStates_24 (O : zO) (n : Nat) (M : zM) : Option (Int32 × zM) :=
  some ((-1 : Int32), M)
set_option maxRecDepth 100000 in
set_option maxHeartbeats 4000000 in
theorem s_Mo_weightsByStates_24 {X : zX} {q : Int32 × zM} (C : zC X zR12 prog_14_method_20_code 10 { frames := 2, cells := 0, slots := 0, locals := 58 }) (hr : zRt X (some .int)) (E : zE X (some (zI q.1)) q.2 0 0) : ∀ (n : Nat) (M : zM), f_Mo_weightsByStates_24 (zOD X) n M = some q → zW X 0 0 24 [none, none, none, none, none, none, none, none, none, none] [] M := by
  intro n M h
  rw [f_Mo_weightsByStates_24] at h
  refine r_iconst (v := (-1 : Int32)) C (z_d dd_Mo_weightsByStates 14 rfl) (by decide) ?_
  obtain rfl := z_res h
  exact r_iretI C E hr (z_d dd_Mo_weightsByStates 15 rfl) (Nat.le_of_ble_eq_true rfl) (Nat.le_of_ble_eq_true rfl)
def f_Mo_weightsByStates_248 (O : zO) (k97 : Nat → Int32 → Int32 → Int32 → Int32 → zM → Option (Int32 × zM)) (n : Nat) (l0 : Nat) (l4 : Int32) (l5 : Int32) (l6 : Int32) (s0 : Int32) (M : zM) : Option (Int32 × zM) :=
  k97 l0 l4 l5 l6 s0 M
set_option maxRecDepth 100000 in
set_option maxHeartbeats 4000000 in
theorem s_Mo_weightsByStates_248 {X : zX} {q : Int32 × zM} (C : zC X zR12 prog_14_method_20_code 10 { frames := 2, cells := 0, slots := 0, locals := 58 }) (hr : zRt X (some .int)) (E : zE X (some (zI q.1)) q.2 0 0) {k97 : Nat → Int32 → Int32 → Int32 → Int32 → zM → Option (Int32 × zM)} (hk97 : ∀ (l0 : Nat) (l4 : Int32) (l5 : Int32) (l6 : Int32) (l7 : Int32) (M : zM), k97 l0 l4 l5 l6 l7 M = some q → zW X 0 0 97 [some (zP l0), none, none, none, some (zI l4), some (zI l5), some (zI l6), some (zI l7), none, none] [] M) : ∀ (n : Nat) (l0 : Nat) (l4 : Int32) (l5 : Int32) (l6 : Int32) (s0 : Int32) (M : zM), f_Mo_weightsByStates_248 (zOD X) k97 n l0 l4 l5 l6 s0 M = some q → zW X 0 0 248 [some (zP l0), none, none, none, some (zI l4), some (zI l5), some (zI l6), none, none, none] [zI s0] M := by
  intro n l0 l4 l5 l6 s0 M h
  rw [f_Mo_weightsByStates_248] at h
  refine r_istore (lv' := [some (zP l0), none, none, none, some (zI l4), some (zI l5), some (zI l6), some (zI s0), none, none]) C (z_d dd_Mo_weightsByStates 131 rfl) (Nat.le_of_ble_eq_true rfl) rfl ?_
  refine r_goto C 97 (z_d dd_Mo_weightsByStates 132 rfl) (by decide) ?_
  exact hk97 l0 l4 l5 l6 s0 M h
def f_Mo_weightsByStates_236 (O : zO) (k97 : Nat → Int32 → Int32 → Int32 → Int32 → zM → Option (Int32 × zM)) (n : Nat) (l0 : Nat) (l4 : Int32) (l6 : Int32) (l7 : Int32) (s0 : Int32) (M : zM) : Option (Int32 × zM) :=
  if l7 = 0 then
  f_Mo_weightsByStates_248 O k97 n l0 l4 s0 l6 (1 : Int32) M
  else
  f_Mo_weightsByStates_248 O k97 n l0 l4 s0 l6 (0 : Int32) M
set_option maxRecDepth 100000 in
set_option maxHeartbeats 4000000 in
theorem s_Mo_weightsByStates_236 {X : zX} {q : Int32 × zM} (C : zC X zR12 prog_14_method_20_code 10 { frames := 2, cells := 0, slots := 0, locals := 58 }) (hr : zRt X (some .int)) (E : zE X (some (zI q.1)) q.2 0 0) {k97 : Nat → Int32 → Int32 → Int32 → Int32 → zM → Option (Int32 × zM)} (hk97 : ∀ (l0 : Nat) (l4 : Int32) (l5 : Int32) (l6 : Int32) (l7 : Int32) (M : zM), k97 l0 l4 l5 l6 l7 M = some q → zW X 0 0 97 [some (zP l0), none, none, none, some (zI l4), some (zI l5), some (zI l6), some (zI l7), none, none] [] M) : ∀ (n : Nat) (l0 : Nat) (l4 : Int32) (l6 : Int32) (l7 : Int32) (s0 : Int32) (M : zM), f_Mo_weightsByStates_236 (zOD X) k97 n l0 l4 l6 l7 s0 M = some q → zW X 0 0 236 [some (zP l0), none, none, none, some (zI l4), none, some (zI l6), some (zI l7), none, none] [zI s0] M := by
  intro n l0 l4 l6 l7 s0 M h
  rw [f_Mo_weightsByStates_236] at h
  refine r_istore (lv' := [some (zP l0), none, none, none, some (zI l4), some (zI s0), some (zI l6), some (zI l7), none, none]) C (z_d dd_Mo_weightsByStates 125 rfl) (Nat.le_of_ble_eq_true rfl) rfl ?_
  refine r_iload C (z_d dd_Mo_weightsByStates 126 rfl) rfl ?_
  refine r_if_ne C 247 (z_d dd_Mo_weightsByStates 127 rfl) (by decide) (fun c1 => ?_) (fun c1 => ?_)
  · have h := ziff h c1
    refine r_iconst (v := (0 : Int32)) C (z_d dd_Mo_weightsByStates 130 rfl) (by decide) ?_
    refine r_mk [true, false, false, false, true, true, true, false, false, false] ?_
    exact s_Mo_weightsByStates_248 C hr E hk97 n l0 l4 s0 l6 (0 : Int32) M h
  · have h := zift h c1
    refine r_iconst (v := (1 : Int32)) C (z_d dd_Mo_weightsByStates 128 rfl) (by decide) ?_
    refine r_goto C 248 (z_d dd_Mo_weightsByStates 129 rfl) (by decide) ?_
    refine r_mk [true, false, false, false, true, true, true, false, false, false] ?_
    exact s_Mo_weightsByStates_248 C hr E hk97 n l0 l4 s0 l6 (1 : Int32) M h
def f_Mo_weightsByStates_222 (O : zO) (k97 : Nat → Int32 → Int32 → Int32 → Int32 → zM → Option (Int32 × zM)) (n : Nat) (l0 : Nat) (l5 : Int32) (l6 : Int32) (l7 : Int32) (l8 : Int32) (s0 : Int32) (M : zM) : Option (Int32 × zM) :=
  if l7 = 0 then
  f_Mo_weightsByStates_236 O k97 n l0 s0 l6 l7 l8 M
  else
  f_Mo_weightsByStates_236 O k97 n l0 s0 l6 l7 l5 M
set_option maxRecDepth 100000 in
set_option maxHeartbeats 4000000 in
theorem s_Mo_weightsByStates_222 {X : zX} {q : Int32 × zM} (C : zC X zR12 prog_14_method_20_code 10 { frames := 2, cells := 0, slots := 0, locals := 58 }) (hr : zRt X (some .int)) (E : zE X (some (zI q.1)) q.2 0 0) {k97 : Nat → Int32 → Int32 → Int32 → Int32 → zM → Option (Int32 × zM)} (hk97 : ∀ (l0 : Nat) (l4 : Int32) (l5 : Int32) (l6 : Int32) (l7 : Int32) (M : zM), k97 l0 l4 l5 l6 l7 M = some q → zW X 0 0 97 [some (zP l0), none, none, none, some (zI l4), some (zI l5), some (zI l6), some (zI l7), none, none] [] M) : ∀ (n : Nat) (l0 : Nat) (l5 : Int32) (l6 : Int32) (l7 : Int32) (l8 : Int32) (s0 : Int32) (M : zM), f_Mo_weightsByStates_222 (zOD X) k97 n l0 l5 l6 l7 l8 s0 M = some q → zW X 0 0 222 [some (zP l0), none, none, none, none, some (zI l5), some (zI l6), some (zI l7), some (zI l8), none] [zI s0] M := by
  intro n l0 l5 l6 l7 l8 s0 M h
  rw [f_Mo_weightsByStates_222] at h
  refine r_istore (lv' := [some (zP l0), none, none, none, some (zI s0), some (zI l5), some (zI l6), some (zI l7), some (zI l8), none]) C (z_d dd_Mo_weightsByStates 119 rfl) (Nat.le_of_ble_eq_true rfl) rfl ?_
  refine r_iload C (z_d dd_Mo_weightsByStates 120 rfl) rfl ?_
  refine r_if_eq C 234 (z_d dd_Mo_weightsByStates 121 rfl) (by decide) (fun c1 => ?_) (fun c1 => ?_)
  · have h := zift h c1
    refine r_iload C (z_d dd_Mo_weightsByStates 124 rfl) rfl ?_
    refine r_mk [true, false, false, false, true, false, true, true, false, false] ?_
    exact s_Mo_weightsByStates_236 C hr E hk97 n l0 s0 l6 l7 l8 M h
  · have h := ziff h c1
    refine r_iload C (z_d dd_Mo_weightsByStates 122 rfl) rfl ?_
    refine r_goto C 236 (z_d dd_Mo_weightsByStates 123 rfl) (by decide) ?_
    refine r_mk [true, false, false, false, true, false, true, true, false, false] ?_
    exact s_Mo_weightsByStates_236 C hr E hk97 n l0 s0 l6 l7 l5 M h
def f_Mo_weightsByStates_186 (O : zO) (n : Nat) (l6 : Int32) (s0 : Nat) (s1 : Int32) (s2 : Nat) (s3 : Int32) (M : zM) : Option (Int32 × zM) :=
  if z_k M s2 = 100 then
  if zin s3 (z_n M s2) = true then
  if z_k M s0 = 100 then
  if zin s1 (z_n M s0) = true then
  zlet (w_i M s0 s1.toNatClampNeg (z_i M s2 s3.toNatClampNeg)) fun M5 =>
  some ((l6 + (1 : Int32)), M5)
  else none
  else none
  else none
  else none
set_option maxRecDepth 100000 in
set_option maxHeartbeats 4000000 in
theorem s_Mo_weightsByStates_186 {X : zX} {q : Int32 × zM} (C : zC X zR12 prog_14_method_20_code 10 { frames := 2, cells := 0, slots := 0, locals := 58 }) (hr : zRt X (some .int)) (E : zE X (some (zI q.1)) q.2 0 0) : ∀ (n : Nat) (l6 : Int32) (s0 : Nat) (s1 : Int32) (s2 : Nat) (s3 : Int32) (M : zM), f_Mo_weightsByStates_186 (zOD X) n l6 s0 s1 s2 s3 M = some q → zW X 0 0 186 [none, none, none, none, none, none, some (zI l6), none, none, none] [zI s3, zP s2, zI s1, zP s0] M := by
  intro n l6 s0 s1 s2 s3 M h
  rw [f_Mo_weightsByStates_186] at h
  obtain ⟨h1, h⟩ := zif h
  obtain ⟨h2, h⟩ := zif h
  refine r_iald C (z_d dd_Mo_weightsByStates 98 rfl) h1 h2 rfl ?_
  obtain ⟨h3, h⟩ := zif h
  obtain ⟨h4, h⟩ := zif h
  obtain ⟨M5, e6, h⟩ := zlet_ex h
  have h7 := k_i e6 h1
  have h8 := k_i e6 h3
  refine r_iast C (z_d dd_Mo_weightsByStates 99 rfl) h3 h4 e6 ?_
  refine r_iload C (z_d dd_Mo_weightsByStates 100 rfl) rfl ?_
  refine r_iconst (v := (1 : Int32)) C (z_d dd_Mo_weightsByStates 101 rfl) (by decide) ?_
  refine r_iadd C (z_d dd_Mo_weightsByStates 102 rfl) ?_
  obtain rfl := z_res h
  exact r_iretI C E hr (z_d dd_Mo_weightsByStates 103 rfl) (Nat.le_of_ble_eq_true rfl) (Nat.le_of_ble_eq_true rfl)
def f_Mo_weightsByStates_117 (O : zO) (k97 : Nat → Int32 → Int32 → Int32 → Int32 → zM → Option (Int32 × zM)) (n : Nat) (l0 : Nat) (l4 : Int32) (l5 : Int32) (l6 : Int32) (l7 : Int32) (s0 : Int32) (M : zM) : Option (Int32 × zM) :=
  if z_k M l0 = 13 then
  if z_k M (z_p M l0 25) = 100 then
  if zin s0 (z_n M (z_p M l0 25)) = true then
  if z_k M (z_p M l0 23) = 100 then
  if zin l6 (z_n M (z_p M l0 23)) = true then
  zlet (w_i M (z_p M l0 23) l6.toNatClampNeg (z_i M (z_p M l0 25) s0.toNatClampNeg)) fun M6 =>
  zlet (l6 + (1 : Int32)) fun v11 =>
  if z_k M6 (z_p M6 l0 26) = 100 then
  if zin s0 (z_n M6 (z_p M6 l0 26)) = true then
  zlet (z_i M6 (z_p M6 l0 26) s0.toNatClampNeg) fun v15 =>
  if v15 ≤ (z_i M6 l0 48) then
  if z_k M6 (z_p M6 l0 27) = 100 then
  if zin s0 (z_n M6 (z_p M6 l0 27)) = true then
  (F_Mo_take O n l0 v15 M6).bind fun q19 =>
  zlet ((z_i M6 (z_p M6 l0 27) s0.toNatClampNeg) + q19.1.toInt32) fun v21 =>
  if l7 = 0 then
  f_Mo_weightsByStates_222 O k97 n l0 l5 v11 l7 v21 l4 q19.2
  else
  f_Mo_weightsByStates_222 O k97 n l0 l5 v11 l7 v21 v21 q19.2
  else none
  else none
  else
  if v11 = (255 : Int32) then
  some ((-1 : Int32), M6)
  else
  if l7 = 0 then
  f_Mo_weightsByStates_186 O n v11 (z_p M6 l0 23) v11 (z_p M6 l0 25) l4 M6
  else
  f_Mo_weightsByStates_186 O n v11 (z_p M6 l0 23) v11 (z_p M6 l0 25) l5 M6
  else none
  else none
  else none
  else none
  else none
  else none
  else none
set_option maxRecDepth 100000 in
set_option maxHeartbeats 4000000 in
theorem s_Mo_weightsByStates_117 {X : zX} {q : Int32 × zM} (C : zC X zR12 prog_14_method_20_code 10 { frames := 2, cells := 0, slots := 0, locals := 58 }) (hr : zRt X (some .int)) (E : zE X (some (zI q.1)) q.2 0 0) {k97 : Nat → Int32 → Int32 → Int32 → Int32 → zM → Option (Int32 × zM)} (hk97 : ∀ (l0 : Nat) (l4 : Int32) (l5 : Int32) (l6 : Int32) (l7 : Int32) (M : zM), k97 l0 l4 l5 l6 l7 M = some q → zW X 0 0 97 [some (zP l0), none, none, none, some (zI l4), some (zI l5), some (zI l6), some (zI l7), none, none] [] M) : ∀ (n : Nat) (l0 : Nat) (l4 : Int32) (l5 : Int32) (l6 : Int32) (l7 : Int32) (s0 : Int32) (M : zM), f_Mo_weightsByStates_117 (zOD X) k97 n l0 l4 l5 l6 l7 s0 M = some q → zW X 0 0 117 [some (zP l0), none, none, none, some (zI l4), some (zI l5), some (zI l6), some (zI l7), none, none] [zI s0] M := by
  intro n l0 l4 l5 l6 l7 s0 M h
  rw [f_Mo_weightsByStates_117] at h
  refine r_istore (lv' := [some (zP l0), none, none, none, some (zI l4), some (zI l5), some (zI l6), some (zI l7), some (zI s0), none]) C (z_d dd_Mo_weightsByStates 64 rfl) (Nat.le_of_ble_eq_true rfl) rfl ?_
  refine r_aload_n C (z_d dd_Mo_weightsByStates 65 rfl) rfl ?_
  obtain ⟨h1, h⟩ := zif h
  refine r_getP C (z_d dd_Mo_weightsByStates 66 rfl) lk_Mo_60 rfl h1 rfl ?_
  refine r_iload C (z_d dd_Mo_weightsByStates 67 rfl) rfl ?_
  refine r_aload_n C (z_d dd_Mo_weightsByStates 68 rfl) rfl ?_
  refine r_getP C (z_d dd_Mo_weightsByStates 69 rfl) lk_Mo_66 rfl h1 rfl ?_
  refine r_iload C (z_d dd_Mo_weightsByStates 70 rfl) rfl ?_
  obtain ⟨h2, h⟩ := zif h
  obtain ⟨h3, h⟩ := zif h
  refine r_iald C (z_d dd_Mo_weightsByStates 71 rfl) h2 h3 rfl ?_
  obtain ⟨h4, h⟩ := zif h
  obtain ⟨h5, h⟩ := zif h
  obtain ⟨M6, e7, h⟩ := zlet_ex h
  have h8 := k_i e7 h1
  have h9 := k_i e7 h2
  have h10 := k_i e7 h4
  refine r_iast C (z_d dd_Mo_weightsByStates 72 rfl) h4 h5 e7 ?_
  obtain ⟨v11, e12, h⟩ := zlet_ex h
  refine r_iinc (v := v11) (lv' := [some (zP l0), none, none, none, some (zI l4), some (zI l5), some (zI v11), some (zI l7), some (zI s0), none]) C (z_d dd_Mo_weightsByStates 73 rfl) rfl (Nat.le_of_ble_eq_true rfl) (by rw [e12]; rfl) rfl ?_
  refine r_aload_n C (z_d dd_Mo_weightsByStates 74 rfl) rfl ?_
  refine r_getP C (z_d dd_Mo_weightsByStates 75 rfl) lk_Mo_69 rfl h8 rfl ?_
  refine r_iload C (z_d dd_Mo_weightsByStates 76 rfl) rfl ?_
  obtain ⟨h13, h⟩ := zif h
  obtain ⟨h14, h⟩ := zif h
  refine r_iald C (z_d dd_Mo_weightsByStates 77 rfl) h13 h14 rfl ?_
  obtain ⟨v15, e16, h⟩ := zlet_ex h
  refine r_nmI e16 ?_
  refine r_istore (lv' := [some (zP l0), none, none, none, some (zI l4), some (zI l5), some (zI v11), some (zI l7), some (zI s0), some (zI v15)]) C (z_d dd_Mo_weightsByStates 78 rfl) (Nat.le_of_ble_eq_true rfl) rfl ?_
  refine r_aload_n C (z_d dd_Mo_weightsByStates 79 rfl) rfl ?_
  refine r_getI C (z_d dd_Mo_weightsByStates 80 rfl) lk_Mo_116 rfl h8 rfl ?_
  refine r_iload C (z_d dd_Mo_weightsByStates 81 rfl) rfl ?_
  refine r_icmp_ge C 193 (z_d dd_Mo_weightsByStates 82 rfl) (by decide) (fun c26 => ?_) (fun c26 => ?_)
  · have h := zift h c26
    refine r_aload_n C (z_d dd_Mo_weightsByStates 104 rfl) rfl ?_
    refine r_getP C (z_d dd_Mo_weightsByStates 105 rfl) lk_Mo_72 rfl h8 rfl ?_
    refine r_iload C (z_d dd_Mo_weightsByStates 106 rfl) rfl ?_
    obtain ⟨h17, h⟩ := zif h
    obtain ⟨h18, h⟩ := zif h
    refine r_iald C (z_d dd_Mo_weightsByStates 107 rfl) h17 h18 rfl ?_
    refine r_aload_n C (z_d dd_Mo_weightsByStates 108 rfl) rfl ?_
    refine r_iload C (z_d dd_Mo_weightsByStates 109 rfl) rfl ?_
    obtain ⟨q19, c20, h⟩ := zbd h
    refine r_invV (as := [zI v15]) C 12 (S_Mo_take c20) (z_d dd_Mo_weightsByStates 110 rfl) ok_Mo_take iv_Mo_take se_Mo_take ml_Mo_142 rfl rfl h8 rfl rfl rfl (Nat.le_of_ble_eq_true rfl) ⟨(Nat.le_of_ble_eq_true rfl), (Nat.le_of_ble_eq_true rfl)⟩ ⟨(Nat.le_of_ble_eq_true rfl), (Nat.le_of_ble_eq_true rfl)⟩ ?_
    refine r_l2i C (z_d dd_Mo_weightsByStates 111 rfl) ?_
    refine r_iadd C (z_d dd_Mo_weightsByStates 112 rfl) ?_
    obtain ⟨v21, e22, h⟩ := zlet_ex h
    refine r_nmI e22 ?_
    refine r_istore (lv' := [some (zP l0), none, none, none, some (zI l4), some (zI l5), some (zI v11), some (zI l7), some (zI v21), some (zI v15)]) C (z_d dd_Mo_weightsByStates 113 rfl) (Nat.le_of_ble_eq_true rfl) rfl ?_
    refine r_iload C (z_d dd_Mo_weightsByStates 114 rfl) rfl ?_
    refine r_if_eq C 220 (z_d dd_Mo_weightsByStates 115 rfl) (by decide) (fun c23 => ?_) (fun c23 => ?_)
    · have h := zift h c23
      refine r_iload C (z_d dd_Mo_weightsByStates 118 rfl) rfl ?_
      refine r_mk [true, false, false, false, false, true, true, true, true, false] ?_
      exact s_Mo_weightsByStates_222 C hr E hk97 n l0 l5 v11 l7 v21 l4 q19.2 h
    · have h := ziff h c23
      refine r_iload C (z_d dd_Mo_weightsByStates 116 rfl) rfl ?_
      refine r_goto C 222 (z_d dd_Mo_weightsByStates 117 rfl) (by decide) ?_
      refine r_mk [true, false, false, false, false, true, true, true, true, false] ?_
      exact s_Mo_weightsByStates_222 C hr E hk97 n l0 l5 v11 l7 v21 v21 q19.2 h
  · have h := ziff h c26
    refine r_iload C (z_d dd_Mo_weightsByStates 83 rfl) rfl ?_
    refine r_sipush (v := (255 : Int32)) C (z_d dd_Mo_weightsByStates 84 rfl) (by decide) ?_
    refine r_icmp_ne C 164 (z_d dd_Mo_weightsByStates 85 rfl) (by decide) (fun c25 => ?_) (fun c25 => ?_)
    · have h := ziff h c25
      refine r_aload_n C (z_d dd_Mo_weightsByStates 88 rfl) rfl ?_
      refine r_getP C (z_d dd_Mo_weightsByStates 89 rfl) lk_Mo_60 rfl h8 rfl ?_
      refine r_iload C (z_d dd_Mo_weightsByStates 90 rfl) rfl ?_
      refine r_aload_n C (z_d dd_Mo_weightsByStates 91 rfl) rfl ?_
      refine r_getP C (z_d dd_Mo_weightsByStates 92 rfl) lk_Mo_66 rfl h8 rfl ?_
      refine r_iload C (z_d dd_Mo_weightsByStates 93 rfl) rfl ?_
      refine r_if_eq C 184 (z_d dd_Mo_weightsByStates 94 rfl) (by decide) (fun c24 => ?_) (fun c24 => ?_)
      · have h := zift h c24
        refine r_iload C (z_d dd_Mo_weightsByStates 97 rfl) rfl ?_
        refine r_mk [false, false, false, false, false, false, true, false, false, false] ?_
        exact s_Mo_weightsByStates_186 C hr E n v11 (z_p M6 l0 23) v11 (z_p M6 l0 25) l4 M6 h
      · have h := ziff h c24
        refine r_iload C (z_d dd_Mo_weightsByStates 95 rfl) rfl ?_
        refine r_goto C 186 (z_d dd_Mo_weightsByStates 96 rfl) (by decide) ?_
        refine r_mk [false, false, false, false, false, false, true, false, false, false] ?_
        exact s_Mo_weightsByStates_186 C hr E n v11 (z_p M6 l0 23) v11 (z_p M6 l0 25) l5 M6 h
    · have h := zift h c25
      refine r_iconst (v := (-1 : Int32)) C (z_d dd_Mo_weightsByStates 86 rfl) (by decide) ?_
      obtain rfl := z_res h
      exact r_iretI C E hr (z_d dd_Mo_weightsByStates 87 rfl) (Nat.le_of_ble_eq_true rfl) (Nat.le_of_ble_eq_true rfl)
def f_Mo_weightsByStates_97 (O : zO) : Nat → Nat → Int32 → Int32 → Int32 → Int32 → zM → Option (Int32 × zM)
  | 0, _, _, _, _, _, _ => none
  | n + 1, l0, l4, l5, l6, l7, M =>
    if (255 : Int32) ≤ l6 then
    some ((-1 : Int32), M)
    else
    if l7 = 0 then
    f_Mo_weightsByStates_117 O (f_Mo_weightsByStates_97 O n) n l0 l4 l5 l6 l7 l5 M
    else
    f_Mo_weightsByStates_117 O (f_Mo_weightsByStates_97 O n) n l0 l4 l5 l6 l7 l4 M
set_option maxRecDepth 100000 in
set_option maxHeartbeats 4000000 in
theorem s_Mo_weightsByStates_97 {X : zX} {q : Int32 × zM} (C : zC X zR12 prog_14_method_20_code 10 { frames := 2, cells := 0, slots := 0, locals := 58 }) (hr : zRt X (some .int)) (E : zE X (some (zI q.1)) q.2 0 0) : ∀ (n : Nat) (l0 : Nat) (l4 : Int32) (l5 : Int32) (l6 : Int32) (l7 : Int32) (M : zM), f_Mo_weightsByStates_97 (zOD X) n l0 l4 l5 l6 l7 M = some q → zW X 0 0 97 [some (zP l0), none, none, none, some (zI l4), some (zI l5), some (zI l6), some (zI l7), none, none] [] M := by
  intro n
  induction n with
  | zero => intro l0 l4 l5 l6 l7 M h; rw [f_Mo_weightsByStates_97] at h; cases h
  | succ n ih =>
    intro l0 l4 l5 l6 l7 M h
    rw [f_Mo_weightsByStates_97] at h
    refine r_iload C (z_d dd_Mo_weightsByStates 56 rfl) rfl ?_
    refine r_sipush (v := (255 : Int32)) C (z_d dd_Mo_weightsByStates 57 rfl) (by decide) ?_
    refine r_icmp_ge C 253 (z_d dd_Mo_weightsByStates 58 rfl) (by decide) (fun c2 => ?_) (fun c2 => ?_)
    · have h := zift h c2
      refine r_iconst (v := (-1 : Int32)) C (z_d dd_Mo_weightsByStates 133 rfl) (by decide) ?_
      obtain rfl := z_res h
      exact r_iretI C E hr (z_d dd_Mo_weightsByStates 134 rfl) (Nat.le_of_ble_eq_true rfl) (Nat.le_of_ble_eq_true rfl)
    · have h := ziff h c2
      refine r_iload C (z_d dd_Mo_weightsByStates 59 rfl) rfl ?_
      refine r_if_eq C 115 (z_d dd_Mo_weightsByStates 60 rfl) (by decide) (fun c1 => ?_) (fun c1 => ?_)
      · have h := zift h c1
        refine r_iload C (z_d dd_Mo_weightsByStates 63 rfl) rfl ?_
        exact s_Mo_weightsByStates_117 C hr E ih n l0 l4 l5 l6 l7 l5 M h
      · have h := ziff h c1
        refine r_iload C (z_d dd_Mo_weightsByStates 61 rfl) rfl ?_
        refine r_goto C 117 (z_d dd_Mo_weightsByStates 62 rfl) (by decide) ?_
        exact s_Mo_weightsByStates_117 C hr E ih n l0 l4 l5 l6 l7 l4 M h
def f_Mo_weightsByStates_0 (O : zO) (n : Nat) (l0 : Nat) (l1 : Int32) (l2 : Int32) (M : zM) : Option (Int32 × zM) :=
  if z_k M l0 = 13 then
  (F_Mo_share O n l0 l1 l2 (6 : Int32) (11 : Int32) M).bind fun q2 =>
  if q2.1 < 0 then
  f_Mo_weightsByStates_24 O n q2.2
  else
  if z_k q2.2 l0 = 13 then
  (F_Mo_open O n l0 q2.1 l2 q2.2).bind fun q5 =>
  if q5.1 = 0 then
  f_Mo_weightsByStates_24 O n q5.2
  else
  if z_k q5.2 l0 = 13 then
  (F_Mo_lay O n l0 (z_p q5.2 l0 21) (0 : Int32) (12 : Int32) (z_i q5.2 l0 22) (z_p q5.2 l0 25) (z_p q5.2 l0 26) (z_p q5.2 l0 27) (0 : Int32) q5.2).bind fun q8 =>
  if z_k q8.2 l0 = 13 then
  if ((2 : Int32) * (z_i q8.2 l0 22)) ≤ (z_i q8.2 l0 48) then
  (F_Mo_take O n l0 (z_i q8.2 l0 22) q8.2).bind fun q11 =>
  zlet q11.1.toInt32 fun v13 =>
  if z_k q11.2 l0 = 13 then
  (F_Mo_take O n l0 (z_i q11.2 l0 22) q11.2).bind fun q16 =>
  zlet q16.1.toInt32 fun v18 =>
  f_Mo_weightsByStates_97 O n l0 v13 v18 (0 : Int32) (1 : Int32) q16.2
  else none
  else
  some ((-1 : Int32), q8.2)
  else none
  else none
  else none
  else none
set_option maxRecDepth 100000 in
set_option maxHeartbeats 4000000 in
theorem s_Mo_weightsByStates_0 {X : zX} {q : Int32 × zM} (C : zC X zR12 prog_14_method_20_code 10 { frames := 2, cells := 0, slots := 0, locals := 58 }) (hr : zRt X (some .int)) (E : zE X (some (zI q.1)) q.2 0 0) : ∀ (n : Nat) (l0 : Nat) (l1 : Int32) (l2 : Int32) (M : zM), f_Mo_weightsByStates_0 (zOD X) n l0 l1 l2 M = some q → zW X 0 0 0 [some (zP l0), some (zI l1), some (zI l2), none, none, none, none, none, none, none] [] M := by
  intro n l0 l1 l2 M h
  rw [f_Mo_weightsByStates_0] at h
  refine r_aload_n C (z_d dd_Mo_weightsByStates 0 rfl) rfl ?_
  refine r_iload_n C (z_d dd_Mo_weightsByStates 1 rfl) rfl ?_
  refine r_iload_n C (z_d dd_Mo_weightsByStates 2 rfl) rfl ?_
  refine r_bipush (v := (6 : Int32)) C (z_d dd_Mo_weightsByStates 3 rfl) (by decide) ?_
  refine r_bipush (v := (11 : Int32)) C (z_d dd_Mo_weightsByStates 4 rfl) (by decide) ?_
  obtain ⟨h1, h⟩ := zif h
  obtain ⟨q2, c3, h⟩ := zbd h
  refine r_invV (as := [zI l1, zI l2, zI (6 : Int32), zI (11 : Int32)]) C 12 (S_Mo_share c3) (z_d dd_Mo_weightsByStates 5 rfl) ok_Mo_share iv_Mo_share se_Mo_share ml_Mo_135 rfl rfl h1 rfl rfl rfl (Nat.le_of_ble_eq_true rfl) ⟨(Nat.le_of_ble_eq_true rfl), (Nat.le_of_ble_eq_true rfl)⟩ ⟨(Nat.le_of_ble_eq_true rfl), (Nat.le_of_ble_eq_true rfl)⟩ ?_
  refine r_istore_n (lv' := [some (zP l0), some (zI l1), some (zI l2), some (zI q2.1), none, none, none, none, none, none]) C (z_d dd_Mo_weightsByStates 6 rfl) (Nat.le_of_ble_eq_true rfl) rfl ?_
  refine r_iload_n C (z_d dd_Mo_weightsByStates 7 rfl) rfl ?_
  refine r_if_lt C 24 (z_d dd_Mo_weightsByStates 8 rfl) (by decide) (fun c22 => ?_) (fun c22 => ?_)
  · have h := zift h c22
    refine r_mk [false, false, false, false, false, false, false, false, false, false] ?_
    exact s_Mo_weightsByStates_24 C hr E n q2.2 h
  · have h := ziff h c22
    refine r_aload_n C (z_d dd_Mo_weightsByStates 9 rfl) rfl ?_
    refine r_iload_n C (z_d dd_Mo_weightsByStates 10 rfl) rfl ?_
    refine r_iload_n C (z_d dd_Mo_weightsByStates 11 rfl) rfl ?_
    obtain ⟨h4, h⟩ := zif h
    obtain ⟨q5, c6, h⟩ := zbd h
    refine r_invV (as := [zI q2.1, zI l2]) C 12 (S_Mo_open c6) (z_d dd_Mo_weightsByStates 12 rfl) ok_Mo_open iv_Mo_open se_Mo_open ml_Mo_138 rfl rfl h4 rfl rfl rfl (Nat.le_of_ble_eq_true rfl) ⟨(Nat.le_of_ble_eq_true rfl), (Nat.le_of_ble_eq_true rfl)⟩ ⟨(Nat.le_of_ble_eq_true rfl), (Nat.le_of_ble_eq_true rfl)⟩ ?_
    refine r_if_ne C 26 (z_d dd_Mo_weightsByStates 13 rfl) (by decide) (fun c21 => ?_) (fun c21 => ?_)
    · have h := ziff h c21
      refine r_aload_n C (z_d dd_Mo_weightsByStates 16 rfl) rfl ?_
      refine r_aload_n C (z_d dd_Mo_weightsByStates 17 rfl) rfl ?_
      obtain ⟨h7, h⟩ := zif h
      refine r_getP C (z_d dd_Mo_weightsByStates 18 rfl) lk_Mo_57 rfl h7 rfl ?_
      refine r_iconst (v := (0 : Int32)) C (z_d dd_Mo_weightsByStates 19 rfl) (by decide) ?_
      refine r_bipush (v := (12 : Int32)) C (z_d dd_Mo_weightsByStates 20 rfl) (by decide) ?_
      refine r_aload_n C (z_d dd_Mo_weightsByStates 21 rfl) rfl ?_
      refine r_getI C (z_d dd_Mo_weightsByStates 22 rfl) lk_Mo_95 rfl h7 rfl ?_
      refine r_aload_n C (z_d dd_Mo_weightsByStates 23 rfl) rfl ?_
      refine r_getP C (z_d dd_Mo_weightsByStates 24 rfl) lk_Mo_66 rfl h7 rfl ?_
      refine r_aload_n C (z_d dd_Mo_weightsByStates 25 rfl) rfl ?_
      refine r_getP C (z_d dd_Mo_weightsByStates 26 rfl) lk_Mo_69 rfl h7 rfl ?_
      refine r_aload_n C (z_d dd_Mo_weightsByStates 27 rfl) rfl ?_
      refine r_getP C (z_d dd_Mo_weightsByStates 28 rfl) lk_Mo_72 rfl h7 rfl ?_
      refine r_iconst (v := (0 : Int32)) C (z_d dd_Mo_weightsByStates 29 rfl) (by decide) ?_
      obtain ⟨q8, c9, h⟩ := zbd h
      refine r_invV (as := [zP (z_p q5.2 l0 21), zI (0 : Int32), zI (12 : Int32), zI (z_i q5.2 l0 22), zP (z_p q5.2 l0 25), zP (z_p q5.2 l0 26), zP (z_p q5.2 l0 27), zI (0 : Int32)]) C 12 (S_Mo_lay c9) (z_d dd_Mo_weightsByStates 30 rfl) ok_Mo_lay iv_Mo_lay se_Mo_lay ml_Mo_101 rfl rfl h7 rfl rfl rfl (Nat.le_of_ble_eq_true rfl) ⟨(Nat.le_of_ble_eq_true rfl), (Nat.le_of_ble_eq_true rfl)⟩ ⟨(Nat.le_of_ble_eq_true rfl), (Nat.le_of_ble_eq_true rfl)⟩ ?_
      refine r_aload_n C (z_d dd_Mo_weightsByStates 31 rfl) rfl ?_
      obtain ⟨h10, h⟩ := zif h
      refine r_getI C (z_d dd_Mo_weightsByStates 32 rfl) lk_Mo_116 rfl h10 rfl ?_
      refine r_iconst (v := (2 : Int32)) C (z_d dd_Mo_weightsByStates 33 rfl) (by decide) ?_
      refine r_aload_n C (z_d dd_Mo_weightsByStates 34 rfl) rfl ?_
      refine r_getI C (z_d dd_Mo_weightsByStates 35 rfl) lk_Mo_95 rfl h10 rfl ?_
      refine r_imul C (z_d dd_Mo_weightsByStates 36 rfl) ?_
      refine r_icmp_ge C 69 (z_d dd_Mo_weightsByStates 37 rfl) (by decide) (fun c20 => ?_) (fun c20 => ?_)
      · have h := zift h c20
        refine r_aload_n C (z_d dd_Mo_weightsByStates 40 rfl) rfl ?_
        refine r_aload_n C (z_d dd_Mo_weightsByStates 41 rfl) rfl ?_
        refine r_getI C (z_d dd_Mo_weightsByStates 42 rfl) lk_Mo_95 rfl h10 rfl ?_
        obtain ⟨q11, c12, h⟩ := zbd h
        refine r_invV (as := [zI (z_i q8.2 l0 22)]) C 12 (S_Mo_take c12) (z_d dd_Mo_weightsByStates 43 rfl) ok_Mo_take iv_Mo_take se_Mo_take ml_Mo_142 rfl rfl h10 rfl rfl rfl (Nat.le_of_ble_eq_true rfl) ⟨(Nat.le_of_ble_eq_true rfl), (Nat.le_of_ble_eq_true rfl)⟩ ⟨(Nat.le_of_ble_eq_true rfl), (Nat.le_of_ble_eq_true rfl)⟩ ?_
        refine r_l2i C (z_d dd_Mo_weightsByStates 44 rfl) ?_
        obtain ⟨v13, e14, h⟩ := zlet_ex h
        refine r_nmI e14 ?_
        refine r_istore (lv' := [some (zP l0), some (zI l1), some (zI l2), some (zI q2.1), some (zI v13), none, none, none, none, none]) C (z_d dd_Mo_weightsByStates 45 rfl) (Nat.le_of_ble_eq_true rfl) rfl ?_
        refine r_aload_n C (z_d dd_Mo_weightsByStates 46 rfl) rfl ?_
        refine r_aload_n C (z_d dd_Mo_weightsByStates 47 rfl) rfl ?_
        obtain ⟨h15, h⟩ := zif h
        refine r_getI C (z_d dd_Mo_weightsByStates 48 rfl) lk_Mo_95 rfl h15 rfl ?_
        obtain ⟨q16, c17, h⟩ := zbd h
        refine r_invV (as := [zI (z_i q11.2 l0 22)]) C 12 (S_Mo_take c17) (z_d dd_Mo_weightsByStates 49 rfl) ok_Mo_take iv_Mo_take se_Mo_take ml_Mo_142 rfl rfl h15 rfl rfl rfl (Nat.le_of_ble_eq_true rfl) ⟨(Nat.le_of_ble_eq_true rfl), (Nat.le_of_ble_eq_true rfl)⟩ ⟨(Nat.le_of_ble_eq_true rfl), (Nat.le_of_ble_eq_true rfl)⟩ ?_
        refine r_l2i C (z_d dd_Mo_weightsByStates 50 rfl) ?_
        obtain ⟨v18, e19, h⟩ := zlet_ex h
        refine r_nmI e19 ?_
        refine r_istore (lv' := [some (zP l0), some (zI l1), some (zI l2), some (zI q2.1), some (zI v13), some (zI v18), none, none, none, none]) C (z_d dd_Mo_weightsByStates 51 rfl) (Nat.le_of_ble_eq_true rfl) rfl ?_
        refine r_iconst (v := (0 : Int32)) C (z_d dd_Mo_weightsByStates 52 rfl) (by decide) ?_
        refine r_istore (lv' := [some (zP l0), some (zI l1), some (zI l2), some (zI q2.1), some (zI v13), some (zI v18), some (zI (0 : Int32)), none, none, none]) C (z_d dd_Mo_weightsByStates 53 rfl) (Nat.le_of_ble_eq_true rfl) rfl ?_
        refine r_iconst (v := (1 : Int32)) C (z_d dd_Mo_weightsByStates 54 rfl) (by decide) ?_
        refine r_istore (lv' := [some (zP l0), some (zI l1), some (zI l2), some (zI q2.1), some (zI v13), some (zI v18), some (zI (0 : Int32)), some (zI (1 : Int32)), none, none]) C (z_d dd_Mo_weightsByStates 55 rfl) (Nat.le_of_ble_eq_true rfl) rfl ?_
        refine r_mk [true, false, false, false, true, true, true, true, false, false] ?_
        exact s_Mo_weightsByStates_97 C hr E n l0 v13 v18 (0 : Int32) (1 : Int32) q16.2 h
      · have h := ziff h c20
        refine r_iconst (v := (-1 : Int32)) C (z_d dd_Mo_weightsByStates 38 rfl) (by decide) ?_
        obtain rfl := z_res h
        exact r_iretI C E hr (z_d dd_Mo_weightsByStates 39 rfl) (Nat.le_of_ble_eq_true rfl) (Nat.le_of_ble_eq_true rfl)
    · have h := zift h c21
      refine r_mk [false, false, false, false, false, false, false, false, false, false] ?_
      exact s_Mo_weightsByStates_24 C hr E n q5.2 h
def F_Mo_weightsByStates (O : zO) (n : Nat) (l0 : Nat) (l1 : Int32) (l2 : Int32) (M : zM) : Option (Int32 × zM) := f_Mo_weightsByStates_0 O n l0 l1 l2 M
theorem S_Mo_weightsByStates {l : Launch} {D : zD} {n : Nat} {l0 : Nat} {l1 : Int32} {l2 : Int32} {M : zM} {q : Int32 × zM} (h : F_Mo_weightsByStates D.2.2.2.2 n l0 l1 l2 M = some q) : zMet l D mi_Mo_weightsByStates [zP l0, zI l1, zI l2] M (some (zI q.1)) q.2 :=
  z_met (by decide) (Nat.le_of_ble_eq_true rfl) (fun X C E hr hin hD hl => by
    subst hD
    exact s_Mo_weightsByStates_0 C hr E n l0 l1 l2 M h)
