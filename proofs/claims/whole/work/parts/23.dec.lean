def f_Share_symbolOf_23 (O : zO) (n : Nat) (s0 : Int32) (M : zM) : Option (Int32 × zM) :=
  some (s0, M)
set_option maxRecDepth 100000 in
set_option maxHeartbeats 4000000 in
theorem s_Share_symbolOf_23 {X : zX} {q : Int32 × zM} (C : zC X zR10 prog_11_method_2_code 2 { frames := 0, cells := 0, slots := 0, locals := 0 }) (hr : zRt X (some .int)) (E : zE X (some (zI q.1)) q.2 0 0) : ∀ (n : Nat) (s0 : Int32) (M : zM), f_Share_symbolOf_23 (zOD X) n s0 M = some q → zW X 0 0 23 [none, none] [zI s0] M := by
  intro n s0 M h
  rw [f_Share_symbolOf_23] at h
  obtain rfl := z_res h
  exact r_iretI C E hr (z_d dd_Share_symbolOf 13 rfl) (Nat.le_of_ble_eq_true rfl) (Nat.le_of_ble_eq_true rfl)
def f_Share_symbolOf_22 (O : zO) (n : Nat) (M : zM) : Option (Int32 × zM) :=
  f_Share_symbolOf_23 O n (0 : Int32) M
set_option maxRecDepth 100000 in
set_option maxHeartbeats 4000000 in
theorem s_Share_symbolOf_22 {X : zX} {q : Int32 × zM} (C : zC X zR10 prog_11_method_2_code 2 { frames := 0, cells := 0, slots := 0, locals := 0 }) (hr : zRt X (some .int)) (E : zE X (some (zI q.1)) q.2 0 0) : ∀ (n : Nat) (M : zM), f_Share_symbolOf_22 (zOD X) n M = some q → zW X 0 0 22 [none, none] [] M := by
  intro n M h
  rw [f_Share_symbolOf_22] at h
  refine r_iconst (v := (0 : Int32)) C (z_d dd_Share_symbolOf 12 rfl) (by decide) ?_
  exact s_Share_symbolOf_23 C hr E n (0 : Int32) M h
def f_Share_symbolOf_0 (O : zO) (n : Nat) (l0 : Nat) (l1 : Int32) (M : zM) : Option (Int32 × zM) :=
  if l1 < 0 then
  f_Share_symbolOf_22 O n M
  else
  if z_k M l0 = 11 then
  if z_k M (z_p M l0 4) = 100 then
  if (Int32.ofNat (z_n M (z_p M l0 4))) ≤ l1 then
  f_Share_symbolOf_22 O n M
  else
  if zin l1 (z_n M (z_p M l0 4)) = true then
  f_Share_symbolOf_23 O n (z_i M (z_p M l0 4) l1.toNatClampNeg) M
  else none
  else none
  else none
set_option maxRecDepth 100000 in
set_option maxHeartbeats 4000000 in
theorem s_Share_symbolOf_0 {X : zX} {q : Int32 × zM} (C : zC X zR10 prog_11_method_2_code 2 { frames := 0, cells := 0, slots := 0, locals := 0 }) (hr : zRt X (some .int)) (E : zE X (some (zI q.1)) q.2 0 0) : ∀ (n : Nat) (l0 : Nat) (l1 : Int32) (M : zM), f_Share_symbolOf_0 (zOD X) n l0 l1 M = some q → zW X 0 0 0 [some (zP l0), some (zI l1)] [] M := by
  intro n l0 l1 M h
  rw [f_Share_symbolOf_0] at h
  refine r_iload_n C (z_d dd_Share_symbolOf 0 rfl) rfl ?_
  refine r_if_lt C 22 (z_d dd_Share_symbolOf 1 rfl) (by decide) (fun c5 => ?_) (fun c5 => ?_)
  · have h := zift h c5
    refine r_mk [false, false] ?_
    exact s_Share_symbolOf_22 C hr E n M h
  · have h := ziff h c5
    refine r_iload_n C (z_d dd_Share_symbolOf 2 rfl) rfl ?_
    refine r_aload_n C (z_d dd_Share_symbolOf 3 rfl) rfl ?_
    obtain ⟨h1, h⟩ := zif h
    refine r_getP C (z_d dd_Share_symbolOf 4 rfl) lk_Share_25 rfl h1 rfl ?_
    obtain ⟨h2, h⟩ := zif h
    refine r_alen C 0 (z_d dd_Share_symbolOf 5 rfl) h2 (Nat.le_of_ble_eq_true rfl) rfl ?_
    refine r_icmp_ge C 22 (z_d dd_Share_symbolOf 6 rfl) (by decide) (fun c4 => ?_) (fun c4 => ?_)
    · have h := zift h c4
      refine r_mk [false, false] ?_
      exact s_Share_symbolOf_22 C hr E n M h
    · have h := ziff h c4
      refine r_aload_n C (z_d dd_Share_symbolOf 7 rfl) rfl ?_
      refine r_getP C (z_d dd_Share_symbolOf 8 rfl) lk_Share_25 rfl h1 rfl ?_
      refine r_iload_n C (z_d dd_Share_symbolOf 9 rfl) rfl ?_
      obtain ⟨h3, h⟩ := zif h
      refine r_iald C (z_d dd_Share_symbolOf 10 rfl) h2 h3 rfl ?_
      refine r_goto C 23 (z_d dd_Share_symbolOf 11 rfl) (by decide) ?_
      refine r_mk [false, false] ?_
      exact s_Share_symbolOf_23 C hr E n (z_i M (z_p M l0 4) l1.toNatClampNeg) M h
def F_Share_symbolOf (O : zO) (n : Nat) (l0 : Nat) (l1 : Int32) (M : zM) : Option (Int32 × zM) := f_Share_symbolOf_0 O n l0 l1 M
theorem S_Share_symbolOf {l : Launch} {D : zD} {n : Nat} {l0 : Nat} {l1 : Int32} {M : zM} {q : Int32 × zM} (h : F_Share_symbolOf D.2.2.2.2 n l0 l1 M = some q) : zMet l D mi_Share_symbolOf [zP l0, zI l1] M (some (zI q.1)) q.2 :=
  z_met (by decide) (Nat.le_of_ble_eq_true rfl) (fun X C E hr hin hD hl => by
    subst hD
    exact s_Share_symbolOf_0 C hr E n l0 l1 M h)

def f_Share_bitsOf_23 (O : zO) (n : Nat) (s0 : Int32) (M : zM) : Option (Int32 × zM) :=
  some (s0, M)
set_option maxRecDepth 100000 in
set_option maxHeartbeats 4000000 in
theorem s_Share_bitsOf_23 {X : zX} {q : Int32 × zM} (C : zC X zR10 prog_11_method_3_code 2 { frames := 0, cells := 0, slots := 0, locals := 0 }) (hr : zRt X (some .int)) (E : zE X (some (zI q.1)) q.2 0 0) : ∀ (n : Nat) (s0 : Int32) (M : zM), f_Share_bitsOf_23 (zOD X) n s0 M = some q → zW X 0 0 23 [none, none] [zI s0] M := by
  intro n s0 M h
  rw [f_Share_bitsOf_23] at h
  obtain rfl := z_res h
  exact r_iretI C E hr (z_d dd_Share_bitsOf 13 rfl) (Nat.le_of_ble_eq_true rfl) (Nat.le_of_ble_eq_true rfl)
def f_Share_bitsOf_22 (O : zO) (n : Nat) (M : zM) : Option (Int32 × zM) :=
  f_Share_bitsOf_23 O n (0 : Int32) M
set_option maxRecDepth 100000 in
set_option maxHeartbeats 4000000 in
theorem s_Share_bitsOf_22 {X : zX} {q : Int32 × zM} (C : zC X zR10 prog_11_method_3_code 2 { frames := 0, cells := 0, slots := 0, locals := 0 }) (hr : zRt X (some .int)) (E : zE X (some (zI q.1)) q.2 0 0) : ∀ (n : Nat) (M : zM), f_Share_bitsOf_22 (zOD X) n M = some q → zW X 0 0 22 [none, none] [] M := by
  intro n M h
  rw [f_Share_bitsOf_22] at h
  refine r_iconst (v := (0 : Int32)) C (z_d dd_Share_bitsOf 12 rfl) (by decide) ?_
  exact s_Share_bitsOf_23 C hr E n (0 : Int32) M h
def f_Share_bitsOf_0 (O : zO) (n : Nat) (l0 : Nat) (l1 : Int32) (M : zM) : Option (Int32 × zM) :=
  if l1 < 0 then
  f_Share_bitsOf_22 O n M
  else
  if z_k M l0 = 11 then
  if z_k M (z_p M l0 5) = 100 then
  if (Int32.ofNat (z_n M (z_p M l0 5))) ≤ l1 then
  f_Share_bitsOf_22 O n M
  else
  if zin l1 (z_n M (z_p M l0 5)) = true then
  f_Share_bitsOf_23 O n (z_i M (z_p M l0 5) l1.toNatClampNeg) M
  else none
  else none
  else none
set_option maxRecDepth 100000 in
set_option maxHeartbeats 4000000 in
theorem s_Share_bitsOf_0 {X : zX} {q : Int32 × zM} (C : zC X zR10 prog_11_method_3_code 2 { frames := 0, cells := 0, slots := 0, locals := 0 }) (hr : zRt X (some .int)) (E : zE X (some (zI q.1)) q.2 0 0) : ∀ (n : Nat) (l0 : Nat) (l1 : Int32) (M : zM), f_Share_bitsOf_0 (zOD X) n l0 l1 M = some q → zW X 0 0 0 [some (zP l0), some (zI l1)] [] M := by
  intro n l0 l1 M h
  rw [f_Share_bitsOf_0] at h
  refine r_iload_n C (z_d dd_Share_bitsOf 0 rfl) rfl ?_
  refine r_if_lt C 22 (z_d dd_Share_bitsOf 1 rfl) (by decide) (fun c5 => ?_) (fun c5 => ?_)
  · have h := zift h c5
    refine r_mk [false, false] ?_
    exact s_Share_bitsOf_22 C hr E n M h
  · have h := ziff h c5
    refine r_iload_n C (z_d dd_Share_bitsOf 2 rfl) rfl ?_
    refine r_aload_n C (z_d dd_Share_bitsOf 3 rfl) rfl ?_
    obtain ⟨h1, h⟩ := zif h
    refine r_getP C (z_d dd_Share_bitsOf 4 rfl) lk_Share_28 rfl h1 rfl ?_
    obtain ⟨h2, h⟩ := zif h
    refine r_alen C 0 (z_d dd_Share_bitsOf 5 rfl) h2 (Nat.le_of_ble_eq_true rfl) rfl ?_
    refine r_icmp_ge C 22 (z_d dd_Share_bitsOf 6 rfl) (by decide) (fun c4 => ?_) (fun c4 => ?_)
    · have h := zift h c4
      refine r_mk [false, false] ?_
      exact s_Share_bitsOf_22 C hr E n M h
    · have h := ziff h c4
      refine r_aload_n C (z_d dd_Share_bitsOf 7 rfl) rfl ?_
      refine r_getP C (z_d dd_Share_bitsOf 8 rfl) lk_Share_28 rfl h1 rfl ?_
      refine r_iload_n C (z_d dd_Share_bitsOf 9 rfl) rfl ?_
      obtain ⟨h3, h⟩ := zif h
      refine r_iald C (z_d dd_Share_bitsOf 10 rfl) h2 h3 rfl ?_
      refine r_goto C 23 (z_d dd_Share_bitsOf 11 rfl) (by decide) ?_
      refine r_mk [false, false] ?_
      exact s_Share_bitsOf_23 C hr E n (z_i M (z_p M l0 5) l1.toNatClampNeg) M h
def F_Share_bitsOf (O : zO) (n : Nat) (l0 : Nat) (l1 : Int32) (M : zM) : Option (Int32 × zM) := f_Share_bitsOf_0 O n l0 l1 M
theorem S_Share_bitsOf {l : Launch} {D : zD} {n : Nat} {l0 : Nat} {l1 : Int32} {M : zM} {q : Int32 × zM} (h : F_Share_bitsOf D.2.2.2.2 n l0 l1 M = some q) : zMet l D mi_Share_bitsOf [zP l0, zI l1] M (some (zI q.1)) q.2 :=
  z_met (by decide) (Nat.le_of_ble_eq_true rfl) (fun X C E hr hin hD hl => by
    subst hD
    exact s_Share_bitsOf_0 C hr E n l0 l1 M h)

def f_Share_baseOf_23 (O : zO) (n : Nat) (s0 : Int32) (M : zM) : Option (Int32 × zM) :=
  some (s0, M)
set_option maxRecDepth 100000 in
set_option maxHeartbeats 4000000 in
theorem s_Share_baseOf_23 {X : zX} {q : Int32 × zM} (C : zC X zR10 prog_11_method_4_code 2 { frames := 0, cells := 0, slots := 0, locals := 0 }) (hr : zRt X (some .int)) (E : zE X (some (zI q.1)) q.2 0 0) : ∀ (n : Nat) (s0 : Int32) (M : zM), f_Share_baseOf_23 (zOD X) n s0 M = some q → zW X 0 0 23 [none, none] [zI s0] M := by
  intro n s0 M h
  rw [f_Share_baseOf_23] at h
  obtain rfl := z_res h
  exact r_iretI C E hr (z_d dd_Share_baseOf 13 rfl) (Nat.le_of_ble_eq_true rfl) (Nat.le_of_ble_eq_true rfl)
def f_Share_baseOf_22 (O : zO) (n : Nat) (M : zM) : Option (Int32 × zM) :=
  f_Share_baseOf_23 O n (0 : Int32) M
set_option maxRecDepth 100000 in
set_option maxHeartbeats 4000000 in
theorem s_Share_baseOf_22 {X : zX} {q : Int32 × zM} (C : zC X zR10 prog_11_method_4_code 2 { frames := 0, cells := 0, slots := 0, locals := 0 }) (hr : zRt X (some .int)) (E : zE X (some (zI q.1)) q.2 0 0) : ∀ (n : Nat) (M : zM), f_Share_baseOf_22 (zOD X) n M = some q → zW X 0 0 22 [none, none] [] M := by
  intro n M h
  rw [f_Share_baseOf_22] at h
  refine r_iconst (v := (0 : Int32)) C (z_d dd_Share_baseOf 12 rfl) (by decide) ?_
  exact s_Share_baseOf_23 C hr E n (0 : Int32) M h
def f_Share_baseOf_0 (O : zO) (n : Nat) (l0 : Nat) (l1 : Int32) (M : zM) : Option (Int32 × zM) :=
  if l1 < 0 then
  f_Share_baseOf_22 O n M
  else
  if z_k M l0 = 11 then
  if z_k M (z_p M l0 6) = 100 then
  if (Int32.ofNat (z_n M (z_p M l0 6))) ≤ l1 then
  f_Share_baseOf_22 O n M
  else
  if zin l1 (z_n M (z_p M l0 6)) = true then
  f_Share_baseOf_23 O n (z_i M (z_p M l0 6) l1.toNatClampNeg) M
  else none
  else none
  else none
set_option maxRecDepth 100000 in
set_option maxHeartbeats 4000000 in
theorem s_Share_baseOf_0 {X : zX} {q : Int32 × zM} (C : zC X zR10 prog_11_method_4_code 2 { frames := 0, cells := 0, slots := 0, locals := 0 }) (hr : zRt X (some .int)) (E : zE X (some (zI q.1)) q.2 0 0) : ∀ (n : Nat) (l0 : Nat) (l1 : Int32) (M : zM), f_Share_baseOf_0 (zOD X) n l0 l1 M = some q → zW X 0 0 0 [some (zP l0), some (zI l1)] [] M := by
  intro n l0 l1 M h
  rw [f_Share_baseOf_0] at h
  refine r_iload_n C (z_d dd_Share_baseOf 0 rfl) rfl ?_
  refine r_if_lt C 22 (z_d dd_Share_baseOf 1 rfl) (by decide) (fun c5 => ?_) (fun c5 => ?_)
  · have h := zift h c5
    refine r_mk [false, false] ?_
    exact s_Share_baseOf_22 C hr E n M h
  · have h := ziff h c5
    refine r_iload_n C (z_d dd_Share_baseOf 2 rfl) rfl ?_
    refine r_aload_n C (z_d dd_Share_baseOf 3 rfl) rfl ?_
    obtain ⟨h1, h⟩ := zif h
    refine r_getP C (z_d dd_Share_baseOf 4 rfl) lk_Share_31 rfl h1 rfl ?_
    obtain ⟨h2, h⟩ := zif h
    refine r_alen C 0 (z_d dd_Share_baseOf 5 rfl) h2 (Nat.le_of_ble_eq_true rfl) rfl ?_
    refine r_icmp_ge C 22 (z_d dd_Share_baseOf 6 rfl) (by decide) (fun c4 => ?_) (fun c4 => ?_)
    · have h := zift h c4
      refine r_mk [false, false] ?_
      exact s_Share_baseOf_22 C hr E n M h
    · have h := ziff h c4
      refine r_aload_n C (z_d dd_Share_baseOf 7 rfl) rfl ?_
      refine r_getP C (z_d dd_Share_baseOf 8 rfl) lk_Share_31 rfl h1 rfl ?_
      refine r_iload_n C (z_d dd_Share_baseOf 9 rfl) rfl ?_
      obtain ⟨h3, h⟩ := zif h
      refine r_iald C (z_d dd_Share_baseOf 10 rfl) h2 h3 rfl ?_
      refine r_goto C 23 (z_d dd_Share_baseOf 11 rfl) (by decide) ?_
      refine r_mk [false, false] ?_
      exact s_Share_baseOf_23 C hr E n (z_i M (z_p M l0 6) l1.toNatClampNeg) M h
def F_Share_baseOf (O : zO) (n : Nat) (l0 : Nat) (l1 : Int32) (M : zM) : Option (Int32 × zM) := f_Share_baseOf_0 O n l0 l1 M
theorem S_Share_baseOf {l : Launch} {D : zD} {n : Nat} {l0 : Nat} {l1 : Int32} {M : zM} {q : Int32 × zM} (h : F_Share_baseOf D.2.2.2.2 n l0 l1 M = some q) : zMet l D mi_Share_baseOf [zP l0, zI l1] M (some (zI q.1)) q.2 :=
  z_met (by decide) (Nat.le_of_ble_eq_true rfl) (fun X C E hr hin hD hl => by
    subst hD
    exact s_Share_baseOf_0 C hr E n l0 l1 M h)

def f_Codes_takeCoded_60 (O : zO) : Nat → Nat → Int32 → Int32 → Int32 → zM → Option (Int32 × zM)
  | 0, _, _, _, _, _ => none
  | n + 1, l0, l1, l2, l3, M =>
    if (255 : Int32) ≤ l3 then
    some ((0 : Int32), M)
    else
    if z_k M l0 = 2 then
    if z_k M (z_p M l0 3) = 11 then
    (F_Share_symbolOf O n (z_p M l0 3) l1 M).bind fun q3 =>
    if z_k q3.2 l0 = 2 then
    (F_Codes_addWeight O n l0 q3.1 q3.2).bind fun q6 =>
    if z_k q6.2 l0 = 2 then
    if z_k q6.2 (z_p q6.2 l0 4) = 12 then
    if z_k q6.2 (z_p q6.2 l0 3) = 11 then
    (F_Share_bitsOf O n (z_p q6.2 l0 3) l1 q6.2).bind fun q11 =>
    if q11.1 ≤ (z_i q6.2 (z_p q6.2 l0 4) 2) then
    if z_k q11.2 l0 = 2 then
    if z_k q11.2 (z_p q11.2 l0 3) = 11 then
    (F_Share_baseOf O n (z_p q11.2 l0 3) l1 q11.2).bind fun q15 =>
    if z_k q15.2 l0 = 2 then
    if z_k q15.2 (z_p q15.2 l0 3) = 11 then
    (F_Share_bitsOf O n (z_p q15.2 l0 3) l1 q15.2).bind fun q19 =>
    if z_k q19.2 (z_p q15.2 l0 4) = 12 then
    (F_Stream_take O n (z_p q15.2 l0 4) q19.1 q19.2).bind fun q22 =>
    zlet (q15.1 + q22.1.toInt32) fun v24 =>
    zlet (l3 + (1 : Int32)) fun v26 =>
    f_Codes_takeCoded_60 O n l0 l2 v24 v26 q22.2
    else none
    else none
    else none
    else none
    else none
    else
    if z_k q11.2 l0 = 2 then
    if z_k q11.2 (z_p q11.2 l0 3) = 11 then
    (F_Share_symbolOf O n (z_p q11.2 l0 3) l2 q11.2).bind fun q30 =>
    if z_k q30.2 l0 = 2 then
    (F_Codes_addWeight O n l0 q30.1 q30.2).bind fun q33 =>
    if q33.1 = 0 ∨ q33.1 = 1 then
    some (q33.1, q33.2)
    else none
    else none
    else none
    else none
    else none
    else none
    else none
    else none
    else none
    else none
set_option maxRecDepth 100000 in
set_option maxHeartbeats 4000000 in
theorem s_Codes_takeCoded_60 {X : zX} {q : Int32 × zM} (C : zC X zR1 prog_2_method_5_code 5 { frames := 1, cells := 0, slots := 0, locals := 26 }) (hr : zRt X (some .boolean)) (E : zE X (some (zI q.1)) q.2 0 0) : ∀ (n : Nat) (l0 : Nat) (l1 : Int32) (l2 : Int32) (l3 : Int32) (M : zM), f_Codes_takeCoded_60 (zOD X) n l0 l1 l2 l3 M = some q → zW X 0 0 60 [some (zP l0), some (zI l1), some (zI l2), some (zI l3), none] [] M := by
  intro n
  induction n with
  | zero => intro l0 l1 l2 l3 M h; rw [f_Codes_takeCoded_60] at h; cases h
  | succ n ih =>
    intro l0 l1 l2 l3 M h
    rw [f_Codes_takeCoded_60] at h
    refine r_iload_n C (z_d dd_Codes_takeCoded 32 rfl) rfl ?_
    refine r_sipush (v := (255 : Int32)) C (z_d dd_Codes_takeCoded 33 rfl) (by decide) ?_
    refine r_icmp_ge C 149 (z_d dd_Codes_takeCoded 34 rfl) (by decide) (fun c37 => ?_) (fun c37 => ?_)
    · have h := zift h c37
      refine r_iconst (v := (0 : Int32)) C (z_d dd_Codes_takeCoded 77 rfl) (by decide) ?_
      obtain rfl := z_res h
      exact r_iretZ C E hr (z_d dd_Codes_takeCoded 78 rfl) (by decide) (Nat.le_of_ble_eq_true rfl) (Nat.le_of_ble_eq_true rfl)
    · have h := ziff h c37
      refine r_aload_n C (z_d dd_Codes_takeCoded 35 rfl) rfl ?_
      refine r_aload_n C (z_d dd_Codes_takeCoded 36 rfl) rfl ?_
      obtain ⟨h1, h⟩ := zif h
      refine r_getP C (z_d dd_Codes_takeCoded 37 rfl) lk_Codes_26 rfl h1 rfl ?_
      refine r_iload_n C (z_d dd_Codes_takeCoded 38 rfl) rfl ?_
      obtain ⟨h2, h⟩ := zif h
      obtain ⟨q3, c4, h⟩ := zbd h
      refine r_invV (as := [zI l1]) C 10 (S_Share_symbolOf c4) (z_d dd_Codes_takeCoded 39 rfl) ok_Share_symbolOf iv_Share_symbolOf se_Share_symbolOf ml_Codes_84 rfl rfl h2 rfl rfl rfl (Nat.le_of_ble_eq_true rfl) ⟨(Nat.le_of_ble_eq_true rfl), (Nat.le_of_ble_eq_true rfl)⟩ ⟨(Nat.le_of_ble_eq_true rfl), (Nat.le_of_ble_eq_true rfl)⟩ ?_
      obtain ⟨h5, h⟩ := zif h
      obtain ⟨q6, c7, h⟩ := zbd h
      refine r_invV (as := [zI q3.1]) C 1 (S_Codes_addWeight c7) (z_d dd_Codes_takeCoded 40 rfl) ok_Codes_addWeight iv_Codes_addWeight se_Codes_addWeight ml_Codes_79 rfl rfl h5 rfl rfl rfl (Nat.le_of_ble_eq_true rfl) ⟨(Nat.le_of_ble_eq_true rfl), (Nat.le_of_ble_eq_true rfl)⟩ ⟨(Nat.le_of_ble_eq_true rfl), (Nat.le_of_ble_eq_true rfl)⟩ ?_
      refine r_popI C (z_d dd_Codes_takeCoded 41 rfl) ?_
      refine r_aload_n C (z_d dd_Codes_takeCoded 42 rfl) rfl ?_
      obtain ⟨h8, h⟩ := zif h
      refine r_getP C (z_d dd_Codes_takeCoded 43 rfl) lk_Codes_33 rfl h8 rfl ?_
      obtain ⟨h9, h⟩ := zif h
      refine r_getI C (z_d dd_Codes_takeCoded 44 rfl) lk_Codes_48 rfl h9 rfl ?_
      refine r_aload_n C (z_d dd_Codes_takeCoded 45 rfl) rfl ?_
      refine r_getP C (z_d dd_Codes_takeCoded 46 rfl) lk_Codes_26 rfl h8 rfl ?_
      refine r_iload_n C (z_d dd_Codes_takeCoded 47 rfl) rfl ?_
      obtain ⟨h10, h⟩ := zif h
      obtain ⟨q11, c12, h⟩ := zbd h
      refine r_invV (as := [zI l1]) C 10 (S_Share_bitsOf c12) (z_d dd_Codes_takeCoded 48 rfl) ok_Share_bitsOf iv_Share_bitsOf se_Share_bitsOf ml_Codes_87 rfl rfl h10 rfl rfl rfl (Nat.le_of_ble_eq_true rfl) ⟨(Nat.le_of_ble_eq_true rfl), (Nat.le_of_ble_eq_true rfl)⟩ ⟨(Nat.le_of_ble_eq_true rfl), (Nat.le_of_ble_eq_true rfl)⟩ ?_
      refine r_icmp_ge C 111 (z_d dd_Codes_takeCoded 49 rfl) (by decide) (fun c36 => ?_) (fun c36 => ?_)
      · have h := zift h c36
        refine r_aload_n C (z_d dd_Codes_takeCoded 57 rfl) rfl ?_
        obtain ⟨h13, h⟩ := zif h
        refine r_getP C (z_d dd_Codes_takeCoded 58 rfl) lk_Codes_26 rfl h13 rfl ?_
        refine r_iload_n C (z_d dd_Codes_takeCoded 59 rfl) rfl ?_
        obtain ⟨h14, h⟩ := zif h
        obtain ⟨q15, c16, h⟩ := zbd h
        refine r_invV (as := [zI l1]) C 10 (S_Share_baseOf c16) (z_d dd_Codes_takeCoded 60 rfl) ok_Share_baseOf iv_Share_baseOf se_Share_baseOf ml_Codes_90 rfl rfl h14 rfl rfl rfl (Nat.le_of_ble_eq_true rfl) ⟨(Nat.le_of_ble_eq_true rfl), (Nat.le_of_ble_eq_true rfl)⟩ ⟨(Nat.le_of_ble_eq_true rfl), (Nat.le_of_ble_eq_true rfl)⟩ ?_
        refine r_aload_n C (z_d dd_Codes_takeCoded 61 rfl) rfl ?_
        obtain ⟨h17, h⟩ := zif h
        refine r_getP C (z_d dd_Codes_takeCoded 62 rfl) lk_Codes_33 rfl h17 rfl ?_
        refine r_aload_n C (z_d dd_Codes_takeCoded 63 rfl) rfl ?_
        refine r_getP C (z_d dd_Codes_takeCoded 64 rfl) lk_Codes_26 rfl h17 rfl ?_
        refine r_iload_n C (z_d dd_Codes_takeCoded 65 rfl) rfl ?_
        obtain ⟨h18, h⟩ := zif h
        obtain ⟨q19, c20, h⟩ := zbd h
        refine r_invV (as := [zI l1]) C 10 (S_Share_bitsOf c20) (z_d dd_Codes_takeCoded 66 rfl) ok_Share_bitsOf iv_Share_bitsOf se_Share_bitsOf ml_Codes_87 rfl rfl h18 rfl rfl rfl (Nat.le_of_ble_eq_true rfl) ⟨(Nat.le_of_ble_eq_true rfl), (Nat.le_of_ble_eq_true rfl)⟩ ⟨(Nat.le_of_ble_eq_true rfl), (Nat.le_of_ble_eq_true rfl)⟩ ?_
        obtain ⟨h21, h⟩ := zif h
        obtain ⟨q22, c23, h⟩ := zbd h
        refine r_invV (as := [zI q19.1]) C 11 (S_Stream_take c23) (z_d dd_Codes_takeCoded 67 rfl) ok_Stream_take iv_Stream_take se_Stream_take ml_Codes_44 rfl rfl h21 rfl rfl rfl (Nat.le_of_ble_eq_true rfl) ⟨(Nat.le_of_ble_eq_true rfl), (Nat.le_of_ble_eq_true rfl)⟩ ⟨(Nat.le_of_ble_eq_true rfl), (Nat.le_of_ble_eq_true rfl)⟩ ?_
        refine r_l2i C (z_d dd_Codes_takeCoded 68 rfl) ?_
        refine r_iadd C (z_d dd_Codes_takeCoded 69 rfl) ?_
        obtain ⟨v24, e25, h⟩ := zlet_ex h
        refine r_nmI e25 ?_
        refine r_istore (lv' := [some (zP l0), some (zI l1), some (zI l2), some (zI l3), some (zI v24)]) C (z_d dd_Codes_takeCoded 70 rfl) (Nat.le_of_ble_eq_true rfl) rfl ?_
        refine r_iload_n C (z_d dd_Codes_takeCoded 71 rfl) rfl ?_
        refine r_istore_n (lv' := [some (zP l0), some (zI l2), some (zI l2), some (zI l3), some (zI v24)]) C (z_d dd_Codes_takeCoded 72 rfl) (Nat.le_of_ble_eq_true rfl) rfl ?_
        refine r_iload C (z_d dd_Codes_takeCoded 73 rfl) rfl ?_
        refine r_istore_n (lv' := [some (zP l0), some (zI l2), some (zI v24), some (zI l3), some (zI v24)]) C (z_d dd_Codes_takeCoded 74 rfl) (Nat.le_of_ble_eq_true rfl) rfl ?_
        obtain ⟨v26, e27, h⟩ := zlet_ex h
        refine r_iinc (v := v26) (lv' := [some (zP l0), some (zI l2), some (zI v24), some (zI v26), some (zI v24)]) C (z_d dd_Codes_takeCoded 75 rfl) rfl (Nat.le_of_ble_eq_true rfl) (by rw [e27]; rfl) rfl ?_
        refine r_goto C 60 (z_d dd_Codes_takeCoded 76 rfl) (by decide) ?_
        refine r_mk [true, true, true, true, false] ?_
        exact ih l0 l2 v24 v26 q22.2 h
      · have h := ziff h c36
        refine r_aload_n C (z_d dd_Codes_takeCoded 50 rfl) rfl ?_
        refine r_aload_n C (z_d dd_Codes_takeCoded 51 rfl) rfl ?_
        obtain ⟨h28, h⟩ := zif h
        refine r_getP C (z_d dd_Codes_takeCoded 52 rfl) lk_Codes_26 rfl h28 rfl ?_
        refine r_iload_n C (z_d dd_Codes_takeCoded 53 rfl) rfl ?_
        obtain ⟨h29, h⟩ := zif h
        obtain ⟨q30, c31, h⟩ := zbd h
        refine r_invV (as := [zI l2]) C 10 (S_Share_symbolOf c31) (z_d dd_Codes_takeCoded 54 rfl) ok_Share_symbolOf iv_Share_symbolOf se_Share_symbolOf ml_Codes_84 rfl rfl h29 rfl rfl rfl (Nat.le_of_ble_eq_true rfl) ⟨(Nat.le_of_ble_eq_true rfl), (Nat.le_of_ble_eq_true rfl)⟩ ⟨(Nat.le_of_ble_eq_true rfl), (Nat.le_of_ble_eq_true rfl)⟩ ?_
        obtain ⟨h32, h⟩ := zif h
        obtain ⟨q33, c34, h⟩ := zbd h
        refine r_invV (as := [zI q30.1]) C 1 (S_Codes_addWeight c34) (z_d dd_Codes_takeCoded 55 rfl) ok_Codes_addWeight iv_Codes_addWeight se_Codes_addWeight ml_Codes_79 rfl rfl h32 rfl rfl rfl (Nat.le_of_ble_eq_true rfl) ⟨(Nat.le_of_ble_eq_true rfl), (Nat.le_of_ble_eq_true rfl)⟩ ⟨(Nat.le_of_ble_eq_true rfl), (Nat.le_of_ble_eq_true rfl)⟩ ?_
        obtain ⟨h35, h⟩ := zif h
        obtain rfl := z_res h
        exact r_iretZ C E hr (z_d dd_Codes_takeCoded 56 rfl) h35 (Nat.le_of_ble_eq_true rfl) (Nat.le_of_ble_eq_true rfl)
def f_Codes_takeCoded_0 (O : zO) (n : Nat) (l0 : Nat) (M : zM) : Option (Int32 × zM) :=
  if z_k M l0 = 2 then
  if z_k M (z_p M l0 4) = 12 then
  if z_k M (z_p M l0 3) = 11 then
  if ((2 : Int32) * (z_i M (z_p M l0 3) 7)) ≤ (z_i M (z_p M l0 4) 2) then
  zlet (w_i M l0 6 (0 : Int32)) fun M4 =>
  if z_k M4 (z_p M4 l0 3) = 11 then
  if z_k M4 (z_p M4 l0 4) = 12 then
  (F_Stream_take O n (z_p M4 l0 4) (z_i M4 (z_p M4 l0 3) 7) M4).bind fun q11 =>
  zlet q11.1.toInt32 fun v13 =>
  if z_k q11.2 l0 = 2 then
  if z_k q11.2 (z_p q11.2 l0 3) = 11 then
  if z_k q11.2 (z_p q11.2 l0 4) = 12 then
  (F_Stream_take O n (z_p q11.2 l0 4) (z_i q11.2 (z_p q11.2 l0 3) 7) q11.2).bind fun q18 =>
  zlet q18.1.toInt32 fun v20 =>
  f_Codes_takeCoded_60 O n l0 v13 v20 (0 : Int32) q18.2
  else none
  else none
  else none
  else none
  else none
  else
  some ((0 : Int32), M)
  else none
  else none
  else none
set_option maxRecDepth 100000 in
set_option maxHeartbeats 4000000 in
theorem s_Codes_takeCoded_0 {X : zX} {q : Int32 × zM} (C : zC X zR1 prog_2_method_5_code 5 { frames := 1, cells := 0, slots := 0, locals := 26 }) (hr : zRt X (some .boolean)) (E : zE X (some (zI q.1)) q.2 0 0) : ∀ (n : Nat) (l0 : Nat) (M : zM), f_Codes_takeCoded_0 (zOD X) n l0 M = some q → zW X 0 0 0 [some (zP l0), none, none, none, none] [] M := by
  intro n l0 M h
  rw [f_Codes_takeCoded_0] at h
  refine r_aload_n C (z_d dd_Codes_takeCoded 0 rfl) rfl ?_
  obtain ⟨h1, h⟩ := zif h
  refine r_getP C (z_d dd_Codes_takeCoded 1 rfl) lk_Codes_33 rfl h1 rfl ?_
  obtain ⟨h2, h⟩ := zif h
  refine r_getI C (z_d dd_Codes_takeCoded 2 rfl) lk_Codes_48 rfl h2 rfl ?_
  refine r_iconst (v := (2 : Int32)) C (z_d dd_Codes_takeCoded 3 rfl) (by decide) ?_
  refine r_aload_n C (z_d dd_Codes_takeCoded 4 rfl) rfl ?_
  refine r_getP C (z_d dd_Codes_takeCoded 5 rfl) lk_Codes_26 rfl h1 rfl ?_
  obtain ⟨h3, h⟩ := zif h
  refine r_getI C (z_d dd_Codes_takeCoded 6 rfl) lk_Codes_83 rfl h3 rfl ?_
  refine r_imul C (z_d dd_Codes_takeCoded 7 rfl) ?_
  refine r_icmp_ge C 21 (z_d dd_Codes_takeCoded 8 rfl) (by decide) (fun c22 => ?_) (fun c22 => ?_)
  · have h := zift h c22
    refine r_aload_n C (z_d dd_Codes_takeCoded 11 rfl) rfl ?_
    refine r_iconst (v := (0 : Int32)) C (z_d dd_Codes_takeCoded 12 rfl) (by decide) ?_
    obtain ⟨M4, e5, h⟩ := zlet_ex h
    have h6 := k_i e5 h1
    have h7 := k_i e5 h2
    have h8 := k_i e5 h3
    refine r_putI C (z_d dd_Codes_takeCoded 13 rfl) lp_Codes_41 rfl h1 e5 ?_
    refine r_aload_n C (z_d dd_Codes_takeCoded 14 rfl) rfl ?_
    refine r_getP C (z_d dd_Codes_takeCoded 15 rfl) lk_Codes_33 rfl h6 rfl ?_
    refine r_aload_n C (z_d dd_Codes_takeCoded 16 rfl) rfl ?_
    refine r_getP C (z_d dd_Codes_takeCoded 17 rfl) lk_Codes_26 rfl h6 rfl ?_
    obtain ⟨h9, h⟩ := zif h
    refine r_getI C (z_d dd_Codes_takeCoded 18 rfl) lk_Codes_83 rfl h9 rfl ?_
    obtain ⟨h10, h⟩ := zif h
    obtain ⟨q11, c12, h⟩ := zbd h
    refine r_invV (as := [zI (z_i M4 (z_p M4 l0 3) 7)]) C 11 (S_Stream_take c12) (z_d dd_Codes_takeCoded 19 rfl) ok_Stream_take iv_Stream_take se_Stream_take ml_Codes_44 rfl rfl h10 rfl rfl rfl (Nat.le_of_ble_eq_true rfl) ⟨(Nat.le_of_ble_eq_true rfl), (Nat.le_of_ble_eq_true rfl)⟩ ⟨(Nat.le_of_ble_eq_true rfl), (Nat.le_of_ble_eq_true rfl)⟩ ?_
    refine r_l2i C (z_d dd_Codes_takeCoded 20 rfl) ?_
    obtain ⟨v13, e14, h⟩ := zlet_ex h
    refine r_nmI e14 ?_
    refine r_istore_n (lv' := [some (zP l0), some (zI v13), none, none, none]) C (z_d dd_Codes_takeCoded 21 rfl) (Nat.le_of_ble_eq_true rfl) rfl ?_
    refine r_aload_n C (z_d dd_Codes_takeCoded 22 rfl) rfl ?_
    obtain ⟨h15, h⟩ := zif h
    refine r_getP C (z_d dd_Codes_takeCoded 23 rfl) lk_Codes_33 rfl h15 rfl ?_
    refine r_aload_n C (z_d dd_Codes_takeCoded 24 rfl) rfl ?_
    refine r_getP C (z_d dd_Codes_takeCoded 25 rfl) lk_Codes_26 rfl h15 rfl ?_
    obtain ⟨h16, h⟩ := zif h
    refine r_getI C (z_d dd_Codes_takeCoded 26 rfl) lk_Codes_83 rfl h16 rfl ?_
    obtain ⟨h17, h⟩ := zif h
    obtain ⟨q18, c19, h⟩ := zbd h
    refine r_invV (as := [zI (z_i q11.2 (z_p q11.2 l0 3) 7)]) C 11 (S_Stream_take c19) (z_d dd_Codes_takeCoded 27 rfl) ok_Stream_take iv_Stream_take se_Stream_take ml_Codes_44 rfl rfl h17 rfl rfl rfl (Nat.le_of_ble_eq_true rfl) ⟨(Nat.le_of_ble_eq_true rfl), (Nat.le_of_ble_eq_true rfl)⟩ ⟨(Nat.le_of_ble_eq_true rfl), (Nat.le_of_ble_eq_true rfl)⟩ ?_
    refine r_l2i C (z_d dd_Codes_takeCoded 28 rfl) ?_
    obtain ⟨v20, e21, h⟩ := zlet_ex h
    refine r_nmI e21 ?_
    refine r_istore_n (lv' := [some (zP l0), some (zI v13), some (zI v20), none, none]) C (z_d dd_Codes_takeCoded 29 rfl) (Nat.le_of_ble_eq_true rfl) rfl ?_
    refine r_iconst (v := (0 : Int32)) C (z_d dd_Codes_takeCoded 30 rfl) (by decide) ?_
    refine r_istore_n (lv' := [some (zP l0), some (zI v13), some (zI v20), some (zI (0 : Int32)), none]) C (z_d dd_Codes_takeCoded 31 rfl) (Nat.le_of_ble_eq_true rfl) rfl ?_
    exact s_Codes_takeCoded_60 C hr E n l0 v13 v20 (0 : Int32) q18.2 h
  · have h := ziff h c22
    refine r_iconst (v := (0 : Int32)) C (z_d dd_Codes_takeCoded 9 rfl) (by decide) ?_
    obtain rfl := z_res h
    exact r_iretZ C E hr (z_d dd_Codes_takeCoded 10 rfl) (by decide) (Nat.le_of_ble_eq_true rfl) (Nat.le_of_ble_eq_true rfl)
def F_Codes_takeCoded (O : zO) (n : Nat) (l0 : Nat) (M : zM) : Option (Int32 × zM) := f_Codes_takeCoded_0 O n l0 M
theorem S_Codes_takeCoded {l : Launch} {D : zD} {n : Nat} {l0 : Nat} {M : zM} {q : Int32 × zM} (h : F_Codes_takeCoded D.2.2.2.2 n l0 M = some q) : zMet l D mi_Codes_takeCoded [zP l0] M (some (zI q.1)) q.2 :=
  z_met (by decide) (Nat.le_of_ble_eq_true rfl) (fun X C E hr hin hD hl => by
    subst hD
    exact s_Codes_takeCoded_0 C hr E n l0 M h)

def f_Codes_complete_88 (O : zO) (n : Nat) (M : zM) : Option (Int32 × zM) :=
  some ((0 : Int32), M)
set_option maxRecDepth 100000 in
set_option maxHeartbeats 4000000 in
theorem s_Codes_complete_88 {X : zX} {q : Int32 × zM} (C : zC X zR1 prog_2_method_7_code 4 { frames := 1, cells := 0, slots := 0, locals := 21 }) (hr : zRt X (some .boolean)) (E : zE X (some (zI q.1)) q.2 0 0) : ∀ (n : Nat) (M : zM), f_Codes_complete_88 (zOD X) n M = some q → zW X 0 0 88 [none, none, none, none] [] M := by
  intro n M h
  rw [f_Codes_complete_88] at h
  refine r_iconst (v := (0 : Int32)) C (z_d dd_Codes_complete 54 rfl) (by decide) ?_
  obtain rfl := z_res h
  exact r_iretZ C E hr (z_d dd_Codes_complete 55 rfl) (by decide) (Nat.le_of_ble_eq_true rfl) (Nat.le_of_ble_eq_true rfl)
def f_Codes_complete_166 (O : zO) (n : Nat) (s0 : Int32) (M : zM) : Option (Int32 × zM) :=
  if s0 = 0 ∨ s0 = 1 then
  some (s0, M)
  else none
set_option maxRecDepth 100000 in
set_option maxHeartbeats 4000000 in
theorem s_Codes_complete_166 {X : zX} {q : Int32 × zM} (C : zC X zR1 prog_2_method_7_code 4 { frames := 1, cells := 0, slots := 0, locals := 21 }) (hr : zRt X (some .boolean)) (E : zE X (some (zI q.1)) q.2 0 0) : ∀ (n : Nat) (s0 : Int32) (M : zM), f_Codes_complete_166 (zOD X) n s0 M = some q → zW X 0 0 166 [none, none, none, none] [zI s0] M := by
  intro n s0 M h
  rw [f_Codes_complete_166] at h
  obtain ⟨h1, h⟩ := zif h
  obtain rfl := z_res h
  exact r_iretZ C E hr (z_d dd_Codes_complete 105 rfl) h1 (Nat.le_of_ble_eq_true rfl) (Nat.le_of_ble_eq_true rfl)
def f_Codes_complete_144 (O : zO) (n : Nat) (l0 : Nat) (s0 : Int32) (s1 : Int32) (M : zM) : Option (Int32 × zM) :=
  zlet (s0 + s1) fun v1 =>
  if z_k M l0 = 2 then
  zlet (w_i M l0 6 ((z_i M l0 6) + (1 : Int32))) fun M4 =>
  if v1 < (2 : Int32) then
  f_Codes_complete_166 O n (0 : Int32) M4
  else
  f_Codes_complete_166 O n (1 : Int32) M4
  else none
set_option maxRecDepth 100000 in
set_option maxHeartbeats 4000000 in
theorem s_Codes_complete_144 {X : zX} {q : Int32 × zM} (C : zC X zR1 prog_2_method_7_code 4 { frames := 1, cells := 0, slots := 0, locals := 21 }) (hr : zRt X (some .boolean)) (E : zE X (some (zI q.1)) q.2 0 0) : ∀ (n : Nat) (l0 : Nat) (s0 : Int32) (s1 : Int32) (M : zM), f_Codes_complete_144 (zOD X) n l0 s0 s1 M = some q → zW X 0 0 144 [some (zP l0), none, none, none] [zI s1, zI s0] M := by
  intro n l0 s0 s1 M h
  rw [f_Codes_complete_144] at h
  refine r_iadd C (z_d dd_Codes_complete 91 rfl) ?_
  obtain ⟨v1, e2, h⟩ := zlet_ex h
  refine r_nmI e2 ?_
  refine r_istore_n (lv' := [some (zP l0), none, some (zI v1), none]) C (z_d dd_Codes_complete 92 rfl) (Nat.le_of_ble_eq_true rfl) rfl ?_
  refine r_aload_n C (z_d dd_Codes_complete 93 rfl) rfl ?_
  refine r_dupP C (z_d dd_Codes_complete 94 rfl) ?_
  obtain ⟨h3, h⟩ := zif h
  refine r_getI C (z_d dd_Codes_complete 95 rfl) lk_Codes_41 rfl h3 rfl ?_
  refine r_iconst (v := (1 : Int32)) C (z_d dd_Codes_complete 96 rfl) (by decide) ?_
  refine r_iadd C (z_d dd_Codes_complete 97 rfl) ?_
  obtain ⟨M4, e5, h⟩ := zlet_ex h
  have h6 := k_i e5 h3
  refine r_putI C (z_d dd_Codes_complete 98 rfl) lp_Codes_41 rfl h3 e5 ?_
  refine r_iload_n C (z_d dd_Codes_complete 99 rfl) rfl ?_
  refine r_iconst (v := (2 : Int32)) C (z_d dd_Codes_complete 100 rfl) (by decide) ?_
  refine r_icmp_lt C 165 (z_d dd_Codes_complete 101 rfl) (by decide) (fun c7 => ?_) (fun c7 => ?_)
  · have h := zift h c7
    refine r_iconst (v := (0 : Int32)) C (z_d dd_Codes_complete 104 rfl) (by decide) ?_
    refine r_mk [false, false, false, false] ?_
    exact s_Codes_complete_166 C hr E n (0 : Int32) M4 h
  · have h := ziff h c7
    refine r_iconst (v := (1 : Int32)) C (z_d dd_Codes_complete 102 rfl) (by decide) ?_
    refine r_goto C 166 (z_d dd_Codes_complete 103 rfl) (by decide) ?_
    refine r_mk [false, false, false, false] ?_
    exact s_Codes_complete_166 C hr E n (1 : Int32) M4 h
def f_Codes_complete_56 (O : zO) (k6 : Nat → Int32 → Int32 → Int32 → zM → Option (Int32 × zM)) (n : Nat) (l0 : Nat) (l1 : Int32) (l3 : Int32) (s0 : Int32) (s1 : Int32) (M : zM) : Option (Int32 × zM) :=
  zlet (s0 + s1) fun v1 =>
  zlet (l3 + (1 : Int32)) fun v3 =>
  k6 l0 l1 v1 v3 M
set_option maxRecDepth 100000 in
set_option maxHeartbeats 4000000 in
theorem s_Codes_complete_56 {X : zX} {q : Int32 × zM} (C : zC X zR1 prog_2_method_7_code 4 { frames := 1, cells := 0, slots := 0, locals := 21 }) (hr : zRt X (some .boolean)) (E : zE X (some (zI q.1)) q.2 0 0) {k6 : Nat → Int32 → Int32 → Int32 → zM → Option (Int32 × zM)} (hk6 : ∀ (l0 : Nat) (l1 : Int32) (l2 : Int32) (l3 : Int32) (M : zM), k6 l0 l1 l2 l3 M = some q → zW X 0 0 6 [some (zP l0), some (zI l1), some (zI l2), some (zI l3)] [] M) : ∀ (n : Nat) (l0 : Nat) (l1 : Int32) (l3 : Int32) (s0 : Int32) (s1 : Int32) (M : zM), f_Codes_complete_56 (zOD X) k6 n l0 l1 l3 s0 s1 M = some q → zW X 0 0 56 [some (zP l0), some (zI l1), none, some (zI l3)] [zI s1, zI s0] M := by
  intro n l0 l1 l3 s0 s1 M h
  rw [f_Codes_complete_56] at h
  refine r_iadd C (z_d dd_Codes_complete 38 rfl) ?_
  obtain ⟨v1, e2, h⟩ := zlet_ex h
  refine r_nmI e2 ?_
  refine r_istore_n (lv' := [some (zP l0), some (zI l1), some (zI v1), some (zI l3)]) C (z_d dd_Codes_complete 39 rfl) (Nat.le_of_ble_eq_true rfl) rfl ?_
  obtain ⟨v3, e4, h⟩ := zlet_ex h
  refine r_iinc (v := v3) (lv' := [some (zP l0), some (zI l1), some (zI v1), some (zI v3)]) C (z_d dd_Codes_complete 40 rfl) rfl (Nat.le_of_ble_eq_true rfl) (by rw [e4]; rfl) rfl ?_
  refine r_goto C 6 (z_d dd_Codes_complete 41 rfl) (by decide) ?_
  exact hk6 l0 l1 v1 v3 M h
def f_Codes_complete_38 (O : zO) (k6 : Nat → Int32 → Int32 → Int32 → zM → Option (Int32 × zM)) (n : Nat) (l0 : Nat) (l2 : Int32) (l3 : Int32) (s0 : Int32) (s1 : Int32) (M : zM) : Option (Int32 × zM) :=
  zlet (s0 + s1) fun v1 =>
  if z_k M l0 = 2 then
  if z_k M (z_p M l0 0) = 100 then
  if zin l3 (z_n M (z_p M l0 0)) = true then
  if (z_i M (z_p M l0 0) l3.toNatClampNeg) = (1 : Int32) then
  f_Codes_complete_56 O k6 n l0 v1 l3 l2 (1 : Int32) M
  else
  f_Codes_complete_56 O k6 n l0 v1 l3 l2 (0 : Int32) M
  else none
  else none
  else none
set_option maxRecDepth 100000 in
set_option maxHeartbeats 4000000 in
theorem s_Codes_complete_38 {X : zX} {q : Int32 × zM} (C : zC X zR1 prog_2_method_7_code 4 { frames := 1, cells := 0, slots := 0, locals := 21 }) (hr : zRt X (some .boolean)) (E : zE X (some (zI q.1)) q.2 0 0) {k6 : Nat → Int32 → Int32 → Int32 → zM → Option (Int32 × zM)} (hk6 : ∀ (l0 : Nat) (l1 : Int32) (l2 : Int32) (l3 : Int32) (M : zM), k6 l0 l1 l2 l3 M = some q → zW X 0 0 6 [some (zP l0), some (zI l1), some (zI l2), some (zI l3)] [] M) : ∀ (n : Nat) (l0 : Nat) (l2 : Int32) (l3 : Int32) (s0 : Int32) (s1 : Int32) (M : zM), f_Codes_complete_38 (zOD X) k6 n l0 l2 l3 s0 s1 M = some q → zW X 0 0 38 [some (zP l0), none, some (zI l2), some (zI l3)] [zI s1, zI s0] M := by
  intro n l0 l2 l3 s0 s1 M h
  rw [f_Codes_complete_38] at h
  refine r_iadd C (z_d dd_Codes_complete 26 rfl) ?_
  obtain ⟨v1, e2, h⟩ := zlet_ex h
  refine r_nmI e2 ?_
  refine r_istore_n (lv' := [some (zP l0), some (zI v1), some (zI l2), some (zI l3)]) C (z_d dd_Codes_complete 27 rfl) (Nat.le_of_ble_eq_true rfl) rfl ?_
  refine r_iload_n C (z_d dd_Codes_complete 28 rfl) rfl ?_
  refine r_aload_n C (z_d dd_Codes_complete 29 rfl) rfl ?_
  obtain ⟨h3, h⟩ := zif h
  refine r_getP C (z_d dd_Codes_complete 30 rfl) lk_Codes_9 rfl h3 rfl ?_
  refine r_iload_n C (z_d dd_Codes_complete 31 rfl) rfl ?_
  obtain ⟨h4, h⟩ := zif h
  obtain ⟨h5, h⟩ := zif h
  refine r_iald C (z_d dd_Codes_complete 32 rfl) h4 h5 rfl ?_
  refine r_iconst (v := (1 : Int32)) C (z_d dd_Codes_complete 33 rfl) (by decide) ?_
  refine r_icmp_ne C 55 (z_d dd_Codes_complete 34 rfl) (by decide) (fun c6 => ?_) (fun c6 => ?_)
  · have h := ziff h c6
    refine r_iconst (v := (0 : Int32)) C (z_d dd_Codes_complete 37 rfl) (by decide) ?_
    refine r_mk [true, true, false, true] ?_
    exact s_Codes_complete_56 C hr E hk6 n l0 v1 l3 l2 (0 : Int32) M h
  · have h := zift h c6
    refine r_iconst (v := (1 : Int32)) C (z_d dd_Codes_complete 35 rfl) (by decide) ?_
    refine r_goto C 56 (z_d dd_Codes_complete 36 rfl) (by decide) ?_
    refine r_mk [true, true, false, true] ?_
    exact s_Codes_complete_56 C hr E hk6 n l0 v1 l3 l2 (1 : Int32) M h
def f_Codes_complete_6 (O : zO) : Nat → Nat → Int32 → Int32 → Int32 → zM → Option (Int32 × zM)
  | 0, _, _, _, _, _ => none
  | n + 1, l0, l1, l2, l3, M =>
    if z_k M l0 = 2 then
    if (z_i M l0 6) ≤ l3 then
    (F_JInt_numberOfLeadingZeros O n l1 M).bind fun q2 =>
    if z_k q2.2 l0 = 2 then
    zlet (w_i q2.2 l0 5 ((32 : Int32) - q2.1)) fun M5 =>
    if l1 = 0 then
    f_Codes_complete_88 O n M5
    else
    if (z_i M5 l0 5) ≤ (11 : Int32) then
    zlet (((1 : Int32) <<< ((z_i M5 l0 5) &&& 31)) - l1) fun v8 =>
    if (v8 &&& (v8 - (1 : Int32))) = 0 then
    (F_JInt_numberOfLeadingZeros O n v8 M5).bind fun q10 =>
    if z_k q10.2 (z_p M5 l0 0) = 100 then
    if zin (z_i M5 l0 6) (z_n q10.2 (z_p M5 l0 0)) = true then
    zlet (w_i q10.2 (z_p M5 l0 0) (z_i M5 l0 6).toNatClampNeg ((32 : Int32) - q10.1)) fun M14 =>
    if z_k M14 l0 = 2 then
    if z_k M14 (z_p M14 l0 0) = 100 then
    if zin (z_i M14 l0 6) (z_n M14 (z_p M14 l0 0)) = true then
    if (z_i M14 (z_p M14 l0 0) (z_i M14 l0 6).toNatClampNeg) = (1 : Int32) then
    f_Codes_complete_144 O n l0 l2 (1 : Int32) M14
    else
    f_Codes_complete_144 O n l0 l2 (0 : Int32) M14
    else none
    else none
    else none
    else none
    else none
    else
    some ((0 : Int32), M5)
    else
    f_Codes_complete_88 O n M5
    else none
    else
    if z_k M (z_p M l0 0) = 100 then
    if zin l3 (z_n M (z_p M l0 0)) = true then
    if (z_i M (z_p M l0 0) l3.toNatClampNeg) ≤ 0 then
    f_Codes_complete_38 O (f_Codes_complete_6 O n) n l0 l2 l3 l1 (0 : Int32) M
    else
    if zin l3 (z_n M (z_p M l0 0)) = true then
    f_Codes_complete_38 O (f_Codes_complete_6 O n) n l0 l2 l3 l1 ((1 : Int32) <<< (((z_i M (z_p M l0 0) l3.toNatClampNeg) - (1 : Int32)) &&& 31)) M
    else none
    else none
    else none
    else none
set_option maxRecDepth 100000 in
set_option maxHeartbeats 4000000 in
theorem s_Codes_complete_6 {X : zX} {q : Int32 × zM} (C : zC X zR1 prog_2_method_7_code 4 { frames := 1, cells := 0, slots := 0, locals := 21 }) (hr : zRt X (some .boolean)) (E : zE X (some (zI q.1)) q.2 0 0) : ∀ (n : Nat) (l0 : Nat) (l1 : Int32) (l2 : Int32) (l3 : Int32) (M : zM), f_Codes_complete_6 (zOD X) n l0 l1 l2 l3 M = some q → zW X 0 0 6 [some (zP l0), some (zI l1), some (zI l2), some (zI l3)] [] M := by
  intro n
  induction n with
  | zero => intro l0 l1 l2 l3 M h; rw [f_Codes_complete_6] at h; cases h
  | succ n ih =>
    intro l0 l1 l2 l3 M h
    rw [f_Codes_complete_6] at h
    refine r_iload_n C (z_d dd_Codes_complete 6 rfl) rfl ?_
    refine r_aload_n C (z_d dd_Codes_complete 7 rfl) rfl ?_
    obtain ⟨h1, h⟩ := zif h
    refine r_getI C (z_d dd_Codes_complete 8 rfl) lk_Codes_41 rfl h1 rfl ?_
    refine r_icmp_ge C 64 (z_d dd_Codes_complete 9 rfl) (by decide) (fun c28 => ?_) (fun c28 => ?_)
    · have h := zift h c28
      refine r_aload_n C (z_d dd_Codes_complete 42 rfl) rfl ?_
      refine r_bipush (v := (32 : Int32)) C (z_d dd_Codes_complete 43 rfl) (by decide) ?_
      refine r_iload_n C (z_d dd_Codes_complete 44 rfl) rfl ?_
      obtain ⟨q2, c3, h⟩ := zbd h
      refine r_invS (as := [zI l1]) C (S_JInt_numberOfLeadingZeros c3) (z_d dd_Codes_complete 45 rfl) ok_JInt_numberOfLeadingZeros sv_JInt_numberOfLeadingZeros ml_Codes_93 rfl rfl rfl (Nat.le_of_ble_eq_true rfl) ⟨(Nat.le_of_ble_eq_true rfl), (Nat.le_of_ble_eq_true rfl)⟩ ⟨(Nat.le_of_ble_eq_true rfl), (Nat.le_of_ble_eq_true rfl)⟩ ?_
      refine r_isub C (z_d dd_Codes_complete 46 rfl) ?_
      obtain ⟨h4, h⟩ := zif h
      obtain ⟨M5, e6, h⟩ := zlet_ex h
      have h7 := k_i e6 h4
      refine r_putI C (z_d dd_Codes_complete 47 rfl) lp_Codes_37 rfl h4 e6 ?_
      refine r_iload_n C (z_d dd_Codes_complete 48 rfl) rfl ?_
      refine r_if_eq C 88 (z_d dd_Codes_complete 49 rfl) (by decide) (fun c23 => ?_) (fun c23 => ?_)
      · have h := zift h c23
        refine r_mk [false, false, false, false] ?_
        exact s_Codes_complete_88 C hr E n M5 h
      · have h := ziff h c23
        refine r_aload_n C (z_d dd_Codes_complete 50 rfl) rfl ?_
        refine r_getI C (z_d dd_Codes_complete 51 rfl) lk_Codes_37 rfl h7 rfl ?_
        refine r_bipush (v := (11 : Int32)) C (z_d dd_Codes_complete 52 rfl) (by decide) ?_
        refine r_icmp_le C 90 (z_d dd_Codes_complete 53 rfl) (by decide) (fun c22 => ?_) (fun c22 => ?_)
        · have h := zift h c22
          refine r_iconst (v := (1 : Int32)) C (z_d dd_Codes_complete 56 rfl) (by decide) ?_
          refine r_aload_n C (z_d dd_Codes_complete 57 rfl) rfl ?_
          refine r_getI C (z_d dd_Codes_complete 58 rfl) lk_Codes_37 rfl h7 rfl ?_
          refine r_ishl C (z_d dd_Codes_complete 59 rfl) ?_
          refine r_iload_n C (z_d dd_Codes_complete 60 rfl) rfl ?_
          refine r_isub C (z_d dd_Codes_complete 61 rfl) ?_
          obtain ⟨v8, e9, h⟩ := zlet_ex h
          refine r_nmI e9 ?_
          refine r_istore_n (lv' := [some (zP l0), some (zI l1), some (zI l2), some (zI v8)]) C (z_d dd_Codes_complete 62 rfl) (Nat.le_of_ble_eq_true rfl) rfl ?_
          refine r_iload_n C (z_d dd_Codes_complete 63 rfl) rfl ?_
          refine r_iload_n C (z_d dd_Codes_complete 64 rfl) rfl ?_
          refine r_iconst (v := (1 : Int32)) C (z_d dd_Codes_complete 65 rfl) (by decide) ?_
          refine r_isub C (z_d dd_Codes_complete 66 rfl) ?_
          refine r_iand C (z_d dd_Codes_complete 67 rfl) ?_
          refine r_if_eq C 109 (z_d dd_Codes_complete 68 rfl) (by decide) (fun c21 => ?_) (fun c21 => ?_)
          · have h := zift h c21
            refine r_aload_n C (z_d dd_Codes_complete 71 rfl) rfl ?_
            refine r_getP C (z_d dd_Codes_complete 72 rfl) lk_Codes_9 rfl h7 rfl ?_
            refine r_aload_n C (z_d dd_Codes_complete 73 rfl) rfl ?_
            refine r_getI C (z_d dd_Codes_complete 74 rfl) lk_Codes_41 rfl h7 rfl ?_
            refine r_bipush (v := (32 : Int32)) C (z_d dd_Codes_complete 75 rfl) (by decide) ?_
            refine r_iload_n C (z_d dd_Codes_complete 76 rfl) rfl ?_
            obtain ⟨q10, c11, h⟩ := zbd h
            refine r_invS (as := [zI v8]) C (S_JInt_numberOfLeadingZeros c11) (z_d dd_Codes_complete 77 rfl) ok_JInt_numberOfLeadingZeros sv_JInt_numberOfLeadingZeros ml_Codes_93 rfl rfl rfl (Nat.le_of_ble_eq_true rfl) ⟨(Nat.le_of_ble_eq_true rfl), (Nat.le_of_ble_eq_true rfl)⟩ ⟨(Nat.le_of_ble_eq_true rfl), (Nat.le_of_ble_eq_true rfl)⟩ ?_
            refine r_isub C (z_d dd_Codes_complete 78 rfl) ?_
            obtain ⟨h12, h⟩ := zif h
            obtain ⟨h13, h⟩ := zif h
            obtain ⟨M14, e15, h⟩ := zlet_ex h
            have h16 := k_i e15 h12
            refine r_iast C (z_d dd_Codes_complete 79 rfl) h12 h13 e15 ?_
            refine r_iload_n C (z_d dd_Codes_complete 80 rfl) rfl ?_
            refine r_aload_n C (z_d dd_Codes_complete 81 rfl) rfl ?_
            obtain ⟨h17, h⟩ := zif h
            refine r_getP C (z_d dd_Codes_complete 82 rfl) lk_Codes_9 rfl h17 rfl ?_
            refine r_aload_n C (z_d dd_Codes_complete 83 rfl) rfl ?_
            refine r_getI C (z_d dd_Codes_complete 84 rfl) lk_Codes_41 rfl h17 rfl ?_
            obtain ⟨h18, h⟩ := zif h
            obtain ⟨h19, h⟩ := zif h
            refine r_iald C (z_d dd_Codes_complete 85 rfl) h18 h19 rfl ?_
            refine r_iconst (v := (1 : Int32)) C (z_d dd_Codes_complete 86 rfl) (by decide) ?_
            refine r_icmp_ne C 143 (z_d dd_Codes_complete 87 rfl) (by decide) (fun c20 => ?_) (fun c20 => ?_)
            · have h := ziff h c20
              refine r_iconst (v := (0 : Int32)) C (z_d dd_Codes_complete 90 rfl) (by decide) ?_
              refine r_mk [true, false, false, false] ?_
              exact s_Codes_complete_144 C hr E n l0 l2 (0 : Int32) M14 h
            · have h := zift h c20
              refine r_iconst (v := (1 : Int32)) C (z_d dd_Codes_complete 88 rfl) (by decide) ?_
              refine r_goto C 144 (z_d dd_Codes_complete 89 rfl) (by decide) ?_
              refine r_mk [true, false, false, false] ?_
              exact s_Codes_complete_144 C hr E n l0 l2 (1 : Int32) M14 h
          · have h := ziff h c21
            refine r_iconst (v := (0 : Int32)) C (z_d dd_Codes_complete 69 rfl) (by decide) ?_
            obtain rfl := z_res h
            exact r_iretZ C E hr (z_d dd_Codes_complete 70 rfl) (by decide) (Nat.le_of_ble_eq_true rfl) (Nat.le_of_ble_eq_true rfl)
        · have h := ziff h c22
          refine r_mk [false, false, false, false] ?_
          exact s_Codes_complete_88 C hr E n M5 h
    · have h := ziff h c28
      refine r_iload_n C (z_d dd_Codes_complete 10 rfl) rfl ?_
      refine r_aload_n C (z_d dd_Codes_complete 11 rfl) rfl ?_
      refine r_getP C (z_d dd_Codes_complete 12 rfl) lk_Codes_9 rfl h1 rfl ?_
      refine r_iload_n C (z_d dd_Codes_complete 13 rfl) rfl ?_
      obtain ⟨h24, h⟩ := zif h
      obtain ⟨h25, h⟩ := zif h
      refine r_iald C (z_d dd_Codes_complete 14 rfl) h24 h25 rfl ?_
      refine r_if_le C 37 (z_d dd_Codes_complete 15 rfl) (by decide) (fun c27 => ?_) (fun c27 => ?_)
      · have h := zift h c27
        refine r_iconst (v := (0 : Int32)) C (z_d dd_Codes_complete 25 rfl) (by decide) ?_
        refine r_mk [true, false, true, true] ?_
        exact s_Codes_complete_38 C hr E ih n l0 l2 l3 l1 (0 : Int32) M h
      · have h := ziff h c27
        refine r_iconst (v := (1 : Int32)) C (z_d dd_Codes_complete 16 rfl) (by decide) ?_
        refine r_aload_n C (z_d dd_Codes_complete 17 rfl) rfl ?_
        refine r_getP C (z_d dd_Codes_complete 18 rfl) lk_Codes_9 rfl h1 rfl ?_
        refine r_iload_n C (z_d dd_Codes_complete 19 rfl) rfl ?_
        obtain ⟨h26, h⟩ := zif h
        refine r_iald C (z_d dd_Codes_complete 20 rfl) h24 h26 rfl ?_
        refine r_iconst (v := (1 : Int32)) C (z_d dd_Codes_complete 21 rfl) (by decide) ?_
        refine r_isub C (z_d dd_Codes_complete 22 rfl) ?_
        refine r_ishl C (z_d dd_Codes_complete 23 rfl) ?_
        refine r_goto C 38 (z_d dd_Codes_complete 24 rfl) (by decide) ?_
        refine r_mk [true, false, true, true] ?_
        exact s_Codes_complete_38 C hr E ih n l0 l2 l3 l1 ((1 : Int32) <<< (((z_i M (z_p M l0 0) l3.toNatClampNeg) - (1 : Int32)) &&& 31)) M h
def f_Codes_complete_0 (O : zO) (n : Nat) (l0 : Nat) (M : zM) : Option (Int32 × zM) :=
  f_Codes_complete_6 O n l0 (0 : Int32) (0 : Int32) (0 : Int32) M
set_option maxRecDepth 100000 in
set_option maxHeartbeats 4000000 in
theorem s_Codes_complete_0 {X : zX} {q : Int32 × zM} (C : zC X zR1 prog_2_method_7_code 4 { frames := 1, cells := 0, slots := 0, locals := 21 }) (hr : zRt X (some .boolean)) (E : zE X (some (zI q.1)) q.2 0 0) : ∀ (n : Nat) (l0 : Nat) (M : zM), f_Codes_complete_0 (zOD X) n l0 M = some q → zW X 0 0 0 [some (zP l0), none, none, none] [] M := by
  intro n l0 M h
  rw [f_Codes_complete_0] at h
  refine r_iconst (v := (0 : Int32)) C (z_d dd_Codes_complete 0 rfl) (by decide) ?_
  refine r_istore_n (lv' := [some (zP l0), some (zI (0 : Int32)), none, none]) C (z_d dd_Codes_complete 1 rfl) (Nat.le_of_ble_eq_true rfl) rfl ?_
  refine r_iconst (v := (0 : Int32)) C (z_d dd_Codes_complete 2 rfl) (by decide) ?_
  refine r_istore_n (lv' := [some (zP l0), some (zI (0 : Int32)), some (zI (0 : Int32)), none]) C (z_d dd_Codes_complete 3 rfl) (Nat.le_of_ble_eq_true rfl) rfl ?_
  refine r_iconst (v := (0 : Int32)) C (z_d dd_Codes_complete 4 rfl) (by decide) ?_
  refine r_istore_n (lv' := [some (zP l0), some (zI (0 : Int32)), some (zI (0 : Int32)), some (zI (0 : Int32))]) C (z_d dd_Codes_complete 5 rfl) (Nat.le_of_ble_eq_true rfl) rfl ?_
  exact s_Codes_complete_6 C hr E n l0 (0 : Int32) (0 : Int32) (0 : Int32) M h
def F_Codes_complete (O : zO) (n : Nat) (l0 : Nat) (M : zM) : Option (Int32 × zM) := f_Codes_complete_0 O n l0 M
theorem S_Codes_complete {l : Launch} {D : zD} {n : Nat} {l0 : Nat} {M : zM} {q : Int32 × zM} (h : F_Codes_complete D.2.2.2.2 n l0 M = some q) : zMet l D mi_Codes_complete [zP l0] M (some (zI q.1)) q.2 :=
  z_met (by decide) (Nat.le_of_ble_eq_true rfl) (fun X C E hr hin hD hl => by
    subst hD
    exact s_Codes_complete_0 C hr E n l0 M h)

def f_JArr_rangeCheck_0 (O : zO) (n : Nat) (l0 : Int32) (l1 : Int32) (l2 : Int32) (M : zM) : Option (Unit × zM) :=
  if l1 ≤ l2 then
  if 0 ≤ l1 then
  if l2 ≤ l0 then
  some ((), M)
  else
  none
  else
  none
  else
  none
set_option maxRecDepth 100000 in
set_option maxHeartbeats 4000000 in
theorem s_JArr_rangeCheck_0 {X : zX} {q : Unit × zM} (C : zC X zJArr prog_19_method_30_code 3 { frames := 0, cells := 0, slots := 0, locals := 0 }) (hr : zRt X none) (E : zE X none q.2 0 0) : ∀ (n : Nat) (l0 : Int32) (l1 : Int32) (l2 : Int32) (M : zM), f_JArr_rangeCheck_0 (zOD X) n l0 l1 l2 M = some q → zW X 0 0 0 [some (zI l0), some (zI l1), some (zI l2)] [] M := by
  intro n l0 l1 l2 M h
  rw [f_JArr_rangeCheck_0] at h
  refine r_iload_n C (z_d dd_JArr_rangeCheck 0 rfl) rfl ?_
  refine r_iload_n C (z_d dd_JArr_rangeCheck 1 rfl) rfl ?_
  refine r_icmp_le C 46 (z_d dd_JArr_rangeCheck 2 rfl) (by decide) (fun c3 => ?_) (fun c3 => ?_)
  · have h := zift h c3
    refine r_iload_n C (z_d dd_JArr_rangeCheck 21 rfl) rfl ?_
    refine r_if_ge C 59 (z_d dd_JArr_rangeCheck 22 rfl) (by decide) (fun c2 => ?_) (fun c2 => ?_)
    · have h := zift h c2
      refine r_iload_n C (z_d dd_JArr_rangeCheck 28 rfl) rfl ?_
      refine r_iload_n C (z_d dd_JArr_rangeCheck 29 rfl) rfl ?_
      refine r_icmp_le C 73 (z_d dd_JArr_rangeCheck 30 rfl) (by decide) (fun c1 => ?_) (fun c1 => ?_)
      · have h := zift h c1
        obtain rfl := z_res h
        exact r_vret C E hr (z_d dd_JArr_rangeCheck 36 rfl) (Nat.le_of_ble_eq_true rfl) (Nat.le_of_ble_eq_true rfl)
      · have h := ziff h c1
        cases h
    · have h := ziff h c2
      cases h
  · have h := ziff h c3
    cases h
def F_JArr_rangeCheck (O : zO) (n : Nat) (l0 : Int32) (l1 : Int32) (l2 : Int32) (M : zM) : Option (Unit × zM) := f_JArr_rangeCheck_0 O n l0 l1 l2 M
theorem S_JArr_rangeCheck {l : Launch} {D : zD} {n : Nat} {l0 : Int32} {l1 : Int32} {l2 : Int32} {M : zM} {q : Unit × zM} (h : F_JArr_rangeCheck D.2.2.2.2 n l0 l1 l2 M = some q) : zMet l D mi_JArr_rangeCheck [zI l0, zI l1, zI l2] M none q.2 :=
  z_metF (by decide +kernel) (Nat.le_of_ble_eq_true rfl) (fun X C E hr hin hD hl => by
    subst hD
    exact s_JArr_rangeCheck_0 C hr E n l0 l1 l2 M h)

def f_JArr_fill_IIII_10 (O : zO) : Nat → Nat → Int32 → Int32 → Int32 → zM → Option (Unit × zM)
  | 0, _, _, _, _, _ => none
  | n + 1, l0, l2, l3, l4, M =>
    if l2 ≤ l4 then
    some ((), M)
    else
    if z_k M l0 = 100 then
    if zin l4 (z_n M l0) = true then
    zlet (w_i M l0 l4.toNatClampNeg l3) fun M3 =>
    zlet (l4 + (1 : Int32)) fun v6 =>
    f_JArr_fill_IIII_10 O n l0 l2 l3 v6 M3
    else none
    else none
set_option maxRecDepth 100000 in
set_option maxHeartbeats 4000000 in
theorem s_JArr_fill_IIII_10 {X : zX} {q : Unit × zM} (C : zC X zJArr prog_19_method_104_code 5 { frames := 1, cells := 0, slots := 0, locals := 22 }) (hr : zRt X none) (E : zE X none q.2 0 0) : ∀ (n : Nat) (l0 : Nat) (l2 : Int32) (l3 : Int32) (l4 : Int32) (M : zM), f_JArr_fill_IIII_10 (zOD X) n l0 l2 l3 l4 M = some q → zW X 0 0 10 [some (zP l0), none, some (zI l2), some (zI l3), some (zI l4)] [] M := by
  intro n
  induction n with
  | zero => intro l0 l2 l3 l4 M h; rw [f_JArr_fill_IIII_10] at h; cases h
  | succ n ih =>
    intro l0 l2 l3 l4 M h
    rw [f_JArr_fill_IIII_10] at h
    refine r_iload C (z_d dd_JArr_fill_IIII 7 rfl) rfl ?_
    refine r_iload_n C (z_d dd_JArr_fill_IIII 8 rfl) rfl ?_
    refine r_icmp_ge C 27 (z_d dd_JArr_fill_IIII 9 rfl) (by decide) (fun c8 => ?_) (fun c8 => ?_)
    · have h := zift h c8
      obtain rfl := z_res h
      exact r_vret C E hr (z_d dd_JArr_fill_IIII 16 rfl) (Nat.le_of_ble_eq_true rfl) (Nat.le_of_ble_eq_true rfl)
    · have h := ziff h c8
      refine r_aload_n C (z_d dd_JArr_fill_IIII 10 rfl) rfl ?_
      refine r_iload C (z_d dd_JArr_fill_IIII 11 rfl) rfl ?_
      refine r_iload_n C (z_d dd_JArr_fill_IIII 12 rfl) rfl ?_
      obtain ⟨h1, h⟩ := zif h
      obtain ⟨h2, h⟩ := zif h
      obtain ⟨M3, e4, h⟩ := zlet_ex h
      have h5 := k_i e4 h1
      refine r_iast C (z_d dd_JArr_fill_IIII 13 rfl) h1 h2 e4 ?_
      obtain ⟨v6, e7, h⟩ := zlet_ex h
      refine r_iinc (v := v6) (lv' := [some (zP l0), none, some (zI l2), some (zI l3), some (zI v6)]) C (z_d dd_JArr_fill_IIII 14 rfl) rfl (Nat.le_of_ble_eq_true rfl) (by rw [e7]; rfl) rfl ?_
      refine r_goto C 10 (z_d dd_JArr_fill_IIII 15 rfl) (by decide) ?_
      exact ih l0 l2 l3 v6 M3 h
def f_JArr_fill_IIII_0 (O : zO) (n : Nat) (l0 : Nat) (l1 : Int32) (l2 : Int32) (l3 : Int32) (M : zM) : Option (Unit × zM) :=
  if z_k M l0 = 100 then
  (F_JArr_rangeCheck O n (Int32.ofNat (z_n M l0)) l1 l2 M).bind fun q2 =>
  f_JArr_fill_IIII_10 O n l0 l2 l3 l1 q2.2
  else none
set_option maxRecDepth 100000 in
set_option maxHeartbeats 4000000 in
theorem s_JArr_fill_IIII_0 {X : zX} {q : Unit × zM} (C : zC X zJArr prog_19_method_104_code 5 { frames := 1, cells := 0, slots := 0, locals := 22 }) (hr : zRt X none) (E : zE X none q.2 0 0) : ∀ (n : Nat) (l0 : Nat) (l1 : Int32) (l2 : Int32) (l3 : Int32) (M : zM), f_JArr_fill_IIII_0 (zOD X) n l0 l1 l2 l3 M = some q → zW X 0 0 0 [some (zP l0), some (zI l1), some (zI l2), some (zI l3), none] [] M := by
  intro n l0 l1 l2 l3 M h
  rw [f_JArr_fill_IIII_0] at h
  refine r_aload_n C (z_d dd_JArr_fill_IIII 0 rfl) rfl ?_
  obtain ⟨h1, h⟩ := zif h
  refine r_alen C 0 (z_d dd_JArr_fill_IIII 1 rfl) h1 (Nat.le_of_ble_eq_true rfl) rfl ?_
  refine r_iload_n C (z_d dd_JArr_fill_IIII 2 rfl) rfl ?_
  refine r_iload_n C (z_d dd_JArr_fill_IIII 3 rfl) rfl ?_
  obtain ⟨q2, c3, h⟩ := zbd h
  refine r_invS (as := [zI (Int32.ofNat (z_n M l0)), zI l1, zI l2]) C (S_JArr_rangeCheck c3) (z_d dd_JArr_fill_IIII 4 rfl) ok_JArr_rangeCheck sv_JArr_rangeCheck ml_JArr_13 rfl rfl rfl (Nat.le_of_ble_eq_true rfl) ⟨(Nat.le_of_ble_eq_true rfl), (Nat.le_of_ble_eq_true rfl)⟩ ⟨(Nat.le_of_ble_eq_true rfl), (Nat.le_of_ble_eq_true rfl)⟩ ?_
  refine r_iload_n C (z_d dd_JArr_fill_IIII 5 rfl) rfl ?_
  refine r_istore (lv' := [some (zP l0), some (zI l1), some (zI l2), some (zI l3), some (zI l1)]) C (z_d dd_JArr_fill_IIII 6 rfl) (Nat.le_of_ble_eq_true rfl) rfl ?_
  refine r_mk [true, false, true, true, true] ?_
  exact s_JArr_fill_IIII_10 C hr E n l0 l2 l3 l1 q2.2 h
def F_JArr_fill_IIII (O : zO) (n : Nat) (l0 : Nat) (l1 : Int32) (l2 : Int32) (l3 : Int32) (M : zM) : Option (Unit × zM) := f_JArr_fill_IIII_0 O n l0 l1 l2 l3 M
theorem S_JArr_fill_IIII {l : Launch} {D : zD} {n : Nat} {l0 : Nat} {l1 : Int32} {l2 : Int32} {l3 : Int32} {M : zM} {q : Unit × zM} (h : F_JArr_fill_IIII D.2.2.2.2 n l0 l1 l2 l3 M = some q) : zMet l D mi_JArr_fill_IIII [zP l0, zI l1, zI l2, zI l3] M none q.2 :=
  z_metF (by decide +kernel) (Nat.le_of_ble_eq_true rfl) (fun X C E hr hin hD hl => by
    subst hD
    exact s_JArr_fill_IIII_0 C hr E n l0 l1 l2 l3 M h)

def f_Codes_lay_69 (O : zO) (k4 : Nat → Int32 → Int32 → zM → Option (Unit × zM)) (k14 : Nat → Int32 → Int32 → Int32 → zM → Option (Unit × zM)) (n : Nat) (l0 : Nat) (l1 : Int32) (l2 : Int32) (l3 : Int32) (M : zM) : Option (Unit × zM) :=
  zlet (l3 + (1 : Int32)) fun v1 =>
  k14 l0 l1 l2 v1 M
set_option maxRecDepth 100000 in
set_option maxHeartbeats 4000000 in
theorem s_Codes_lay_69 {X : zX} {q : Unit × zM} (C : zC X zR1 prog_2_method_8_code 5 { frames := 2, cells := 0, slots := 0, locals := 46 }) (hr : zRt X none) (E : zE X none q.2 0 0) {k4 : Nat → Int32 → Int32 → zM → Option (Unit × zM)} (hk4 : ∀ (l0 : Nat) (l1 : Int32) (l2 : Int32) (M : zM), k4 l0 l1 l2 M = some q → zW X 0 0 4 [some (zP l0), some (zI l1), some (zI l2), none, none] [] M) {k14 : Nat → Int32 → Int32 → Int32 → zM → Option (Unit × zM)} (hk14 : ∀ (l0 : Nat) (l1 : Int32) (l2 : Int32) (l3 : Int32) (M : zM), k14 l0 l1 l2 l3 M = some q → zW X 0 0 14 [some (zP l0), some (zI l1), some (zI l2), some (zI l3), none] [] M) : ∀ (n : Nat) (l0 : Nat) (l1 : Int32) (l2 : Int32) (l3 : Int32) (M : zM), f_Codes_lay_69 (zOD X) k4 k14 n l0 l1 l2 l3 M = some q → zW X 0 0 69 [some (zP l0), some (zI l1), some (zI l2), some (zI l3), none] [] M := by
  intro n l0 l1 l2 l3 M h
  rw [f_Codes_lay_69] at h
  obtain ⟨v1, e2, h⟩ := zlet_ex h
  refine r_iinc (v := v1) (lv' := [some (zP l0), some (zI l1), some (zI l2), some (zI v1), none]) C (z_d dd_Codes_lay 46 rfl) rfl (Nat.le_of_ble_eq_true rfl) (by rw [e2]; rfl) rfl ?_
  refine r_goto C 14 (z_d dd_Codes_lay 47 rfl) (by decide) ?_
  exact hk14 l0 l1 l2 v1 M h
def f_Codes_lay_14 (O : zO) (k4 : Nat → Int32 → Int32 → zM → Option (Unit × zM)) : Nat → Nat → Int32 → Int32 → Int32 → zM → Option (Unit × zM)
  | 0, _, _, _, _, _ => none
  | n + 1, l0, l1, l2, l3, M =>
    if z_k M l0 = 2 then
    if (z_i M l0 6) ≤ l3 then
    zlet (l2 + (1 : Int32)) fun v2 =>
    k4 l0 l1 v2 M
    else
    if z_k M (z_p M l0 0) = 100 then
    if zin l3 (z_n M (z_p M l0 0)) = true then
    if (z_i M (z_p M l0 0) l3.toNatClampNeg) = l2 then
    zlet (l1 + ((1 : Int32) <<< ((l2 - (1 : Int32)) &&& 31))) fun v6 =>
    (F_JArr_fill_IIII O n (z_p M l0 2) l1 v6 l3 M).bind fun q8 =>
    if z_k q8.2 l0 = 2 then
    if z_k q8.2 (z_p q8.2 l0 1) = 100 then
    if zin l3 (z_n q8.2 (z_p q8.2 l0 1)) = true then
    zlet (w_i q8.2 (z_p q8.2 l0 1) l3.toNatClampNeg (((z_i q8.2 l0 5) + (1 : Int32)) - l2)) fun M13 =>
    f_Codes_lay_69 O k4 (f_Codes_lay_14 O k4 n) n l0 v6 l2 l3 M13
    else none
    else none
    else none
    else
    f_Codes_lay_69 O k4 (f_Codes_lay_14 O k4 n) n l0 l1 l2 l3 M
    else none
    else none
    else none
set_option maxRecDepth 100000 in
set_option maxHeartbeats 4000000 in
theorem s_Codes_lay_14 {X : zX} {q : Unit × zM} (C : zC X zR1 prog_2_method_8_code 5 { frames := 2, cells := 0, slots := 0, locals := 46 }) (hr : zRt X none) (E : zE X none q.2 0 0) {k4 : Nat → Int32 → Int32 → zM → Option (Unit × zM)} (hk4 : ∀ (l0 : Nat) (l1 : Int32) (l2 : Int32) (M : zM), k4 l0 l1 l2 M = some q → zW X 0 0 4 [some (zP l0), some (zI l1), some (zI l2), none, none] [] M) : ∀ (n : Nat) (l0 : Nat) (l1 : Int32) (l2 : Int32) (l3 : Int32) (M : zM), f_Codes_lay_14 (zOD X) k4 n l0 l1 l2 l3 M = some q → zW X 0 0 14 [some (zP l0), some (zI l1), some (zI l2), some (zI l3), none] [] M := by
  intro n
  induction n with
  | zero => intro l0 l1 l2 l3 M h; rw [f_Codes_lay_14] at h; cases h
  | succ n ih =>
    intro l0 l1 l2 l3 M h
    rw [f_Codes_lay_14] at h
    refine r_iload_n C (z_d dd_Codes_lay 10 rfl) rfl ?_
    refine r_aload_n C (z_d dd_Codes_lay 11 rfl) rfl ?_
    obtain ⟨h1, h⟩ := zif h
    refine r_getI C (z_d dd_Codes_lay 12 rfl) lk_Codes_41 rfl h1 rfl ?_
    refine r_icmp_ge C 75 (z_d dd_Codes_lay 13 rfl) (by decide) (fun c18 => ?_) (fun c18 => ?_)
    · have h := zift h c18
      obtain ⟨v2, e3, h⟩ := zlet_ex h
      refine r_iinc (v := v2) (lv' := [some (zP l0), some (zI l1), some (zI v2), some (zI l3), none]) C (z_d dd_Codes_lay 48 rfl) rfl (Nat.le_of_ble_eq_true rfl) (by rw [e3]; rfl) rfl ?_
      refine r_goto C 4 (z_d dd_Codes_lay 49 rfl) (by decide) ?_
      refine r_mk [true, true, true, false, false] ?_
      exact hk4 l0 l1 v2 M h
    · have h := ziff h c18
      refine r_aload_n C (z_d dd_Codes_lay 14 rfl) rfl ?_
      refine r_getP C (z_d dd_Codes_lay 15 rfl) lk_Codes_9 rfl h1 rfl ?_
      refine r_iload_n C (z_d dd_Codes_lay 16 rfl) rfl ?_
      obtain ⟨h4, h⟩ := zif h
      obtain ⟨h5, h⟩ := zif h
      refine r_iald C (z_d dd_Codes_lay 17 rfl) h4 h5 rfl ?_
      refine r_iload_n C (z_d dd_Codes_lay 18 rfl) rfl ?_
      refine r_icmp_ne C 69 (z_d dd_Codes_lay 19 rfl) (by decide) (fun c17 => ?_) (fun c17 => ?_)
      · have h := ziff h c17
        exact s_Codes_lay_69 C hr E hk4 ih n l0 l1 l2 l3 M h
      · have h := zift h c17
        refine r_iload_n C (z_d dd_Codes_lay 20 rfl) rfl ?_
        refine r_iconst (v := (1 : Int32)) C (z_d dd_Codes_lay 21 rfl) (by decide) ?_
        refine r_iload_n C (z_d dd_Codes_lay 22 rfl) rfl ?_
        refine r_iconst (v := (1 : Int32)) C (z_d dd_Codes_lay 23 rfl) (by decide) ?_
        refine r_isub C (z_d dd_Codes_lay 24 rfl) ?_
        refine r_ishl C (z_d dd_Codes_lay 25 rfl) ?_
        refine r_iadd C (z_d dd_Codes_lay 26 rfl) ?_
        obtain ⟨v6, e7, h⟩ := zlet_ex h
        refine r_nmI e7 ?_
        refine r_istore (lv' := [some (zP l0), some (zI l1), some (zI l2), some (zI l3), some (zI v6)]) C (z_d dd_Codes_lay 27 rfl) (Nat.le_of_ble_eq_true rfl) rfl ?_
        refine r_aload_n C (z_d dd_Codes_lay 28 rfl) rfl ?_
        refine r_getP C (z_d dd_Codes_lay 29 rfl) lk_Codes_18 rfl h1 rfl ?_
        refine r_iload_n C (z_d dd_Codes_lay 30 rfl) rfl ?_
        refine r_iload C (z_d dd_Codes_lay 31 rfl) rfl ?_
        refine r_iload_n C (z_d dd_Codes_lay 32 rfl) rfl ?_
        obtain ⟨q8, c9, h⟩ := zbd h
        refine r_invS (as := [zP (z_p M l0 2), zI l1, zI v6, zI l3]) C (S_JArr_fill_IIII c9) (z_d dd_Codes_lay 33 rfl) ok_JArr_fill_IIII sv_JArr_fill_IIII ml_Codes_98 rfl rfl rfl (Nat.le_of_ble_eq_true rfl) ⟨(Nat.le_of_ble_eq_true rfl), (Nat.le_of_ble_eq_true rfl)⟩ ⟨(Nat.le_of_ble_eq_true rfl), (Nat.le_of_ble_eq_true rfl)⟩ ?_
        refine r_aload_n C (z_d dd_Codes_lay 34 rfl) rfl ?_
        obtain ⟨h10, h⟩ := zif h
        refine r_getP C (z_d dd_Codes_lay 35 rfl) lk_Codes_15 rfl h10 rfl ?_
        refine r_iload_n C (z_d dd_Codes_lay 36 rfl) rfl ?_
        refine r_aload_n C (z_d dd_Codes_lay 37 rfl) rfl ?_
        refine r_getI C (z_d dd_Codes_lay 38 rfl) lk_Codes_37 rfl h10 rfl ?_
        refine r_iconst (v := (1 : Int32)) C (z_d dd_Codes_lay 39 rfl) (by decide) ?_
        refine r_iadd C (z_d dd_Codes_lay 40 rfl) ?_
        refine r_iload_n C (z_d dd_Codes_lay 41 rfl) rfl ?_
        refine r_isub C (z_d dd_Codes_lay 42 rfl) ?_
        obtain ⟨h11, h⟩ := zif h
        obtain ⟨h12, h⟩ := zif h
        obtain ⟨M13, e14, h⟩ := zlet_ex h
        have h15 := k_i e14 h10
        have h16 := k_i e14 h11
        refine r_iast C (z_d dd_Codes_lay 43 rfl) h11 h12 e14 ?_
        refine r_iload C (z_d dd_Codes_lay 44 rfl) rfl ?_
        refine r_istore_n (lv' := [some (zP l0), some (zI v6), some (zI l2), some (zI l3), some (zI v6)]) C (z_d dd_Codes_lay 45 rfl) (Nat.le_of_ble_eq_true rfl) rfl ?_
        refine r_mk [true, true, true, true, false] ?_
        exact s_Codes_lay_69 C hr E hk4 ih n l0 v6 l2 l3 M13 h
def f_Codes_lay_4 (O : zO) : Nat → Nat → Int32 → Int32 → zM → Option (Unit × zM)
  | 0, _, _, _, _ => none
  | n + 1, l0, l1, l2, M =>
    if z_k M l0 = 2 then
    if (z_i M l0 5) < l2 then
    some ((), M)
    else
    f_Codes_lay_14 O (f_Codes_lay_4 O n) n l0 l1 l2 (0 : Int32) M
    else none
set_option maxRecDepth 100000 in
set_option maxHeartbeats 4000000 in
theorem s_Codes_lay_4 {X : zX} {q : Unit × zM} (C : zC X zR1 prog_2_method_8_code 5 { frames := 2, cells := 0, slots := 0, locals := 46 }) (hr : zRt X none) (E : zE X none q.2 0 0) : ∀ (n : Nat) (l0 : Nat) (l1 : Int32) (l2 : Int32) (M : zM), f_Codes_lay_4 (zOD X) n l0 l1 l2 M = some q → zW X 0 0 4 [some (zP l0), some (zI l1), some (zI l2), none, none] [] M := by
  intro n
  induction n with
  | zero => intro l0 l1 l2 M h; rw [f_Codes_lay_4] at h; cases h
  | succ n ih =>
    intro l0 l1 l2 M h
    rw [f_Codes_lay_4] at h
    refine r_iload_n C (z_d dd_Codes_lay 4 rfl) rfl ?_
    refine r_aload_n C (z_d dd_Codes_lay 5 rfl) rfl ?_
    obtain ⟨h1, h⟩ := zif h
    refine r_getI C (z_d dd_Codes_lay 6 rfl) lk_Codes_37 rfl h1 rfl ?_
    refine r_icmp_gt C 81 (z_d dd_Codes_lay 7 rfl) (by decide) (fun c2 => ?_) (fun c2 => ?_)
    · have h := zift h c2
      obtain rfl := z_res h
      exact r_vret C E hr (z_d dd_Codes_lay 50 rfl) (Nat.le_of_ble_eq_true rfl) (Nat.le_of_ble_eq_true rfl)
    · have h := ziff h c2
      refine r_iconst (v := (0 : Int32)) C (z_d dd_Codes_lay 8 rfl) (by decide) ?_
      refine r_istore_n (lv' := [some (zP l0), some (zI l1), some (zI l2), some (zI (0 : Int32)), none]) C (z_d dd_Codes_lay 9 rfl) (Nat.le_of_ble_eq_true rfl) rfl ?_
      exact s_Codes_lay_14 C hr E ih n l0 l1 l2 (0 : Int32) M h
def f_Codes_lay_0 (O : zO) (n : Nat) (l0 : Nat) (M : zM) : Option (Unit × zM) :=
  f_Codes_lay_4 O n l0 (0 : Int32) (1 : Int32) M
set_option maxRecDepth 100000 in
set_option maxHeartbeats 4000000 in
theorem s_Codes_lay_0 {X : zX} {q : Unit × zM} (C : zC X zR1 prog_2_method_8_code 5 { frames := 2, cells := 0, slots := 0, locals := 46 }) (hr : zRt X none) (E : zE X none q.2 0 0) : ∀ (n : Nat) (l0 : Nat) (M : zM), f_Codes_lay_0 (zOD X) n l0 M = some q → zW X 0 0 0 [some (zP l0), none, none, none, none] [] M := by
  intro n l0 M h
  rw [f_Codes_lay_0] at h
  refine r_iconst (v := (0 : Int32)) C (z_d dd_Codes_lay 0 rfl) (by decide) ?_
  refine r_istore_n (lv' := [some (zP l0), some (zI (0 : Int32)), none, none, none]) C (z_d dd_Codes_lay 1 rfl) (Nat.le_of_ble_eq_true rfl) rfl ?_
  refine r_iconst (v := (1 : Int32)) C (z_d dd_Codes_lay 2 rfl) (by decide) ?_
  refine r_istore_n (lv' := [some (zP l0), some (zI (0 : Int32)), some (zI (1 : Int32)), none, none]) C (z_d dd_Codes_lay 3 rfl) (Nat.le_of_ble_eq_true rfl) rfl ?_
  exact s_Codes_lay_4 C hr E n l0 (0 : Int32) (1 : Int32) M h
def F_Codes_lay (O : zO) (n : Nat) (l0 : Nat) (M : zM) : Option (Unit × zM) := f_Codes_lay_0 O n l0 M
theorem S_Codes_lay {l : Launch} {D : zD} {n : Nat} {l0 : Nat} {M : zM} {q : Unit × zM} (h : F_Codes_lay D.2.2.2.2 n l0 M = some q) : zMet l D mi_Codes_lay [zP l0] M none q.2 :=
  z_met (by decide) (Nat.le_of_ble_eq_true rfl) (fun X C E hr hin hD hl => by
    subst hD
    exact s_Codes_lay_0 C hr E n l0 M h)

def f_Codes_tell_113 (O : zO) (n : Nat) (M : zM) : Option (Int32 × zM) :=
  some ((-1 : Int32), M)
set_option maxRecDepth 100000 in
set_option maxHeartbeats 4000000 in
theorem s_Codes_tell_113 {X : zX} {q : Int32 × zM} (C : zC X zR1 prog_2_method_3_code 7 { frames := 4, cells := 0, slots := 0, locals := 97 }) (hr : zRt X (some .int)) (E : zE X (some (zI q.1)) q.2 0 0) : ∀ (n : Nat) (M : zM), f_Codes_tell_113 (zOD X) n M = some q → zW X 0 0 113 [none, none, none, none, none, none, none] [] M := by
  intro n M h
  rw [f_Codes_tell_113] at h
  refine r_iconst (v := (-1 : Int32)) C (z_d dd_Codes_tell 64 rfl) (by decide) ?_
  obtain rfl := z_res h
  exact r_iretI C E hr (z_d dd_Codes_tell 65 rfl) (Nat.le_of_ble_eq_true rfl) (Nat.le_of_ble_eq_true rfl)
def f_Codes_tell_115 (O : zO) (n : Nat) (l0 : Nat) (l5 : Int32) (M : zM) : Option (Int32 × zM) :=
  if z_k M l0 = 2 then
  (F_Codes_complete O n l0 M).bind fun q2 =>
  if q2.1 = 0 then
  some ((-1 : Int32), q2.2)
  else
  if z_k q2.2 l0 = 2 then
  (F_Codes_lay O n l0 q2.2).bind fun q5 =>
  some (l5, q5.2)
  else none
  else none
set_option maxRecDepth 100000 in
set_option maxHeartbeats 4000000 in
theorem s_Codes_tell_115 {X : zX} {q : Int32 × zM} (C : zC X zR1 prog_2_method_3_code 7 { frames := 4, cells := 0, slots := 0, locals := 97 }) (hr : zRt X (some .int)) (E : zE X (some (zI q.1)) q.2 0 0) : ∀ (n : Nat) (l0 : Nat) (l5 : Int32) (M : zM), f_Codes_tell_115 (zOD X) n l0 l5 M = some q → zW X 0 0 115 [some (zP l0), none, none, none, none, some (zI l5), none] [] M := by
  intro n l0 l5 M h
  rw [f_Codes_tell_115] at h
  refine r_aload_n C (z_d dd_Codes_tell 66 rfl) rfl ?_
  obtain ⟨h1, h⟩ := zif h
  obtain ⟨q2, c3, h⟩ := zbd h
  refine r_invV (as := []) C 1 (S_Codes_complete c3) (z_d dd_Codes_tell 67 rfl) ok_Codes_complete iv_Codes_complete se_Codes_complete ml_Codes_73 rfl rfl h1 rfl rfl rfl (Nat.le_of_ble_eq_true rfl) ⟨(Nat.le_of_ble_eq_true rfl), (Nat.le_of_ble_eq_true rfl)⟩ ⟨(Nat.le_of_ble_eq_true rfl), (Nat.le_of_ble_eq_true rfl)⟩ ?_
  refine r_if_ne C 124 (z_d dd_Codes_tell 68 rfl) (by decide) (fun c7 => ?_) (fun c7 => ?_)
  · have h := ziff h c7
    refine r_aload_n C (z_d dd_Codes_tell 71 rfl) rfl ?_
    obtain ⟨h4, h⟩ := zif h
    obtain ⟨q5, c6, h⟩ := zbd h
    refine r_invV (as := []) C 1 (S_Codes_lay c6) (z_d dd_Codes_tell 72 rfl) ok_Codes_lay iv_Codes_lay se_Codes_lay ml_Codes_76 rfl rfl h4 rfl rfl rfl (Nat.le_of_ble_eq_true rfl) ⟨(Nat.le_of_ble_eq_true rfl), (Nat.le_of_ble_eq_true rfl)⟩ ⟨(Nat.le_of_ble_eq_true rfl), (Nat.le_of_ble_eq_true rfl)⟩ ?_
    refine r_iload C (z_d dd_Codes_tell 73 rfl) rfl ?_
    obtain rfl := z_res h
    exact r_iretI C E hr (z_d dd_Codes_tell 74 rfl) (Nat.le_of_ble_eq_true rfl) (Nat.le_of_ble_eq_true rfl)
  · have h := zift h c7
    refine r_iconst (v := (-1 : Int32)) C (z_d dd_Codes_tell 69 rfl) (by decide) ?_
    obtain rfl := z_res h
    exact r_iretI C E hr (z_d dd_Codes_tell 70 rfl) (Nat.le_of_ble_eq_true rfl) (Nat.le_of_ble_eq_true rfl)
def f_Codes_tell_36 (O : zO) (n : Nat) (l0 : Nat) (l1 : Nat) (l2 : Int32) (l3 : Int32) (l4 : Int32) (s0 : Int32) (s1 : Int32) (M : zM) : Option (Int32 × zM) :=
  zlet (s0 + s1) fun v1 =>
  if v1 ≤ l3 then
  if l4 ≤ (127 : Int32) then
  if z_k M l0 = 2 then
  if z_k M (z_p M l0 3) = 11 then
  (F_Share_tell O n (z_p M l0 3) l1 (l2 + (1 : Int32)) v1 M).bind fun q5 =>
  if q5.1 = (-1 : Int32) then
  f_Codes_tell_113 O n q5.2
  else
  if z_k q5.2 l0 = 2 then
  if z_k q5.2 (z_p q5.2 l0 4) = 12 then
  (F_Stream_open O n (z_p q5.2 l0 4) l1 q5.1 v1 q5.2).bind fun q9 =>
  if q9.1 = 0 then
  f_Codes_tell_113 O n q9.2
  else
  if z_k q9.2 l0 = 2 then
  (F_Codes_takeCoded O n l0 q9.2).bind fun q12 =>
  if q12.1 = 0 then
  f_Codes_tell_113 O n q12.2
  else
  f_Codes_tell_115 O n l0 v1 q12.2
  else none
  else none
  else none
  else none
  else none
  else
  if z_k M l0 = 2 then
  (F_Codes_takePlain O n l0 l1 (l2 + (1 : Int32)) (l4 - (127 : Int32)) M).bind fun q18 =>
  f_Codes_tell_115 O n l0 v1 q18.2
  else none
  else
  some ((-1 : Int32), M)
set_option maxRecDepth 100000 in
set_option maxHeartbeats 4000000 in
theorem s_Codes_tell_36 {X : zX} {q : Int32 × zM} (C : zC X zR1 prog_2_method_3_code 7 { frames := 4, cells := 0, slots := 0, locals := 97 }) (hr : zRt X (some .int)) (E : zE X (some (zI q.1)) q.2 0 0) : ∀ (n : Nat) (l0 : Nat) (l1 : Nat) (l2 : Int32) (l3 : Int32) (l4 : Int32) (s0 : Int32) (s1 : Int32) (M : zM), f_Codes_tell_36 (zOD X) n l0 l1 l2 l3 l4 s0 s1 M = some q → zW X 0 0 36 [some (zP l0), some (zP l1), some (zI l2), some (zI l3), some (zI l4), none, none] [zI s1, zI s0] M := by
  intro n l0 l1 l2 l3 l4 s0 s1 M h
  rw [f_Codes_tell_36] at h
  refine r_iadd C (z_d dd_Codes_tell 22 rfl) ?_
  obtain ⟨v1, e2, h⟩ := zlet_ex h
  refine r_nmI e2 ?_
  refine r_istore (lv' := [some (zP l0), some (zP l1), some (zI l2), some (zI l3), some (zI l4), some (zI v1), none]) C (z_d dd_Codes_tell 23 rfl) (Nat.le_of_ble_eq_true rfl) rfl ?_
  refine r_iload C (z_d dd_Codes_tell 24 rfl) rfl ?_
  refine r_iload_n C (z_d dd_Codes_tell 25 rfl) rfl ?_
  refine r_icmp_le C 47 (z_d dd_Codes_tell 26 rfl) (by decide) (fun c21 => ?_) (fun c21 => ?_)
  · have h := zift h c21
    refine r_iload C (z_d dd_Codes_tell 29 rfl) rfl ?_
    refine r_bipush (v := (127 : Int32)) C (z_d dd_Codes_tell 30 rfl) (by decide) ?_
    refine r_icmp_le C 70 (z_d dd_Codes_tell 31 rfl) (by decide) (fun c20 => ?_) (fun c20 => ?_)
    · have h := zift h c20
      refine r_aload_n C (z_d dd_Codes_tell 42 rfl) rfl ?_
      obtain ⟨h3, h⟩ := zif h
      refine r_getP C (z_d dd_Codes_tell 43 rfl) lk_Codes_26 rfl h3 rfl ?_
      refine r_aload_n C (z_d dd_Codes_tell 44 rfl) rfl ?_
      refine r_iload_n C (z_d dd_Codes_tell 45 rfl) rfl ?_
      refine r_iconst (v := (1 : Int32)) C (z_d dd_Codes_tell 46 rfl) (by decide) ?_
      refine r_iadd C (z_d dd_Codes_tell 47 rfl) ?_
      refine r_iload C (z_d dd_Codes_tell 48 rfl) rfl ?_
      obtain ⟨h4, h⟩ := zif h
      obtain ⟨q5, c6, h⟩ := zbd h
      refine r_invV (as := [zP l1, zI (l2 + (1 : Int32)), zI v1]) C 10 (S_Share_tell c6) (z_d dd_Codes_tell 49 rfl) ok_Share_tell iv_Share_tell se_Share_tell ml_Codes_61 rfl rfl h4 rfl rfl rfl (Nat.le_of_ble_eq_true rfl) ⟨(Nat.le_of_ble_eq_true rfl), (Nat.le_of_ble_eq_true rfl)⟩ ⟨(Nat.le_of_ble_eq_true rfl), (Nat.le_of_ble_eq_true rfl)⟩ ?_
      refine r_istore (lv' := [some (zP l0), some (zP l1), some (zI l2), some (zI l3), some (zI l4), some (zI v1), some (zI q5.1)]) C (z_d dd_Codes_tell 50 rfl) (Nat.le_of_ble_eq_true rfl) rfl ?_
      refine r_iload C (z_d dd_Codes_tell 51 rfl) rfl ?_
      refine r_iconst (v := (-1 : Int32)) C (z_d dd_Codes_tell 52 rfl) (by decide) ?_
      refine r_icmp_eq C 113 (z_d dd_Codes_tell 53 rfl) (by decide) (fun c16 => ?_) (fun c16 => ?_)
      · have h := zift h c16
        refine r_mk [false, false, false, false, false, false, false] ?_
        exact s_Codes_tell_113 C hr E n q5.2 h
      · have h := ziff h c16
        refine r_aload_n C (z_d dd_Codes_tell 54 rfl) rfl ?_
        obtain ⟨h7, h⟩ := zif h
        refine r_getP C (z_d dd_Codes_tell 55 rfl) lk_Codes_33 rfl h7 rfl ?_
        refine r_aload_n C (z_d dd_Codes_tell 56 rfl) rfl ?_
        refine r_iload C (z_d dd_Codes_tell 57 rfl) rfl ?_
        refine r_iload C (z_d dd_Codes_tell 58 rfl) rfl ?_
        obtain ⟨h8, h⟩ := zif h
        obtain ⟨q9, c10, h⟩ := zbd h
        refine r_invV (as := [zP l1, zI q5.1, zI v1]) C 11 (S_Stream_open c10) (z_d dd_Codes_tell 59 rfl) ok_Stream_open iv_Stream_open se_Stream_open ml_Codes_65 rfl rfl h8 rfl rfl rfl (Nat.le_of_ble_eq_true rfl) ⟨(Nat.le_of_ble_eq_true rfl), (Nat.le_of_ble_eq_true rfl)⟩ ⟨(Nat.le_of_ble_eq_true rfl), (Nat.le_of_ble_eq_true rfl)⟩ ?_
        refine r_if_eq C 113 (z_d dd_Codes_tell 60 rfl) (by decide) (fun c15 => ?_) (fun c15 => ?_)
        · have h := zift h c15
          refine r_mk [false, false, false, false, false, false, false] ?_
          exact s_Codes_tell_113 C hr E n q9.2 h
        · have h := ziff h c15
          refine r_aload_n C (z_d dd_Codes_tell 61 rfl) rfl ?_
          obtain ⟨h11, h⟩ := zif h
          obtain ⟨q12, c13, h⟩ := zbd h
          refine r_invV (as := []) C 1 (S_Codes_takeCoded c13) (z_d dd_Codes_tell 62 rfl) ok_Codes_takeCoded iv_Codes_takeCoded se_Codes_takeCoded ml_Codes_69 rfl rfl h11 rfl rfl rfl (Nat.le_of_ble_eq_true rfl) ⟨(Nat.le_of_ble_eq_true rfl), (Nat.le_of_ble_eq_true rfl)⟩ ⟨(Nat.le_of_ble_eq_true rfl), (Nat.le_of_ble_eq_true rfl)⟩ ?_
          refine r_if_ne C 115 (z_d dd_Codes_tell 63 rfl) (by decide) (fun c14 => ?_) (fun c14 => ?_)
          · have h := ziff h c14
            refine r_mk [true, false, false, false, false, true, false] ?_
            exact s_Codes_tell_115 C hr E n l0 v1 q12.2 h
          · have h := zift h c14
            refine r_mk [false, false, false, false, false, false, false] ?_
            exact s_Codes_tell_113 C hr E n q12.2 h
    · have h := ziff h c20
      refine r_aload_n C (z_d dd_Codes_tell 32 rfl) rfl ?_
      refine r_aload_n C (z_d dd_Codes_tell 33 rfl) rfl ?_
      refine r_iload_n C (z_d dd_Codes_tell 34 rfl) rfl ?_
      refine r_iconst (v := (1 : Int32)) C (z_d dd_Codes_tell 35 rfl) (by decide) ?_
      refine r_iadd C (z_d dd_Codes_tell 36 rfl) ?_
      refine r_iload C (z_d dd_Codes_tell 37 rfl) rfl ?_
      refine r_bipush (v := (127 : Int32)) C (z_d dd_Codes_tell 38 rfl) (by decide) ?_
      refine r_isub C (z_d dd_Codes_tell 39 rfl) ?_
      obtain ⟨h17, h⟩ := zif h
      obtain ⟨q18, c19, h⟩ := zbd h
      refine r_invV (as := [zP l1, zI (l2 + (1 : Int32)), zI (l4 - (127 : Int32))]) C 1 (S_Codes_takePlain c19) (z_d dd_Codes_tell 40 rfl) ok_Codes_takePlain iv_Codes_takePlain se_Codes_takePlain ml_Codes_57 rfl rfl h17 rfl rfl rfl (Nat.le_of_ble_eq_true rfl) ⟨(Nat.le_of_ble_eq_true rfl), (Nat.le_of_ble_eq_true rfl)⟩ ⟨(Nat.le_of_ble_eq_true rfl), (Nat.le_of_ble_eq_true rfl)⟩ ?_
      refine r_goto C 115 (z_d dd_Codes_tell 41 rfl) (by decide) ?_
      refine r_mk [true, false, false, false, false, true, false] ?_
      exact s_Codes_tell_115 C hr E n l0 v1 q18.2 h
  · have h := ziff h c21
    refine r_iconst (v := (-1 : Int32)) C (z_d dd_Codes_tell 27 rfl) (by decide) ?_
    obtain rfl := z_res h
    exact r_iretI C E hr (z_d dd_Codes_tell 28 rfl) (Nat.le_of_ble_eq_true rfl) (Nat.le_of_ble_eq_true rfl)
def f_Codes_tell_0 (O : zO) (n : Nat) (l0 : Nat) (l1 : Nat) (l2 : Int32) (l3 : Int32) (M : zM) : Option (Int32 × zM) :=
  if l2 < l3 then
  if z_k M l1 = 9 then
  (F_Row_at O n l1 l2 M).bind fun q2 =>
  if q2.1 ≤ (127 : Int32) then
  f_Codes_tell_36 O n l0 l1 l2 l3 q2.1 (l2 + (1 : Int32)) q2.1 q2.2
  else
  f_Codes_tell_36 O n l0 l1 l2 l3 q2.1 (l2 + (1 : Int32)) ((q2.1 - (126 : Int32)) / (2 : Int32)) q2.2
  else none
  else
  some ((-1 : Int32), M)
set_option maxRecDepth 100000 in
set_option maxHeartbeats 4000000 in
theorem s_Codes_tell_0 {X : zX} {q : Int32 × zM} (C : zC X zR1 prog_2_method_3_code 7 { frames := 4, cells := 0, slots := 0, locals := 97 }) (hr : zRt X (some .int)) (E : zE X (some (zI q.1)) q.2 0 0) : ∀ (n : Nat) (l0 : Nat) (l1 : Nat) (l2 : Int32) (l3 : Int32) (M : zM), f_Codes_tell_0 (zOD X) n l0 l1 l2 l3 M = some q → zW X 0 0 0 [some (zP l0), some (zP l1), some (zI l2), some (zI l3), none, none, none] [] M := by
  intro n l0 l1 l2 l3 M h
  rw [f_Codes_tell_0] at h
  refine r_iload_n C (z_d dd_Codes_tell 0 rfl) rfl ?_
  refine r_iload_n C (z_d dd_Codes_tell 1 rfl) rfl ?_
  refine r_icmp_lt C 7 (z_d dd_Codes_tell 2 rfl) (by decide) (fun c5 => ?_) (fun c5 => ?_)
  · have h := zift h c5
    refine r_aload_n C (z_d dd_Codes_tell 5 rfl) rfl ?_
    refine r_iload_n C (z_d dd_Codes_tell 6 rfl) rfl ?_
    obtain ⟨h1, h⟩ := zif h
    obtain ⟨q2, c3, h⟩ := zbd h
    refine r_invV (as := [zI l2]) C 8 (S_Row_at c3) (z_d dd_Codes_tell 7 rfl) ok_Row_at iv_Row_at se_Row_at ml_Codes_51 rfl rfl h1 rfl rfl rfl (Nat.le_of_ble_eq_true rfl) ⟨(Nat.le_of_ble_eq_true rfl), (Nat.le_of_ble_eq_true rfl)⟩ ⟨(Nat.le_of_ble_eq_true rfl), (Nat.le_of_ble_eq_true rfl)⟩ ?_
    refine r_istore (lv' := [some (zP l0), some (zP l1), some (zI l2), some (zI l3), some (zI q2.1), none, none]) C (z_d dd_Codes_tell 8 rfl) (Nat.le_of_ble_eq_true rfl) rfl ?_
    refine r_iload_n C (z_d dd_Codes_tell 9 rfl) rfl ?_
    refine r_iconst (v := (1 : Int32)) C (z_d dd_Codes_tell 10 rfl) (by decide) ?_
    refine r_iadd C (z_d dd_Codes_tell 11 rfl) ?_
    refine r_iload C (z_d dd_Codes_tell 12 rfl) rfl ?_
    refine r_bipush (v := (127 : Int32)) C (z_d dd_Codes_tell 13 rfl) (by decide) ?_
    refine r_icmp_le C 34 (z_d dd_Codes_tell 14 rfl) (by decide) (fun c4 => ?_) (fun c4 => ?_)
    · have h := zift h c4
      refine r_iload C (z_d dd_Codes_tell 21 rfl) rfl ?_
      exact s_Codes_tell_36 C hr E n l0 l1 l2 l3 q2.1 (l2 + (1 : Int32)) q2.1 q2.2 h
    · have h := ziff h c4
      refine r_iload C (z_d dd_Codes_tell 15 rfl) rfl ?_
      refine r_bipush (v := (126 : Int32)) C (z_d dd_Codes_tell 16 rfl) (by decide) ?_
      refine r_isub C (z_d dd_Codes_tell 17 rfl) ?_
      refine r_iconst (v := (2 : Int32)) C (z_d dd_Codes_tell 18 rfl) (by decide) ?_
      refine r_idiv C (z_d dd_Codes_tell 19 rfl) (by decide) ?_
      refine r_goto C 36 (z_d dd_Codes_tell 20 rfl) (by decide) ?_
      exact s_Codes_tell_36 C hr E n l0 l1 l2 l3 q2.1 (l2 + (1 : Int32)) ((q2.1 - (126 : Int32)) / (2 : Int32)) q2.2 h
  · have h := ziff h c5
    refine r_iconst (v := (-1 : Int32)) C (z_d dd_Codes_tell 3 rfl) (by decide) ?_
    obtain rfl := z_res h
    exact r_iretI C E hr (z_d dd_Codes_tell 4 rfl) (Nat.le_of_ble_eq_true rfl) (Nat.le_of_ble_eq_true rfl)
def F_Codes_tell (O : zO) (n : Nat) (l0 : Nat) (l1 : Nat) (l2 : Int32) (l3 : Int32) (M : zM) : Option (Int32 × zM) := f_Codes_tell_0 O n l0 l1 l2 l3 M
theorem S_Codes_tell {l : Launch} {D : zD} {n : Nat} {l0 : Nat} {l1 : Nat} {l2 : Int32} {l3 : Int32} {M : zM} {q : Int32 × zM} (h : F_Codes_tell D.2.2.2.2 n l0 l1 l2 l3 M = some q) : zMet l D mi_Codes_tell [zP l0, zP l1, zI l2, zI l3] M (some (zI q.1)) q.2 :=
  z_met (by decide) (Nat.le_of_ble_eq_true rfl) (fun X C E hr hin hD hl => by
    subst hD
    exact s_Codes_tell_0 C hr E n l0 l1 l2 l3 M h)

def f_Dict_tellShare_0 (O : zO) (n : Nat) (l0 : Nat) (l1 : Int32) (l2 : Nat) (l3 : Int32) (M : zM) : Option (Int32 × zM) :=
  if z_k M l0 = 4 then
  if z_k M (z_p M l0 7) = 104 then
  if zin l1 (z_n M (z_p M l0 7)) = true then
  if z_k M l2 = 9 then
  if z_k M (z_p M (z_p M l0 7) l1.toNatClampNeg) = 11 then
  (F_Share_tell O n (z_p M (z_p M l0 7) l1.toNatClampNeg) l2 l3 (z_i M l2 1) M).bind fun q6 =>
  some (q6.1, q6.2)
  else none
  else none
  else none
  else none
  else none
set_option maxRecDepth 100000 in
set_option maxHeartbeats 4000000 in
theorem s_Dict_tellShare_0 {X : zX} {q : Int32 × zM} (C : zC X zR3 prog_4_method_6_code 4 { frames := 4, cells := 0, slots := 0, locals := 97 }) (hr : zRt X (some .int)) (E : zE X (some (zI q.1)) q.2 0 0) : ∀ (n : Nat) (l0 : Nat) (l1 : Int32) (l2 : Nat) (l3 : Int32) (M : zM), f_Dict_tellShare_0 (zOD X) n l0 l1 l2 l3 M = some q → zW X 0 0 0 [some (zP l0), some (zI l1), some (zP l2), some (zI l3)] [] M := by
  intro n l0 l1 l2 l3 M h
  rw [f_Dict_tellShare_0] at h
  refine r_aload_n C (z_d dd_Dict_tellShare 0 rfl) rfl ?_
  obtain ⟨h1, h⟩ := zif h
  refine r_getP C (z_d dd_Dict_tellShare 1 rfl) lk_Dict_51 rfl h1 rfl ?_
  refine r_iload_n C (z_d dd_Dict_tellShare 2 rfl) rfl ?_
  obtain ⟨h2, h⟩ := zif h
  obtain ⟨h3, h⟩ := zif h
  refine r_aald C (z_d dd_Dict_tellShare 3 rfl) h2 h3 rfl ?_
  refine r_aload_n C (z_d dd_Dict_tellShare 4 rfl) rfl ?_
  refine r_iload_n C (z_d dd_Dict_tellShare 5 rfl) rfl ?_
  refine r_aload_n C (z_d dd_Dict_tellShare 6 rfl) rfl ?_
  obtain ⟨h4, h⟩ := zif h
  refine r_getI C (z_d dd_Dict_tellShare 7 rfl) lk_Dict_67 rfl h4 rfl ?_
  obtain ⟨h5, h⟩ := zif h
  obtain ⟨q6, c7, h⟩ := zbd h
  refine r_invV (as := [zP l2, zI l3, zI (z_i M l2 1)]) C 10 (S_Share_tell c7) (z_d dd_Dict_tellShare 8 rfl) ok_Share_tell iv_Share_tell se_Share_tell ml_Dict_104 rfl rfl h5 rfl rfl rfl (Nat.le_of_ble_eq_true rfl) ⟨(Nat.le_of_ble_eq_true rfl), (Nat.le_of_ble_eq_true rfl)⟩ ⟨(Nat.le_of_ble_eq_true rfl), (Nat.le_of_ble_eq_true rfl)⟩ ?_
  obtain rfl := z_res h
  exact r_iretI C E hr (z_d dd_Dict_tellShare 9 rfl) (Nat.le_of_ble_eq_true rfl) (Nat.le_of_ble_eq_true rfl)
def F_Dict_tellShare (O : zO) (n : Nat) (l0 : Nat) (l1 : Int32) (l2 : Nat) (l3 : Int32) (M : zM) : Option (Int32 × zM) := f_Dict_tellShare_0 O n l0 l1 l2 l3 M
theorem S_Dict_tellShare {l : Launch} {D : zD} {n : Nat} {l0 : Nat} {l1 : Int32} {l2 : Nat} {l3 : Int32} {M : zM} {q : Int32 × zM} (h : F_Dict_tellShare D.2.2.2.2 n l0 l1 l2 l3 M = some q) : zMet l D mi_Dict_tellShare [zP l0, zI l1, zP l2, zI l3] M (some (zI q.1)) q.2 :=
  z_met (by decide) (Nat.le_of_ble_eq_true rfl) (fun X C E hr hin hD hl => by
    subst hD
    exact s_Dict_tellShare_0 C hr E n l0 l1 l2 l3 M h)

def f_Latest_set_0 (O : zO) (n : Nat) (l0 : Nat) (l1 : Int64) (l3 : Int64) (l5 : Int64) (M : zM) : Option (Unit × zM) :=
  if z_k M l0 = 6 then
  zlet (w_j M l0 0 l1) fun M2 =>
  zlet (w_j M2 l0 1 l3) fun M5 =>
  zlet (w_j M5 l0 2 l5) fun M8 =>
  some ((), M8)
  else none
set_option maxRecDepth 100000 in
set_option maxHeartbeats 4000000 in
theorem s_Latest_set_0 {X : zX} {q : Unit × zM} (C : zC X zR5 prog_6_method_2_code 7 { frames := 0, cells := 0, slots := 0, locals := 0 }) (hr : zRt X none) (E : zE X none q.2 0 0) : ∀ (n : Nat) (l0 : Nat) (l1 : Int64) (l3 : Int64) (l5 : Int64) (M : zM), f_Latest_set_0 (zOD X) n l0 l1 l3 l5 M = some q → zW X 0 0 0 [some (zP l0), some (zL l1), none, some (zL l3), none, some (zL l5), none] [] M := by
  intro n l0 l1 l3 l5 M h
  rw [f_Latest_set_0] at h
  refine r_aload_n C (z_d dd_Latest_set 0 rfl) rfl ?_
  refine r_lload_n C (z_d dd_Latest_set 1 rfl) rfl ?_
  obtain ⟨h1, h⟩ := zif h
  obtain ⟨M2, e3, h⟩ := zlet_ex h
  have h4 := k_j e3 h1
  refine r_putL C (z_d dd_Latest_set 2 rfl) lp_Latest_7 rfl h1 e3 ?_
  refine r_aload_n C (z_d dd_Latest_set 3 rfl) rfl ?_
  refine r_lload_n C (z_d dd_Latest_set 4 rfl) rfl ?_
  obtain ⟨M5, e6, h⟩ := zlet_ex h
  have h7 := k_j e6 h4
  refine r_putL C (z_d dd_Latest_set 5 rfl) lp_Latest_15 rfl h4 e6 ?_
  refine r_aload_n C (z_d dd_Latest_set 6 rfl) rfl ?_
  refine r_lload C (z_d dd_Latest_set 7 rfl) rfl ?_
  obtain ⟨M8, e9, h⟩ := zlet_ex h
  have h10 := k_j e9 h7
  refine r_putL C (z_d dd_Latest_set 8 rfl) lp_Latest_20 rfl h7 e9 ?_
  obtain rfl := z_res h
  exact r_vret C E hr (z_d dd_Latest_set 9 rfl) (Nat.le_of_ble_eq_true rfl) (Nat.le_of_ble_eq_true rfl)
def F_Latest_set (O : zO) (n : Nat) (l0 : Nat) (l1 : Int64) (l3 : Int64) (l5 : Int64) (M : zM) : Option (Unit × zM) := f_Latest_set_0 O n l0 l1 l3 l5 M
theorem S_Latest_set {l : Launch} {D : zD} {n : Nat} {l0 : Nat} {l1 : Int64} {l3 : Int64} {l5 : Int64} {M : zM} {q : Unit × zM} (h : F_Latest_set D.2.2.2.2 n l0 l1 l3 l5 M = some q) : zMet l D mi_Latest_set [zP l0, zL l1, zL l3, zL l5] M none q.2 :=
  z_met (by decide) (Nat.le_of_ble_eq_true rfl) (fun X C E hr hin hD hl => by
    subst hD
    exact s_Latest_set_0 C hr E n l0 l1 l3 l5 M h)

def f_Dict_swapSpare_0 (O : zO) (n : Nat) (l0 : Nat) (M : zM) : Option (Unit × zM) :=
  if z_k M l0 = 4 then
  zlet (z_p M l0 4) fun v2 =>
  zlet (w_p M l0 4 (z_p M l0 6)) fun M4 =>
  zlet (w_p M4 l0 6 v2) fun M7 =>
  zlet (z_p M7 l0 5) fun v10 =>
  zlet (w_p M7 l0 5 (z_p M7 l0 7)) fun M12 =>
  zlet (w_p M12 l0 7 v10) fun M15 =>
  some ((), M15)
  else none
set_option maxRecDepth 100000 in
set_option maxHeartbeats 4000000 in
theorem s_Dict_swapSpare_0 {X : zX} {q : Unit × zM} (C : zC X zR3 prog_4_method_7_code 3 { frames := 0, cells := 0, slots := 0, locals := 0 }) (hr : zRt X none) (E : zE X none q.2 0 0) : ∀ (n : Nat) (l0 : Nat) (M : zM), f_Dict_swapSpare_0 (zOD X) n l0 M = some q → zW X 0 0 0 [some (zP l0), none, none] [] M := by
  intro n l0 M h
  rw [f_Dict_swapSpare_0] at h
  refine r_aload_n C (z_d dd_Dict_swapSpare 0 rfl) rfl ?_
  obtain ⟨h1, h⟩ := zif h
  refine r_getP C (z_d dd_Dict_swapSpare 1 rfl) lk_Dict_38 rfl h1 rfl ?_
  obtain ⟨v2, e3, h⟩ := zlet_ex h
  refine r_nmP e3 ?_
  refine r_astore_n (lv' := [some (zP l0), some (zP v2), none]) C (z_d dd_Dict_swapSpare 2 rfl) (Nat.le_of_ble_eq_true rfl) rfl ?_
  refine r_aload_n C (z_d dd_Dict_swapSpare 3 rfl) rfl ?_
  refine r_aload_n C (z_d dd_Dict_swapSpare 4 rfl) rfl ?_
  refine r_getP C (z_d dd_Dict_swapSpare 5 rfl) lk_Dict_42 rfl h1 rfl ?_
  obtain ⟨M4, e5, h⟩ := zlet_ex h
  have h6 := k_p e5 h1
  refine r_putP C (z_d dd_Dict_swapSpare 6 rfl) lp_Dict_38 rfl h1 e5 ?_
  refine r_aload_n C (z_d dd_Dict_swapSpare 7 rfl) rfl ?_
  refine r_aload_n C (z_d dd_Dict_swapSpare 8 rfl) rfl ?_
  obtain ⟨M7, e8, h⟩ := zlet_ex h
  have h9 := k_p e8 h6
  refine r_putP C (z_d dd_Dict_swapSpare 9 rfl) lp_Dict_42 rfl h6 e8 ?_
  refine r_aload_n C (z_d dd_Dict_swapSpare 10 rfl) rfl ?_
  refine r_getP C (z_d dd_Dict_swapSpare 11 rfl) lk_Dict_47 rfl h9 rfl ?_
  obtain ⟨v10, e11, h⟩ := zlet_ex h
  refine r_nmP e11 ?_
  refine r_astore_n (lv' := [some (zP l0), some (zP v2), some (zP v10)]) C (z_d dd_Dict_swapSpare 12 rfl) (Nat.le_of_ble_eq_true rfl) rfl ?_
  refine r_aload_n C (z_d dd_Dict_swapSpare 13 rfl) rfl ?_
  refine r_aload_n C (z_d dd_Dict_swapSpare 14 rfl) rfl ?_
  refine r_getP C (z_d dd_Dict_swapSpare 15 rfl) lk_Dict_51 rfl h9 rfl ?_
  obtain ⟨M12, e13, h⟩ := zlet_ex h
  have h14 := k_p e13 h9
  refine r_putP C (z_d dd_Dict_swapSpare 16 rfl) lp_Dict_47 rfl h9 e13 ?_
  refine r_aload_n C (z_d dd_Dict_swapSpare 17 rfl) rfl ?_
  refine r_aload_n C (z_d dd_Dict_swapSpare 18 rfl) rfl ?_
  obtain ⟨M15, e16, h⟩ := zlet_ex h
  have h17 := k_p e16 h14
  refine r_putP C (z_d dd_Dict_swapSpare 19 rfl) lp_Dict_51 rfl h14 e16 ?_
  obtain rfl := z_res h
  exact r_vret C E hr (z_d dd_Dict_swapSpare 20 rfl) (Nat.le_of_ble_eq_true rfl) (Nat.le_of_ble_eq_true rfl)
def F_Dict_swapSpare (O : zO) (n : Nat) (l0 : Nat) (M : zM) : Option (Unit × zM) := f_Dict_swapSpare_0 O n l0 M
theorem S_Dict_swapSpare {l : Launch} {D : zD} {n : Nat} {l0 : Nat} {M : zM} {q : Unit × zM} (h : F_Dict_swapSpare D.2.2.2.2 n l0 M = some q) : zMet l D mi_Dict_swapSpare [zP l0] M none q.2 :=
  z_met (by decide) (Nat.le_of_ble_eq_true rfl) (fun X C E hr hin hD hl => by
    subst hD
    exact s_Dict_swapSpare_0 C hr E n l0 M h)

def f_Row_putPart_65 (O : zO) (n : Nat) (M : zM) : Option (Unit × zM) :=
  some ((), M)
set_option maxRecDepth 100000 in
set_option maxHeartbeats 4000000 in
theorem s_Row_putPart_65 {X : zX} {q : Unit × zM} (C : zC X zR8 prog_9_method_9_code 5 { frames := 1, cells := 0, slots := 0, locals := 60 }) (hr : zRt X none) (E : zE X none q.2 0 0) : ∀ (n : Nat) (M : zM), f_Row_putPart_65 (zOD X) n M = some q → zW X 0 0 65 [none, none, none, none, none] [] M := by
  intro n M h
  rw [f_Row_putPart_65] at h
  obtain rfl := z_res h
  exact r_vret C E hr (z_d dd_Row_putPart 34 rfl) (Nat.le_of_ble_eq_true rfl) (Nat.le_of_ble_eq_true rfl)
def f_Row_putPart_0 (O : zO) (n : Nat) (l0 : Nat) (l1 : Nat) (l2 : Int32) (l3 : Int32) (M : zM) : Option (Unit × zM) :=
  if z_k M l0 = 9 then
  if z_k M (z_p M l0 0) = 101 then
  (F_JMath_min O n l3 ((Int32.ofNat (z_n M (z_p M l0 0))) - (z_i M l0 1)) M).bind fun q3 =>
  if q3.1 ≤ 0 then
  f_Row_putPart_65 O n q3.2
  else
  if l2 < 0 then
  f_Row_putPart_65 O n q3.2
  else
  if z_k q3.2 l1 = 9 then
  if ((z_i q3.2 l1 1) - q3.1) < l2 then
  f_Row_putPart_65 O n q3.2
  else
  if z_k q3.2 l0 = 9 then
  if z_k q3.2 (z_p q3.2 l1 0) = 101 then
  if z_k q3.2 (z_p q3.2 l0 0) = 101 then
  if zcok l2 q3.1 (z_n q3.2 (z_p q3.2 l1 0)) = true then
  if zcok (z_i q3.2 l0 1) q3.1 (z_n q3.2 (z_p q3.2 l0 0)) = true then
  zlet (w_c q3.2 (z_p q3.2 l0 0) (z_i q3.2 l0 1).toNatClampNeg q3.1.toNatClampNeg (fun j => z_i q3.2 (z_p q3.2 l1 0) (l2.toNatClampNeg + j))) fun M11 =>
  if z_k M11 l0 = 9 then
  zlet (w_i M11 l0 1 ((z_i M11 l0 1) + q3.1)) fun M14 =>
  f_Row_putPart_65 O n M14
  else none
  else none
  else none
  else none
  else none
  else none
  else none
  else none
  else none
set_option maxRecDepth 100000 in
set_option maxHeartbeats 4000000 in
theorem s_Row_putPart_0 {X : zX} {q : Unit × zM} (C : zC X zR8 prog_9_method_9_code 5 { frames := 1, cells := 0, slots := 0, locals := 60 }) (hr : zRt X none) (E : zE X none q.2 0 0) : ∀ (n : Nat) (l0 : Nat) (l1 : Nat) (l2 : Int32) (l3 : Int32) (M : zM), f_Row_putPart_0 (zOD X) n l0 l1 l2 l3 M = some q → zW X 0 0 0 [some (zP l0), some (zP l1), some (zI l2), some (zI l3), none] [] M := by
  intro n l0 l1 l2 l3 M h
  rw [f_Row_putPart_0] at h
  refine r_iload_n C (z_d dd_Row_putPart 0 rfl) rfl ?_
  refine r_aload_n C (z_d dd_Row_putPart 1 rfl) rfl ?_
  obtain ⟨h1, h⟩ := zif h
  refine r_getP C (z_d dd_Row_putPart 2 rfl) lk_Row_7 rfl h1 rfl ?_
  obtain ⟨h2, h⟩ := zif h
  refine r_alen C 1 (z_d dd_Row_putPart 3 rfl) h2 (Nat.le_of_ble_eq_true rfl) rfl ?_
  refine r_aload_n C (z_d dd_Row_putPart 4 rfl) rfl ?_
  refine r_getI C (z_d dd_Row_putPart 5 rfl) lk_Row_13 rfl h1 rfl ?_
  refine r_isub C (z_d dd_Row_putPart 6 rfl) ?_
  obtain ⟨q3, c4, h⟩ := zbd h
  refine r_invS (as := [zI l3, zI ((Int32.ofNat (z_n M (z_p M l0 0))) - (z_i M l0 1))]) C (S_JMath_min c4) (z_d dd_Row_putPart 7 rfl) ok_JMath_min sv_JMath_min ml_Row_17 rfl rfl rfl (Nat.le_of_ble_eq_true rfl) ⟨(Nat.le_of_ble_eq_true rfl), (Nat.le_of_ble_eq_true rfl)⟩ ⟨(Nat.le_of_ble_eq_true rfl), (Nat.le_of_ble_eq_true rfl)⟩ ?_
  refine r_istore (lv' := [some (zP l0), some (zP l1), some (zI l2), some (zI l3), some (zI q3.1)]) C (z_d dd_Row_putPart 8 rfl) (Nat.le_of_ble_eq_true rfl) rfl ?_
  refine r_iload C (z_d dd_Row_putPart 9 rfl) rfl ?_
  refine r_if_le C 65 (z_d dd_Row_putPart 10 rfl) (by decide) (fun c19 => ?_) (fun c19 => ?_)
  · have h := zift h c19
    refine r_mk [false, false, false, false, false] ?_
    exact s_Row_putPart_65 C hr E n q3.2 h
  · have h := ziff h c19
    refine r_iload_n C (z_d dd_Row_putPart 11 rfl) rfl ?_
    refine r_if_lt C 65 (z_d dd_Row_putPart 12 rfl) (by decide) (fun c18 => ?_) (fun c18 => ?_)
    · have h := zift h c18
      refine r_mk [false, false, false, false, false] ?_
      exact s_Row_putPart_65 C hr E n q3.2 h
    · have h := ziff h c18
      refine r_iload_n C (z_d dd_Row_putPart 13 rfl) rfl ?_
      refine r_aload_n C (z_d dd_Row_putPart 14 rfl) rfl ?_
      obtain ⟨h5, h⟩ := zif h
      refine r_getI C (z_d dd_Row_putPart 15 rfl) lk_Row_13 rfl h5 rfl ?_
      refine r_iload C (z_d dd_Row_putPart 16 rfl) rfl ?_
      refine r_isub C (z_d dd_Row_putPart 17 rfl) ?_
      refine r_icmp_gt C 65 (z_d dd_Row_putPart 18 rfl) (by decide) (fun c17 => ?_) (fun c17 => ?_)
      · have h := zift h c17
        refine r_mk [false, false, false, false, false] ?_
        exact s_Row_putPart_65 C hr E n q3.2 h
      · have h := ziff h c17
        refine r_aload_n C (z_d dd_Row_putPart 19 rfl) rfl ?_
        refine r_getP C (z_d dd_Row_putPart 20 rfl) lk_Row_7 rfl h5 rfl ?_
        refine r_iload_n C (z_d dd_Row_putPart 21 rfl) rfl ?_
        refine r_aload_n C (z_d dd_Row_putPart 22 rfl) rfl ?_
        obtain ⟨h6, h⟩ := zif h
        refine r_getP C (z_d dd_Row_putPart 23 rfl) lk_Row_7 rfl h6 rfl ?_
        refine r_aload_n C (z_d dd_Row_putPart 24 rfl) rfl ?_
        refine r_getI C (z_d dd_Row_putPart 25 rfl) lk_Row_13 rfl h6 rfl ?_
        refine r_iload C (z_d dd_Row_putPart 26 rfl) rfl ?_
        obtain ⟨h7, h⟩ := zif h
        obtain ⟨h8, h⟩ := zif h
        obtain ⟨h9, h⟩ := zif h
        obtain ⟨h10, h⟩ := zif h
        obtain ⟨M11, e12, h⟩ := zlet_ex h
        refine r_copyB C (z_d dd_Row_putPart 27 rfl) ml_Row_29 ac_n ac_s ac_i h7 h8 h9 h10 rfl (Nat.le_of_ble_eq_true rfl) ⟨(Nat.le_of_ble_eq_true rfl), (Nat.le_of_ble_eq_true rfl)⟩ e12 ?_
        refine r_aload_n C (z_d dd_Row_putPart 28 rfl) rfl ?_
        refine r_dupP C (z_d dd_Row_putPart 29 rfl) ?_
        obtain ⟨h13, h⟩ := zif h
        refine r_getI C (z_d dd_Row_putPart 30 rfl) lk_Row_13 rfl h13 rfl ?_
        refine r_iload C (z_d dd_Row_putPart 31 rfl) rfl ?_
        refine r_iadd C (z_d dd_Row_putPart 32 rfl) ?_
        obtain ⟨M14, e15, h⟩ := zlet_ex h
        have h16 := k_i e15 h13
        refine r_putI C (z_d dd_Row_putPart 33 rfl) lp_Row_13 rfl h13 e15 ?_
        refine r_mk [false, false, false, false, false] ?_
        exact s_Row_putPart_65 C hr E n M14 h
def F_Row_putPart (O : zO) (n : Nat) (l0 : Nat) (l1 : Nat) (l2 : Int32) (l3 : Int32) (M : zM) : Option (Unit × zM) := f_Row_putPart_0 O n l0 l1 l2 l3 M
theorem S_Row_putPart {l : Launch} {D : zD} {n : Nat} {l0 : Nat} {l1 : Nat} {l2 : Int32} {l3 : Int32} {M : zM} {q : Unit × zM} (h : F_Row_putPart D.2.2.2.2 n l0 l1 l2 l3 M = some q) : zMet l D mi_Row_putPart [zP l0, zP l1, zI l2, zI l3] M none q.2 :=
  z_met (by decide) (Nat.le_of_ble_eq_true rfl) (fun X C E hr hin hD hl => by
    subst hD
    exact s_Row_putPart_0 C hr E n l0 l1 l2 l3 M h)

def f_Dict_takeContent_0 (O : zO) (n : Nat) (l0 : Nat) (l1 : Nat) (l2 : Int32) (M : zM) : Option (Int32 × zM) :=
  if z_k M l0 = 4 then
  if z_k M (z_p M l0 0) = 9 then
  (F_Row_empty O n (z_p M l0 0) M).bind fun q3 =>
  if z_k q3.2 l0 = 4 then
  if z_k q3.2 l1 = 9 then
  if z_k q3.2 (z_p q3.2 l0 0) = 9 then
  (F_Row_putPart O n (z_p q3.2 l0 0) l1 l2 ((z_i q3.2 l1 1) - l2) q3.2).bind fun q8 =>
  if z_k q8.2 l0 = 4 then
  if z_k q8.2 (z_p q8.2 l0 0) = 9 then
  some ((z_i q8.2 (z_p q8.2 l0 0) 1), q8.2)
  else none
  else none
  else none
  else none
  else none
  else none
  else none
set_option maxRecDepth 100000 in
set_option maxHeartbeats 4000000 in
theorem s_Dict_takeContent_0 {X : zX} {q : Int32 × zM} (C : zC X zR3 prog_4_method_4_code 3 { frames := 2, cells := 0, slots := 0, locals := 84 }) (hr : zRt X (some .int)) (E : zE X (some (zI q.1)) q.2 0 0) : ∀ (n : Nat) (l0 : Nat) (l1 : Nat) (l2 : Int32) (M : zM), f_Dict_takeContent_0 (zOD X) n l0 l1 l2 M = some q → zW X 0 0 0 [some (zP l0), some (zP l1), some (zI l2)] [] M := by
  intro n l0 l1 l2 M h
  rw [f_Dict_takeContent_0] at h
  refine r_aload_n C (z_d dd_Dict_takeContent 0 rfl) rfl ?_
  obtain ⟨h1, h⟩ := zif h
  refine r_getP C (z_d dd_Dict_takeContent 1 rfl) lk_Dict_14 rfl h1 rfl ?_
  obtain ⟨h2, h⟩ := zif h
  obtain ⟨q3, c4, h⟩ := zbd h
  refine r_invV (as := []) C 8 (S_Row_empty c4) (z_d dd_Dict_takeContent 2 rfl) ok_Row_empty iv_Row_empty se_Row_empty ml_Dict_64 rfl rfl h2 rfl rfl rfl (Nat.le_of_ble_eq_true rfl) ⟨(Nat.le_of_ble_eq_true rfl), (Nat.le_of_ble_eq_true rfl)⟩ ⟨(Nat.le_of_ble_eq_true rfl), (Nat.le_of_ble_eq_true rfl)⟩ ?_
  refine r_aload_n C (z_d dd_Dict_takeContent 3 rfl) rfl ?_
  obtain ⟨h5, h⟩ := zif h
  refine r_getP C (z_d dd_Dict_takeContent 4 rfl) lk_Dict_14 rfl h5 rfl ?_
  refine r_aload_n C (z_d dd_Dict_takeContent 5 rfl) rfl ?_
  refine r_iload_n C (z_d dd_Dict_takeContent 6 rfl) rfl ?_
  refine r_aload_n C (z_d dd_Dict_takeContent 7 rfl) rfl ?_
  obtain ⟨h6, h⟩ := zif h
  refine r_getI C (z_d dd_Dict_takeContent 8 rfl) lk_Dict_67 rfl h6 rfl ?_
  refine r_iload_n C (z_d dd_Dict_takeContent 9 rfl) rfl ?_
  refine r_isub C (z_d dd_Dict_takeContent 10 rfl) ?_
  obtain ⟨h7, h⟩ := zif h
  obtain ⟨q8, c9, h⟩ := zbd h
  refine r_invV (as := [zP l1, zI l2, zI ((z_i q3.2 l1 1) - l2)]) C 8 (S_Row_putPart c9) (z_d dd_Dict_takeContent 11 rfl) ok_Row_putPart iv_Row_putPart se_Row_putPart ml_Dict_85 rfl rfl h7 rfl rfl rfl (Nat.le_of_ble_eq_true rfl) ⟨(Nat.le_of_ble_eq_true rfl), (Nat.le_of_ble_eq_true rfl)⟩ ⟨(Nat.le_of_ble_eq_true rfl), (Nat.le_of_ble_eq_true rfl)⟩ ?_
  refine r_aload_n C (z_d dd_Dict_takeContent 12 rfl) rfl ?_
  obtain ⟨h10, h⟩ := zif h
  refine r_getP C (z_d dd_Dict_takeContent 13 rfl) lk_Dict_14 rfl h10 rfl ?_
  obtain ⟨h11, h⟩ := zif h
  refine r_getI C (z_d dd_Dict_takeContent 14 rfl) lk_Dict_67 rfl h11 rfl ?_
  obtain rfl := z_res h
  exact r_iretI C E hr (z_d dd_Dict_takeContent 15 rfl) (Nat.le_of_ble_eq_true rfl) (Nat.le_of_ble_eq_true rfl)
def F_Dict_takeContent (O : zO) (n : Nat) (l0 : Nat) (l1 : Nat) (l2 : Int32) (M : zM) : Option (Int32 × zM) := f_Dict_takeContent_0 O n l0 l1 l2 M
theorem S_Dict_takeContent {l : Launch} {D : zD} {n : Nat} {l0 : Nat} {l1 : Nat} {l2 : Int32} {M : zM} {q : Int32 × zM} (h : F_Dict_takeContent D.2.2.2.2 n l0 l1 l2 M = some q) : zMet l D mi_Dict_takeContent [zP l0, zP l1, zI l2] M (some (zI q.1)) q.2 :=
  z_met (by decide) (Nat.le_of_ble_eq_true rfl) (fun X C E hr hin hD hl => by
    subst hD
    exact s_Dict_takeContent_0 C hr E n l0 l1 l2 M h)

def f_Dict_takeTold_139 (O : zO) (n : Nat) (M : zM) : Option (Int32 × zM) :=
  some ((-4 : Int32), M)
set_option maxRecDepth 100000 in
set_option maxHeartbeats 4000000 in
theorem s_Dict_takeTold_139 {X : zX} {q : Int32 × zM} (C : zC X zR3 prog_4_method_5_code 6 { frames := 5, cells := 0, slots := 0, locals := 123 }) (hr : zRt X (some .int)) (E : zE X (some (zI q.1)) q.2 0 0) : ∀ (n : Nat) (M : zM), f_Dict_takeTold_139 (zOD X) n M = some q → zW X 0 0 139 [none, none, none, none, none, none] [] M := by
  intro n M h
  rw [f_Dict_takeTold_139] at h
  refine r_bipush (v := (-4 : Int32)) C (z_d dd_Dict_takeTold 88 rfl) (by decide) ?_
  obtain rfl := z_res h
  exact r_iretI C E hr (z_d dd_Dict_takeTold 89 rfl) (Nat.le_of_ble_eq_true rfl) (Nat.le_of_ble_eq_true rfl)
def f_Dict_takeTold_99 (O : zO) : Nat → Nat → Nat → Int32 → Int32 → zM → Option (Int32 × zM)
  | 0, _, _, _, _, _ => none
  | n + 1, l0, l1, l2, l3, M =>
    if (3 : Int32) ≤ l3 then
    if z_k M l0 = 4 then
    if z_k M l1 = 9 then
    (F_Row_number O n l1 l2 (4 : Int32) M).bind fun q3 =>
    if z_k q3.2 l1 = 9 then
    (F_Row_number O n l1 (l2 + (4 : Int32)) (4 : Int32) q3.2).bind fun q6 =>
    if z_k q6.2 l1 = 9 then
    (F_Row_number O n l1 (l2 + (8 : Int32)) (4 : Int32) q6.2).bind fun q9 =>
    if z_k q9.2 (z_p M l0 1) = 6 then
    (F_Latest_set O n (z_p M l0 1) q3.1 q6.1 q9.1 q9.2).bind fun q12 =>
    if z_k q12.2 l1 = 9 then
    (F_Row_number O n l1 (4 : Int32) (4 : Int32) q12.2).bind fun q15 =>
    if z_k q15.2 l0 = 4 then
    zlet (w_j q15.2 l0 2 q15.1) fun M18 =>
    zlet (w_i M18 l0 3 (1 : Int32)) fun M21 =>
    (F_Dict_swapSpare O n l0 M21).bind fun q24 =>
    if z_k q24.2 l0 = 4 then
    (F_Dict_takeContent O n l0 l1 (l2 + (12 : Int32)) q24.2).bind fun q27 =>
    some (q27.1, q27.2)
    else none
    else none
    else none
    else none
    else none
    else none
    else none
    else none
    else
    if z_k M l1 = 9 then
    (F_Row_number O n l1 (l2 + ((4 : Int32) * l3)) (4 : Int32) M).bind fun q30 =>
    if (lg_cmp q30.1 (0 : Int64)) = 0 then
    f_Dict_takeTold_139 O n q30.2
    else
    if z_k q30.2 l1 = 9 then
    if (lg_cmp q30.1 (((z_i q30.2 l1 1) - l2) - (12 : Int32)).toInt64) ≤ 0 then
    zlet (l3 + (1 : Int32)) fun v33 =>
    f_Dict_takeTold_99 O n l0 l1 l2 v33 q30.2
    else
    f_Dict_takeTold_139 O n q30.2
    else none
    else none
set_option maxRecDepth 100000 in
set_option maxHeartbeats 4000000 in
theorem s_Dict_takeTold_99 {X : zX} {q : Int32 × zM} (C : zC X zR3 prog_4_method_5_code 6 { frames := 5, cells := 0, slots := 0, locals := 123 }) (hr : zRt X (some .int)) (E : zE X (some (zI q.1)) q.2 0 0) : ∀ (n : Nat) (l0 : Nat) (l1 : Nat) (l2 : Int32) (l3 : Int32) (M : zM), f_Dict_takeTold_99 (zOD X) n l0 l1 l2 l3 M = some q → zW X 0 0 99 [some (zP l0), some (zP l1), some (zI l2), some (zI l3), none, none] [] M := by
  intro n
  induction n with
  | zero => intro l0 l1 l2 l3 M h; rw [f_Dict_takeTold_99] at h; cases h
  | succ n ih =>
    intro l0 l1 l2 l3 M h
    rw [f_Dict_takeTold_99] at h
    refine r_iload_n C (z_d dd_Dict_takeTold 62 rfl) rfl ?_
    refine r_iconst (v := (3 : Int32)) C (z_d dd_Dict_takeTold 63 rfl) (by decide) ?_
    refine r_icmp_ge C 148 (z_d dd_Dict_takeTold 64 rfl) (by decide) (fun c37 => ?_) (fun c37 => ?_)
    · have h := zift h c37
      refine r_aload_n C (z_d dd_Dict_takeTold 92 rfl) rfl ?_
      obtain ⟨h1, h⟩ := zif h
      refine r_getP C (z_d dd_Dict_takeTold 93 rfl) lk_Dict_23 rfl h1 rfl ?_
      refine r_aload_n C (z_d dd_Dict_takeTold 94 rfl) rfl ?_
      refine r_iload_n C (z_d dd_Dict_takeTold 95 rfl) rfl ?_
      refine r_iconst (v := (4 : Int32)) C (z_d dd_Dict_takeTold 96 rfl) (by decide) ?_
      obtain ⟨h2, h⟩ := zif h
      obtain ⟨q3, c4, h⟩ := zbd h
      refine r_invV (as := [zI l2, zI (4 : Int32)]) C 8 (S_Row_number c4) (z_d dd_Dict_takeTold 97 rfl) ok_Row_number iv_Row_number se_Row_number ml_Dict_71 rfl rfl h2 rfl rfl rfl (Nat.le_of_ble_eq_true rfl) ⟨(Nat.le_of_ble_eq_true rfl), (Nat.le_of_ble_eq_true rfl)⟩ ⟨(Nat.le_of_ble_eq_true rfl), (Nat.le_of_ble_eq_true rfl)⟩ ?_
      refine r_aload_n C (z_d dd_Dict_takeTold 98 rfl) rfl ?_
      refine r_iload_n C (z_d dd_Dict_takeTold 99 rfl) rfl ?_
      refine r_iconst (v := (4 : Int32)) C (z_d dd_Dict_takeTold 100 rfl) (by decide) ?_
      refine r_iadd C (z_d dd_Dict_takeTold 101 rfl) ?_
      refine r_iconst (v := (4 : Int32)) C (z_d dd_Dict_takeTold 102 rfl) (by decide) ?_
      obtain ⟨h5, h⟩ := zif h
      obtain ⟨q6, c7, h⟩ := zbd h
      refine r_invV (as := [zI (l2 + (4 : Int32)), zI (4 : Int32)]) C 8 (S_Row_number c7) (z_d dd_Dict_takeTold 103 rfl) ok_Row_number iv_Row_number se_Row_number ml_Dict_71 rfl rfl h5 rfl rfl rfl (Nat.le_of_ble_eq_true rfl) ⟨(Nat.le_of_ble_eq_true rfl), (Nat.le_of_ble_eq_true rfl)⟩ ⟨(Nat.le_of_ble_eq_true rfl), (Nat.le_of_ble_eq_true rfl)⟩ ?_
      refine r_aload_n C (z_d dd_Dict_takeTold 104 rfl) rfl ?_
      refine r_iload_n C (z_d dd_Dict_takeTold 105 rfl) rfl ?_
      refine r_bipush (v := (8 : Int32)) C (z_d dd_Dict_takeTold 106 rfl) (by decide) ?_
      refine r_iadd C (z_d dd_Dict_takeTold 107 rfl) ?_
      refine r_iconst (v := (4 : Int32)) C (z_d dd_Dict_takeTold 108 rfl) (by decide) ?_
      obtain ⟨h8, h⟩ := zif h
      obtain ⟨q9, c10, h⟩ := zbd h
      refine r_invV (as := [zI (l2 + (8 : Int32)), zI (4 : Int32)]) C 8 (S_Row_number c10) (z_d dd_Dict_takeTold 109 rfl) ok_Row_number iv_Row_number se_Row_number ml_Dict_71 rfl rfl h8 rfl rfl rfl (Nat.le_of_ble_eq_true rfl) ⟨(Nat.le_of_ble_eq_true rfl), (Nat.le_of_ble_eq_true rfl)⟩ ⟨(Nat.le_of_ble_eq_true rfl), (Nat.le_of_ble_eq_true rfl)⟩ ?_
      obtain ⟨h11, h⟩ := zif h
      obtain ⟨q12, c13, h⟩ := zbd h
      refine r_invV (as := [zL q3.1, zL q6.1, zL q9.1]) C 5 (S_Latest_set c13) (z_d dd_Dict_takeTold 110 rfl) ok_Latest_set iv_Latest_set se_Latest_set ml_Dict_97 rfl rfl h11 rfl rfl rfl (Nat.le_of_ble_eq_true rfl) ⟨(Nat.le_of_ble_eq_true rfl), (Nat.le_of_ble_eq_true rfl)⟩ ⟨(Nat.le_of_ble_eq_true rfl), (Nat.le_of_ble_eq_true rfl)⟩ ?_
      refine r_aload_n C (z_d dd_Dict_takeTold 111 rfl) rfl ?_
      refine r_aload_n C (z_d dd_Dict_takeTold 112 rfl) rfl ?_
      refine r_iconst (v := (4 : Int32)) C (z_d dd_Dict_takeTold 113 rfl) (by decide) ?_
      refine r_iconst (v := (4 : Int32)) C (z_d dd_Dict_takeTold 114 rfl) (by decide) ?_
      obtain ⟨h14, h⟩ := zif h
      obtain ⟨q15, c16, h⟩ := zbd h
      refine r_invV (as := [zI (4 : Int32), zI (4 : Int32)]) C 8 (S_Row_number c16) (z_d dd_Dict_takeTold 115 rfl) ok_Row_number iv_Row_number se_Row_number ml_Dict_71 rfl rfl h14 rfl rfl rfl (Nat.le_of_ble_eq_true rfl) ⟨(Nat.le_of_ble_eq_true rfl), (Nat.le_of_ble_eq_true rfl)⟩ ⟨(Nat.le_of_ble_eq_true rfl), (Nat.le_of_ble_eq_true rfl)⟩ ?_
      obtain ⟨h17, h⟩ := zif h
      obtain ⟨M18, e19, h⟩ := zlet_ex h
      have h20 := k_j e19 h17
      refine r_putL C (z_d dd_Dict_takeTold 116 rfl) lp_Dict_27 rfl h17 e19 ?_
      refine r_aload_n C (z_d dd_Dict_takeTold 117 rfl) rfl ?_
      refine r_iconst (v := (1 : Int32)) C (z_d dd_Dict_takeTold 118 rfl) (by decide) ?_
      obtain ⟨M21, e22, h⟩ := zlet_ex h
      have h23 := k_i e22 h20
      refine r_putZ C (z_d dd_Dict_takeTold 119 rfl) lp_Dict_31 rfl (by decide) h20 e22 ?_
      refine r_aload_n C (z_d dd_Dict_takeTold 120 rfl) rfl ?_
      obtain ⟨q24, c25, h⟩ := zbd h
      refine r_invV (as := []) C 3 (S_Dict_swapSpare c25) (z_d dd_Dict_takeTold 121 rfl) ok_Dict_swapSpare iv_Dict_swapSpare se_Dict_swapSpare ml_Dict_101 rfl rfl h23 rfl rfl rfl (Nat.le_of_ble_eq_true rfl) ⟨(Nat.le_of_ble_eq_true rfl), (Nat.le_of_ble_eq_true rfl)⟩ ⟨(Nat.le_of_ble_eq_true rfl), (Nat.le_of_ble_eq_true rfl)⟩ ?_
      refine r_aload_n C (z_d dd_Dict_takeTold 122 rfl) rfl ?_
      refine r_aload_n C (z_d dd_Dict_takeTold 123 rfl) rfl ?_
      refine r_iload_n C (z_d dd_Dict_takeTold 124 rfl) rfl ?_
      refine r_bipush (v := (12 : Int32)) C (z_d dd_Dict_takeTold 125 rfl) (by decide) ?_
      refine r_iadd C (z_d dd_Dict_takeTold 126 rfl) ?_
      obtain ⟨h26, h⟩ := zif h
      obtain ⟨q27, c28, h⟩ := zbd h
      refine r_invV (as := [zP l1, zI (l2 + (12 : Int32))]) C 3 (S_Dict_takeContent c28) (z_d dd_Dict_takeTold 127 rfl) ok_Dict_takeContent iv_Dict_takeContent se_Dict_takeContent ml_Dict_81 rfl rfl h26 rfl rfl rfl (Nat.le_of_ble_eq_true rfl) ⟨(Nat.le_of_ble_eq_true rfl), (Nat.le_of_ble_eq_true rfl)⟩ ⟨(Nat.le_of_ble_eq_true rfl), (Nat.le_of_ble_eq_true rfl)⟩ ?_
      obtain rfl := z_res h
      exact r_iretI C E hr (z_d dd_Dict_takeTold 128 rfl) (Nat.le_of_ble_eq_true rfl) (Nat.le_of_ble_eq_true rfl)
    · have h := ziff h c37
      refine r_aload_n C (z_d dd_Dict_takeTold 65 rfl) rfl ?_
      refine r_iload_n C (z_d dd_Dict_takeTold 66 rfl) rfl ?_
      refine r_iconst (v := (4 : Int32)) C (z_d dd_Dict_takeTold 67 rfl) (by decide) ?_
      refine r_iload_n C (z_d dd_Dict_takeTold 68 rfl) rfl ?_
      refine r_imul C (z_d dd_Dict_takeTold 69 rfl) ?_
      refine r_iadd C (z_d dd_Dict_takeTold 70 rfl) ?_
      refine r_iconst (v := (4 : Int32)) C (z_d dd_Dict_takeTold 71 rfl) (by decide) ?_
      obtain ⟨h29, h⟩ := zif h
      obtain ⟨q30, c31, h⟩ := zbd h
      refine r_invV (as := [zI (l2 + ((4 : Int32) * l3)), zI (4 : Int32)]) C 8 (S_Row_number c31) (z_d dd_Dict_takeTold 72 rfl) ok_Row_number iv_Row_number se_Row_number ml_Dict_71 rfl rfl h29 rfl rfl rfl (Nat.le_of_ble_eq_true rfl) ⟨(Nat.le_of_ble_eq_true rfl), (Nat.le_of_ble_eq_true rfl)⟩ ⟨(Nat.le_of_ble_eq_true rfl), (Nat.le_of_ble_eq_true rfl)⟩ ?_
      refine r_lstore (lv' := [some (zP l0), some (zP l1), some (zI l2), some (zI l3), some (zL q30.1), none]) C (z_d dd_Dict_takeTold 73 rfl) (Nat.le_of_ble_eq_true rfl) rfl ?_
      refine r_lload C (z_d dd_Dict_takeTold 74 rfl) rfl ?_
      refine r_lconst (v := (0 : Int64)) C (z_d dd_Dict_takeTold 75 rfl) (by decide) ?_
      refine r_lcmp C (z_d dd_Dict_takeTold 76 rfl) ?_
      refine r_if_eq C 139 (z_d dd_Dict_takeTold 77 rfl) (by decide) (fun c36 => ?_) (fun c36 => ?_)
      · have h := zift h c36
        refine r_mk [false, false, false, false, false, false] ?_
        exact s_Dict_takeTold_139 C hr E n q30.2 h
      · have h := ziff h c36
        refine r_lload C (z_d dd_Dict_takeTold 78 rfl) rfl ?_
        refine r_aload_n C (z_d dd_Dict_takeTold 79 rfl) rfl ?_
        obtain ⟨h32, h⟩ := zif h
        refine r_getI C (z_d dd_Dict_takeTold 80 rfl) lk_Dict_67 rfl h32 rfl ?_
        refine r_iload_n C (z_d dd_Dict_takeTold 81 rfl) rfl ?_
        refine r_isub C (z_d dd_Dict_takeTold 82 rfl) ?_
        refine r_bipush (v := (12 : Int32)) C (z_d dd_Dict_takeTold 83 rfl) (by decide) ?_
        refine r_isub C (z_d dd_Dict_takeTold 84 rfl) ?_
        refine r_i2l C (z_d dd_Dict_takeTold 85 rfl) ?_
        refine r_lcmp C (z_d dd_Dict_takeTold 86 rfl) ?_
        refine r_if_le C 142 (z_d dd_Dict_takeTold 87 rfl) (by decide) (fun c35 => ?_) (fun c35 => ?_)
        · have h := zift h c35
          obtain ⟨v33, e34, h⟩ := zlet_ex h
          refine r_iinc (v := v33) (lv' := [some (zP l0), some (zP l1), some (zI l2), some (zI v33), some (zL q30.1), none]) C (z_d dd_Dict_takeTold 90 rfl) rfl (Nat.le_of_ble_eq_true rfl) (by rw [e34]; rfl) rfl ?_
          refine r_goto C 99 (z_d dd_Dict_takeTold 91 rfl) (by decide) ?_
          refine r_mk [true, true, true, true, false, false] ?_
          exact ih l0 l1 l2 v33 q30.2 h
        · have h := ziff h c35
          refine r_mk [false, false, false, false, false, false] ?_
          exact s_Dict_takeTold_139 C hr E n q30.2 h
def f_Dict_takeTold_75 (O : zO) (n : Nat) (l0 : Nat) (l1 : Nat) (s0 : Int32) (M : zM) : Option (Int32 × zM) :=
  if s0 = (-1 : Int32) then
  some ((-3 : Int32), M)
  else
  if z_k M l1 = 9 then
  if (12 : Int32) ≤ ((z_i M l1 1) - s0) then
  f_Dict_takeTold_99 O n l0 l1 s0 (0 : Int32) M
  else
  some ((-1 : Int32), M)
  else none
set_option maxRecDepth 100000 in
set_option maxHeartbeats 4000000 in
theorem s_Dict_takeTold_75 {X : zX} {q : Int32 × zM} (C : zC X zR3 prog_4_method_5_code 6 { frames := 5, cells := 0, slots := 0, locals := 123 }) (hr : zRt X (some .int)) (E : zE X (some (zI q.1)) q.2 0 0) : ∀ (n : Nat) (l0 : Nat) (l1 : Nat) (s0 : Int32) (M : zM), f_Dict_takeTold_75 (zOD X) n l0 l1 s0 M = some q → zW X 0 0 75 [some (zP l0), some (zP l1), none, none, none, none] [zI s0] M := by
  intro n l0 l1 s0 M h
  rw [f_Dict_takeTold_75] at h
  refine r_istore_n (lv' := [some (zP l0), some (zP l1), some (zI s0), none, none, none]) C (z_d dd_Dict_takeTold 46 rfl) (Nat.le_of_ble_eq_true rfl) rfl ?_
  refine r_iload_n C (z_d dd_Dict_takeTold 47 rfl) rfl ?_
  refine r_iconst (v := (-1 : Int32)) C (z_d dd_Dict_takeTold 48 rfl) (by decide) ?_
  refine r_icmp_ne C 84 (z_d dd_Dict_takeTold 49 rfl) (by decide) (fun c3 => ?_) (fun c3 => ?_)
  · have h := ziff h c3
    refine r_aload_n C (z_d dd_Dict_takeTold 52 rfl) rfl ?_
    obtain ⟨h1, h⟩ := zif h
    refine r_getI C (z_d dd_Dict_takeTold 53 rfl) lk_Dict_67 rfl h1 rfl ?_
    refine r_iload_n C (z_d dd_Dict_takeTold 54 rfl) rfl ?_
    refine r_isub C (z_d dd_Dict_takeTold 55 rfl) ?_
    refine r_bipush (v := (12 : Int32)) C (z_d dd_Dict_takeTold 56 rfl) (by decide) ?_
    refine r_icmp_ge C 97 (z_d dd_Dict_takeTold 57 rfl) (by decide) (fun c2 => ?_) (fun c2 => ?_)
    · have h := zift h c2
      refine r_iconst (v := (0 : Int32)) C (z_d dd_Dict_takeTold 60 rfl) (by decide) ?_
      refine r_istore_n (lv' := [some (zP l0), some (zP l1), some (zI s0), some (zI (0 : Int32)), none, none]) C (z_d dd_Dict_takeTold 61 rfl) (Nat.le_of_ble_eq_true rfl) rfl ?_
      exact s_Dict_takeTold_99 C hr E n l0 l1 s0 (0 : Int32) M h
    · have h := ziff h c2
      refine r_iconst (v := (-1 : Int32)) C (z_d dd_Dict_takeTold 58 rfl) (by decide) ?_
      obtain rfl := z_res h
      exact r_iretI C E hr (z_d dd_Dict_takeTold 59 rfl) (Nat.le_of_ble_eq_true rfl) (Nat.le_of_ble_eq_true rfl)
  · have h := zift h c3
    refine r_bipush (v := (-3 : Int32)) C (z_d dd_Dict_takeTold 50 rfl) (by decide) ?_
    obtain rfl := z_res h
    exact r_iretI C E hr (z_d dd_Dict_takeTold 51 rfl) (Nat.le_of_ble_eq_true rfl) (Nat.le_of_ble_eq_true rfl)
def f_Dict_takeTold_58 (O : zO) (n : Nat) (l0 : Nat) (l1 : Nat) (s0 : Int32) (M : zM) : Option (Int32 × zM) :=
  if s0 = (-1 : Int32) then
  f_Dict_takeTold_75 O n l0 l1 (-1 : Int32) M
  else
  if z_k M l0 = 4 then
  (F_Dict_tellShare O n l0 (0 : Int32) l1 s0 M).bind fun q2 =>
  f_Dict_takeTold_75 O n l0 l1 q2.1 q2.2
  else none
set_option maxRecDepth 100000 in
set_option maxHeartbeats 4000000 in
theorem s_Dict_takeTold_58 {X : zX} {q : Int32 × zM} (C : zC X zR3 prog_4_method_5_code 6 { frames := 5, cells := 0, slots := 0, locals := 123 }) (hr : zRt X (some .int)) (E : zE X (some (zI q.1)) q.2 0 0) : ∀ (n : Nat) (l0 : Nat) (l1 : Nat) (s0 : Int32) (M : zM), f_Dict_takeTold_58 (zOD X) n l0 l1 s0 M = some q → zW X 0 0 58 [some (zP l0), some (zP l1), none, none, none, none] [zI s0] M := by
  intro n l0 l1 s0 M h
  rw [f_Dict_takeTold_58] at h
  refine r_istore_n (lv' := [some (zP l0), some (zP l1), some (zI s0), none, none, none]) C (z_d dd_Dict_takeTold 35 rfl) (Nat.le_of_ble_eq_true rfl) rfl ?_
  refine r_iload_n C (z_d dd_Dict_takeTold 36 rfl) rfl ?_
  refine r_iconst (v := (-1 : Int32)) C (z_d dd_Dict_takeTold 37 rfl) (by decide) ?_
  refine r_icmp_ne C 68 (z_d dd_Dict_takeTold 38 rfl) (by decide) (fun c4 => ?_) (fun c4 => ?_)
  · have h := ziff h c4
    refine r_aload_n C (z_d dd_Dict_takeTold 41 rfl) rfl ?_
    refine r_iconst (v := (0 : Int32)) C (z_d dd_Dict_takeTold 42 rfl) (by decide) ?_
    refine r_aload_n C (z_d dd_Dict_takeTold 43 rfl) rfl ?_
    refine r_iload_n C (z_d dd_Dict_takeTold 44 rfl) rfl ?_
    obtain ⟨h1, h⟩ := zif h
    obtain ⟨q2, c3, h⟩ := zbd h
    refine r_invV (as := [zI (0 : Int32), zP l1, zI s0]) C 3 (S_Dict_tellShare c3) (z_d dd_Dict_takeTold 45 rfl) ok_Dict_tellShare iv_Dict_tellShare se_Dict_tellShare ml_Dict_93 rfl rfl h1 rfl rfl rfl (Nat.le_of_ble_eq_true rfl) ⟨(Nat.le_of_ble_eq_true rfl), (Nat.le_of_ble_eq_true rfl)⟩ ⟨(Nat.le_of_ble_eq_true rfl), (Nat.le_of_ble_eq_true rfl)⟩ ?_
    refine r_mk [true, true, false, false, false, false] ?_
    exact s_Dict_takeTold_75 C hr E n l0 l1 q2.1 q2.2 h
  · have h := zift h c4
    refine r_iconst (v := (-1 : Int32)) C (z_d dd_Dict_takeTold 39 rfl) (by decide) ?_
    refine r_goto C 75 (z_d dd_Dict_takeTold 40 rfl) (by decide) ?_
    refine r_mk [true, true, false, false, false, false] ?_
    exact s_Dict_takeTold_75 C hr E n l0 l1 (-1 : Int32) M h
def f_Dict_takeTold_0 (O : zO) (n : Nat) (l0 : Nat) (l1 : Nat) (M : zM) : Option (Int32 × zM) :=
  if z_k M l1 = 9 then
  if (8 : Int32) ≤ (z_i M l1 1) then
  if z_k M l0 = 4 then
  if z_k M (z_p M l0 6) = 2 then
  (F_Codes_tell O n (z_p M l0 6) l1 (8 : Int32) (z_i M l1 1) M).bind fun q4 =>
  if q4.1 = (-1 : Int32) then
  some ((-2 : Int32), q4.2)
  else
  if z_k q4.2 l0 = 4 then
  (F_Dict_tellShare O n l0 (1 : Int32) l1 q4.1 q4.2).bind fun q7 =>
  if q7.1 = (-1 : Int32) then
  f_Dict_takeTold_58 O n l0 l1 (-1 : Int32) q7.2
  else
  if z_k q7.2 l0 = 4 then
  (F_Dict_tellShare O n l0 (2 : Int32) l1 q7.1 q7.2).bind fun q10 =>
  f_Dict_takeTold_58 O n l0 l1 q10.1 q10.2
  else none
  else none
  else none
  else none
  else
  some ((-1 : Int32), M)
  else none
set_option maxRecDepth 100000 in
set_option maxHeartbeats 4000000 in
theorem s_Dict_takeTold_0 {X : zX} {q : Int32 × zM} (C : zC X zR3 prog_4_method_5_code 6 { frames := 5, cells := 0, slots := 0, locals := 123 }) (hr : zRt X (some .int)) (E : zE X (some (zI q.1)) q.2 0 0) : ∀ (n : Nat) (l0 : Nat) (l1 : Nat) (M : zM), f_Dict_takeTold_0 (zOD X) n l0 l1 M = some q → zW X 0 0 0 [some (zP l0), some (zP l1), none, none, none, none] [] M := by
  intro n l0 l1 M h
  rw [f_Dict_takeTold_0] at h
  refine r_aload_n C (z_d dd_Dict_takeTold 0 rfl) rfl ?_
  obtain ⟨h1, h⟩ := zif h
  refine r_getI C (z_d dd_Dict_takeTold 1 rfl) lk_Dict_67 rfl h1 rfl ?_
  refine r_bipush (v := (8 : Int32)) C (z_d dd_Dict_takeTold 2 rfl) (by decide) ?_
  refine r_icmp_ge C 11 (z_d dd_Dict_takeTold 3 rfl) (by decide) (fun c14 => ?_) (fun c14 => ?_)
  · have h := zift h c14
    refine r_aload_n C (z_d dd_Dict_takeTold 6 rfl) rfl ?_
    obtain ⟨h2, h⟩ := zif h
    refine r_getP C (z_d dd_Dict_takeTold 7 rfl) lk_Dict_42 rfl h2 rfl ?_
    refine r_aload_n C (z_d dd_Dict_takeTold 8 rfl) rfl ?_
    refine r_bipush (v := (8 : Int32)) C (z_d dd_Dict_takeTold 9 rfl) (by decide) ?_
    refine r_aload_n C (z_d dd_Dict_takeTold 10 rfl) rfl ?_
    refine r_getI C (z_d dd_Dict_takeTold 11 rfl) lk_Dict_67 rfl h1 rfl ?_
    obtain ⟨h3, h⟩ := zif h
    obtain ⟨q4, c5, h⟩ := zbd h
    refine r_invV (as := [zP l1, zI (8 : Int32), zI (z_i M l1 1)]) C 1 (S_Codes_tell c5) (z_d dd_Dict_takeTold 12 rfl) ok_Codes_tell iv_Codes_tell se_Codes_tell ml_Dict_89 rfl rfl h3 rfl rfl rfl (Nat.le_of_ble_eq_true rfl) ⟨(Nat.le_of_ble_eq_true rfl), (Nat.le_of_ble_eq_true rfl)⟩ ⟨(Nat.le_of_ble_eq_true rfl), (Nat.le_of_ble_eq_true rfl)⟩ ?_
    refine r_istore_n (lv' := [some (zP l0), some (zP l1), some (zI q4.1), none, none, none]) C (z_d dd_Dict_takeTold 13 rfl) (Nat.le_of_ble_eq_true rfl) rfl ?_
    refine r_iload_n C (z_d dd_Dict_takeTold 14 rfl) rfl ?_
    refine r_iconst (v := (-1 : Int32)) C (z_d dd_Dict_takeTold 15 rfl) (by decide) ?_
    refine r_icmp_ne C 34 (z_d dd_Dict_takeTold 16 rfl) (by decide) (fun c13 => ?_) (fun c13 => ?_)
    · have h := ziff h c13
      refine r_aload_n C (z_d dd_Dict_takeTold 19 rfl) rfl ?_
      refine r_iconst (v := (1 : Int32)) C (z_d dd_Dict_takeTold 20 rfl) (by decide) ?_
      refine r_aload_n C (z_d dd_Dict_takeTold 21 rfl) rfl ?_
      refine r_iload_n C (z_d dd_Dict_takeTold 22 rfl) rfl ?_
      obtain ⟨h6, h⟩ := zif h
      obtain ⟨q7, c8, h⟩ := zbd h
      refine r_invV (as := [zI (1 : Int32), zP l1, zI q4.1]) C 3 (S_Dict_tellShare c8) (z_d dd_Dict_takeTold 23 rfl) ok_Dict_tellShare iv_Dict_tellShare se_Dict_tellShare ml_Dict_93 rfl rfl h6 rfl rfl rfl (Nat.le_of_ble_eq_true rfl) ⟨(Nat.le_of_ble_eq_true rfl), (Nat.le_of_ble_eq_true rfl)⟩ ⟨(Nat.le_of_ble_eq_true rfl), (Nat.le_of_ble_eq_true rfl)⟩ ?_
      refine r_istore_n (lv' := [some (zP l0), some (zP l1), some (zI q7.1), none, none, none]) C (z_d dd_Dict_takeTold 24 rfl) (Nat.le_of_ble_eq_true rfl) rfl ?_
      refine r_iload_n C (z_d dd_Dict_takeTold 25 rfl) rfl ?_
      refine r_iconst (v := (-1 : Int32)) C (z_d dd_Dict_takeTold 26 rfl) (by decide) ?_
      refine r_icmp_ne C 51 (z_d dd_Dict_takeTold 27 rfl) (by decide) (fun c12 => ?_) (fun c12 => ?_)
      · have h := ziff h c12
        refine r_aload_n C (z_d dd_Dict_takeTold 30 rfl) rfl ?_
        refine r_iconst (v := (2 : Int32)) C (z_d dd_Dict_takeTold 31 rfl) (by decide) ?_
        refine r_aload_n C (z_d dd_Dict_takeTold 32 rfl) rfl ?_
        refine r_iload_n C (z_d dd_Dict_takeTold 33 rfl) rfl ?_
        obtain ⟨h9, h⟩ := zif h
        obtain ⟨q10, c11, h⟩ := zbd h
        refine r_invV (as := [zI (2 : Int32), zP l1, zI q7.1]) C 3 (S_Dict_tellShare c11) (z_d dd_Dict_takeTold 34 rfl) ok_Dict_tellShare iv_Dict_tellShare se_Dict_tellShare ml_Dict_93 rfl rfl h9 rfl rfl rfl (Nat.le_of_ble_eq_true rfl) ⟨(Nat.le_of_ble_eq_true rfl), (Nat.le_of_ble_eq_true rfl)⟩ ⟨(Nat.le_of_ble_eq_true rfl), (Nat.le_of_ble_eq_true rfl)⟩ ?_
        refine r_mk [true, true, false, false, false, false] ?_
        exact s_Dict_takeTold_58 C hr E n l0 l1 q10.1 q10.2 h
      · have h := zift h c12
        refine r_iconst (v := (-1 : Int32)) C (z_d dd_Dict_takeTold 28 rfl) (by decide) ?_
        refine r_goto C 58 (z_d dd_Dict_takeTold 29 rfl) (by decide) ?_
        refine r_mk [true, true, false, false, false, false] ?_
        exact s_Dict_takeTold_58 C hr E n l0 l1 (-1 : Int32) q7.2 h
    · have h := zift h c13
      refine r_bipush (v := (-2 : Int32)) C (z_d dd_Dict_takeTold 17 rfl) (by decide) ?_
      obtain rfl := z_res h
      exact r_iretI C E hr (z_d dd_Dict_takeTold 18 rfl) (Nat.le_of_ble_eq_true rfl) (Nat.le_of_ble_eq_true rfl)
  · have h := ziff h c14
    refine r_iconst (v := (-1 : Int32)) C (z_d dd_Dict_takeTold 4 rfl) (by decide) ?_
    obtain rfl := z_res h
    exact r_iretI C E hr (z_d dd_Dict_takeTold 5 rfl) (Nat.le_of_ble_eq_true rfl) (Nat.le_of_ble_eq_true rfl)
def F_Dict_takeTold (O : zO) (n : Nat) (l0 : Nat) (l1 : Nat) (M : zM) : Option (Int32 × zM) := f_Dict_takeTold_0 O n l0 l1 M
theorem S_Dict_takeTold {l : Launch} {D : zD} {n : Nat} {l0 : Nat} {l1 : Nat} {M : zM} {q : Int32 × zM} (h : F_Dict_takeTold D.2.2.2.2 n l0 l1 M = some q) : zMet l D mi_Dict_takeTold [zP l0, zP l1] M (some (zI q.1)) q.2 :=
  z_met (by decide) (Nat.le_of_ble_eq_true rfl) (fun X C E hr hin hD hl => by
    subst hD
    exact s_Dict_takeTold_0 C hr E n l0 l1 M h)
