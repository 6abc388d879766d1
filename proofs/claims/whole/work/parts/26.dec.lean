def f_Content_copyBack_20 (O : zO) (n : Nat) (l0 : Nat) (l1 : Int32) (l2 : Int32) (l3 : Int32) (s0 : Int32) (M : zM) : Option (Unit × zM) :=
  if z_k M l0 = 3 then
  if z_k M (z_p M l0 1) = 9 then
  if z_k M (z_p M l0 0) = 9 then
  (F_Row_putPart O n (z_p M l0 0) (z_p M l0 1) ((z_i M (z_p M l0 1) 1) - l3) s0 M).bind fun q4 =>
  if z_k q4.2 l0 = 3 then
  if z_k q4.2 (z_p q4.2 l0 0) = 9 then
  (F_Row_putBack O n (z_p q4.2 l0 0) l1 (l2 - s0) q4.2).bind fun q8 =>
  some ((), q8.2)
  else none
  else none
  else none
  else none
  else none
set_option maxRecDepth 100000 in
set_option maxHeartbeats 4000000 in
theorem s_Content_copyBack_20 {X : zX} {q : Unit × zM} (C : zC X zR2 prog_3_method_10_code 5 { frames := 2, cells := 0, slots := 0, locals := 84 }) (hr : zRt X none) (E : zE X none q.2 0 0) : ∀ (n : Nat) (l0 : Nat) (l1 : Int32) (l2 : Int32) (l3 : Int32) (s0 : Int32) (M : zM), f_Content_copyBack_20 (zOD X) n l0 l1 l2 l3 s0 M = some q → zW X 0 0 20 [some (zP l0), some (zI l1), some (zI l2), some (zI l3), none] [zI s0] M := by
  intro n l0 l1 l2 l3 s0 M h
  rw [f_Content_copyBack_20] at h
  refine r_istore (lv' := [some (zP l0), some (zI l1), some (zI l2), some (zI l3), some (zI s0)]) C (z_d dd_Content_copyBack 12 rfl) (Nat.le_of_ble_eq_true rfl) rfl ?_
  refine r_aload_n C (z_d dd_Content_copyBack 13 rfl) rfl ?_
  obtain ⟨h1, h⟩ := zif h
  refine r_getP C (z_d dd_Content_copyBack 14 rfl) lk_Content_15 rfl h1 rfl ?_
  refine r_aload_n C (z_d dd_Content_copyBack 15 rfl) rfl ?_
  refine r_getP C (z_d dd_Content_copyBack 16 rfl) lk_Content_21 rfl h1 rfl ?_
  refine r_aload_n C (z_d dd_Content_copyBack 17 rfl) rfl ?_
  refine r_getP C (z_d dd_Content_copyBack 18 rfl) lk_Content_21 rfl h1 rfl ?_
  obtain ⟨h2, h⟩ := zif h
  refine r_getI C (z_d dd_Content_copyBack 19 rfl) lk_Content_41 rfl h2 rfl ?_
  refine r_iload_n C (z_d dd_Content_copyBack 20 rfl) rfl ?_
  refine r_isub C (z_d dd_Content_copyBack 21 rfl) ?_
  refine r_iload C (z_d dd_Content_copyBack 22 rfl) rfl ?_
  obtain ⟨h3, h⟩ := zif h
  obtain ⟨q4, c5, h⟩ := zbd h
  refine r_invV (as := [zP (z_p M l0 1), zI ((z_i M (z_p M l0 1) 1) - l3), zI s0]) C 8 (S_Row_putPart c5) (z_d dd_Content_copyBack 23 rfl) ok_Row_putPart iv_Row_putPart se_Row_putPart ml_Content_60 rfl rfl h3 rfl rfl rfl (Nat.le_of_ble_eq_true rfl) ⟨(Nat.le_of_ble_eq_true rfl), (Nat.le_of_ble_eq_true rfl)⟩ ⟨(Nat.le_of_ble_eq_true rfl), (Nat.le_of_ble_eq_true rfl)⟩ ?_
  refine r_aload_n C (z_d dd_Content_copyBack 24 rfl) rfl ?_
  obtain ⟨h6, h⟩ := zif h
  refine r_getP C (z_d dd_Content_copyBack 25 rfl) lk_Content_15 rfl h6 rfl ?_
  refine r_iload_n C (z_d dd_Content_copyBack 26 rfl) rfl ?_
  refine r_iload_n C (z_d dd_Content_copyBack 27 rfl) rfl ?_
  refine r_iload C (z_d dd_Content_copyBack 28 rfl) rfl ?_
  refine r_isub C (z_d dd_Content_copyBack 29 rfl) ?_
  obtain ⟨h7, h⟩ := zif h
  obtain ⟨q8, c9, h⟩ := zbd h
  refine r_invV (as := [zI l1, zI (l2 - s0)]) C 8 (S_Row_putBack c9) (z_d dd_Content_copyBack 30 rfl) ok_Row_putBack iv_Row_putBack se_Row_putBack ml_Content_64 rfl rfl h7 rfl rfl rfl (Nat.le_of_ble_eq_true rfl) ⟨(Nat.le_of_ble_eq_true rfl), (Nat.le_of_ble_eq_true rfl)⟩ ⟨(Nat.le_of_ble_eq_true rfl), (Nat.le_of_ble_eq_true rfl)⟩ ?_
  obtain rfl := z_res h
  exact r_vret C E hr (z_d dd_Content_copyBack 31 rfl) (Nat.le_of_ble_eq_true rfl) (Nat.le_of_ble_eq_true rfl)
def f_Content_copyBack_0 (O : zO) (n : Nat) (l0 : Nat) (l1 : Int32) (l2 : Int32) (M : zM) : Option (Unit × zM) :=
  if z_k M l0 = 3 then
  (F_Content_ofFrame O n l0 M).bind fun q2 =>
  zlet (l1 - q2.1) fun v4 =>
  if v4 ≤ 0 then
  f_Content_copyBack_20 O n l0 l1 l2 v4 (0 : Int32) q2.2
  else
  (F_JMath_min O n v4 l2 q2.2).bind fun q6 =>
  f_Content_copyBack_20 O n l0 l1 l2 v4 q6.1 q6.2
  else none
set_option maxRecDepth 100000 in
set_option maxHeartbeats 4000000 in
theorem s_Content_copyBack_0 {X : zX} {q : Unit × zM} (C : zC X zR2 prog_3_method_10_code 5 { frames := 2, cells := 0, slots := 0, locals := 84 }) (hr : zRt X none) (E : zE X none q.2 0 0) : ∀ (n : Nat) (l0 : Nat) (l1 : Int32) (l2 : Int32) (M : zM), f_Content_copyBack_0 (zOD X) n l0 l1 l2 M = some q → zW X 0 0 0 [some (zP l0), some (zI l1), some (zI l2), none, none] [] M := by
  intro n l0 l1 l2 M h
  rw [f_Content_copyBack_0] at h
  refine r_iload_n C (z_d dd_Content_copyBack 0 rfl) rfl ?_
  refine r_aload_n C (z_d dd_Content_copyBack 1 rfl) rfl ?_
  obtain ⟨h1, h⟩ := zif h
  obtain ⟨q2, c3, h⟩ := zbd h
  refine r_invV (as := []) C 2 (S_Content_ofFrame c3) (z_d dd_Content_copyBack 2 rfl) ok_Content_ofFrame iv_Content_ofFrame se_Content_ofFrame ml_Content_51 rfl rfl h1 rfl rfl rfl (Nat.le_of_ble_eq_true rfl) ⟨(Nat.le_of_ble_eq_true rfl), (Nat.le_of_ble_eq_true rfl)⟩ ⟨(Nat.le_of_ble_eq_true rfl), (Nat.le_of_ble_eq_true rfl)⟩ ?_
  refine r_isub C (z_d dd_Content_copyBack 3 rfl) ?_
  obtain ⟨v4, e5, h⟩ := zlet_ex h
  refine r_nmI e5 ?_
  refine r_istore_n (lv' := [some (zP l0), some (zI l1), some (zI l2), some (zI v4), none]) C (z_d dd_Content_copyBack 4 rfl) (Nat.le_of_ble_eq_true rfl) rfl ?_
  refine r_iload_n C (z_d dd_Content_copyBack 5 rfl) rfl ?_
  refine r_if_le C 19 (z_d dd_Content_copyBack 6 rfl) (by decide) (fun c8 => ?_) (fun c8 => ?_)
  · have h := zift h c8
    refine r_iconst (v := (0 : Int32)) C (z_d dd_Content_copyBack 11 rfl) (by decide) ?_
    exact s_Content_copyBack_20 C hr E n l0 l1 l2 v4 (0 : Int32) q2.2 h
  · have h := ziff h c8
    refine r_iload_n C (z_d dd_Content_copyBack 7 rfl) rfl ?_
    refine r_iload_n C (z_d dd_Content_copyBack 8 rfl) rfl ?_
    obtain ⟨q6, c7, h⟩ := zbd h
    refine r_invS (as := [zI v4, zI l2]) C (S_JMath_min c7) (z_d dd_Content_copyBack 9 rfl) ok_JMath_min sv_JMath_min ml_Content_54 rfl rfl rfl (Nat.le_of_ble_eq_true rfl) ⟨(Nat.le_of_ble_eq_true rfl), (Nat.le_of_ble_eq_true rfl)⟩ ⟨(Nat.le_of_ble_eq_true rfl), (Nat.le_of_ble_eq_true rfl)⟩ ?_
    refine r_goto C 20 (z_d dd_Content_copyBack 10 rfl) (by decide) ?_
    exact s_Content_copyBack_20 C hr E n l0 l1 l2 v4 q6.1 q6.2 h
def F_Content_copyBack (O : zO) (n : Nat) (l0 : Nat) (l1 : Int32) (l2 : Int32) (M : zM) : Option (Unit × zM) := f_Content_copyBack_0 O n l0 l1 l2 M
theorem S_Content_copyBack {l : Launch} {D : zD} {n : Nat} {l0 : Nat} {l1 : Int32} {l2 : Int32} {M : zM} {q : Unit × zM} (h : F_Content_copyBack D.2.2.2.2 n l0 l1 l2 M = some q) : zMet l D mi_Content_copyBack [zP l0, zI l1, zI l2] M none q.2 :=
  z_met (by decide) (Nat.le_of_ble_eq_true rfl) (fun X C E hr hin hD hl => by
    subst hD
    exact s_Content_copyBack_0 C hr E n l0 l1 l2 M h)

def f_Seq_takeOne_96 (O : zO) (n : Nat) (l0 : Nat) (l5 : Int64) (l7 : Int32) (l8 : Int32) (M : zM) : Option (Int32 × zM) :=
  if z_k M l0 = 10 then
  if z_k M (z_p M l0 4) = 12 then
  if 0 ≤ (z_i M (z_p M l0 4) 2) then
  if z_k M (z_p M l0 3) = 7 then
  (F_Lit_left O n (z_p M l0 3) M).bind fun q4 =>
  if l8 ≤ q4.1 then
  if z_k q4.2 l0 = 10 then
  if z_k q4.2 (z_p q4.2 l0 5) = 6 then
  (F_Latest_choose O n (z_p q4.2 l0 5) l5 l8 q4.2).bind fun q8 =>
  if z_k q8.2 l0 = 10 then
  if z_k q8.2 (z_p q8.2 l0 2) = 3 then
  (F_Content_tooFar O n (z_p q8.2 l0 2) q8.1 l8 q8.2).bind fun q12 =>
  if q12.1 = 0 then
  if z_k q12.2 l0 = 10 then
  if z_k q12.2 (z_p q12.2 l0 2) = 3 then
  (F_Content_overBlock O n (z_p q12.2 l0 2) (l8 + l7) q12.2).bind fun q16 =>
  if q16.1 = 0 then
  if z_k q16.2 l0 = 10 then
  if z_k q16.2 (z_p q16.2 l0 2) = 3 then
  (F_Content_overMost O n (z_p q16.2 l0 2) (l8 + l7) q16.2).bind fun q20 =>
  if q20.1 = 0 then
  if z_k q20.2 l0 = 10 then
  if z_k q20.2 (z_p q20.2 l0 2) = 3 then
  if z_k q20.2 (z_p q20.2 l0 3) = 7 then
  (F_Lit_moveTo O n (z_p q20.2 l0 3) (z_p q20.2 (z_p q20.2 l0 2) 0) l8 q20.2).bind fun q25 =>
  if z_k q25.2 l0 = 10 then
  if z_k q25.2 (z_p q25.2 l0 2) = 3 then
  (F_Content_copyBack O n (z_p q25.2 l0 2) q8.1.toInt32 l7 q25.2).bind fun q29 =>
  some ((0 : Int32), q29.2)
  else none
  else none
  else none
  else none
  else none
  else
  some ((7 : Int32), q20.2)
  else none
  else none
  else
  some ((20 : Int32), q16.2)
  else none
  else none
  else
  some ((18 : Int32), q12.2)
  else none
  else none
  else none
  else none
  else
  some ((19 : Int32), q4.2)
  else none
  else
  some ((17 : Int32), M)
  else none
  else none
set_option maxRecDepth 100000 in
set_option maxHeartbeats 4000000 in
theorem s_Seq_takeOne_96 {X : zX} {q : Int32 × zM} (C : zC X zR9 prog_10_method_6_code 11 { frames := 3, cells := 0, slots := 0, locals := 108 }) (hr : zRt X (some .int)) (E : zE X (some (zI q.1)) q.2 0 0) : ∀ (n : Nat) (l0 : Nat) (l5 : Int64) (l7 : Int32) (l8 : Int32) (M : zM), f_Seq_takeOne_96 (zOD X) n l0 l5 l7 l8 M = some q → zW X 0 0 96 [some (zP l0), none, none, none, none, some (zL l5), none, some (zI l7), some (zI l8), none, none] [] M := by
  intro n l0 l5 l7 l8 M h
  rw [f_Seq_takeOne_96] at h
  refine r_aload_n C (z_d dd_Seq_takeOne 56 rfl) rfl ?_
  obtain ⟨h1, h⟩ := zif h
  refine r_getP C (z_d dd_Seq_takeOne 57 rfl) lk_Seq_30 rfl h1 rfl ?_
  obtain ⟨h2, h⟩ := zif h
  refine r_getI C (z_d dd_Seq_takeOne 58 rfl) lk_Seq_162 rfl h2 rfl ?_
  refine r_if_ge C 109 (z_d dd_Seq_takeOne 59 rfl) (by decide) (fun c35 => ?_) (fun c35 => ?_)
  · have h := zift h c35
    refine r_iload C (z_d dd_Seq_takeOne 62 rfl) rfl ?_
    refine r_aload_n C (z_d dd_Seq_takeOne 63 rfl) rfl ?_
    refine r_getP C (z_d dd_Seq_takeOne 64 rfl) lk_Seq_23 rfl h1 rfl ?_
    obtain ⟨h3, h⟩ := zif h
    obtain ⟨q4, c5, h⟩ := zbd h
    refine r_invV (as := []) C 6 (S_Lit_left c5) (z_d dd_Seq_takeOne 65 rfl) ok_Lit_left iv_Lit_left se_Lit_left ml_Seq_190 rfl rfl h3 rfl rfl rfl (Nat.le_of_ble_eq_true rfl) ⟨(Nat.le_of_ble_eq_true rfl), (Nat.le_of_ble_eq_true rfl)⟩ ⟨(Nat.le_of_ble_eq_true rfl), (Nat.le_of_ble_eq_true rfl)⟩ ?_
    refine r_icmp_le C 124 (z_d dd_Seq_takeOne 66 rfl) (by decide) (fun c34 => ?_) (fun c34 => ?_)
    · have h := zift h c34
      refine r_aload_n C (z_d dd_Seq_takeOne 69 rfl) rfl ?_
      obtain ⟨h6, h⟩ := zif h
      refine r_getP C (z_d dd_Seq_takeOne 70 rfl) lk_Seq_37 rfl h6 rfl ?_
      refine r_lload C (z_d dd_Seq_takeOne 71 rfl) rfl ?_
      refine r_iload C (z_d dd_Seq_takeOne 72 rfl) rfl ?_
      obtain ⟨h7, h⟩ := zif h
      obtain ⟨q8, c9, h⟩ := zbd h
      refine r_invV (as := [zL l5, zI l8]) C 5 (S_Latest_choose c9) (z_d dd_Seq_takeOne 73 rfl) ok_Latest_choose iv_Latest_choose se_Latest_choose ml_Seq_195 rfl rfl h7 rfl rfl rfl (Nat.le_of_ble_eq_true rfl) ⟨(Nat.le_of_ble_eq_true rfl), (Nat.le_of_ble_eq_true rfl)⟩ ⟨(Nat.le_of_ble_eq_true rfl), (Nat.le_of_ble_eq_true rfl)⟩ ?_
      refine r_lstore (lv' := [some (zP l0), none, none, none, none, some (zL l5), none, some (zI l7), some (zI l8), some (zL q8.1), none]) C (z_d dd_Seq_takeOne 74 rfl) (Nat.le_of_ble_eq_true rfl) rfl ?_
      refine r_aload_n C (z_d dd_Seq_takeOne 75 rfl) rfl ?_
      obtain ⟨h10, h⟩ := zif h
      refine r_getP C (z_d dd_Seq_takeOne 76 rfl) lk_Seq_19 rfl h10 rfl ?_
      refine r_lload C (z_d dd_Seq_takeOne 77 rfl) rfl ?_
      refine r_iload C (z_d dd_Seq_takeOne 78 rfl) rfl ?_
      obtain ⟨h11, h⟩ := zif h
      obtain ⟨q12, c13, h⟩ := zbd h
      refine r_invV (as := [zL q8.1, zI l8]) C 2 (S_Content_tooFar c13) (z_d dd_Seq_takeOne 79 rfl) ok_Content_tooFar iv_Content_tooFar se_Content_tooFar ml_Seq_199 rfl rfl h11 rfl rfl rfl (Nat.le_of_ble_eq_true rfl) ⟨(Nat.le_of_ble_eq_true rfl), (Nat.le_of_ble_eq_true rfl)⟩ ⟨(Nat.le_of_ble_eq_true rfl), (Nat.le_of_ble_eq_true rfl)⟩ ?_
      refine r_if_eq C 154 (z_d dd_Seq_takeOne 80 rfl) (by decide) (fun c33 => ?_) (fun c33 => ?_)
      · have h := zift h c33
        refine r_aload_n C (z_d dd_Seq_takeOne 83 rfl) rfl ?_
        obtain ⟨h14, h⟩ := zif h
        refine r_getP C (z_d dd_Seq_takeOne 84 rfl) lk_Seq_19 rfl h14 rfl ?_
        refine r_iload C (z_d dd_Seq_takeOne 85 rfl) rfl ?_
        refine r_iload C (z_d dd_Seq_takeOne 86 rfl) rfl ?_
        refine r_iadd C (z_d dd_Seq_takeOne 87 rfl) ?_
        obtain ⟨h15, h⟩ := zif h
        obtain ⟨q16, c17, h⟩ := zbd h
        refine r_invV (as := [zI (l8 + l7)]) C 2 (S_Content_overBlock c17) (z_d dd_Seq_takeOne 88 rfl) ok_Content_overBlock iv_Content_overBlock se_Content_overBlock ml_Seq_205 rfl rfl h15 rfl rfl rfl (Nat.le_of_ble_eq_true rfl) ⟨(Nat.le_of_ble_eq_true rfl), (Nat.le_of_ble_eq_true rfl)⟩ ⟨(Nat.le_of_ble_eq_true rfl), (Nat.le_of_ble_eq_true rfl)⟩ ?_
        refine r_if_eq C 172 (z_d dd_Seq_takeOne 89 rfl) (by decide) (fun c32 => ?_) (fun c32 => ?_)
        · have h := zift h c32
          refine r_aload_n C (z_d dd_Seq_takeOne 92 rfl) rfl ?_
          obtain ⟨h18, h⟩ := zif h
          refine r_getP C (z_d dd_Seq_takeOne 93 rfl) lk_Seq_19 rfl h18 rfl ?_
          refine r_iload C (z_d dd_Seq_takeOne 94 rfl) rfl ?_
          refine r_iload C (z_d dd_Seq_takeOne 95 rfl) rfl ?_
          refine r_iadd C (z_d dd_Seq_takeOne 96 rfl) ?_
          obtain ⟨h19, h⟩ := zif h
          obtain ⟨q20, c21, h⟩ := zbd h
          refine r_invV (as := [zI (l8 + l7)]) C 2 (S_Content_overMost c21) (z_d dd_Seq_takeOne 97 rfl) ok_Content_overMost iv_Content_overMost se_Content_overMost ml_Seq_208 rfl rfl h19 rfl rfl rfl (Nat.le_of_ble_eq_true rfl) ⟨(Nat.le_of_ble_eq_true rfl), (Nat.le_of_ble_eq_true rfl)⟩ ⟨(Nat.le_of_ble_eq_true rfl), (Nat.le_of_ble_eq_true rfl)⟩ ?_
          refine r_if_eq C 190 (z_d dd_Seq_takeOne 98 rfl) (by decide) (fun c31 => ?_) (fun c31 => ?_)
          · have h := zift h c31
            refine r_aload_n C (z_d dd_Seq_takeOne 101 rfl) rfl ?_
            obtain ⟨h22, h⟩ := zif h
            refine r_getP C (z_d dd_Seq_takeOne 102 rfl) lk_Seq_23 rfl h22 rfl ?_
            refine r_aload_n C (z_d dd_Seq_takeOne 103 rfl) rfl ?_
            refine r_getP C (z_d dd_Seq_takeOne 104 rfl) lk_Seq_19 rfl h22 rfl ?_
            obtain ⟨h23, h⟩ := zif h
            refine r_getP C (z_d dd_Seq_takeOne 105 rfl) lk_Seq_211 rfl h23 rfl ?_
            refine r_iload C (z_d dd_Seq_takeOne 106 rfl) rfl ?_
            obtain ⟨h24, h⟩ := zif h
            obtain ⟨q25, c26, h⟩ := zbd h
            refine r_invV (as := [zP (z_p q20.2 (z_p q20.2 l0 2) 0), zI l8]) C 6 (S_Lit_moveTo c26) (z_d dd_Seq_takeOne 107 rfl) ok_Lit_moveTo iv_Lit_moveTo se_Lit_moveTo ml_Seq_214 rfl rfl h24 rfl rfl rfl (Nat.le_of_ble_eq_true rfl) ⟨(Nat.le_of_ble_eq_true rfl), (Nat.le_of_ble_eq_true rfl)⟩ ⟨(Nat.le_of_ble_eq_true rfl), (Nat.le_of_ble_eq_true rfl)⟩ ?_
            refine r_aload_n C (z_d dd_Seq_takeOne 108 rfl) rfl ?_
            obtain ⟨h27, h⟩ := zif h
            refine r_getP C (z_d dd_Seq_takeOne 109 rfl) lk_Seq_19 rfl h27 rfl ?_
            refine r_lload C (z_d dd_Seq_takeOne 110 rfl) rfl ?_
            refine r_l2i C (z_d dd_Seq_takeOne 111 rfl) ?_
            refine r_iload C (z_d dd_Seq_takeOne 112 rfl) rfl ?_
            obtain ⟨h28, h⟩ := zif h
            obtain ⟨q29, c30, h⟩ := zbd h
            refine r_invV (as := [zI q8.1.toInt32, zI l7]) C 2 (S_Content_copyBack c30) (z_d dd_Seq_takeOne 113 rfl) ok_Content_copyBack iv_Content_copyBack se_Content_copyBack ml_Seq_218 rfl rfl h28 rfl rfl rfl (Nat.le_of_ble_eq_true rfl) ⟨(Nat.le_of_ble_eq_true rfl), (Nat.le_of_ble_eq_true rfl)⟩ ⟨(Nat.le_of_ble_eq_true rfl), (Nat.le_of_ble_eq_true rfl)⟩ ?_
            refine r_iconst (v := (0 : Int32)) C (z_d dd_Seq_takeOne 114 rfl) (by decide) ?_
            obtain rfl := z_res h
            exact r_iretI C E hr (z_d dd_Seq_takeOne 115 rfl) (Nat.le_of_ble_eq_true rfl) (Nat.le_of_ble_eq_true rfl)
          · have h := ziff h c31
            refine r_bipush (v := (7 : Int32)) C (z_d dd_Seq_takeOne 99 rfl) (by decide) ?_
            obtain rfl := z_res h
            exact r_iretI C E hr (z_d dd_Seq_takeOne 100 rfl) (Nat.le_of_ble_eq_true rfl) (Nat.le_of_ble_eq_true rfl)
        · have h := ziff h c32
          refine r_bipush (v := (20 : Int32)) C (z_d dd_Seq_takeOne 90 rfl) (by decide) ?_
          obtain rfl := z_res h
          exact r_iretI C E hr (z_d dd_Seq_takeOne 91 rfl) (Nat.le_of_ble_eq_true rfl) (Nat.le_of_ble_eq_true rfl)
      · have h := ziff h c33
        refine r_bipush (v := (18 : Int32)) C (z_d dd_Seq_takeOne 81 rfl) (by decide) ?_
        obtain rfl := z_res h
        exact r_iretI C E hr (z_d dd_Seq_takeOne 82 rfl) (Nat.le_of_ble_eq_true rfl) (Nat.le_of_ble_eq_true rfl)
    · have h := ziff h c34
      refine r_bipush (v := (19 : Int32)) C (z_d dd_Seq_takeOne 67 rfl) (by decide) ?_
      obtain rfl := z_res h
      exact r_iretI C E hr (z_d dd_Seq_takeOne 68 rfl) (Nat.le_of_ble_eq_true rfl) (Nat.le_of_ble_eq_true rfl)
  · have h := ziff h c35
    refine r_bipush (v := (17 : Int32)) C (z_d dd_Seq_takeOne 60 rfl) (by decide) ?_
    obtain rfl := z_res h
    exact r_iretI C E hr (z_d dd_Seq_takeOne 61 rfl) (Nat.le_of_ble_eq_true rfl) (Nat.le_of_ble_eq_true rfl)
def f_Seq_takeOne_0 (O : zO) (n : Nat) (l0 : Nat) (l1 : Int32) (M : zM) : Option (Int32 × zM) :=
  if z_k M l0 = 10 then
  (F_Seq_symbolOf O n l0 (0 : Int32) M).bind fun q2 =>
  if z_k q2.2 l0 = 10 then
  (F_Seq_symbolOf O n l0 (1 : Int32) q2.2).bind fun q5 =>
  if z_k q5.2 l0 = 10 then
  (F_Seq_symbolOf O n l0 (2 : Int32) q5.2).bind fun q8 =>
  if z_k q8.2 l0 = 10 then
  if z_k q8.2 (z_p q8.2 l0 4) = 12 then
  (F_Stream_take O n (z_p q8.2 l0 4) q5.1 q8.2).bind fun q12 =>
  zlet (((1 : Int64) <<< (q5.1.toInt64 &&& 63)) + q12.1) fun v14 =>
  if O.2.1 (O.1 6) = true then
  if zin q8.1 (O.2.2.1 (O.1 6)) = true then
  if z_k q12.2 l0 = 10 then
  if O.2.1 (O.1 7) = true then
  if zin q8.1 (O.2.2.1 (O.1 7)) = true then
  if z_k q12.2 (z_p q12.2 l0 4) = 12 then
  (F_Stream_take O n (z_p q12.2 l0 4) (O.2.2.2 (O.1 7) q8.1.toNatClampNeg) q12.2).bind fun q22 =>
  zlet ((O.2.2.2 (O.1 6) q8.1.toNatClampNeg) + q22.1.toInt32) fun v24 =>
  if O.2.1 (O.1 8) = true then
  if zin q2.1 (O.2.2.1 (O.1 8)) = true then
  if z_k q22.2 l0 = 10 then
  if O.2.1 (O.1 9) = true then
  if zin q2.1 (O.2.2.1 (O.1 9)) = true then
  if z_k q22.2 (z_p q22.2 l0 4) = 12 then
  (F_Stream_take O n (z_p q22.2 l0 4) (O.2.2.2 (O.1 9) q2.1.toNatClampNeg) q22.2).bind fun q32 =>
  zlet ((O.2.2.2 (O.1 8) q2.1.toNatClampNeg) + q32.1.toInt32) fun v34 =>
  if l1 = 0 then
  if z_k q32.2 l0 = 10 then
  (F_Seq_follow O n l0 (0 : Int32) q32.2).bind fun q37 =>
  if z_k q37.2 l0 = 10 then
  (F_Seq_follow O n l0 (2 : Int32) q37.2).bind fun q40 =>
  if z_k q40.2 l0 = 10 then
  (F_Seq_follow O n l0 (1 : Int32) q40.2).bind fun q43 =>
  f_Seq_takeOne_96 O n l0 v14 v24 v34 q43.2
  else none
  else none
  else none
  else
  f_Seq_takeOne_96 O n l0 v14 v24 v34 q32.2
  else none
  else none
  else none
  else none
  else none
  else none
  else none
  else none
  else none
  else none
  else none
  else none
  else none
  else none
  else none
  else none
  else none
set_option maxRecDepth 100000 in
set_option maxHeartbeats 4000000 in
theorem s_Seq_takeOne_0 {X : zX} {q : Int32 × zM} (C : zC X zR9 prog_10_method_6_code 11 { frames := 3, cells := 0, slots := 0, locals := 108 }) (hr : zRt X (some .int)) (E : zE X (some (zI q.1)) q.2 0 0) : ∀ (n : Nat) (l0 : Nat) (l1 : Int32) (M : zM), f_Seq_takeOne_0 (zOD X) n l0 l1 M = some q → zW X 0 0 0 [some (zP l0), some (zI l1), none, none, none, none, none, none, none, none, none] [] M := by
  intro n l0 l1 M h
  rw [f_Seq_takeOne_0] at h
  refine r_aload_n C (z_d dd_Seq_takeOne 0 rfl) rfl ?_
  refine r_iconst (v := (0 : Int32)) C (z_d dd_Seq_takeOne 1 rfl) (by decide) ?_
  obtain ⟨h1, h⟩ := zif h
  obtain ⟨q2, c3, h⟩ := zbd h
  refine r_invV (as := [zI (0 : Int32)]) C 9 (S_Seq_symbolOf c3) (z_d dd_Seq_takeOne 2 rfl) ok_Seq_symbolOf iv_Seq_symbolOf se_Seq_symbolOf ml_Seq_172 rfl rfl h1 rfl rfl rfl (Nat.le_of_ble_eq_true rfl) ⟨(Nat.le_of_ble_eq_true rfl), (Nat.le_of_ble_eq_true rfl)⟩ ⟨(Nat.le_of_ble_eq_true rfl), (Nat.le_of_ble_eq_true rfl)⟩ ?_
  refine r_istore_n (lv' := [some (zP l0), some (zI l1), some (zI q2.1), none, none, none, none, none, none, none, none]) C (z_d dd_Seq_takeOne 3 rfl) (Nat.le_of_ble_eq_true rfl) rfl ?_
  refine r_aload_n C (z_d dd_Seq_takeOne 4 rfl) rfl ?_
  refine r_iconst (v := (1 : Int32)) C (z_d dd_Seq_takeOne 5 rfl) (by decide) ?_
  obtain ⟨h4, h⟩ := zif h
  obtain ⟨q5, c6, h⟩ := zbd h
  refine r_invV (as := [zI (1 : Int32)]) C 9 (S_Seq_symbolOf c6) (z_d dd_Seq_takeOne 6 rfl) ok_Seq_symbolOf iv_Seq_symbolOf se_Seq_symbolOf ml_Seq_172 rfl rfl h4 rfl rfl rfl (Nat.le_of_ble_eq_true rfl) ⟨(Nat.le_of_ble_eq_true rfl), (Nat.le_of_ble_eq_true rfl)⟩ ⟨(Nat.le_of_ble_eq_true rfl), (Nat.le_of_ble_eq_true rfl)⟩ ?_
  refine r_istore_n (lv' := [some (zP l0), some (zI l1), some (zI q2.1), some (zI q5.1), none, none, none, none, none, none, none]) C (z_d dd_Seq_takeOne 7 rfl) (Nat.le_of_ble_eq_true rfl) rfl ?_
  refine r_aload_n C (z_d dd_Seq_takeOne 8 rfl) rfl ?_
  refine r_iconst (v := (2 : Int32)) C (z_d dd_Seq_takeOne 9 rfl) (by decide) ?_
  obtain ⟨h7, h⟩ := zif h
  obtain ⟨q8, c9, h⟩ := zbd h
  refine r_invV (as := [zI (2 : Int32)]) C 9 (S_Seq_symbolOf c9) (z_d dd_Seq_takeOne 10 rfl) ok_Seq_symbolOf iv_Seq_symbolOf se_Seq_symbolOf ml_Seq_172 rfl rfl h7 rfl rfl rfl (Nat.le_of_ble_eq_true rfl) ⟨(Nat.le_of_ble_eq_true rfl), (Nat.le_of_ble_eq_true rfl)⟩ ⟨(Nat.le_of_ble_eq_true rfl), (Nat.le_of_ble_eq_true rfl)⟩ ?_
  refine r_istore (lv' := [some (zP l0), some (zI l1), some (zI q2.1), some (zI q5.1), some (zI q8.1), none, none, none, none, none, none]) C (z_d dd_Seq_takeOne 11 rfl) (Nat.le_of_ble_eq_true rfl) rfl ?_
  refine r_lconst (v := (1 : Int64)) C (z_d dd_Seq_takeOne 12 rfl) (by decide) ?_
  refine r_iload_n C (z_d dd_Seq_takeOne 13 rfl) rfl ?_
  refine r_lshl C (z_d dd_Seq_takeOne 14 rfl) ?_
  refine r_aload_n C (z_d dd_Seq_takeOne 15 rfl) rfl ?_
  obtain ⟨h10, h⟩ := zif h
  refine r_getP C (z_d dd_Seq_takeOne 16 rfl) lk_Seq_30 rfl h10 rfl ?_
  refine r_iload_n C (z_d dd_Seq_takeOne 17 rfl) rfl ?_
  obtain ⟨h11, h⟩ := zif h
  obtain ⟨q12, c13, h⟩ := zbd h
  refine r_invV (as := [zI q5.1]) C 11 (S_Stream_take c13) (z_d dd_Seq_takeOne 18 rfl) ok_Stream_take iv_Stream_take se_Stream_take ml_Seq_158 rfl rfl h11 rfl rfl rfl (Nat.le_of_ble_eq_true rfl) ⟨(Nat.le_of_ble_eq_true rfl), (Nat.le_of_ble_eq_true rfl)⟩ ⟨(Nat.le_of_ble_eq_true rfl), (Nat.le_of_ble_eq_true rfl)⟩ ?_
  refine r_ladd C (z_d dd_Seq_takeOne 19 rfl) ?_
  obtain ⟨v14, e15, h⟩ := zlet_ex h
  refine r_nmL e15 ?_
  refine r_lstore (lv' := [some (zP l0), some (zI l1), some (zI q2.1), some (zI q5.1), some (zI q8.1), some (zL v14), none, none, none, none, none]) C (z_d dd_Seq_takeOne 20 rfl) (Nat.le_of_ble_eq_true rfl) rfl ?_
  refine r_gets (i := 6) C (z_d dd_Seq_takeOne 21 rfl) rfl ls_Seq_175 ?_
  refine r_iload C (z_d dd_Seq_takeOne 22 rfl) rfl ?_
  obtain ⟨h16, h⟩ := zif h
  obtain ⟨h17, h⟩ := zif h
  refine r_oald C (z_d dd_Seq_takeOne 23 rfl) h16 h17 rfl ?_
  refine r_aload_n C (z_d dd_Seq_takeOne 24 rfl) rfl ?_
  obtain ⟨h18, h⟩ := zif h
  refine r_getP C (z_d dd_Seq_takeOne 25 rfl) lk_Seq_30 rfl h18 rfl ?_
  refine r_gets (i := 7) C (z_d dd_Seq_takeOne 26 rfl) rfl ls_Seq_178 ?_
  refine r_iload C (z_d dd_Seq_takeOne 27 rfl) rfl ?_
  obtain ⟨h19, h⟩ := zif h
  obtain ⟨h20, h⟩ := zif h
  refine r_oald C (z_d dd_Seq_takeOne 28 rfl) h19 h20 rfl ?_
  obtain ⟨h21, h⟩ := zif h
  obtain ⟨q22, c23, h⟩ := zbd h
  refine r_invV (as := [zI ((zOD X).2.2.2 ((zOD X).1 7) q8.1.toNatClampNeg)]) C 11 (S_Stream_take c23) (z_d dd_Seq_takeOne 29 rfl) ok_Stream_take iv_Stream_take se_Stream_take ml_Seq_158 rfl rfl h21 rfl rfl rfl (Nat.le_of_ble_eq_true rfl) ⟨(Nat.le_of_ble_eq_true rfl), (Nat.le_of_ble_eq_true rfl)⟩ ⟨(Nat.le_of_ble_eq_true rfl), (Nat.le_of_ble_eq_true rfl)⟩ ?_
  refine r_l2i C (z_d dd_Seq_takeOne 30 rfl) ?_
  refine r_iadd C (z_d dd_Seq_takeOne 31 rfl) ?_
  obtain ⟨v24, e25, h⟩ := zlet_ex h
  refine r_nmI e25 ?_
  refine r_istore (lv' := [some (zP l0), some (zI l1), some (zI q2.1), some (zI q5.1), some (zI q8.1), some (zL v14), none, some (zI v24), none, none, none]) C (z_d dd_Seq_takeOne 32 rfl) (Nat.le_of_ble_eq_true rfl) rfl ?_
  refine r_gets (i := 8) C (z_d dd_Seq_takeOne 33 rfl) rfl ls_Seq_181 ?_
  refine r_iload_n C (z_d dd_Seq_takeOne 34 rfl) rfl ?_
  obtain ⟨h26, h⟩ := zif h
  obtain ⟨h27, h⟩ := zif h
  refine r_oald C (z_d dd_Seq_takeOne 35 rfl) h26 h27 rfl ?_
  refine r_aload_n C (z_d dd_Seq_takeOne 36 rfl) rfl ?_
  obtain ⟨h28, h⟩ := zif h
  refine r_getP C (z_d dd_Seq_takeOne 37 rfl) lk_Seq_30 rfl h28 rfl ?_
  refine r_gets (i := 9) C (z_d dd_Seq_takeOne 38 rfl) rfl ls_Seq_184 ?_
  refine r_iload_n C (z_d dd_Seq_takeOne 39 rfl) rfl ?_
  obtain ⟨h29, h⟩ := zif h
  obtain ⟨h30, h⟩ := zif h
  refine r_oald C (z_d dd_Seq_takeOne 40 rfl) h29 h30 rfl ?_
  obtain ⟨h31, h⟩ := zif h
  obtain ⟨q32, c33, h⟩ := zbd h
  refine r_invV (as := [zI ((zOD X).2.2.2 ((zOD X).1 9) q2.1.toNatClampNeg)]) C 11 (S_Stream_take c33) (z_d dd_Seq_takeOne 41 rfl) ok_Stream_take iv_Stream_take se_Stream_take ml_Seq_158 rfl rfl h31 rfl rfl rfl (Nat.le_of_ble_eq_true rfl) ⟨(Nat.le_of_ble_eq_true rfl), (Nat.le_of_ble_eq_true rfl)⟩ ⟨(Nat.le_of_ble_eq_true rfl), (Nat.le_of_ble_eq_true rfl)⟩ ?_
  refine r_l2i C (z_d dd_Seq_takeOne 42 rfl) ?_
  refine r_iadd C (z_d dd_Seq_takeOne 43 rfl) ?_
  obtain ⟨v34, e35, h⟩ := zlet_ex h
  refine r_nmI e35 ?_
  refine r_istore (lv' := [some (zP l0), some (zI l1), some (zI q2.1), some (zI q5.1), some (zI q8.1), some (zL v14), none, some (zI v24), some (zI v34), none, none]) C (z_d dd_Seq_takeOne 44 rfl) (Nat.le_of_ble_eq_true rfl) rfl ?_
  refine r_iload_n C (z_d dd_Seq_takeOne 45 rfl) rfl ?_
  refine r_if_ne C 96 (z_d dd_Seq_takeOne 46 rfl) (by decide) (fun c45 => ?_) (fun c45 => ?_)
  · have h := ziff h c45
    refine r_mk [true, false, false, false, false, true, false, true, true, false, false] ?_
    exact s_Seq_takeOne_96 C hr E n l0 v14 v24 v34 q32.2 h
  · have h := zift h c45
    refine r_aload_n C (z_d dd_Seq_takeOne 47 rfl) rfl ?_
    refine r_iconst (v := (0 : Int32)) C (z_d dd_Seq_takeOne 48 rfl) (by decide) ?_
    obtain ⟨h36, h⟩ := zif h
    obtain ⟨q37, c38, h⟩ := zbd h
    refine r_invV (as := [zI (0 : Int32)]) C 9 (S_Seq_follow c38) (z_d dd_Seq_takeOne 49 rfl) ok_Seq_follow iv_Seq_follow se_Seq_follow ml_Seq_187 rfl rfl h36 rfl rfl rfl (Nat.le_of_ble_eq_true rfl) ⟨(Nat.le_of_ble_eq_true rfl), (Nat.le_of_ble_eq_true rfl)⟩ ⟨(Nat.le_of_ble_eq_true rfl), (Nat.le_of_ble_eq_true rfl)⟩ ?_
    refine r_aload_n C (z_d dd_Seq_takeOne 50 rfl) rfl ?_
    refine r_iconst (v := (2 : Int32)) C (z_d dd_Seq_takeOne 51 rfl) (by decide) ?_
    obtain ⟨h39, h⟩ := zif h
    obtain ⟨q40, c41, h⟩ := zbd h
    refine r_invV (as := [zI (2 : Int32)]) C 9 (S_Seq_follow c41) (z_d dd_Seq_takeOne 52 rfl) ok_Seq_follow iv_Seq_follow se_Seq_follow ml_Seq_187 rfl rfl h39 rfl rfl rfl (Nat.le_of_ble_eq_true rfl) ⟨(Nat.le_of_ble_eq_true rfl), (Nat.le_of_ble_eq_true rfl)⟩ ⟨(Nat.le_of_ble_eq_true rfl), (Nat.le_of_ble_eq_true rfl)⟩ ?_
    refine r_aload_n C (z_d dd_Seq_takeOne 53 rfl) rfl ?_
    refine r_iconst (v := (1 : Int32)) C (z_d dd_Seq_takeOne 54 rfl) (by decide) ?_
    obtain ⟨h42, h⟩ := zif h
    obtain ⟨q43, c44, h⟩ := zbd h
    refine r_invV (as := [zI (1 : Int32)]) C 9 (S_Seq_follow c44) (z_d dd_Seq_takeOne 55 rfl) ok_Seq_follow iv_Seq_follow se_Seq_follow ml_Seq_187 rfl rfl h42 rfl rfl rfl (Nat.le_of_ble_eq_true rfl) ⟨(Nat.le_of_ble_eq_true rfl), (Nat.le_of_ble_eq_true rfl)⟩ ⟨(Nat.le_of_ble_eq_true rfl), (Nat.le_of_ble_eq_true rfl)⟩ ?_
    refine r_mk [true, false, false, false, false, true, false, true, true, false, false] ?_
    exact s_Seq_takeOne_96 C hr E n l0 v14 v24 v34 q43.2 h
def F_Seq_takeOne (O : zO) (n : Nat) (l0 : Nat) (l1 : Int32) (M : zM) : Option (Int32 × zM) := f_Seq_takeOne_0 O n l0 l1 M
theorem S_Seq_takeOne {l : Launch} {D : zD} {n : Nat} {l0 : Nat} {l1 : Int32} {M : zM} {q : Int32 × zM} (h : F_Seq_takeOne D.2.2.2.2 n l0 l1 M = some q) : zMet l D mi_Seq_takeOne [zP l0, zI l1] M (some (zI q.1)) q.2 :=
  z_met (by decide) (Nat.le_of_ble_eq_true rfl) (fun X C E hr hin hD hl => by
    subst hD
    exact s_Seq_takeOne_0 C hr E n l0 l1 M h)

def f_Seq_takeAll_179 (O : zO) (n : Nat) (s0 : Int32) (M : zM) : Option (Int32 × zM) :=
  if s0 = 0 ∨ s0 = 1 then
  some (s0, M)
  else none
set_option maxRecDepth 100000 in
set_option maxHeartbeats 4000000 in
theorem s_Seq_takeAll_179 {X : zX} {q : Int32 × zM} (C : zC X zR9 prog_10_method_5_code 6 { frames := 4, cells := 0, slots := 0, locals := 138 }) (hr : zRt X (some .boolean)) (E : zE X (some (zI q.1)) q.2 0 0) : ∀ (n : Nat) (s0 : Int32) (M : zM), f_Seq_takeAll_179 (zOD X) n s0 M = some q → zW X 0 0 179 [none, none, none, none, none, none] [zI s0] M := by
  intro n s0 M h
  rw [f_Seq_takeAll_179] at h
  obtain ⟨h1, h⟩ := zif h
  obtain rfl := z_res h
  exact r_iretZ C E hr (z_d dd_Seq_takeAll 90 rfl) h1 (Nat.le_of_ble_eq_true rfl) (Nat.le_of_ble_eq_true rfl)
def f_Seq_takeAll_174 (O : zO) (n : Nat) (M : zM) : Option (Int32 × zM) :=
  f_Seq_takeAll_179 O n (1 : Int32) M
set_option maxRecDepth 100000 in
set_option maxHeartbeats 4000000 in
theorem s_Seq_takeAll_174 {X : zX} {q : Int32 × zM} (C : zC X zR9 prog_10_method_5_code 6 { frames := 4, cells := 0, slots := 0, locals := 138 }) (hr : zRt X (some .boolean)) (E : zE X (some (zI q.1)) q.2 0 0) : ∀ (n : Nat) (M : zM), f_Seq_takeAll_174 (zOD X) n M = some q → zW X 0 0 174 [none, none, none, none, none, none] [] M := by
  intro n M h
  rw [f_Seq_takeAll_174] at h
  refine r_iconst (v := (1 : Int32)) C (z_d dd_Seq_takeAll 87 rfl) (by decide) ?_
  refine r_goto C 179 (z_d dd_Seq_takeAll 88 rfl) (by decide) ?_
  exact s_Seq_takeAll_179 C hr E n (1 : Int32) M h
def f_Seq_takeAll_111 (O : zO) (k91 : Nat → Int32 → Int32 → Int32 → zM → Option (Int32 × zM)) (n : Nat) (l0 : Nat) (l1 : Int32) (l2 : Int32) (l4 : Int32) (s0 : Nat) (s1 : Int32) (M : zM) : Option (Int32 × zM) :=
  if z_k M s0 = 10 then
  (F_Seq_takeOne O n s0 s1 M).bind fun q2 =>
  if q2.1 = 0 then
  if z_k q2.2 l0 = 10 then
  if z_k q2.2 (z_p q2.2 l0 1) = 8 then
  zlet (w_i q2.2 (z_p q2.2 l0 1) 4 ((z_i q2.2 (z_p q2.2 l0 1) 4) + (1 : Int32))) fun M6 =>
  zlet (l4 + (1 : Int32)) fun v10 =>
  k91 l0 l1 l2 v10 M6
  else none
  else none
  else
  if z_k q2.2 l0 = 10 then
  if z_k q2.2 (z_p q2.2 l0 1) = 8 then
  (F_Rep_fail O n (z_p q2.2 l0 1) q2.1 l2 q2.2).bind fun q14 =>
  if q14.1 = 0 ∨ q14.1 = 1 then
  some (q14.1, q14.2)
  else none
  else none
  else none
  else none
set_option maxRecDepth 100000 in
set_option maxHeartbeats 4000000 in
theorem s_Seq_takeAll_111 {X : zX} {q : Int32 × zM} (C : zC X zR9 prog_10_method_5_code 6 { frames := 4, cells := 0, slots := 0, locals := 138 }) (hr : zRt X (some .boolean)) (E : zE X (some (zI q.1)) q.2 0 0) {k91 : Nat → Int32 → Int32 → Int32 → zM → Option (Int32 × zM)} (hk91 : ∀ (l0 : Nat) (l1 : Int32) (l2 : Int32) (l4 : Int32) (M : zM), k91 l0 l1 l2 l4 M = some q → zW X 0 0 91 [some (zP l0), some (zI l1), some (zI l2), none, some (zI l4), none] [] M) : ∀ (n : Nat) (l0 : Nat) (l1 : Int32) (l2 : Int32) (l4 : Int32) (s0 : Nat) (s1 : Int32) (M : zM), f_Seq_takeAll_111 (zOD X) k91 n l0 l1 l2 l4 s0 s1 M = some q → zW X 0 0 111 [some (zP l0), some (zI l1), some (zI l2), none, some (zI l4), none] [zI s1, zP s0] M := by
  intro n l0 l1 l2 l4 s0 s1 M h
  rw [f_Seq_takeAll_111] at h
  obtain ⟨h1, h⟩ := zif h
  obtain ⟨q2, c3, h⟩ := zbd h
  refine r_invV (as := [zI s1]) C 9 (S_Seq_takeOne c3) (z_d dd_Seq_takeAll 58 rfl) ok_Seq_takeOne iv_Seq_takeOne se_Seq_takeOne ml_Seq_165 rfl rfl h1 rfl rfl rfl (Nat.le_of_ble_eq_true rfl) ⟨(Nat.le_of_ble_eq_true rfl), (Nat.le_of_ble_eq_true rfl)⟩ ⟨(Nat.le_of_ble_eq_true rfl), (Nat.le_of_ble_eq_true rfl)⟩ ?_
  refine r_istore (lv' := [some (zP l0), some (zI l1), some (zI l2), none, some (zI l4), some (zI q2.1)]) C (z_d dd_Seq_takeAll 59 rfl) (Nat.le_of_ble_eq_true rfl) rfl ?_
  refine r_iload C (z_d dd_Seq_takeAll 60 rfl) rfl ?_
  refine r_if_eq C 132 (z_d dd_Seq_takeAll 61 rfl) (by decide) (fun c17 => ?_) (fun c17 => ?_)
  · have h := zift h c17
    refine r_aload_n C (z_d dd_Seq_takeAll 68 rfl) rfl ?_
    obtain ⟨h4, h⟩ := zif h
    refine r_getP C (z_d dd_Seq_takeAll 69 rfl) lk_Seq_15 rfl h4 rfl ?_
    refine r_dupP C (z_d dd_Seq_takeAll 70 rfl) ?_
    obtain ⟨h5, h⟩ := zif h
    refine r_getI C (z_d dd_Seq_takeAll 71 rfl) lk_Seq_169 rfl h5 rfl ?_
    refine r_iconst (v := (1 : Int32)) C (z_d dd_Seq_takeAll 72 rfl) (by decide) ?_
    refine r_iadd C (z_d dd_Seq_takeAll 73 rfl) ?_
    obtain ⟨M6, e7, h⟩ := zlet_ex h
    have h8 := k_i e7 h4
    have h9 := k_i e7 h5
    refine r_putI C (z_d dd_Seq_takeAll 74 rfl) lp_Seq_169 rfl h5 e7 ?_
    obtain ⟨v10, e11, h⟩ := zlet_ex h
    refine r_iinc (v := v10) (lv' := [some (zP l0), some (zI l1), some (zI l2), none, some (zI v10), some (zI q2.1)]) C (z_d dd_Seq_takeAll 75 rfl) rfl (Nat.le_of_ble_eq_true rfl) (by rw [e11]; rfl) rfl ?_
    refine r_goto C 91 (z_d dd_Seq_takeAll 76 rfl) (by decide) ?_
    refine r_mk [true, true, true, false, true, false] ?_
    exact hk91 l0 l1 l2 v10 M6 h
  · have h := ziff h c17
    refine r_aload_n C (z_d dd_Seq_takeAll 62 rfl) rfl ?_
    obtain ⟨h12, h⟩ := zif h
    refine r_getP C (z_d dd_Seq_takeAll 63 rfl) lk_Seq_15 rfl h12 rfl ?_
    refine r_iload C (z_d dd_Seq_takeAll 64 rfl) rfl ?_
    refine r_iload_n C (z_d dd_Seq_takeAll 65 rfl) rfl ?_
    obtain ⟨h13, h⟩ := zif h
    obtain ⟨q14, c15, h⟩ := zbd h
    refine r_invV (as := [zI q2.1, zI l2]) C 7 (S_Rep_fail c15) (z_d dd_Seq_takeAll 66 rfl) ok_Rep_fail iv_Rep_fail se_Rep_fail ml_Seq_120 rfl rfl h13 rfl rfl rfl (Nat.le_of_ble_eq_true rfl) ⟨(Nat.le_of_ble_eq_true rfl), (Nat.le_of_ble_eq_true rfl)⟩ ⟨(Nat.le_of_ble_eq_true rfl), (Nat.le_of_ble_eq_true rfl)⟩ ?_
    obtain ⟨h16, h⟩ := zif h
    obtain rfl := z_res h
    exact r_iretZ C E hr (z_d dd_Seq_takeAll 67 rfl) h16 (Nat.le_of_ble_eq_true rfl) (Nat.le_of_ble_eq_true rfl)
def f_Seq_takeAll_91 (O : zO) : Nat → Nat → Int32 → Int32 → Int32 → zM → Option (Int32 × zM)
  | 0, _, _, _, _, _ => none
  | n + 1, l0, l1, l2, l4, M =>
    if l1 ≤ l4 then
    if z_k M l0 = 10 then
    if z_k M (z_p M l0 4) = 12 then
    if (z_i M (z_p M l0 4) 2) = 0 then
    f_Seq_takeAll_174 O n M
    else
    if z_k M (z_p M l0 1) = 8 then
    (F_Rep_fail O n (z_p M l0 1) (17 : Int32) l2 M).bind fun q4 =>
    if q4.1 = 0 then
    f_Seq_takeAll_179 O n (0 : Int32) q4.2
    else
    f_Seq_takeAll_174 O n q4.2
    else none
    else none
    else none
    else
    if l4 = (l1 - (1 : Int32)) then
    f_Seq_takeAll_111 O (f_Seq_takeAll_91 O n) n l0 l1 l2 l4 l0 (1 : Int32) M
    else
    f_Seq_takeAll_111 O (f_Seq_takeAll_91 O n) n l0 l1 l2 l4 l0 (0 : Int32) M
set_option maxRecDepth 100000 in
set_option maxHeartbeats 4000000 in
theorem s_Seq_takeAll_91 {X : zX} {q : Int32 × zM} (C : zC X zR9 prog_10_method_5_code 6 { frames := 4, cells := 0, slots := 0, locals := 138 }) (hr : zRt X (some .boolean)) (E : zE X (some (zI q.1)) q.2 0 0) : ∀ (n : Nat) (l0 : Nat) (l1 : Int32) (l2 : Int32) (l4 : Int32) (M : zM), f_Seq_takeAll_91 (zOD X) n l0 l1 l2 l4 M = some q → zW X 0 0 91 [some (zP l0), some (zI l1), some (zI l2), none, some (zI l4), none] [] M := by
  intro n
  induction n with
  | zero => intro l0 l1 l2 l4 M h; rw [f_Seq_takeAll_91] at h; cases h
  | succ n ih =>
    intro l0 l1 l2 l4 M h
    rw [f_Seq_takeAll_91] at h
    refine r_iload C (z_d dd_Seq_takeAll 46 rfl) rfl ?_
    refine r_iload_n C (z_d dd_Seq_takeAll 47 rfl) rfl ?_
    refine r_icmp_ge C 151 (z_d dd_Seq_takeAll 48 rfl) (by decide) (fun c9 => ?_) (fun c9 => ?_)
    · have h := zift h c9
      refine r_aload_n C (z_d dd_Seq_takeAll 77 rfl) rfl ?_
      obtain ⟨h1, h⟩ := zif h
      refine r_getP C (z_d dd_Seq_takeAll 78 rfl) lk_Seq_30 rfl h1 rfl ?_
      obtain ⟨h2, h⟩ := zif h
      refine r_getI C (z_d dd_Seq_takeAll 79 rfl) lk_Seq_162 rfl h2 rfl ?_
      refine r_if_eq C 174 (z_d dd_Seq_takeAll 80 rfl) (by decide) (fun c7 => ?_) (fun c7 => ?_)
      · have h := zift h c7
        refine r_mk [false, false, false, false, false, false] ?_
        exact s_Seq_takeAll_174 C hr E n M h
      · have h := ziff h c7
        refine r_aload_n C (z_d dd_Seq_takeAll 81 rfl) rfl ?_
        refine r_getP C (z_d dd_Seq_takeAll 82 rfl) lk_Seq_15 rfl h1 rfl ?_
        refine r_bipush (v := (17 : Int32)) C (z_d dd_Seq_takeAll 83 rfl) (by decide) ?_
        refine r_iload_n C (z_d dd_Seq_takeAll 84 rfl) rfl ?_
        obtain ⟨h3, h⟩ := zif h
        obtain ⟨q4, c5, h⟩ := zbd h
        refine r_invV (as := [zI (17 : Int32), zI l2]) C 7 (S_Rep_fail c5) (z_d dd_Seq_takeAll 85 rfl) ok_Rep_fail iv_Rep_fail se_Rep_fail ml_Seq_120 rfl rfl h3 rfl rfl rfl (Nat.le_of_ble_eq_true rfl) ⟨(Nat.le_of_ble_eq_true rfl), (Nat.le_of_ble_eq_true rfl)⟩ ⟨(Nat.le_of_ble_eq_true rfl), (Nat.le_of_ble_eq_true rfl)⟩ ?_
        refine r_if_eq C 178 (z_d dd_Seq_takeAll 86 rfl) (by decide) (fun c6 => ?_) (fun c6 => ?_)
        · have h := zift h c6
          refine r_iconst (v := (0 : Int32)) C (z_d dd_Seq_takeAll 89 rfl) (by decide) ?_
          refine r_mk [false, false, false, false, false, false] ?_
          exact s_Seq_takeAll_179 C hr E n (0 : Int32) q4.2 h
        · have h := ziff h c6
          refine r_mk [false, false, false, false, false, false] ?_
          exact s_Seq_takeAll_174 C hr E n q4.2 h
    · have h := ziff h c9
      refine r_aload_n C (z_d dd_Seq_takeAll 49 rfl) rfl ?_
      refine r_iload C (z_d dd_Seq_takeAll 50 rfl) rfl ?_
      refine r_iload_n C (z_d dd_Seq_takeAll 51 rfl) rfl ?_
      refine r_iconst (v := (1 : Int32)) C (z_d dd_Seq_takeAll 52 rfl) (by decide) ?_
      refine r_isub C (z_d dd_Seq_takeAll 53 rfl) ?_
      refine r_icmp_ne C 110 (z_d dd_Seq_takeAll 54 rfl) (by decide) (fun c8 => ?_) (fun c8 => ?_)
      · have h := ziff h c8
        refine r_iconst (v := (0 : Int32)) C (z_d dd_Seq_takeAll 57 rfl) (by decide) ?_
        exact s_Seq_takeAll_111 C hr E ih n l0 l1 l2 l4 l0 (0 : Int32) M h
      · have h := zift h c8
        refine r_iconst (v := (1 : Int32)) C (z_d dd_Seq_takeAll 55 rfl) (by decide) ?_
        refine r_goto C 111 (z_d dd_Seq_takeAll 56 rfl) (by decide) ?_
        exact s_Seq_takeAll_111 C hr E ih n l0 l1 l2 l4 l0 (1 : Int32) M h
def f_Seq_takeAll_30 (O : zO) : Nat → Nat → Int32 → Int32 → Int32 → zM → Option (Int32 × zM)
  | 0, _, _, _, _, _ => none
  | n + 1, l0, l1, l2, l4, M =>
    if (3 : Int32) ≤ l4 then
    if z_k M l0 = 10 then
    if z_k M (z_p M l0 4) = 12 then
    if 0 ≤ (z_i M (z_p M l0 4) 2) then
    f_Seq_takeAll_91 O n l0 l1 l2 (0 : Int32) M
    else
    if z_k M (z_p M l0 1) = 8 then
    (F_Rep_fail O n (z_p M l0 1) (17 : Int32) l2 M).bind fun q4 =>
    if q4.1 = 0 ∨ q4.1 = 1 then
    some (q4.1, q4.2)
    else none
    else none
    else none
    else none
    else
    if z_k M l0 = 10 then
    if z_k M (z_p M l0 8) = 104 then
    if zin l4 (z_n M (z_p M l0 8)) = true then
    if z_k M (z_p M (z_p M l0 8) l4.toNatClampNeg) = 11 then
    if z_k M (z_p M l0 4) = 12 then
    (F_Stream_take O n (z_p M l0 4) (z_i M (z_p M (z_p M l0 8) l4.toNatClampNeg) 7) M).bind fun q13 =>
    if z_k q13.2 (z_p M l0 10) = 100 then
    if zin l4 (z_n q13.2 (z_p M l0 10)) = true then
    zlet (w_i q13.2 (z_p M l0 10) l4.toNatClampNeg q13.1.toInt32) fun M17 =>
    zlet (l4 + (1 : Int32)) fun v20 =>
    f_Seq_takeAll_30 O n l0 l1 l2 v20 M17
    else none
    else none
    else none
    else none
    else none
    else none
    else none
set_option maxRecDepth 100000 in
set_option maxHeartbeats 4000000 in
theorem s_Seq_takeAll_30 {X : zX} {q : Int32 × zM} (C : zC X zR9 prog_10_method_5_code 6 { frames := 4, cells := 0, slots := 0, locals := 138 }) (hr : zRt X (some .boolean)) (E : zE X (some (zI q.1)) q.2 0 0) : ∀ (n : Nat) (l0 : Nat) (l1 : Int32) (l2 : Int32) (l4 : Int32) (M : zM), f_Seq_takeAll_30 (zOD X) n l0 l1 l2 l4 M = some q → zW X 0 0 30 [some (zP l0), some (zI l1), some (zI l2), none, some (zI l4), none] [] M := by
  intro n
  induction n with
  | zero => intro l0 l1 l2 l4 M h; rw [f_Seq_takeAll_30] at h; cases h
  | succ n ih =>
    intro l0 l1 l2 l4 M h
    rw [f_Seq_takeAll_30] at h
    refine r_iload C (z_d dd_Seq_takeAll 16 rfl) rfl ?_
    refine r_iconst (v := (3 : Int32)) C (z_d dd_Seq_takeAll 17 rfl) (by decide) ?_
    refine r_icmp_ge C 67 (z_d dd_Seq_takeAll 18 rfl) (by decide) (fun c22 => ?_) (fun c22 => ?_)
    · have h := zift h c22
      refine r_aload_n C (z_d dd_Seq_takeAll 34 rfl) rfl ?_
      obtain ⟨h1, h⟩ := zif h
      refine r_getP C (z_d dd_Seq_takeAll 35 rfl) lk_Seq_30 rfl h1 rfl ?_
      obtain ⟨h2, h⟩ := zif h
      refine r_getI C (z_d dd_Seq_takeAll 36 rfl) lk_Seq_162 rfl h2 rfl ?_
      refine r_if_ge C 88 (z_d dd_Seq_takeAll 37 rfl) (by decide) (fun c7 => ?_) (fun c7 => ?_)
      · have h := zift h c7
        refine r_iconst (v := (0 : Int32)) C (z_d dd_Seq_takeAll 44 rfl) (by decide) ?_
        refine r_istore (lv' := [some (zP l0), some (zI l1), some (zI l2), none, some (zI (0 : Int32)), none]) C (z_d dd_Seq_takeAll 45 rfl) (Nat.le_of_ble_eq_true rfl) rfl ?_
        exact s_Seq_takeAll_91 C hr E n l0 l1 l2 (0 : Int32) M h
      · have h := ziff h c7
        refine r_aload_n C (z_d dd_Seq_takeAll 38 rfl) rfl ?_
        refine r_getP C (z_d dd_Seq_takeAll 39 rfl) lk_Seq_15 rfl h1 rfl ?_
        refine r_bipush (v := (17 : Int32)) C (z_d dd_Seq_takeAll 40 rfl) (by decide) ?_
        refine r_iload_n C (z_d dd_Seq_takeAll 41 rfl) rfl ?_
        obtain ⟨h3, h⟩ := zif h
        obtain ⟨q4, c5, h⟩ := zbd h
        refine r_invV (as := [zI (17 : Int32), zI l2]) C 7 (S_Rep_fail c5) (z_d dd_Seq_takeAll 42 rfl) ok_Rep_fail iv_Rep_fail se_Rep_fail ml_Seq_120 rfl rfl h3 rfl rfl rfl (Nat.le_of_ble_eq_true rfl) ⟨(Nat.le_of_ble_eq_true rfl), (Nat.le_of_ble_eq_true rfl)⟩ ⟨(Nat.le_of_ble_eq_true rfl), (Nat.le_of_ble_eq_true rfl)⟩ ?_
        obtain ⟨h6, h⟩ := zif h
        obtain rfl := z_res h
        exact r_iretZ C E hr (z_d dd_Seq_takeAll 43 rfl) h6 (Nat.le_of_ble_eq_true rfl) (Nat.le_of_ble_eq_true rfl)
    · have h := ziff h c22
      refine r_aload_n C (z_d dd_Seq_takeAll 19 rfl) rfl ?_
      obtain ⟨h8, h⟩ := zif h
      refine r_getP C (z_d dd_Seq_takeAll 20 rfl) lk_Seq_57 rfl h8 rfl ?_
      refine r_iload C (z_d dd_Seq_takeAll 21 rfl) rfl ?_
      refine r_aload_n C (z_d dd_Seq_takeAll 22 rfl) rfl ?_
      refine r_getP C (z_d dd_Seq_takeAll 23 rfl) lk_Seq_30 rfl h8 rfl ?_
      refine r_aload_n C (z_d dd_Seq_takeAll 24 rfl) rfl ?_
      refine r_getP C (z_d dd_Seq_takeAll 25 rfl) lk_Seq_50 rfl h8 rfl ?_
      refine r_iload C (z_d dd_Seq_takeAll 26 rfl) rfl ?_
      obtain ⟨h9, h⟩ := zif h
      obtain ⟨h10, h⟩ := zif h
      refine r_aald C (z_d dd_Seq_takeAll 27 rfl) h9 h10 rfl ?_
      obtain ⟨h11, h⟩ := zif h
      refine r_getI C (z_d dd_Seq_takeAll 28 rfl) lk_Seq_154 rfl h11 rfl ?_
      obtain ⟨h12, h⟩ := zif h
      obtain ⟨q13, c14, h⟩ := zbd h
      refine r_invV (as := [zI (z_i M (z_p M (z_p M l0 8) l4.toNatClampNeg) 7)]) C 11 (S_Stream_take c14) (z_d dd_Seq_takeAll 29 rfl) ok_Stream_take iv_Stream_take se_Stream_take ml_Seq_158 rfl rfl h12 rfl rfl rfl (Nat.le_of_ble_eq_true rfl) ⟨(Nat.le_of_ble_eq_true rfl), (Nat.le_of_ble_eq_true rfl)⟩ ⟨(Nat.le_of_ble_eq_true rfl), (Nat.le_of_ble_eq_true rfl)⟩ ?_
      refine r_l2i C (z_d dd_Seq_takeAll 30 rfl) ?_
      obtain ⟨h15, h⟩ := zif h
      obtain ⟨h16, h⟩ := zif h
      obtain ⟨M17, e18, h⟩ := zlet_ex h
      have h19 := k_i e18 h15
      refine r_iast C (z_d dd_Seq_takeAll 31 rfl) h15 h16 e18 ?_
      obtain ⟨v20, e21, h⟩ := zlet_ex h
      refine r_iinc (v := v20) (lv' := [some (zP l0), some (zI l1), some (zI l2), none, some (zI v20), none]) C (z_d dd_Seq_takeAll 32 rfl) rfl (Nat.le_of_ble_eq_true rfl) (by rw [e21]; rfl) rfl ?_
      refine r_goto C 30 (z_d dd_Seq_takeAll 33 rfl) (by decide) ?_
      exact ih l0 l1 l2 v20 M17 h
def f_Seq_takeAll_0 (O : zO) (n : Nat) (l0 : Nat) (l1 : Int32) (l2 : Int32) (l3 : Int32) (M : zM) : Option (Int32 × zM) :=
  if z_k M l0 = 10 then
  if z_k M (z_p M l0 4) = 12 then
  (F_Stream_open O n (z_p M l0 4) (z_p M l0 0) l2 l3 M).bind fun q3 =>
  if q3.1 = 0 then
  if z_k q3.2 l0 = 10 then
  if z_k q3.2 (z_p q3.2 l0 1) = 8 then
  (F_Rep_fail O n (z_p q3.2 l0 1) (17 : Int32) l2 q3.2).bind fun q7 =>
  if q7.1 = 0 ∨ q7.1 = 1 then
  some (q7.1, q7.2)
  else none
  else none
  else none
  else
  f_Seq_takeAll_30 O n l0 l1 l2 (0 : Int32) q3.2
  else none
  else none
set_option maxRecDepth 100000 in
set_option maxHeartbeats 4000000 in
theorem s_Seq_takeAll_0 {X : zX} {q : Int32 × zM} (C : zC X zR9 prog_10_method_5_code 6 { frames := 4, cells := 0, slots := 0, locals := 138 }) (hr : zRt X (some .boolean)) (E : zE X (some (zI q.1)) q.2 0 0) : ∀ (n : Nat) (l0 : Nat) (l1 : Int32) (l2 : Int32) (l3 : Int32) (M : zM), f_Seq_takeAll_0 (zOD X) n l0 l1 l2 l3 M = some q → zW X 0 0 0 [some (zP l0), some (zI l1), some (zI l2), some (zI l3), none, none] [] M := by
  intro n l0 l1 l2 l3 M h
  rw [f_Seq_takeAll_0] at h
  refine r_aload_n C (z_d dd_Seq_takeAll 0 rfl) rfl ?_
  obtain ⟨h1, h⟩ := zif h
  refine r_getP C (z_d dd_Seq_takeAll 1 rfl) lk_Seq_30 rfl h1 rfl ?_
  refine r_aload_n C (z_d dd_Seq_takeAll 2 rfl) rfl ?_
  refine r_getP C (z_d dd_Seq_takeAll 3 rfl) lk_Seq_9 rfl h1 rfl ?_
  refine r_iload_n C (z_d dd_Seq_takeAll 4 rfl) rfl ?_
  refine r_iload_n C (z_d dd_Seq_takeAll 5 rfl) rfl ?_
  obtain ⟨h2, h⟩ := zif h
  obtain ⟨q3, c4, h⟩ := zbd h
  refine r_invV (as := [zP (z_p M l0 0), zI l2, zI l3]) C 11 (S_Stream_open c4) (z_d dd_Seq_takeAll 6 rfl) ok_Stream_open iv_Stream_open se_Stream_open ml_Seq_150 rfl rfl h2 rfl rfl rfl (Nat.le_of_ble_eq_true rfl) ⟨(Nat.le_of_ble_eq_true rfl), (Nat.le_of_ble_eq_true rfl)⟩ ⟨(Nat.le_of_ble_eq_true rfl), (Nat.le_of_ble_eq_true rfl)⟩ ?_
  refine r_if_ne C 27 (z_d dd_Seq_takeAll 7 rfl) (by decide) (fun c10 => ?_) (fun c10 => ?_)
  · have h := ziff h c10
    refine r_iconst (v := (0 : Int32)) C (z_d dd_Seq_takeAll 14 rfl) (by decide) ?_
    refine r_istore (lv' := [some (zP l0), some (zI l1), some (zI l2), some (zI l3), some (zI (0 : Int32)), none]) C (z_d dd_Seq_takeAll 15 rfl) (Nat.le_of_ble_eq_true rfl) rfl ?_
    refine r_mk [true, true, true, false, true, false] ?_
    exact s_Seq_takeAll_30 C hr E n l0 l1 l2 (0 : Int32) q3.2 h
  · have h := zift h c10
    refine r_aload_n C (z_d dd_Seq_takeAll 8 rfl) rfl ?_
    obtain ⟨h5, h⟩ := zif h
    refine r_getP C (z_d dd_Seq_takeAll 9 rfl) lk_Seq_15 rfl h5 rfl ?_
    refine r_bipush (v := (17 : Int32)) C (z_d dd_Seq_takeAll 10 rfl) (by decide) ?_
    refine r_iload_n C (z_d dd_Seq_takeAll 11 rfl) rfl ?_
    obtain ⟨h6, h⟩ := zif h
    obtain ⟨q7, c8, h⟩ := zbd h
    refine r_invV (as := [zI (17 : Int32), zI l2]) C 7 (S_Rep_fail c8) (z_d dd_Seq_takeAll 12 rfl) ok_Rep_fail iv_Rep_fail se_Rep_fail ml_Seq_120 rfl rfl h6 rfl rfl rfl (Nat.le_of_ble_eq_true rfl) ⟨(Nat.le_of_ble_eq_true rfl), (Nat.le_of_ble_eq_true rfl)⟩ ⟨(Nat.le_of_ble_eq_true rfl), (Nat.le_of_ble_eq_true rfl)⟩ ?_
    obtain ⟨h9, h⟩ := zif h
    obtain rfl := z_res h
    exact r_iretZ C E hr (z_d dd_Seq_takeAll 13 rfl) h9 (Nat.le_of_ble_eq_true rfl) (Nat.le_of_ble_eq_true rfl)
def F_Seq_takeAll (O : zO) (n : Nat) (l0 : Nat) (l1 : Int32) (l2 : Int32) (l3 : Int32) (M : zM) : Option (Int32 × zM) := f_Seq_takeAll_0 O n l0 l1 l2 l3 M
theorem S_Seq_takeAll {l : Launch} {D : zD} {n : Nat} {l0 : Nat} {l1 : Int32} {l2 : Int32} {l3 : Int32} {M : zM} {q : Int32 × zM} (h : F_Seq_takeAll D.2.2.2.2 n l0 l1 l2 l3 M = some q) : zMet l D mi_Seq_takeAll [zP l0, zI l1, zI l2, zI l3] M (some (zI q.1)) q.2 :=
  z_met (by decide) (Nat.le_of_ble_eq_true rfl) (fun X C E hr hin hD hl => by
    subst hD
    exact s_Seq_takeAll_0 C hr E n l0 l1 l2 l3 M h)

def f_Seq_take_271 (O : zO) (n : Nat) (s0 : Int32) (M : zM) : Option (Int32 × zM) :=
  if s0 = 0 ∨ s0 = 1 then
  some (s0, M)
  else none
set_option maxRecDepth 100000 in
set_option maxHeartbeats 4000000 in
theorem s_Seq_take_271 {X : zX} {q : Int32 × zM} (C : zC X zR9 prog_10_method_3_code 10 { frames := 5, cells := 0, slots := 0, locals := 163 }) (hr : zRt X (some .boolean)) (E : zE X (some (zI q.1)) q.2 0 0) : ∀ (n : Nat) (s0 : Int32) (M : zM), f_Seq_take_271 (zOD X) n s0 M = some q → zW X 0 0 271 [none, none, none, none, none, none, none, none, none, none] [zI s0] M := by
  intro n s0 M h
  rw [f_Seq_take_271] at h
  obtain ⟨h1, h⟩ := zif h
  obtain rfl := z_res h
  exact r_iretZ C E hr (z_d dd_Seq_take 138 rfl) h1 (Nat.le_of_ble_eq_true rfl) (Nat.le_of_ble_eq_true rfl)
def f_Seq_take_270 (O : zO) (n : Nat) (M : zM) : Option (Int32 × zM) :=
  f_Seq_take_271 O n (0 : Int32) M
set_option maxRecDepth 100000 in
set_option maxHeartbeats 4000000 in
theorem s_Seq_take_270 {X : zX} {q : Int32 × zM} (C : zC X zR9 prog_10_method_3_code 10 { frames := 5, cells := 0, slots := 0, locals := 163 }) (hr : zRt X (some .boolean)) (E : zE X (some (zI q.1)) q.2 0 0) : ∀ (n : Nat) (M : zM), f_Seq_take_270 (zOD X) n M = some q → zW X 0 0 270 [none, none, none, none, none, none, none, none, none, none] [] M := by
  intro n M h
  rw [f_Seq_take_270] at h
  refine r_iconst (v := (0 : Int32)) C (z_d dd_Seq_take 137 rfl) (by decide) ?_
  exact s_Seq_take_271 C hr E n (0 : Int32) M h
def f_Seq_take_239 (O : zO) (n : Nat) (l0 : Nat) (l3 : Int32) (l7 : Int32) (l8 : Int32) (M : zM) : Option (Int32 × zM) :=
  if l8 = (-1 : Int32) then
  f_Seq_take_270 O n M
  else
  if z_k M l0 = 10 then
  (F_Seq_takeAll O n l0 l7 l8 l3 M).bind fun q2 =>
  if q2.1 = 0 then
  f_Seq_take_270 O n q2.2
  else
  if z_k q2.2 l0 = 10 then
  (F_Seq_takeRest O n l0 l8 q2.2).bind fun q5 =>
  if q5.1 = 0 then
  f_Seq_take_270 O n q5.2
  else
  f_Seq_take_271 O n (1 : Int32) q5.2
  else none
  else none
set_option maxRecDepth 100000 in
set_option maxHeartbeats 4000000 in
theorem s_Seq_take_239 {X : zX} {q : Int32 × zM} (C : zC X zR9 prog_10_method_3_code 10 { frames := 5, cells := 0, slots := 0, locals := 163 }) (hr : zRt X (some .boolean)) (E : zE X (some (zI q.1)) q.2 0 0) : ∀ (n : Nat) (l0 : Nat) (l3 : Int32) (l7 : Int32) (l8 : Int32) (M : zM), f_Seq_take_239 (zOD X) n l0 l3 l7 l8 M = some q → zW X 0 0 239 [some (zP l0), none, none, some (zI l3), none, none, none, some (zI l7), some (zI l8), none] [] M := by
  intro n l0 l3 l7 l8 M h
  rw [f_Seq_take_239] at h
  refine r_iload C (z_d dd_Seq_take 122 rfl) rfl ?_
  refine r_iconst (v := (-1 : Int32)) C (z_d dd_Seq_take 123 rfl) (by decide) ?_
  refine r_icmp_eq C 270 (z_d dd_Seq_take 124 rfl) (by decide) (fun c9 => ?_) (fun c9 => ?_)
  · have h := zift h c9
    refine r_mk [false, false, false, false, false, false, false, false, false, false] ?_
    exact s_Seq_take_270 C hr E n M h
  · have h := ziff h c9
    refine r_aload_n C (z_d dd_Seq_take 125 rfl) rfl ?_
    refine r_iload C (z_d dd_Seq_take 126 rfl) rfl ?_
    refine r_iload C (z_d dd_Seq_take 127 rfl) rfl ?_
    refine r_iload_n C (z_d dd_Seq_take 128 rfl) rfl ?_
    obtain ⟨h1, h⟩ := zif h
    obtain ⟨q2, c3, h⟩ := zbd h
    refine r_invV (as := [zI l7, zI l8, zI l3]) C 9 (S_Seq_takeAll c3) (z_d dd_Seq_take 129 rfl) ok_Seq_takeAll iv_Seq_takeAll se_Seq_takeAll ml_Seq_138 rfl rfl h1 rfl rfl rfl (Nat.le_of_ble_eq_true rfl) ⟨(Nat.le_of_ble_eq_true rfl), (Nat.le_of_ble_eq_true rfl)⟩ ⟨(Nat.le_of_ble_eq_true rfl), (Nat.le_of_ble_eq_true rfl)⟩ ?_
    refine r_if_eq C 270 (z_d dd_Seq_take 130 rfl) (by decide) (fun c8 => ?_) (fun c8 => ?_)
    · have h := zift h c8
      refine r_mk [false, false, false, false, false, false, false, false, false, false] ?_
      exact s_Seq_take_270 C hr E n q2.2 h
    · have h := ziff h c8
      refine r_aload_n C (z_d dd_Seq_take 131 rfl) rfl ?_
      refine r_iload C (z_d dd_Seq_take 132 rfl) rfl ?_
      obtain ⟨h4, h⟩ := zif h
      obtain ⟨q5, c6, h⟩ := zbd h
      refine r_invV (as := [zI l8]) C 9 (S_Seq_takeRest c6) (z_d dd_Seq_take 133 rfl) ok_Seq_takeRest iv_Seq_takeRest se_Seq_takeRest ml_Seq_130 rfl rfl h4 rfl rfl rfl (Nat.le_of_ble_eq_true rfl) ⟨(Nat.le_of_ble_eq_true rfl), (Nat.le_of_ble_eq_true rfl)⟩ ⟨(Nat.le_of_ble_eq_true rfl), (Nat.le_of_ble_eq_true rfl)⟩ ?_
      refine r_if_eq C 270 (z_d dd_Seq_take 134 rfl) (by decide) (fun c7 => ?_) (fun c7 => ?_)
      · have h := zift h c7
        refine r_mk [false, false, false, false, false, false, false, false, false, false] ?_
        exact s_Seq_take_270 C hr E n q5.2 h
      · have h := ziff h c7
        refine r_iconst (v := (1 : Int32)) C (z_d dd_Seq_take 135 rfl) (by decide) ?_
        refine r_goto C 271 (z_d dd_Seq_take 136 rfl) (by decide) ?_
        refine r_mk [false, false, false, false, false, false, false, false, false, false] ?_
        exact s_Seq_take_271 C hr E n (1 : Int32) q5.2 h
def f_Seq_take_208 (O : zO) : Nat → Nat → Int32 → Int32 → Int32 → Int32 → Int32 → zM → Option (Int32 × zM)
  | 0, _, _, _, _, _, _, _ => none
  | n + 1, l0, l3, l6, l7, l8, l9, M =>
    if (3 : Int32) ≤ l9 then
    f_Seq_take_239 O n l0 l3 l7 l8 M
    else
    if l8 = (-1 : Int32) then
    f_Seq_take_239 O n l0 l3 l7 l8 M
    else
    if z_k M l0 = 10 then
    (F_Seq_takeTable O n l0 l9 l6 l8 l3 M).bind fun q2 =>
    zlet (l9 + (1 : Int32)) fun v4 =>
    f_Seq_take_208 O n l0 l3 l6 l7 q2.1 v4 q2.2
    else none
set_option maxRecDepth 100000 in
set_option maxHeartbeats 4000000 in
theorem s_Seq_take_208 {X : zX} {q : Int32 × zM} (C : zC X zR9 prog_10_method_3_code 10 { frames := 5, cells := 0, slots := 0, locals := 163 }) (hr : zRt X (some .boolean)) (E : zE X (some (zI q.1)) q.2 0 0) : ∀ (n : Nat) (l0 : Nat) (l3 : Int32) (l6 : Int32) (l7 : Int32) (l8 : Int32) (l9 : Int32) (M : zM), f_Seq_take_208 (zOD X) n l0 l3 l6 l7 l8 l9 M = some q → zW X 0 0 208 [some (zP l0), none, none, some (zI l3), none, none, some (zI l6), some (zI l7), some (zI l8), some (zI l9)] [] M := by
  intro n
  induction n with
  | zero => intro l0 l3 l6 l7 l8 l9 M h; rw [f_Seq_take_208] at h; cases h
  | succ n ih =>
    intro l0 l3 l6 l7 l8 l9 M h
    rw [f_Seq_take_208] at h
    refine r_iload C (z_d dd_Seq_take 107 rfl) rfl ?_
    refine r_iconst (v := (3 : Int32)) C (z_d dd_Seq_take 108 rfl) (by decide) ?_
    refine r_icmp_ge C 239 (z_d dd_Seq_take 109 rfl) (by decide) (fun c7 => ?_) (fun c7 => ?_)
    · have h := zift h c7
      refine r_mk [true, false, false, true, false, false, false, true, true, false] ?_
      exact s_Seq_take_239 C hr E n l0 l3 l7 l8 M h
    · have h := ziff h c7
      refine r_iload C (z_d dd_Seq_take 110 rfl) rfl ?_
      refine r_iconst (v := (-1 : Int32)) C (z_d dd_Seq_take 111 rfl) (by decide) ?_
      refine r_icmp_eq C 239 (z_d dd_Seq_take 112 rfl) (by decide) (fun c6 => ?_) (fun c6 => ?_)
      · have h := zift h c6
        refine r_mk [true, false, false, true, false, false, false, true, true, false] ?_
        exact s_Seq_take_239 C hr E n l0 l3 l7 l8 M h
      · have h := ziff h c6
        refine r_aload_n C (z_d dd_Seq_take 113 rfl) rfl ?_
        refine r_iload C (z_d dd_Seq_take 114 rfl) rfl ?_
        refine r_iload C (z_d dd_Seq_take 115 rfl) rfl ?_
        refine r_iload C (z_d dd_Seq_take 116 rfl) rfl ?_
        refine r_iload_n C (z_d dd_Seq_take 117 rfl) rfl ?_
        obtain ⟨h1, h⟩ := zif h
        obtain ⟨q2, c3, h⟩ := zbd h
        refine r_invV (as := [zI l9, zI l6, zI l8, zI l3]) C 9 (S_Seq_takeTable c3) (z_d dd_Seq_take 118 rfl) ok_Seq_takeTable iv_Seq_takeTable se_Seq_takeTable ml_Seq_134 rfl rfl h1 rfl rfl rfl (Nat.le_of_ble_eq_true rfl) ⟨(Nat.le_of_ble_eq_true rfl), (Nat.le_of_ble_eq_true rfl)⟩ ⟨(Nat.le_of_ble_eq_true rfl), (Nat.le_of_ble_eq_true rfl)⟩ ?_
        refine r_istore (lv' := [some (zP l0), none, none, some (zI l3), none, none, some (zI l6), some (zI l7), some (zI q2.1), some (zI l9)]) C (z_d dd_Seq_take 119 rfl) (Nat.le_of_ble_eq_true rfl) rfl ?_
        obtain ⟨v4, e5, h⟩ := zlet_ex h
        refine r_iinc (v := v4) (lv' := [some (zP l0), none, none, some (zI l3), none, none, some (zI l6), some (zI l7), some (zI q2.1), some (zI v4)]) C (z_d dd_Seq_take 120 rfl) rfl (Nat.le_of_ble_eq_true rfl) (by rw [e5]; rfl) rfl ?_
        refine r_goto C 208 (z_d dd_Seq_take 121 rfl) (by decide) ?_
        exact ih l0 l3 l6 l7 q2.1 v4 q2.2 h
def f_Seq_take_155 (O : zO) (n : Nat) (s0 : Int32) (M : zM) : Option (Int32 × zM) :=
  if s0 = 0 ∨ s0 = 1 then
  some (s0, M)
  else none
set_option maxRecDepth 100000 in
set_option maxHeartbeats 4000000 in
theorem s_Seq_take_155 {X : zX} {q : Int32 × zM} (C : zC X zR9 prog_10_method_3_code 10 { frames := 5, cells := 0, slots := 0, locals := 163 }) (hr : zRt X (some .boolean)) (E : zE X (some (zI q.1)) q.2 0 0) : ∀ (n : Nat) (s0 : Int32) (M : zM), f_Seq_take_155 (zOD X) n s0 M = some q → zW X 0 0 155 [none, none, none, none, none, none, none, none, none, none] [zI s0] M := by
  intro n s0 M h
  rw [f_Seq_take_155] at h
  obtain ⟨h1, h⟩ := zif h
  obtain rfl := z_res h
  exact r_iretZ C E hr (z_d dd_Seq_take 78 rfl) h1 (Nat.le_of_ble_eq_true rfl) (Nat.le_of_ble_eq_true rfl)
def f_Seq_take_123 (O : zO) (n : Nat) (l0 : Nat) (l1 : Int32) (l3 : Int32) (l6 : Int32) (s0 : Int32) (M : zM) : Option (Int32 × zM) :=
  if s0 = 0 then
  if l3 ≤ l6 then
  if z_k M l0 = 10 then
  (F_Seq_takeRest O n l0 l1 M).bind fun q20 =>
  f_Seq_take_155 O n q20.1 q20.2
  else none
  else
  if z_k M l0 = 10 then
  if z_k M (z_p M l0 1) = 8 then
  (F_Rep_fail O n (z_p M l0 1) (15 : Int32) l6 M).bind fun q24 =>
  f_Seq_take_155 O n q24.1 q24.2
  else none
  else none
  else
  if l6 < l3 then
  if z_k M l0 = 10 then
  if z_k M (z_p M l0 0) = 9 then
  (F_Row_at O n (z_p M l0 0) l6 M).bind fun q3 =>
  if (q3.1 &&& (3 : Int32)) = 0 then
  zlet (l6 + (1 : Int32)) fun v5 =>
  f_Seq_take_208 O n l0 l3 l6 s0 v5 (0 : Int32) q3.2
  else
  if z_k q3.2 l0 = 10 then
  if z_k q3.2 (z_p q3.2 l0 1) = 8 then
  (F_Rep_fail O n (z_p q3.2 l0 1) (15 : Int32) l6 q3.2).bind fun q9 =>
  if q9.1 = 0 ∨ q9.1 = 1 then
  some (q9.1, q9.2)
  else none
  else none
  else none
  else none
  else none
  else
  if z_k M l0 = 10 then
  if z_k M (z_p M l0 1) = 8 then
  (F_Rep_fail O n (z_p M l0 1) (10 : Int32) l3 M).bind fun q15 =>
  if q15.1 = 0 ∨ q15.1 = 1 then
  some (q15.1, q15.2)
  else none
  else none
  else none
set_option maxRecDepth 100000 in
set_option maxHeartbeats 4000000 in
theorem s_Seq_take_123 {X : zX} {q : Int32 × zM} (C : zC X zR9 prog_10_method_3_code 10 { frames := 5, cells := 0, slots := 0, locals := 163 }) (hr : zRt X (some .boolean)) (E : zE X (some (zI q.1)) q.2 0 0) : ∀ (n : Nat) (l0 : Nat) (l1 : Int32) (l3 : Int32) (l6 : Int32) (s0 : Int32) (M : zM), f_Seq_take_123 (zOD X) n l0 l1 l3 l6 s0 M = some q → zW X 0 0 123 [some (zP l0), some (zI l1), none, some (zI l3), none, none, some (zI l6), none, none, none] [zI s0] M := by
  intro n l0 l1 l3 l6 s0 M h
  rw [f_Seq_take_123] at h
  refine r_istore (lv' := [some (zP l0), some (zI l1), none, some (zI l3), none, none, some (zI l6), some (zI s0), none, none]) C (z_d dd_Seq_take 63 rfl) (Nat.le_of_ble_eq_true rfl) rfl ?_
  refine r_iload C (z_d dd_Seq_take 64 rfl) rfl ?_
  refine r_if_ne C 156 (z_d dd_Seq_take 65 rfl) (by decide) (fun c27 => ?_) (fun c27 => ?_)
  · have h := ziff h c27
    refine r_iload C (z_d dd_Seq_take 79 rfl) rfl ?_
    refine r_iload_n C (z_d dd_Seq_take 80 rfl) rfl ?_
    refine r_icmp_lt C 173 (z_d dd_Seq_take 81 rfl) (by decide) (fun c18 => ?_) (fun c18 => ?_)
    · have h := zift h c18
      refine r_aload_n C (z_d dd_Seq_take 88 rfl) rfl ?_
      obtain ⟨h1, h⟩ := zif h
      refine r_getP C (z_d dd_Seq_take 89 rfl) lk_Seq_9 rfl h1 rfl ?_
      refine r_iload C (z_d dd_Seq_take 90 rfl) rfl ?_
      obtain ⟨h2, h⟩ := zif h
      obtain ⟨q3, c4, h⟩ := zbd h
      refine r_invV (as := [zI l6]) C 8 (S_Row_at c4) (z_d dd_Seq_take 91 rfl) ok_Row_at iv_Row_at se_Row_at ml_Seq_114 rfl rfl h2 rfl rfl rfl (Nat.le_of_ble_eq_true rfl) ⟨(Nat.le_of_ble_eq_true rfl), (Nat.le_of_ble_eq_true rfl)⟩ ⟨(Nat.le_of_ble_eq_true rfl), (Nat.le_of_ble_eq_true rfl)⟩ ?_
      refine r_iconst (v := (3 : Int32)) C (z_d dd_Seq_take 92 rfl) (by decide) ?_
      refine r_iand C (z_d dd_Seq_take 93 rfl) ?_
      refine r_if_eq C 199 (z_d dd_Seq_take 94 rfl) (by decide) (fun c12 => ?_) (fun c12 => ?_)
      · have h := zift h c12
        refine r_iload C (z_d dd_Seq_take 101 rfl) rfl ?_
        refine r_iconst (v := (1 : Int32)) C (z_d dd_Seq_take 102 rfl) (by decide) ?_
        refine r_iadd C (z_d dd_Seq_take 103 rfl) ?_
        obtain ⟨v5, e6, h⟩ := zlet_ex h
        refine r_nmI e6 ?_
        refine r_istore (lv' := [some (zP l0), some (zI l1), none, some (zI l3), none, none, some (zI l6), some (zI s0), some (zI v5), none]) C (z_d dd_Seq_take 104 rfl) (Nat.le_of_ble_eq_true rfl) rfl ?_
        refine r_iconst (v := (0 : Int32)) C (z_d dd_Seq_take 105 rfl) (by decide) ?_
        refine r_istore (lv' := [some (zP l0), some (zI l1), none, some (zI l3), none, none, some (zI l6), some (zI s0), some (zI v5), some (zI (0 : Int32))]) C (z_d dd_Seq_take 106 rfl) (Nat.le_of_ble_eq_true rfl) rfl ?_
        refine r_mk [true, false, false, true, false, false, true, true, true, true] ?_
        exact s_Seq_take_208 C hr E n l0 l3 l6 s0 v5 (0 : Int32) q3.2 h
      · have h := ziff h c12
        refine r_aload_n C (z_d dd_Seq_take 95 rfl) rfl ?_
        obtain ⟨h7, h⟩ := zif h
        refine r_getP C (z_d dd_Seq_take 96 rfl) lk_Seq_15 rfl h7 rfl ?_
        refine r_bipush (v := (15 : Int32)) C (z_d dd_Seq_take 97 rfl) (by decide) ?_
        refine r_iload C (z_d dd_Seq_take 98 rfl) rfl ?_
        obtain ⟨h8, h⟩ := zif h
        obtain ⟨q9, c10, h⟩ := zbd h
        refine r_invV (as := [zI (15 : Int32), zI l6]) C 7 (S_Rep_fail c10) (z_d dd_Seq_take 99 rfl) ok_Rep_fail iv_Rep_fail se_Rep_fail ml_Seq_120 rfl rfl h8 rfl rfl rfl (Nat.le_of_ble_eq_true rfl) ⟨(Nat.le_of_ble_eq_true rfl), (Nat.le_of_ble_eq_true rfl)⟩ ⟨(Nat.le_of_ble_eq_true rfl), (Nat.le_of_ble_eq_true rfl)⟩ ?_
        obtain ⟨h11, h⟩ := zif h
        obtain rfl := z_res h
        exact r_iretZ C E hr (z_d dd_Seq_take 100 rfl) h11 (Nat.le_of_ble_eq_true rfl) (Nat.le_of_ble_eq_true rfl)
    · have h := ziff h c18
      refine r_aload_n C (z_d dd_Seq_take 82 rfl) rfl ?_
      obtain ⟨h13, h⟩ := zif h
      refine r_getP C (z_d dd_Seq_take 83 rfl) lk_Seq_15 rfl h13 rfl ?_
      refine r_bipush (v := (10 : Int32)) C (z_d dd_Seq_take 84 rfl) (by decide) ?_
      refine r_iload_n C (z_d dd_Seq_take 85 rfl) rfl ?_
      obtain ⟨h14, h⟩ := zif h
      obtain ⟨q15, c16, h⟩ := zbd h
      refine r_invV (as := [zI (10 : Int32), zI l3]) C 7 (S_Rep_fail c16) (z_d dd_Seq_take 86 rfl) ok_Rep_fail iv_Rep_fail se_Rep_fail ml_Seq_120 rfl rfl h14 rfl rfl rfl (Nat.le_of_ble_eq_true rfl) ⟨(Nat.le_of_ble_eq_true rfl), (Nat.le_of_ble_eq_true rfl)⟩ ⟨(Nat.le_of_ble_eq_true rfl), (Nat.le_of_ble_eq_true rfl)⟩ ?_
      obtain ⟨h17, h⟩ := zif h
      obtain rfl := z_res h
      exact r_iretZ C E hr (z_d dd_Seq_take 87 rfl) h17 (Nat.le_of_ble_eq_true rfl) (Nat.le_of_ble_eq_true rfl)
  · have h := zift h c27
    refine r_iload C (z_d dd_Seq_take 66 rfl) rfl ?_
    refine r_iload_n C (z_d dd_Seq_take 67 rfl) rfl ?_
    refine r_icmp_ge C 150 (z_d dd_Seq_take 68 rfl) (by decide) (fun c26 => ?_) (fun c26 => ?_)
    · have h := zift h c26
      refine r_aload_n C (z_d dd_Seq_take 75 rfl) rfl ?_
      refine r_iload_n C (z_d dd_Seq_take 76 rfl) rfl ?_
      obtain ⟨h19, h⟩ := zif h
      obtain ⟨q20, c21, h⟩ := zbd h
      refine r_invV (as := [zI l1]) C 9 (S_Seq_takeRest c21) (z_d dd_Seq_take 77 rfl) ok_Seq_takeRest iv_Seq_takeRest se_Seq_takeRest ml_Seq_130 rfl rfl h19 rfl rfl rfl (Nat.le_of_ble_eq_true rfl) ⟨(Nat.le_of_ble_eq_true rfl), (Nat.le_of_ble_eq_true rfl)⟩ ⟨(Nat.le_of_ble_eq_true rfl), (Nat.le_of_ble_eq_true rfl)⟩ ?_
      refine r_mk [false, false, false, false, false, false, false, false, false, false] ?_
      exact s_Seq_take_155 C hr E n q20.1 q20.2 h
    · have h := ziff h c26
      refine r_aload_n C (z_d dd_Seq_take 69 rfl) rfl ?_
      obtain ⟨h22, h⟩ := zif h
      refine r_getP C (z_d dd_Seq_take 70 rfl) lk_Seq_15 rfl h22 rfl ?_
      refine r_bipush (v := (15 : Int32)) C (z_d dd_Seq_take 71 rfl) (by decide) ?_
      refine r_iload C (z_d dd_Seq_take 72 rfl) rfl ?_
      obtain ⟨h23, h⟩ := zif h
      obtain ⟨q24, c25, h⟩ := zbd h
      refine r_invV (as := [zI (15 : Int32), zI l6]) C 7 (S_Rep_fail c25) (z_d dd_Seq_take 73 rfl) ok_Rep_fail iv_Rep_fail se_Rep_fail ml_Seq_120 rfl rfl h23 rfl rfl rfl (Nat.le_of_ble_eq_true rfl) ⟨(Nat.le_of_ble_eq_true rfl), (Nat.le_of_ble_eq_true rfl)⟩ ⟨(Nat.le_of_ble_eq_true rfl), (Nat.le_of_ble_eq_true rfl)⟩ ?_
      refine r_goto C 155 (z_d dd_Seq_take 74 rfl) (by decide) ?_
      refine r_mk [false, false, false, false, false, false, false, false, false, false] ?_
      exact s_Seq_take_155 C hr E n q24.1 q24.2 h
def f_Seq_take_35 (O : zO) (n : Nat) (l0 : Nat) (l1 : Int32) (l2 : Int32) (l3 : Int32) (l4 : Int32) (s0 : Int32) (M : zM) : Option (Int32 × zM) :=
  if s0 ≤ (l3 - l2) then
  zlet (l2 + s0) fun v1 =>
  if (128 : Int32) ≤ l4 then
  if (255 : Int32) ≤ l4 then
  if z_k M l0 = 10 then
  if z_k M (z_p M l0 0) = 9 then
  (F_Row_number O n (z_p M l0 0) (l2 + (1 : Int32)) (2 : Int32) M).bind fun q5 =>
  f_Seq_take_123 O n l0 l1 l3 v1 (q5.1.toInt32 + (32512 : Int32)) q5.2
  else none
  else none
  else
  if z_k M l0 = 10 then
  if z_k M (z_p M l0 0) = 9 then
  (F_Row_at O n (z_p M l0 0) (l2 + (1 : Int32)) M).bind fun q9 =>
  f_Seq_take_123 O n l0 l1 l3 v1 (((256 : Int32) * (l4 - (128 : Int32))) + q9.1) q9.2
  else none
  else none
  else
  f_Seq_take_123 O n l0 l1 l3 v1 l4 M
  else
  if z_k M l0 = 10 then
  if z_k M (z_p M l0 1) = 8 then
  (F_Rep_fail O n (z_p M l0 1) (10 : Int32) l3 M).bind fun q15 =>
  if q15.1 = 0 ∨ q15.1 = 1 then
  some (q15.1, q15.2)
  else none
  else none
  else none
set_option maxRecDepth 100000 in
set_option maxHeartbeats 4000000 in
theorem s_Seq_take_35 {X : zX} {q : Int32 × zM} (C : zC X zR9 prog_10_method_3_code 10 { frames := 5, cells := 0, slots := 0, locals := 163 }) (hr : zRt X (some .boolean)) (E : zE X (some (zI q.1)) q.2 0 0) : ∀ (n : Nat) (l0 : Nat) (l1 : Int32) (l2 : Int32) (l3 : Int32) (l4 : Int32) (s0 : Int32) (M : zM), f_Seq_take_35 (zOD X) n l0 l1 l2 l3 l4 s0 M = some q → zW X 0 0 35 [some (zP l0), some (zI l1), some (zI l2), some (zI l3), some (zI l4), none, none, none, none, none] [zI s0] M := by
  intro n l0 l1 l2 l3 l4 s0 M h
  rw [f_Seq_take_35] at h
  refine r_istore (lv' := [some (zP l0), some (zI l1), some (zI l2), some (zI l3), some (zI l4), some (zI s0), none, none, none, none]) C (z_d dd_Seq_take 16 rfl) (Nat.le_of_ble_eq_true rfl) rfl ?_
  refine r_iload_n C (z_d dd_Seq_take 17 rfl) rfl ?_
  refine r_iload_n C (z_d dd_Seq_take 18 rfl) rfl ?_
  refine r_isub C (z_d dd_Seq_take 19 rfl) ?_
  refine r_iload C (z_d dd_Seq_take 20 rfl) rfl ?_
  refine r_icmp_ge C 56 (z_d dd_Seq_take 21 rfl) (by decide) (fun c18 => ?_) (fun c18 => ?_)
  · have h := zift h c18
    refine r_iload_n C (z_d dd_Seq_take 28 rfl) rfl ?_
    refine r_iload C (z_d dd_Seq_take 29 rfl) rfl ?_
    refine r_iadd C (z_d dd_Seq_take 30 rfl) ?_
    obtain ⟨v1, e2, h⟩ := zlet_ex h
    refine r_nmI e2 ?_
    refine r_istore (lv' := [some (zP l0), some (zI l1), some (zI l2), some (zI l3), some (zI l4), some (zI s0), some (zI v1), none, none, none]) C (z_d dd_Seq_take 31 rfl) (Nat.le_of_ble_eq_true rfl) rfl ?_
    refine r_iload C (z_d dd_Seq_take 32 rfl) rfl ?_
    refine r_sipush (v := (128 : Int32)) C (z_d dd_Seq_take 33 rfl) (by decide) ?_
    refine r_icmp_ge C 75 (z_d dd_Seq_take 34 rfl) (by decide) (fun c12 => ?_) (fun c12 => ?_)
    · have h := zift h c12
      refine r_iload C (z_d dd_Seq_take 37 rfl) rfl ?_
      refine r_sipush (v := (255 : Int32)) C (z_d dd_Seq_take 38 rfl) (by decide) ?_
      refine r_icmp_ge C 107 (z_d dd_Seq_take 39 rfl) (by decide) (fun c11 => ?_) (fun c11 => ?_)
      · have h := zift h c11
        refine r_aload_n C (z_d dd_Seq_take 53 rfl) rfl ?_
        obtain ⟨h3, h⟩ := zif h
        refine r_getP C (z_d dd_Seq_take 54 rfl) lk_Seq_9 rfl h3 rfl ?_
        refine r_iload_n C (z_d dd_Seq_take 55 rfl) rfl ?_
        refine r_iconst (v := (1 : Int32)) C (z_d dd_Seq_take 56 rfl) (by decide) ?_
        refine r_iadd C (z_d dd_Seq_take 57 rfl) ?_
        refine r_iconst (v := (2 : Int32)) C (z_d dd_Seq_take 58 rfl) (by decide) ?_
        obtain ⟨h4, h⟩ := zif h
        obtain ⟨q5, c6, h⟩ := zbd h
        refine r_invV (as := [zI (l2 + (1 : Int32)), zI (2 : Int32)]) C 8 (S_Row_number c6) (z_d dd_Seq_take 59 rfl) ok_Row_number iv_Row_number se_Row_number ml_Seq_126 rfl rfl h4 rfl rfl rfl (Nat.le_of_ble_eq_true rfl) ⟨(Nat.le_of_ble_eq_true rfl), (Nat.le_of_ble_eq_true rfl)⟩ ⟨(Nat.le_of_ble_eq_true rfl), (Nat.le_of_ble_eq_true rfl)⟩ ?_
        refine r_l2i C (z_d dd_Seq_take 60 rfl) ?_
        refine r_sipush (v := (32512 : Int32)) C (z_d dd_Seq_take 61 rfl) (by decide) ?_
        refine r_iadd C (z_d dd_Seq_take 62 rfl) ?_
        refine r_mk [true, true, false, true, false, false, true, false, false, false] ?_
        exact s_Seq_take_123 C hr E n l0 l1 l3 v1 (q5.1.toInt32 + (32512 : Int32)) q5.2 h
      · have h := ziff h c11
        refine r_sipush (v := (256 : Int32)) C (z_d dd_Seq_take 40 rfl) (by decide) ?_
        refine r_iload C (z_d dd_Seq_take 41 rfl) rfl ?_
        refine r_sipush (v := (128 : Int32)) C (z_d dd_Seq_take 42 rfl) (by decide) ?_
        refine r_isub C (z_d dd_Seq_take 43 rfl) ?_
        refine r_imul C (z_d dd_Seq_take 44 rfl) ?_
        refine r_aload_n C (z_d dd_Seq_take 45 rfl) rfl ?_
        obtain ⟨h7, h⟩ := zif h
        refine r_getP C (z_d dd_Seq_take 46 rfl) lk_Seq_9 rfl h7 rfl ?_
        refine r_iload_n C (z_d dd_Seq_take 47 rfl) rfl ?_
        refine r_iconst (v := (1 : Int32)) C (z_d dd_Seq_take 48 rfl) (by decide) ?_
        refine r_iadd C (z_d dd_Seq_take 49 rfl) ?_
        obtain ⟨h8, h⟩ := zif h
        obtain ⟨q9, c10, h⟩ := zbd h
        refine r_invV (as := [zI (l2 + (1 : Int32))]) C 8 (S_Row_at c10) (z_d dd_Seq_take 50 rfl) ok_Row_at iv_Row_at se_Row_at ml_Seq_114 rfl rfl h8 rfl rfl rfl (Nat.le_of_ble_eq_true rfl) ⟨(Nat.le_of_ble_eq_true rfl), (Nat.le_of_ble_eq_true rfl)⟩ ⟨(Nat.le_of_ble_eq_true rfl), (Nat.le_of_ble_eq_true rfl)⟩ ?_
        refine r_iadd C (z_d dd_Seq_take 51 rfl) ?_
        refine r_goto C 123 (z_d dd_Seq_take 52 rfl) (by decide) ?_
        refine r_mk [true, true, false, true, false, false, true, false, false, false] ?_
        exact s_Seq_take_123 C hr E n l0 l1 l3 v1 (((256 : Int32) * (l4 - (128 : Int32))) + q9.1) q9.2 h
    · have h := ziff h c12
      refine r_iload C (z_d dd_Seq_take 35 rfl) rfl ?_
      refine r_goto C 123 (z_d dd_Seq_take 36 rfl) (by decide) ?_
      refine r_mk [true, true, false, true, false, false, true, false, false, false] ?_
      exact s_Seq_take_123 C hr E n l0 l1 l3 v1 l4 M h
  · have h := ziff h c18
    refine r_aload_n C (z_d dd_Seq_take 22 rfl) rfl ?_
    obtain ⟨h13, h⟩ := zif h
    refine r_getP C (z_d dd_Seq_take 23 rfl) lk_Seq_15 rfl h13 rfl ?_
    refine r_bipush (v := (10 : Int32)) C (z_d dd_Seq_take 24 rfl) (by decide) ?_
    refine r_iload_n C (z_d dd_Seq_take 25 rfl) rfl ?_
    obtain ⟨h14, h⟩ := zif h
    obtain ⟨q15, c16, h⟩ := zbd h
    refine r_invV (as := [zI (10 : Int32), zI l3]) C 7 (S_Rep_fail c16) (z_d dd_Seq_take 26 rfl) ok_Rep_fail iv_Rep_fail se_Rep_fail ml_Seq_120 rfl rfl h14 rfl rfl rfl (Nat.le_of_ble_eq_true rfl) ⟨(Nat.le_of_ble_eq_true rfl), (Nat.le_of_ble_eq_true rfl)⟩ ⟨(Nat.le_of_ble_eq_true rfl), (Nat.le_of_ble_eq_true rfl)⟩ ?_
    obtain ⟨h17, h⟩ := zif h
    obtain rfl := z_res h
    exact r_iretZ C E hr (z_d dd_Seq_take 27 rfl) h17 (Nat.le_of_ble_eq_true rfl) (Nat.le_of_ble_eq_true rfl)
def f_Seq_take_0 (O : zO) (n : Nat) (l0 : Nat) (l1 : Int32) (l2 : Int32) (l3 : Int32) (M : zM) : Option (Int32 × zM) :=
  if z_k M l0 = 10 then
  if z_k M (z_p M l0 0) = 9 then
  (F_Row_at O n (z_p M l0 0) l2 M).bind fun q3 =>
  if (128 : Int32) ≤ q3.1 then
  if (255 : Int32) ≤ q3.1 then
  f_Seq_take_35 O n l0 l1 l2 l3 q3.1 (3 : Int32) q3.2
  else
  f_Seq_take_35 O n l0 l1 l2 l3 q3.1 (2 : Int32) q3.2
  else
  f_Seq_take_35 O n l0 l1 l2 l3 q3.1 (1 : Int32) q3.2
  else none
  else none
set_option maxRecDepth 100000 in
set_option maxHeartbeats 4000000 in
theorem s_Seq_take_0 {X : zX} {q : Int32 × zM} (C : zC X zR9 prog_10_method_3_code 10 { frames := 5, cells := 0, slots := 0, locals := 163 }) (hr : zRt X (some .boolean)) (E : zE X (some (zI q.1)) q.2 0 0) : ∀ (n : Nat) (l0 : Nat) (l1 : Int32) (l2 : Int32) (l3 : Int32) (M : zM), f_Seq_take_0 (zOD X) n l0 l1 l2 l3 M = some q → zW X 0 0 0 [some (zP l0), some (zI l1), some (zI l2), some (zI l3), none, none, none, none, none, none] [] M := by
  intro n l0 l1 l2 l3 M h
  rw [f_Seq_take_0] at h
  refine r_aload_n C (z_d dd_Seq_take 0 rfl) rfl ?_
  obtain ⟨h1, h⟩ := zif h
  refine r_getP C (z_d dd_Seq_take 1 rfl) lk_Seq_9 rfl h1 rfl ?_
  refine r_iload_n C (z_d dd_Seq_take 2 rfl) rfl ?_
  obtain ⟨h2, h⟩ := zif h
  obtain ⟨q3, c4, h⟩ := zbd h
  refine r_invV (as := [zI l2]) C 8 (S_Row_at c4) (z_d dd_Seq_take 3 rfl) ok_Row_at iv_Row_at se_Row_at ml_Seq_114 rfl rfl h2 rfl rfl rfl (Nat.le_of_ble_eq_true rfl) ⟨(Nat.le_of_ble_eq_true rfl), (Nat.le_of_ble_eq_true rfl)⟩ ⟨(Nat.le_of_ble_eq_true rfl), (Nat.le_of_ble_eq_true rfl)⟩ ?_
  refine r_istore (lv' := [some (zP l0), some (zI l1), some (zI l2), some (zI l3), some (zI q3.1), none, none, none, none, none]) C (z_d dd_Seq_take 4 rfl) (Nat.le_of_ble_eq_true rfl) rfl ?_
  refine r_iload C (z_d dd_Seq_take 5 rfl) rfl ?_
  refine r_sipush (v := (128 : Int32)) C (z_d dd_Seq_take 6 rfl) (by decide) ?_
  refine r_icmp_ge C 22 (z_d dd_Seq_take 7 rfl) (by decide) (fun c6 => ?_) (fun c6 => ?_)
  · have h := zift h c6
    refine r_iload C (z_d dd_Seq_take 10 rfl) rfl ?_
    refine r_sipush (v := (255 : Int32)) C (z_d dd_Seq_take 11 rfl) (by decide) ?_
    refine r_icmp_ge C 34 (z_d dd_Seq_take 12 rfl) (by decide) (fun c5 => ?_) (fun c5 => ?_)
    · have h := zift h c5
      refine r_iconst (v := (3 : Int32)) C (z_d dd_Seq_take 15 rfl) (by decide) ?_
      exact s_Seq_take_35 C hr E n l0 l1 l2 l3 q3.1 (3 : Int32) q3.2 h
    · have h := ziff h c5
      refine r_iconst (v := (2 : Int32)) C (z_d dd_Seq_take 13 rfl) (by decide) ?_
      refine r_goto C 35 (z_d dd_Seq_take 14 rfl) (by decide) ?_
      exact s_Seq_take_35 C hr E n l0 l1 l2 l3 q3.1 (2 : Int32) q3.2 h
  · have h := ziff h c6
    refine r_iconst (v := (1 : Int32)) C (z_d dd_Seq_take 8 rfl) (by decide) ?_
    refine r_goto C 35 (z_d dd_Seq_take 9 rfl) (by decide) ?_
    exact s_Seq_take_35 C hr E n l0 l1 l2 l3 q3.1 (1 : Int32) q3.2 h
def F_Seq_take (O : zO) (n : Nat) (l0 : Nat) (l1 : Int32) (l2 : Int32) (l3 : Int32) (M : zM) : Option (Int32 × zM) := f_Seq_take_0 O n l0 l1 l2 l3 M
theorem S_Seq_take {l : Launch} {D : zD} {n : Nat} {l0 : Nat} {l1 : Int32} {l2 : Int32} {l3 : Int32} {M : zM} {q : Int32 × zM} (h : F_Seq_take D.2.2.2.2 n l0 l1 l2 l3 M = some q) : zMet l D mi_Seq_take [zP l0, zI l1, zI l2, zI l3] M (some (zI q.1)) q.2 :=
  z_met (by decide) (Nat.le_of_ble_eq_true rfl) (fun X C E hr hin hD hl => by
    subst hD
    exact s_Seq_take_0 C hr E n l0 l1 l2 l3 M h)

def f_JLong_rotateLeft_0 (O : zO) (n : Nat) (l0 : Int64) (l2 : Int32) (M : zM) : Option (Int64 × zM) :=
  some (((l0 <<< (l2.toInt64 &&& 63)) ||| (l0.toUInt64 >>> ((-l2).toInt64.toUInt64 &&& Int64.toUInt64 63)).toInt64), M)
set_option maxRecDepth 100000 in
set_option maxHeartbeats 4000000 in
theorem s_JLong_rotateLeft_0 {X : zX} {q : Int64 × zM} (C : zC X zJLong prog_16_method_51_code 3 { frames := 0, cells := 0, slots := 0, locals := 0 }) (hr : zRt X (some .long)) (E : zE X (some (zL q.1)) q.2 0 0) : ∀ (n : Nat) (l0 : Int64) (l2 : Int32) (M : zM), f_JLong_rotateLeft_0 (zOD X) n l0 l2 M = some q → zW X 0 0 0 [some (zL l0), none, some (zI l2)] [] M := by
  intro n l0 l2 M h
  rw [f_JLong_rotateLeft_0] at h
  refine r_lload_n C (z_d dd_JLong_rotateLeft 0 rfl) rfl ?_
  refine r_iload_n C (z_d dd_JLong_rotateLeft 1 rfl) rfl ?_
  refine r_lshl C (z_d dd_JLong_rotateLeft 2 rfl) ?_
  refine r_lload_n C (z_d dd_JLong_rotateLeft 3 rfl) rfl ?_
  refine r_iload_n C (z_d dd_JLong_rotateLeft 4 rfl) rfl ?_
  refine r_ineg C (z_d dd_JLong_rotateLeft 5 rfl) ?_
  refine r_lushr C (z_d dd_JLong_rotateLeft 6 rfl) ?_
  refine r_lor C (z_d dd_JLong_rotateLeft 7 rfl) ?_
  obtain rfl := z_res h
  exact r_lret C E hr (z_d dd_JLong_rotateLeft 8 rfl) (Nat.le_of_ble_eq_true rfl) (Nat.le_of_ble_eq_true rfl)
def F_JLong_rotateLeft (O : zO) (n : Nat) (l0 : Int64) (l2 : Int32) (M : zM) : Option (Int64 × zM) := f_JLong_rotateLeft_0 O n l0 l2 M
theorem S_JLong_rotateLeft {l : Launch} {D : zD} {n : Nat} {l0 : Int64} {l2 : Int32} {M : zM} {q : Int64 × zM} (h : F_JLong_rotateLeft D.2.2.2.2 n l0 l2 M = some q) : zMet l D mi_JLong_rotateLeft [zL l0, zI l2] M (some (zL q.1)) q.2 :=
  z_metF (by decide +kernel) (Nat.le_of_ble_eq_true rfl) (fun X C E hr hin hD hl => by
    subst hD
    exact s_JLong_rotateLeft_0 C hr E n l0 l2 M h)

def f_Content_mixed_0 (O : zO) (n : Nat) (l0 : Int64) (l2 : Int64) (M : zM) : Option (Int64 × zM) :=
  (F_JLong_rotateLeft O n (l0 + (l2 * (-4417276706812531889 : Int64))) (31 : Int32) M).bind fun q1 =>
  some ((q1.1 * (-7046029288634856825 : Int64)), q1.2)
set_option maxRecDepth 100000 in
set_option maxHeartbeats 4000000 in
theorem s_Content_mixed_0 {X : zX} {q : Int64 × zM} (C : zC X zR2 prog_3_method_13_code 4 { frames := 1, cells := 0, slots := 0, locals := 22 }) (hr : zRt X (some .long)) (E : zE X (some (zL q.1)) q.2 0 0) : ∀ (n : Nat) (l0 : Int64) (l2 : Int64) (M : zM), f_Content_mixed_0 (zOD X) n l0 l2 M = some q → zW X 0 0 0 [some (zL l0), none, some (zL l2), none] [] M := by
  intro n l0 l2 M h
  rw [f_Content_mixed_0] at h
  refine r_lload_n C (z_d dd_Content_mixed 0 rfl) rfl ?_
  refine r_lload_n C (z_d dd_Content_mixed 1 rfl) rfl ?_
  refine r_ldc2 (v := (-4417276706812531889 : Int64)) C (z_d dd_Content_mixed 2 rfl) kl_Content_92 ?_
  refine r_lmul C (z_d dd_Content_mixed 3 rfl) ?_
  refine r_ladd C (z_d dd_Content_mixed 4 rfl) ?_
  refine r_bipush (v := (31 : Int32)) C (z_d dd_Content_mixed 5 rfl) (by decide) ?_
  obtain ⟨q1, c2, h⟩ := zbd h
  refine r_invS (as := [zL (l0 + (l2 * (-4417276706812531889 : Int64))), zI (31 : Int32)]) C (S_JLong_rotateLeft c2) (z_d dd_Content_mixed 6 rfl) ok_JLong_rotateLeft sv_JLong_rotateLeft ml_Content_82 rfl rfl rfl (Nat.le_of_ble_eq_true rfl) ⟨(Nat.le_of_ble_eq_true rfl), (Nat.le_of_ble_eq_true rfl)⟩ ⟨(Nat.le_of_ble_eq_true rfl), (Nat.le_of_ble_eq_true rfl)⟩ ?_
  refine r_ldc2 (v := (-7046029288634856825 : Int64)) C (z_d dd_Content_mixed 7 rfl) kl_Content_88 ?_
  refine r_lmul C (z_d dd_Content_mixed 8 rfl) ?_
  obtain rfl := z_res h
  exact r_lret C E hr (z_d dd_Content_mixed 9 rfl) (Nat.le_of_ble_eq_true rfl) (Nat.le_of_ble_eq_true rfl)
def F_Content_mixed (O : zO) (n : Nat) (l0 : Int64) (l2 : Int64) (M : zM) : Option (Int64 × zM) := f_Content_mixed_0 O n l0 l2 M
theorem S_Content_mixed {l : Launch} {D : zD} {n : Nat} {l0 : Int64} {l2 : Int64} {M : zM} {q : Int64 × zM} (h : F_Content_mixed D.2.2.2.2 n l0 l2 M = some q) : zMet l D mi_Content_mixed [zL l0, zL l2] M (some (zL q.1)) q.2 :=
  z_met (by decide) (Nat.le_of_ble_eq_true rfl) (fun X C E hr hin hD hl => by
    subst hD
    exact s_Content_mixed_0 C hr E n l0 l2 M h)

def f_Content_sumOfLanes_22 (O : zO) : Nat → Nat → Int64 → Int64 → Int64 → Int64 → Int32 → zM → Option (Int64 × zM)
  | 0, _, _, _, _, _, _, _ => none
  | n + 1, l0, l1, l3, l5, l7, l9, M =>
    if z_k M l0 = 3 then
    if z_k M (z_p M l0 0) = 9 then
    if ((z_i M (z_p M l0 0) 1) - (32 : Int32)) < l9 then
    (F_JLong_rotateLeft O n l1 (1 : Int32) M).bind fun q3 =>
    (F_JLong_rotateLeft O n l3 (7 : Int32) q3.2).bind fun q5 =>
    (F_JLong_rotateLeft O n l5 (12 : Int32) q5.2).bind fun q7 =>
    (F_JLong_rotateLeft O n l7 (18 : Int32) q7.2).bind fun q9 =>
    zlet (((q3.1 + q5.1) + q7.1) + q9.1) fun v11 =>
    (F_Content_mixed O n (0 : Int64) l1 q9.2).bind fun q13 =>
    zlet (((v11 ^^^ q13.1) * (-7046029288634856825 : Int64)) + (-8796714831421723037 : Int64)) fun v15 =>
    (F_Content_mixed O n (0 : Int64) l3 q13.2).bind fun q17 =>
    zlet (((v15 ^^^ q17.1) * (-7046029288634856825 : Int64)) + (-8796714831421723037 : Int64)) fun v19 =>
    (F_Content_mixed O n (0 : Int64) l5 q17.2).bind fun q21 =>
    zlet (((v19 ^^^ q21.1) * (-7046029288634856825 : Int64)) + (-8796714831421723037 : Int64)) fun v23 =>
    (F_Content_mixed O n (0 : Int64) l7 q21.2).bind fun q25 =>
    some ((((v23 ^^^ q25.1) * (-7046029288634856825 : Int64)) + (-8796714831421723037 : Int64)), q25.2)
    else
    (F_Row_number O n (z_p M l0 0) l9 (8 : Int32) M).bind fun q27 =>
    (F_Content_mixed O n l1 q27.1 q27.2).bind fun q29 =>
    if z_k q29.2 l0 = 3 then
    if z_k q29.2 (z_p q29.2 l0 0) = 9 then
    (F_Row_number O n (z_p q29.2 l0 0) (l9 + (8 : Int32)) (8 : Int32) q29.2).bind fun q33 =>
    (F_Content_mixed O n l3 q33.1 q33.2).bind fun q35 =>
    if z_k q35.2 l0 = 3 then
    if z_k q35.2 (z_p q35.2 l0 0) = 9 then
    (F_Row_number O n (z_p q35.2 l0 0) (l9 + (16 : Int32)) (8 : Int32) q35.2).bind fun q39 =>
    (F_Content_mixed O n l5 q39.1 q39.2).bind fun q41 =>
    if z_k q41.2 l0 = 3 then
    if z_k q41.2 (z_p q41.2 l0 0) = 9 then
    (F_Row_number O n (z_p q41.2 l0 0) (l9 + (24 : Int32)) (8 : Int32) q41.2).bind fun q45 =>
    (F_Content_mixed O n l7 q45.1 q45.2).bind fun q47 =>
    zlet (l9 + (32 : Int32)) fun v49 =>
    f_Content_sumOfLanes_22 O n l0 q29.1 q35.1 q41.1 q47.1 v49 q47.2
    else none
    else none
    else none
    else none
    else none
    else none
    else none
    else none
set_option maxRecDepth 100000 in
set_option maxHeartbeats 4000000 in
theorem s_Content_sumOfLanes_22 {X : zX} {q : Int64 × zM} (C : zC X zR2 prog_3_method_12_code 11 { frames := 2, cells := 0, slots := 0, locals := 45 }) (hr : zRt X (some .long)) (E : zE X (some (zL q.1)) q.2 0 0) : ∀ (n : Nat) (l0 : Nat) (l1 : Int64) (l3 : Int64) (l5 : Int64) (l7 : Int64) (l9 : Int32) (M : zM), f_Content_sumOfLanes_22 (zOD X) n l0 l1 l3 l5 l7 l9 M = some q → zW X 0 0 22 [some (zP l0), some (zL l1), none, some (zL l3), none, some (zL l5), none, some (zL l7), none, some (zI l9), none] [] M := by
  intro n
  induction n with
  | zero => intro l0 l1 l3 l5 l7 l9 M h; rw [f_Content_sumOfLanes_22] at h; cases h
  | succ n ih =>
    intro l0 l1 l3 l5 l7 l9 M h
    rw [f_Content_sumOfLanes_22] at h
    refine r_iload C (z_d dd_Content_sumOfLanes 11 rfl) rfl ?_
    refine r_aload_n C (z_d dd_Content_sumOfLanes 12 rfl) rfl ?_
    obtain ⟨h1, h⟩ := zif h
    refine r_getP C (z_d dd_Content_sumOfLanes 13 rfl) lk_Content_15 rfl h1 rfl ?_
    obtain ⟨h2, h⟩ := zif h
    refine r_getI C (z_d dd_Content_sumOfLanes 14 rfl) lk_Content_41 rfl h2 rfl ?_
    refine r_bipush (v := (32 : Int32)) C (z_d dd_Content_sumOfLanes 15 rfl) (by decide) ?_
    refine r_isub C (z_d dd_Content_sumOfLanes 16 rfl) ?_
    refine r_icmp_gt C 120 (z_d dd_Content_sumOfLanes 17 rfl) (by decide) (fun c51 => ?_) (fun c51 => ?_)
    · have h := zift h c51
      refine r_lload_n C (z_d dd_Content_sumOfLanes 58 rfl) rfl ?_
      refine r_iconst (v := (1 : Int32)) C (z_d dd_Content_sumOfLanes 59 rfl) (by decide) ?_
      obtain ⟨q3, c4, h⟩ := zbd h
      refine r_invS (as := [zL l1, zI (1 : Int32)]) C (S_JLong_rotateLeft c4) (z_d dd_Content_sumOfLanes 60 rfl) ok_JLong_rotateLeft sv_JLong_rotateLeft ml_Content_82 rfl rfl rfl (Nat.le_of_ble_eq_true rfl) ⟨(Nat.le_of_ble_eq_true rfl), (Nat.le_of_ble_eq_true rfl)⟩ ⟨(Nat.le_of_ble_eq_true rfl), (Nat.le_of_ble_eq_true rfl)⟩ ?_
      refine r_lload_n C (z_d dd_Content_sumOfLanes 61 rfl) rfl ?_
      refine r_bipush (v := (7 : Int32)) C (z_d dd_Content_sumOfLanes 62 rfl) (by decide) ?_
      obtain ⟨q5, c6, h⟩ := zbd h
      refine r_invS (as := [zL l3, zI (7 : Int32)]) C (S_JLong_rotateLeft c6) (z_d dd_Content_sumOfLanes 63 rfl) ok_JLong_rotateLeft sv_JLong_rotateLeft ml_Content_82 rfl rfl rfl (Nat.le_of_ble_eq_true rfl) ⟨(Nat.le_of_ble_eq_true rfl), (Nat.le_of_ble_eq_true rfl)⟩ ⟨(Nat.le_of_ble_eq_true rfl), (Nat.le_of_ble_eq_true rfl)⟩ ?_
      refine r_ladd C (z_d dd_Content_sumOfLanes 64 rfl) ?_
      refine r_lload C (z_d dd_Content_sumOfLanes 65 rfl) rfl ?_
      refine r_bipush (v := (12 : Int32)) C (z_d dd_Content_sumOfLanes 66 rfl) (by decide) ?_
      obtain ⟨q7, c8, h⟩ := zbd h
      refine r_invS (as := [zL l5, zI (12 : Int32)]) C (S_JLong_rotateLeft c8) (z_d dd_Content_sumOfLanes 67 rfl) ok_JLong_rotateLeft sv_JLong_rotateLeft ml_Content_82 rfl rfl rfl (Nat.le_of_ble_eq_true rfl) ⟨(Nat.le_of_ble_eq_true rfl), (Nat.le_of_ble_eq_true rfl)⟩ ⟨(Nat.le_of_ble_eq_true rfl), (Nat.le_of_ble_eq_true rfl)⟩ ?_
      refine r_ladd C (z_d dd_Content_sumOfLanes 68 rfl) ?_
      refine r_lload C (z_d dd_Content_sumOfLanes 69 rfl) rfl ?_
      refine r_bipush (v := (18 : Int32)) C (z_d dd_Content_sumOfLanes 70 rfl) (by decide) ?_
      obtain ⟨q9, c10, h⟩ := zbd h
      refine r_invS (as := [zL l7, zI (18 : Int32)]) C (S_JLong_rotateLeft c10) (z_d dd_Content_sumOfLanes 71 rfl) ok_JLong_rotateLeft sv_JLong_rotateLeft ml_Content_82 rfl rfl rfl (Nat.le_of_ble_eq_true rfl) ⟨(Nat.le_of_ble_eq_true rfl), (Nat.le_of_ble_eq_true rfl)⟩ ⟨(Nat.le_of_ble_eq_true rfl), (Nat.le_of_ble_eq_true rfl)⟩ ?_
      refine r_ladd C (z_d dd_Content_sumOfLanes 72 rfl) ?_
      obtain ⟨v11, e12, h⟩ := zlet_ex h
      refine r_nmL e12 ?_
      refine r_lstore (lv' := [some (zP l0), some (zL l1), none, some (zL l3), none, some (zL l5), none, some (zL l7), none, some (zL v11), none]) C (z_d dd_Content_sumOfLanes 73 rfl) (Nat.le_of_ble_eq_true rfl) rfl ?_
      refine r_lload C (z_d dd_Content_sumOfLanes 74 rfl) rfl ?_
      refine r_lconst (v := (0 : Int64)) C (z_d dd_Content_sumOfLanes 75 rfl) (by decide) ?_
      refine r_lload_n C (z_d dd_Content_sumOfLanes 76 rfl) rfl ?_
      obtain ⟨q13, c14, h⟩ := zbd h
      refine r_invS (as := [zL (0 : Int64), zL l1]) C (S_Content_mixed c14) (z_d dd_Content_sumOfLanes 77 rfl) ok_Content_mixed sv_Content_mixed ml_Content_78 rfl rfl rfl (Nat.le_of_ble_eq_true rfl) ⟨(Nat.le_of_ble_eq_true rfl), (Nat.le_of_ble_eq_true rfl)⟩ ⟨(Nat.le_of_ble_eq_true rfl), (Nat.le_of_ble_eq_true rfl)⟩ ?_
      refine r_lxor C (z_d dd_Content_sumOfLanes 78 rfl) ?_
      refine r_ldc2 (v := (-7046029288634856825 : Int64)) C (z_d dd_Content_sumOfLanes 79 rfl) kl_Content_88 ?_
      refine r_lmul C (z_d dd_Content_sumOfLanes 80 rfl) ?_
      refine r_ldc2 (v := (-8796714831421723037 : Int64)) C (z_d dd_Content_sumOfLanes 81 rfl) kl_Content_90 ?_
      refine r_ladd C (z_d dd_Content_sumOfLanes 82 rfl) ?_
      obtain ⟨v15, e16, h⟩ := zlet_ex h
      refine r_nmL e16 ?_
      refine r_lstore (lv' := [some (zP l0), some (zL l1), none, some (zL l3), none, some (zL l5), none, some (zL l7), none, some (zL v15), none]) C (z_d dd_Content_sumOfLanes 83 rfl) (Nat.le_of_ble_eq_true rfl) rfl ?_
      refine r_lload C (z_d dd_Content_sumOfLanes 84 rfl) rfl ?_
      refine r_lconst (v := (0 : Int64)) C (z_d dd_Content_sumOfLanes 85 rfl) (by decide) ?_
      refine r_lload_n C (z_d dd_Content_sumOfLanes 86 rfl) rfl ?_
      obtain ⟨q17, c18, h⟩ := zbd h
      refine r_invS (as := [zL (0 : Int64), zL l3]) C (S_Content_mixed c18) (z_d dd_Content_sumOfLanes 87 rfl) ok_Content_mixed sv_Content_mixed ml_Content_78 rfl rfl rfl (Nat.le_of_ble_eq_true rfl) ⟨(Nat.le_of_ble_eq_true rfl), (Nat.le_of_ble_eq_true rfl)⟩ ⟨(Nat.le_of_ble_eq_true rfl), (Nat.le_of_ble_eq_true rfl)⟩ ?_
      refine r_lxor C (z_d dd_Content_sumOfLanes 88 rfl) ?_
      refine r_ldc2 (v := (-7046029288634856825 : Int64)) C (z_d dd_Content_sumOfLanes 89 rfl) kl_Content_88 ?_
      refine r_lmul C (z_d dd_Content_sumOfLanes 90 rfl) ?_
      refine r_ldc2 (v := (-8796714831421723037 : Int64)) C (z_d dd_Content_sumOfLanes 91 rfl) kl_Content_90 ?_
      refine r_ladd C (z_d dd_Content_sumOfLanes 92 rfl) ?_
      obtain ⟨v19, e20, h⟩ := zlet_ex h
      refine r_nmL e20 ?_
      refine r_lstore (lv' := [some (zP l0), some (zL l1), none, some (zL l3), none, some (zL l5), none, some (zL l7), none, some (zL v19), none]) C (z_d dd_Content_sumOfLanes 93 rfl) (Nat.le_of_ble_eq_true rfl) rfl ?_
      refine r_lload C (z_d dd_Content_sumOfLanes 94 rfl) rfl ?_
      refine r_lconst (v := (0 : Int64)) C (z_d dd_Content_sumOfLanes 95 rfl) (by decide) ?_
      refine r_lload C (z_d dd_Content_sumOfLanes 96 rfl) rfl ?_
      obtain ⟨q21, c22, h⟩ := zbd h
      refine r_invS (as := [zL (0 : Int64), zL l5]) C (S_Content_mixed c22) (z_d dd_Content_sumOfLanes 97 rfl) ok_Content_mixed sv_Content_mixed ml_Content_78 rfl rfl rfl (Nat.le_of_ble_eq_true rfl) ⟨(Nat.le_of_ble_eq_true rfl), (Nat.le_of_ble_eq_true rfl)⟩ ⟨(Nat.le_of_ble_eq_true rfl), (Nat.le_of_ble_eq_true rfl)⟩ ?_
      refine r_lxor C (z_d dd_Content_sumOfLanes 98 rfl) ?_
      refine r_ldc2 (v := (-7046029288634856825 : Int64)) C (z_d dd_Content_sumOfLanes 99 rfl) kl_Content_88 ?_
      refine r_lmul C (z_d dd_Content_sumOfLanes 100 rfl) ?_
      refine r_ldc2 (v := (-8796714831421723037 : Int64)) C (z_d dd_Content_sumOfLanes 101 rfl) kl_Content_90 ?_
      refine r_ladd C (z_d dd_Content_sumOfLanes 102 rfl) ?_
      obtain ⟨v23, e24, h⟩ := zlet_ex h
      refine r_nmL e24 ?_
      refine r_lstore (lv' := [some (zP l0), some (zL l1), none, some (zL l3), none, some (zL l5), none, some (zL l7), none, some (zL v23), none]) C (z_d dd_Content_sumOfLanes 103 rfl) (Nat.le_of_ble_eq_true rfl) rfl ?_
      refine r_lload C (z_d dd_Content_sumOfLanes 104 rfl) rfl ?_
      refine r_lconst (v := (0 : Int64)) C (z_d dd_Content_sumOfLanes 105 rfl) (by decide) ?_
      refine r_lload C (z_d dd_Content_sumOfLanes 106 rfl) rfl ?_
      obtain ⟨q25, c26, h⟩ := zbd h
      refine r_invS (as := [zL (0 : Int64), zL l7]) C (S_Content_mixed c26) (z_d dd_Content_sumOfLanes 107 rfl) ok_Content_mixed sv_Content_mixed ml_Content_78 rfl rfl rfl (Nat.le_of_ble_eq_true rfl) ⟨(Nat.le_of_ble_eq_true rfl), (Nat.le_of_ble_eq_true rfl)⟩ ⟨(Nat.le_of_ble_eq_true rfl), (Nat.le_of_ble_eq_true rfl)⟩ ?_
      refine r_lxor C (z_d dd_Content_sumOfLanes 108 rfl) ?_
      refine r_ldc2 (v := (-7046029288634856825 : Int64)) C (z_d dd_Content_sumOfLanes 109 rfl) kl_Content_88 ?_
      refine r_lmul C (z_d dd_Content_sumOfLanes 110 rfl) ?_
      refine r_ldc2 (v := (-8796714831421723037 : Int64)) C (z_d dd_Content_sumOfLanes 111 rfl) kl_Content_90 ?_
      refine r_ladd C (z_d dd_Content_sumOfLanes 112 rfl) ?_
      obtain rfl := z_res h
      exact r_lret C E hr (z_d dd_Content_sumOfLanes 113 rfl) (Nat.le_of_ble_eq_true rfl) (Nat.le_of_ble_eq_true rfl)
    · have h := ziff h c51
      refine r_lload_n C (z_d dd_Content_sumOfLanes 18 rfl) rfl ?_
      refine r_aload_n C (z_d dd_Content_sumOfLanes 19 rfl) rfl ?_
      refine r_getP C (z_d dd_Content_sumOfLanes 20 rfl) lk_Content_15 rfl h1 rfl ?_
      refine r_iload C (z_d dd_Content_sumOfLanes 21 rfl) rfl ?_
      refine r_bipush (v := (8 : Int32)) C (z_d dd_Content_sumOfLanes 22 rfl) (by decide) ?_
      obtain ⟨q27, c28, h⟩ := zbd h
      refine r_invV (as := [zI l9, zI (8 : Int32)]) C 8 (S_Row_number c28) (z_d dd_Content_sumOfLanes 23 rfl) ok_Row_number iv_Row_number se_Row_number ml_Content_74 rfl rfl h2 rfl rfl rfl (Nat.le_of_ble_eq_true rfl) ⟨(Nat.le_of_ble_eq_true rfl), (Nat.le_of_ble_eq_true rfl)⟩ ⟨(Nat.le_of_ble_eq_true rfl), (Nat.le_of_ble_eq_true rfl)⟩ ?_
      obtain ⟨q29, c30, h⟩ := zbd h
      refine r_invS (as := [zL l1, zL q27.1]) C (S_Content_mixed c30) (z_d dd_Content_sumOfLanes 24 rfl) ok_Content_mixed sv_Content_mixed ml_Content_78 rfl rfl rfl (Nat.le_of_ble_eq_true rfl) ⟨(Nat.le_of_ble_eq_true rfl), (Nat.le_of_ble_eq_true rfl)⟩ ⟨(Nat.le_of_ble_eq_true rfl), (Nat.le_of_ble_eq_true rfl)⟩ ?_
      refine r_lstore_n (lv' := [some (zP l0), some (zL q29.1), none, some (zL l3), none, some (zL l5), none, some (zL l7), none, some (zI l9), none]) C (z_d dd_Content_sumOfLanes 25 rfl) (Nat.le_of_ble_eq_true rfl) rfl ?_
      refine r_lload_n C (z_d dd_Content_sumOfLanes 26 rfl) rfl ?_
      refine r_aload_n C (z_d dd_Content_sumOfLanes 27 rfl) rfl ?_
      obtain ⟨h31, h⟩ := zif h
      refine r_getP C (z_d dd_Content_sumOfLanes 28 rfl) lk_Content_15 rfl h31 rfl ?_
      refine r_iload C (z_d dd_Content_sumOfLanes 29 rfl) rfl ?_
      refine r_bipush (v := (8 : Int32)) C (z_d dd_Content_sumOfLanes 30 rfl) (by decide) ?_
      refine r_iadd C (z_d dd_Content_sumOfLanes 31 rfl) ?_
      refine r_bipush (v := (8 : Int32)) C (z_d dd_Content_sumOfLanes 32 rfl) (by decide) ?_
      obtain ⟨h32, h⟩ := zif h
      obtain ⟨q33, c34, h⟩ := zbd h
      refine r_invV (as := [zI (l9 + (8 : Int32)), zI (8 : Int32)]) C 8 (S_Row_number c34) (z_d dd_Content_sumOfLanes 33 rfl) ok_Row_number iv_Row_number se_Row_number ml_Content_74 rfl rfl h32 rfl rfl rfl (Nat.le_of_ble_eq_true rfl) ⟨(Nat.le_of_ble_eq_true rfl), (Nat.le_of_ble_eq_true rfl)⟩ ⟨(Nat.le_of_ble_eq_true rfl), (Nat.le_of_ble_eq_true rfl)⟩ ?_
      obtain ⟨q35, c36, h⟩ := zbd h
      refine r_invS (as := [zL l3, zL q33.1]) C (S_Content_mixed c36) (z_d dd_Content_sumOfLanes 34 rfl) ok_Content_mixed sv_Content_mixed ml_Content_78 rfl rfl rfl (Nat.le_of_ble_eq_true rfl) ⟨(Nat.le_of_ble_eq_true rfl), (Nat.le_of_ble_eq_true rfl)⟩ ⟨(Nat.le_of_ble_eq_true rfl), (Nat.le_of_ble_eq_true rfl)⟩ ?_
      refine r_lstore_n (lv' := [some (zP l0), some (zL q29.1), none, some (zL q35.1), none, some (zL l5), none, some (zL l7), none, some (zI l9), none]) C (z_d dd_Content_sumOfLanes 35 rfl) (Nat.le_of_ble_eq_true rfl) rfl ?_
      refine r_lload C (z_d dd_Content_sumOfLanes 36 rfl) rfl ?_
      refine r_aload_n C (z_d dd_Content_sumOfLanes 37 rfl) rfl ?_
      obtain ⟨h37, h⟩ := zif h
      refine r_getP C (z_d dd_Content_sumOfLanes 38 rfl) lk_Content_15 rfl h37 rfl ?_
      refine r_iload C (z_d dd_Content_sumOfLanes 39 rfl) rfl ?_
      refine r_bipush (v := (16 : Int32)) C (z_d dd_Content_sumOfLanes 40 rfl) (by decide) ?_
      refine r_iadd C (z_d dd_Content_sumOfLanes 41 rfl) ?_
      refine r_bipush (v := (8 : Int32)) C (z_d dd_Content_sumOfLanes 42 rfl) (by decide) ?_
      obtain ⟨h38, h⟩ := zif h
      obtain ⟨q39, c40, h⟩ := zbd h
      refine r_invV (as := [zI (l9 + (16 : Int32)), zI (8 : Int32)]) C 8 (S_Row_number c40) (z_d dd_Content_sumOfLanes 43 rfl) ok_Row_number iv_Row_number se_Row_number ml_Content_74 rfl rfl h38 rfl rfl rfl (Nat.le_of_ble_eq_true rfl) ⟨(Nat.le_of_ble_eq_true rfl), (Nat.le_of_ble_eq_true rfl)⟩ ⟨(Nat.le_of_ble_eq_true rfl), (Nat.le_of_ble_eq_true rfl)⟩ ?_
      obtain ⟨q41, c42, h⟩ := zbd h
      refine r_invS (as := [zL l5, zL q39.1]) C (S_Content_mixed c42) (z_d dd_Content_sumOfLanes 44 rfl) ok_Content_mixed sv_Content_mixed ml_Content_78 rfl rfl rfl (Nat.le_of_ble_eq_true rfl) ⟨(Nat.le_of_ble_eq_true rfl), (Nat.le_of_ble_eq_true rfl)⟩ ⟨(Nat.le_of_ble_eq_true rfl), (Nat.le_of_ble_eq_true rfl)⟩ ?_
      refine r_lstore (lv' := [some (zP l0), some (zL q29.1), none, some (zL q35.1), none, some (zL q41.1), none, some (zL l7), none, some (zI l9), none]) C (z_d dd_Content_sumOfLanes 45 rfl) (Nat.le_of_ble_eq_true rfl) rfl ?_
      refine r_lload C (z_d dd_Content_sumOfLanes 46 rfl) rfl ?_
      refine r_aload_n C (z_d dd_Content_sumOfLanes 47 rfl) rfl ?_
      obtain ⟨h43, h⟩ := zif h
      refine r_getP C (z_d dd_Content_sumOfLanes 48 rfl) lk_Content_15 rfl h43 rfl ?_
      refine r_iload C (z_d dd_Content_sumOfLanes 49 rfl) rfl ?_
      refine r_bipush (v := (24 : Int32)) C (z_d dd_Content_sumOfLanes 50 rfl) (by decide) ?_
      refine r_iadd C (z_d dd_Content_sumOfLanes 51 rfl) ?_
      refine r_bipush (v := (8 : Int32)) C (z_d dd_Content_sumOfLanes 52 rfl) (by decide) ?_
      obtain ⟨h44, h⟩ := zif h
      obtain ⟨q45, c46, h⟩ := zbd h
      refine r_invV (as := [zI (l9 + (24 : Int32)), zI (8 : Int32)]) C 8 (S_Row_number c46) (z_d dd_Content_sumOfLanes 53 rfl) ok_Row_number iv_Row_number se_Row_number ml_Content_74 rfl rfl h44 rfl rfl rfl (Nat.le_of_ble_eq_true rfl) ⟨(Nat.le_of_ble_eq_true rfl), (Nat.le_of_ble_eq_true rfl)⟩ ⟨(Nat.le_of_ble_eq_true rfl), (Nat.le_of_ble_eq_true rfl)⟩ ?_
      obtain ⟨q47, c48, h⟩ := zbd h
      refine r_invS (as := [zL l7, zL q45.1]) C (S_Content_mixed c48) (z_d dd_Content_sumOfLanes 54 rfl) ok_Content_mixed sv_Content_mixed ml_Content_78 rfl rfl rfl (Nat.le_of_ble_eq_true rfl) ⟨(Nat.le_of_ble_eq_true rfl), (Nat.le_of_ble_eq_true rfl)⟩ ⟨(Nat.le_of_ble_eq_true rfl), (Nat.le_of_ble_eq_true rfl)⟩ ?_
      refine r_lstore (lv' := [some (zP l0), some (zL q29.1), none, some (zL q35.1), none, some (zL q41.1), none, some (zL q47.1), none, some (zI l9), none]) C (z_d dd_Content_sumOfLanes 55 rfl) (Nat.le_of_ble_eq_true rfl) rfl ?_
      obtain ⟨v49, e50, h⟩ := zlet_ex h
      refine r_iinc (v := v49) (lv' := [some (zP l0), some (zL q29.1), none, some (zL q35.1), none, some (zL q41.1), none, some (zL q47.1), none, some (zI v49), none]) C (z_d dd_Content_sumOfLanes 56 rfl) rfl (Nat.le_of_ble_eq_true rfl) (by rw [e50]; rfl) rfl ?_
      refine r_goto C 22 (z_d dd_Content_sumOfLanes 57 rfl) (by decide) ?_
      exact ih l0 q29.1 q35.1 q41.1 q47.1 v49 q47.2 h
def f_Content_sumOfLanes_0 (O : zO) (n : Nat) (l0 : Nat) (M : zM) : Option (Int64 × zM) :=
  if z_k M l0 = 3 then
  zlet (z_i M l0 3) fun v2 =>
  f_Content_sumOfLanes_22 O n l0 (6983438078262162902 : Int64) (-4417276706812531889 : Int64) (0 : Int64) (7046029288634856825 : Int64) v2 M
  else none
set_option maxRecDepth 100000 in
set_option maxHeartbeats 4000000 in
theorem s_Content_sumOfLanes_0 {X : zX} {q : Int64 × zM} (C : zC X zR2 prog_3_method_12_code 11 { frames := 2, cells := 0, slots := 0, locals := 45 }) (hr : zRt X (some .long)) (E : zE X (some (zL q.1)) q.2 0 0) : ∀ (n : Nat) (l0 : Nat) (M : zM), f_Content_sumOfLanes_0 (zOD X) n l0 M = some q → zW X 0 0 0 [some (zP l0), none, none, none, none, none, none, none, none, none, none] [] M := by
  intro n l0 M h
  rw [f_Content_sumOfLanes_0] at h
  refine r_ldc2 (v := (6983438078262162902 : Int64)) C (z_d dd_Content_sumOfLanes 0 rfl) kl_Content_100 ?_
  refine r_lstore_n (lv' := [some (zP l0), some (zL (6983438078262162902 : Int64)), none, none, none, none, none, none, none, none, none]) C (z_d dd_Content_sumOfLanes 1 rfl) (Nat.le_of_ble_eq_true rfl) rfl ?_
  refine r_ldc2 (v := (-4417276706812531889 : Int64)) C (z_d dd_Content_sumOfLanes 2 rfl) kl_Content_92 ?_
  refine r_lstore_n (lv' := [some (zP l0), some (zL (6983438078262162902 : Int64)), none, some (zL (-4417276706812531889 : Int64)), none, none, none, none, none, none, none]) C (z_d dd_Content_sumOfLanes 3 rfl) (Nat.le_of_ble_eq_true rfl) rfl ?_
  refine r_lconst (v := (0 : Int64)) C (z_d dd_Content_sumOfLanes 4 rfl) (by decide) ?_
  refine r_lstore (lv' := [some (zP l0), some (zL (6983438078262162902 : Int64)), none, some (zL (-4417276706812531889 : Int64)), none, some (zL (0 : Int64)), none, none, none, none, none]) C (z_d dd_Content_sumOfLanes 5 rfl) (Nat.le_of_ble_eq_true rfl) rfl ?_
  refine r_ldc2 (v := (7046029288634856825 : Int64)) C (z_d dd_Content_sumOfLanes 6 rfl) kl_Content_102 ?_
  refine r_lstore (lv' := [some (zP l0), some (zL (6983438078262162902 : Int64)), none, some (zL (-4417276706812531889 : Int64)), none, some (zL (0 : Int64)), none, some (zL (7046029288634856825 : Int64)), none, none, none]) C (z_d dd_Content_sumOfLanes 7 rfl) (Nat.le_of_ble_eq_true rfl) rfl ?_
  refine r_aload_n C (z_d dd_Content_sumOfLanes 8 rfl) rfl ?_
  obtain ⟨h1, h⟩ := zif h
  refine r_getI C (z_d dd_Content_sumOfLanes 9 rfl) lk_Content_28 rfl h1 rfl ?_
  obtain ⟨v2, e3, h⟩ := zlet_ex h
  refine r_nmI e3 ?_
  refine r_istore (lv' := [some (zP l0), some (zL (6983438078262162902 : Int64)), none, some (zL (-4417276706812531889 : Int64)), none, some (zL (0 : Int64)), none, some (zL (7046029288634856825 : Int64)), none, some (zI v2), none]) C (z_d dd_Content_sumOfLanes 10 rfl) (Nat.le_of_ble_eq_true rfl) rfl ?_
  exact s_Content_sumOfLanes_22 C hr E n l0 (6983438078262162902 : Int64) (-4417276706812531889 : Int64) (0 : Int64) (7046029288634856825 : Int64) v2 M h
def F_Content_sumOfLanes (O : zO) (n : Nat) (l0 : Nat) (M : zM) : Option (Int64 × zM) := f_Content_sumOfLanes_0 O n l0 M
theorem S_Content_sumOfLanes {l : Launch} {D : zD} {n : Nat} {l0 : Nat} {M : zM} {q : Int64 × zM} (h : F_Content_sumOfLanes D.2.2.2.2 n l0 M = some q) : zMet l D mi_Content_sumOfLanes [zP l0] M (some (zL q.1)) q.2 :=
  z_met (by decide) (Nat.le_of_ble_eq_true rfl) (fun X C E hr hin hD hl => by
    subst hD
    exact s_Content_sumOfLanes_0 C hr E n l0 M h)

def f_Content_wideSum_139 (O : zO) : Nat → Nat → Int32 → Int64 → zM → Option (Int64 × zM)
  | 0, _, _, _, _ => none
  | n + 1, l0, l1, l2, M =>
    if z_k M l0 = 3 then
    if z_k M (z_p M l0 0) = 9 then
    if (z_i M (z_p M l0 0) 1) ≤ l1 then
    zlet ((l2 ^^^ (l2.toUInt64 >>> ((33 : Int32).toInt64.toUInt64 &&& Int64.toUInt64 63)).toInt64) * (-4417276706812531889 : Int64)) fun v3 =>
    zlet ((v3 ^^^ (v3.toUInt64 >>> ((29 : Int32).toInt64.toUInt64 &&& Int64.toUInt64 63)).toInt64) * (1609587929392839161 : Int64)) fun v5 =>
    some ((v5 ^^^ (v5.toUInt64 >>> ((32 : Int32).toInt64.toUInt64 &&& Int64.toUInt64 63)).toInt64), M)
    else
    (F_Row_at O n (z_p M l0 0) l1 M).bind fun q7 =>
    (F_JLong_rotateLeft O n (l2 ^^^ (q7.1.toInt64 * (2870177450012600261 : Int64))) (11 : Int32) q7.2).bind fun q9 =>
    zlet (q9.1 * (-7046029288634856825 : Int64)) fun v11 =>
    zlet (l1 + (1 : Int32)) fun v13 =>
    f_Content_wideSum_139 O n l0 v13 v11 q9.2
    else none
    else none
set_option maxRecDepth 100000 in
set_option maxHeartbeats 4000000 in
theorem s_Content_wideSum_139 {X : zX} {q : Int64 × zM} (C : zC X zR2 prog_3_method_11_code 4 { frames := 3, cells := 0, slots := 0, locals := 75 }) (hr : zRt X (some .long)) (E : zE X (some (zL q.1)) q.2 0 0) : ∀ (n : Nat) (l0 : Nat) (l1 : Int32) (l2 : Int64) (M : zM), f_Content_wideSum_139 (zOD X) n l0 l1 l2 M = some q → zW X 0 0 139 [some (zP l0), some (zI l1), some (zL l2), none] [] M := by
  intro n
  induction n with
  | zero => intro l0 l1 l2 M h; rw [f_Content_wideSum_139] at h; cases h
  | succ n ih =>
    intro l0 l1 l2 M h
    rw [f_Content_wideSum_139] at h
    refine r_iload_n C (z_d dd_Content_wideSum 76 rfl) rfl ?_
    refine r_aload_n C (z_d dd_Content_wideSum 77 rfl) rfl ?_
    obtain ⟨h1, h⟩ := zif h
    refine r_getP C (z_d dd_Content_wideSum 78 rfl) lk_Content_15 rfl h1 rfl ?_
    obtain ⟨h2, h⟩ := zif h
    refine r_getI C (z_d dd_Content_wideSum 79 rfl) lk_Content_41 rfl h2 rfl ?_
    refine r_icmp_ge C 181 (z_d dd_Content_wideSum 80 rfl) (by decide) (fun c15 => ?_) (fun c15 => ?_)
    · have h := zift h c15
      refine r_lload_n C (z_d dd_Content_wideSum 97 rfl) rfl ?_
      refine r_lload_n C (z_d dd_Content_wideSum 98 rfl) rfl ?_
      refine r_bipush (v := (33 : Int32)) C (z_d dd_Content_wideSum 99 rfl) (by decide) ?_
      refine r_lushr C (z_d dd_Content_wideSum 100 rfl) ?_
      refine r_lxor C (z_d dd_Content_wideSum 101 rfl) ?_
      refine r_ldc2 (v := (-4417276706812531889 : Int64)) C (z_d dd_Content_wideSum 102 rfl) kl_Content_92 ?_
      refine r_lmul C (z_d dd_Content_wideSum 103 rfl) ?_
      obtain ⟨v3, e4, h⟩ := zlet_ex h
      refine r_nmL e4 ?_
      refine r_lstore_n (lv' := [some (zP l0), some (zI l1), some (zL v3), none]) C (z_d dd_Content_wideSum 104 rfl) (Nat.le_of_ble_eq_true rfl) rfl ?_
      refine r_lload_n C (z_d dd_Content_wideSum 105 rfl) rfl ?_
      refine r_lload_n C (z_d dd_Content_wideSum 106 rfl) rfl ?_
      refine r_bipush (v := (29 : Int32)) C (z_d dd_Content_wideSum 107 rfl) (by decide) ?_
      refine r_lushr C (z_d dd_Content_wideSum 108 rfl) ?_
      refine r_lxor C (z_d dd_Content_wideSum 109 rfl) ?_
      refine r_ldc2 (v := (1609587929392839161 : Int64)) C (z_d dd_Content_wideSum 110 rfl) kl_Content_94 ?_
      refine r_lmul C (z_d dd_Content_wideSum 111 rfl) ?_
      obtain ⟨v5, e6, h⟩ := zlet_ex h
      refine r_nmL e6 ?_
      refine r_lstore_n (lv' := [some (zP l0), some (zI l1), some (zL v5), none]) C (z_d dd_Content_wideSum 112 rfl) (Nat.le_of_ble_eq_true rfl) rfl ?_
      refine r_lload_n C (z_d dd_Content_wideSum 113 rfl) rfl ?_
      refine r_lload_n C (z_d dd_Content_wideSum 114 rfl) rfl ?_
      refine r_bipush (v := (32 : Int32)) C (z_d dd_Content_wideSum 115 rfl) (by decide) ?_
      refine r_lushr C (z_d dd_Content_wideSum 116 rfl) ?_
      refine r_lxor C (z_d dd_Content_wideSum 117 rfl) ?_
      obtain rfl := z_res h
      exact r_lret C E hr (z_d dd_Content_wideSum 118 rfl) (Nat.le_of_ble_eq_true rfl) (Nat.le_of_ble_eq_true rfl)
    · have h := ziff h c15
      refine r_lload_n C (z_d dd_Content_wideSum 81 rfl) rfl ?_
      refine r_aload_n C (z_d dd_Content_wideSum 82 rfl) rfl ?_
      refine r_getP C (z_d dd_Content_wideSum 83 rfl) lk_Content_15 rfl h1 rfl ?_
      refine r_iload_n C (z_d dd_Content_wideSum 84 rfl) rfl ?_
      obtain ⟨q7, c8, h⟩ := zbd h
      refine r_invV (as := [zI l1]) C 8 (S_Row_at c8) (z_d dd_Content_wideSum 85 rfl) ok_Row_at iv_Row_at se_Row_at ml_Content_96 rfl rfl h2 rfl rfl rfl (Nat.le_of_ble_eq_true rfl) ⟨(Nat.le_of_ble_eq_true rfl), (Nat.le_of_ble_eq_true rfl)⟩ ⟨(Nat.le_of_ble_eq_true rfl), (Nat.le_of_ble_eq_true rfl)⟩ ?_
      refine r_i2l C (z_d dd_Content_wideSum 86 rfl) ?_
      refine r_ldc2 (v := (2870177450012600261 : Int64)) C (z_d dd_Content_wideSum 87 rfl) kl_Content_68 ?_
      refine r_lmul C (z_d dd_Content_wideSum 88 rfl) ?_
      refine r_lxor C (z_d dd_Content_wideSum 89 rfl) ?_
      refine r_bipush (v := (11 : Int32)) C (z_d dd_Content_wideSum 90 rfl) (by decide) ?_
      obtain ⟨q9, c10, h⟩ := zbd h
      refine r_invS (as := [zL (l2 ^^^ (q7.1.toInt64 * (2870177450012600261 : Int64))), zI (11 : Int32)]) C (S_JLong_rotateLeft c10) (z_d dd_Content_wideSum 91 rfl) ok_JLong_rotateLeft sv_JLong_rotateLeft ml_Content_82 rfl rfl rfl (Nat.le_of_ble_eq_true rfl) ⟨(Nat.le_of_ble_eq_true rfl), (Nat.le_of_ble_eq_true rfl)⟩ ⟨(Nat.le_of_ble_eq_true rfl), (Nat.le_of_ble_eq_true rfl)⟩ ?_
      refine r_ldc2 (v := (-7046029288634856825 : Int64)) C (z_d dd_Content_wideSum 92 rfl) kl_Content_88 ?_
      refine r_lmul C (z_d dd_Content_wideSum 93 rfl) ?_
      obtain ⟨v11, e12, h⟩ := zlet_ex h
      refine r_nmL e12 ?_
      refine r_lstore_n (lv' := [some (zP l0), some (zI l1), some (zL v11), none]) C (z_d dd_Content_wideSum 94 rfl) (Nat.le_of_ble_eq_true rfl) rfl ?_
      obtain ⟨v13, e14, h⟩ := zlet_ex h
      refine r_iinc (v := v13) (lv' := [some (zP l0), some (zI v13), some (zL v11), none]) C (z_d dd_Content_wideSum 95 rfl) rfl (Nat.le_of_ble_eq_true rfl) (by rw [e14]; rfl) rfl ?_
      refine r_goto C 139 (z_d dd_Content_wideSum 96 rfl) (by decide) ?_
      exact ih l0 v13 v11 q9.2 h
def f_Content_wideSum_44 (O : zO) : Nat → Nat → Int32 → Int64 → zM → Option (Int64 × zM)
  | 0, _, _, _, _ => none
  | n + 1, l0, l1, l2, M =>
    if z_k M l0 = 3 then
    if z_k M (z_p M l0 0) = 9 then
    if ((z_i M (z_p M l0 0) 1) - (8 : Int32)) < l1 then
    if ((z_i M (z_p M l0 0) 1) - (4 : Int32)) < l1 then
    f_Content_wideSum_139 O n l0 l1 l2 M
    else
    (F_Row_number O n (z_p M l0 0) l1 (4 : Int32) M).bind fun q3 =>
    (F_JLong_rotateLeft O n (l2 ^^^ (q3.1 * (-7046029288634856825 : Int64))) (23 : Int32) q3.2).bind fun q5 =>
    zlet ((q5.1 * (-4417276706812531889 : Int64)) + (1609587929392839161 : Int64)) fun v7 =>
    zlet (l1 + (4 : Int32)) fun v9 =>
    f_Content_wideSum_139 O n l0 v9 v7 q5.2
    else
    (F_Row_number O n (z_p M l0 0) l1 (8 : Int32) M).bind fun q12 =>
    (F_Content_mixed O n (0 : Int64) q12.1 q12.2).bind fun q14 =>
    (F_JLong_rotateLeft O n (l2 ^^^ q14.1) (27 : Int32) q14.2).bind fun q16 =>
    zlet ((q16.1 * (-7046029288634856825 : Int64)) + (-8796714831421723037 : Int64)) fun v18 =>
    zlet (l1 + (8 : Int32)) fun v20 =>
    f_Content_wideSum_44 O n l0 v20 v18 q16.2
    else none
    else none
set_option maxRecDepth 100000 in
set_option maxHeartbeats 4000000 in
theorem s_Content_wideSum_44 {X : zX} {q : Int64 × zM} (C : zC X zR2 prog_3_method_11_code 4 { frames := 3, cells := 0, slots := 0, locals := 75 }) (hr : zRt X (some .long)) (E : zE X (some (zL q.1)) q.2 0 0) : ∀ (n : Nat) (l0 : Nat) (l1 : Int32) (l2 : Int64) (M : zM), f_Content_wideSum_44 (zOD X) n l0 l1 l2 M = some q → zW X 0 0 44 [some (zP l0), some (zI l1), some (zL l2), none] [] M := by
  intro n
  induction n with
  | zero => intro l0 l1 l2 M h; rw [f_Content_wideSum_44] at h; cases h
  | succ n ih =>
    intro l0 l1 l2 M h
    rw [f_Content_wideSum_44] at h
    refine r_iload_n C (z_d dd_Content_wideSum 27 rfl) rfl ?_
    refine r_aload_n C (z_d dd_Content_wideSum 28 rfl) rfl ?_
    obtain ⟨h1, h⟩ := zif h
    refine r_getP C (z_d dd_Content_wideSum 29 rfl) lk_Content_15 rfl h1 rfl ?_
    obtain ⟨h2, h⟩ := zif h
    refine r_getI C (z_d dd_Content_wideSum 30 rfl) lk_Content_41 rfl h2 rfl ?_
    refine r_bipush (v := (8 : Int32)) C (z_d dd_Content_wideSum 31 rfl) (by decide) ?_
    refine r_isub C (z_d dd_Content_wideSum 32 rfl) ?_
    refine r_icmp_gt C 94 (z_d dd_Content_wideSum 33 rfl) (by decide) (fun c22 => ?_) (fun c22 => ?_)
    · have h := zift h c22
      refine r_iload_n C (z_d dd_Content_wideSum 52 rfl) rfl ?_
      refine r_aload_n C (z_d dd_Content_wideSum 53 rfl) rfl ?_
      refine r_getP C (z_d dd_Content_wideSum 54 rfl) lk_Content_15 rfl h1 rfl ?_
      refine r_getI C (z_d dd_Content_wideSum 55 rfl) lk_Content_41 rfl h2 rfl ?_
      refine r_iconst (v := (4 : Int32)) C (z_d dd_Content_wideSum 56 rfl) (by decide) ?_
      refine r_isub C (z_d dd_Content_wideSum 57 rfl) ?_
      refine r_icmp_gt C 139 (z_d dd_Content_wideSum 58 rfl) (by decide) (fun c11 => ?_) (fun c11 => ?_)
      · have h := zift h c11
        exact s_Content_wideSum_139 C hr E n l0 l1 l2 M h
      · have h := ziff h c11
        refine r_lload_n C (z_d dd_Content_wideSum 59 rfl) rfl ?_
        refine r_aload_n C (z_d dd_Content_wideSum 60 rfl) rfl ?_
        refine r_getP C (z_d dd_Content_wideSum 61 rfl) lk_Content_15 rfl h1 rfl ?_
        refine r_iload_n C (z_d dd_Content_wideSum 62 rfl) rfl ?_
        refine r_iconst (v := (4 : Int32)) C (z_d dd_Content_wideSum 63 rfl) (by decide) ?_
        obtain ⟨q3, c4, h⟩ := zbd h
        refine r_invV (as := [zI l1, zI (4 : Int32)]) C 8 (S_Row_number c4) (z_d dd_Content_wideSum 64 rfl) ok_Row_number iv_Row_number se_Row_number ml_Content_74 rfl rfl h2 rfl rfl rfl (Nat.le_of_ble_eq_true rfl) ⟨(Nat.le_of_ble_eq_true rfl), (Nat.le_of_ble_eq_true rfl)⟩ ⟨(Nat.le_of_ble_eq_true rfl), (Nat.le_of_ble_eq_true rfl)⟩ ?_
        refine r_ldc2 (v := (-7046029288634856825 : Int64)) C (z_d dd_Content_wideSum 65 rfl) kl_Content_88 ?_
        refine r_lmul C (z_d dd_Content_wideSum 66 rfl) ?_
        refine r_lxor C (z_d dd_Content_wideSum 67 rfl) ?_
        refine r_bipush (v := (23 : Int32)) C (z_d dd_Content_wideSum 68 rfl) (by decide) ?_
        obtain ⟨q5, c6, h⟩ := zbd h
        refine r_invS (as := [zL (l2 ^^^ (q3.1 * (-7046029288634856825 : Int64))), zI (23 : Int32)]) C (S_JLong_rotateLeft c6) (z_d dd_Content_wideSum 69 rfl) ok_JLong_rotateLeft sv_JLong_rotateLeft ml_Content_82 rfl rfl rfl (Nat.le_of_ble_eq_true rfl) ⟨(Nat.le_of_ble_eq_true rfl), (Nat.le_of_ble_eq_true rfl)⟩ ⟨(Nat.le_of_ble_eq_true rfl), (Nat.le_of_ble_eq_true rfl)⟩ ?_
        refine r_ldc2 (v := (-4417276706812531889 : Int64)) C (z_d dd_Content_wideSum 70 rfl) kl_Content_92 ?_
        refine r_lmul C (z_d dd_Content_wideSum 71 rfl) ?_
        refine r_ldc2 (v := (1609587929392839161 : Int64)) C (z_d dd_Content_wideSum 72 rfl) kl_Content_94 ?_
        refine r_ladd C (z_d dd_Content_wideSum 73 rfl) ?_
        obtain ⟨v7, e8, h⟩ := zlet_ex h
        refine r_nmL e8 ?_
        refine r_lstore_n (lv' := [some (zP l0), some (zI l1), some (zL v7), none]) C (z_d dd_Content_wideSum 74 rfl) (Nat.le_of_ble_eq_true rfl) rfl ?_
        obtain ⟨v9, e10, h⟩ := zlet_ex h
        refine r_iinc (v := v9) (lv' := [some (zP l0), some (zI v9), some (zL v7), none]) C (z_d dd_Content_wideSum 75 rfl) rfl (Nat.le_of_ble_eq_true rfl) (by rw [e10]; rfl) rfl ?_
        exact s_Content_wideSum_139 C hr E n l0 v9 v7 q5.2 h
    · have h := ziff h c22
      refine r_lload_n C (z_d dd_Content_wideSum 34 rfl) rfl ?_
      refine r_lconst (v := (0 : Int64)) C (z_d dd_Content_wideSum 35 rfl) (by decide) ?_
      refine r_aload_n C (z_d dd_Content_wideSum 36 rfl) rfl ?_
      refine r_getP C (z_d dd_Content_wideSum 37 rfl) lk_Content_15 rfl h1 rfl ?_
      refine r_iload_n C (z_d dd_Content_wideSum 38 rfl) rfl ?_
      refine r_bipush (v := (8 : Int32)) C (z_d dd_Content_wideSum 39 rfl) (by decide) ?_
      obtain ⟨q12, c13, h⟩ := zbd h
      refine r_invV (as := [zI l1, zI (8 : Int32)]) C 8 (S_Row_number c13) (z_d dd_Content_wideSum 40 rfl) ok_Row_number iv_Row_number se_Row_number ml_Content_74 rfl rfl h2 rfl rfl rfl (Nat.le_of_ble_eq_true rfl) ⟨(Nat.le_of_ble_eq_true rfl), (Nat.le_of_ble_eq_true rfl)⟩ ⟨(Nat.le_of_ble_eq_true rfl), (Nat.le_of_ble_eq_true rfl)⟩ ?_
      obtain ⟨q14, c15, h⟩ := zbd h
      refine r_invS (as := [zL (0 : Int64), zL q12.1]) C (S_Content_mixed c15) (z_d dd_Content_wideSum 41 rfl) ok_Content_mixed sv_Content_mixed ml_Content_78 rfl rfl rfl (Nat.le_of_ble_eq_true rfl) ⟨(Nat.le_of_ble_eq_true rfl), (Nat.le_of_ble_eq_true rfl)⟩ ⟨(Nat.le_of_ble_eq_true rfl), (Nat.le_of_ble_eq_true rfl)⟩ ?_
      refine r_lxor C (z_d dd_Content_wideSum 42 rfl) ?_
      refine r_bipush (v := (27 : Int32)) C (z_d dd_Content_wideSum 43 rfl) (by decide) ?_
      obtain ⟨q16, c17, h⟩ := zbd h
      refine r_invS (as := [zL (l2 ^^^ q14.1), zI (27 : Int32)]) C (S_JLong_rotateLeft c17) (z_d dd_Content_wideSum 44 rfl) ok_JLong_rotateLeft sv_JLong_rotateLeft ml_Content_82 rfl rfl rfl (Nat.le_of_ble_eq_true rfl) ⟨(Nat.le_of_ble_eq_true rfl), (Nat.le_of_ble_eq_true rfl)⟩ ⟨(Nat.le_of_ble_eq_true rfl), (Nat.le_of_ble_eq_true rfl)⟩ ?_
      refine r_ldc2 (v := (-7046029288634856825 : Int64)) C (z_d dd_Content_wideSum 45 rfl) kl_Content_88 ?_
      refine r_lmul C (z_d dd_Content_wideSum 46 rfl) ?_
      refine r_ldc2 (v := (-8796714831421723037 : Int64)) C (z_d dd_Content_wideSum 47 rfl) kl_Content_90 ?_
      refine r_ladd C (z_d dd_Content_wideSum 48 rfl) ?_
      obtain ⟨v18, e19, h⟩ := zlet_ex h
      refine r_nmL e19 ?_
      refine r_lstore_n (lv' := [some (zP l0), some (zI l1), some (zL v18), none]) C (z_d dd_Content_wideSum 49 rfl) (Nat.le_of_ble_eq_true rfl) rfl ?_
      obtain ⟨v20, e21, h⟩ := zlet_ex h
      refine r_iinc (v := v20) (lv' := [some (zP l0), some (zI v20), some (zL v18), none]) C (z_d dd_Content_wideSum 50 rfl) rfl (Nat.le_of_ble_eq_true rfl) (by rw [e21]; rfl) rfl ?_
      refine r_goto C 44 (z_d dd_Content_wideSum 51 rfl) (by decide) ?_
      exact ih l0 v20 v18 q16.2 h
def f_Content_wideSum_36 (O : zO) (n : Nat) (l0 : Nat) (l1 : Int32) (l2 : Int64) (M : zM) : Option (Int64 × zM) :=
  if z_k M l0 = 3 then
  (F_Content_ofFrame O n l0 M).bind fun q2 =>
  zlet (l2 + q2.1.toInt64) fun v4 =>
  f_Content_wideSum_44 O n l0 l1 v4 q2.2
  else none
set_option maxRecDepth 100000 in
set_option maxHeartbeats 4000000 in
theorem s_Content_wideSum_36 {X : zX} {q : Int64 × zM} (C : zC X zR2 prog_3_method_11_code 4 { frames := 3, cells := 0, slots := 0, locals := 75 }) (hr : zRt X (some .long)) (E : zE X (some (zL q.1)) q.2 0 0) : ∀ (n : Nat) (l0 : Nat) (l1 : Int32) (l2 : Int64) (M : zM), f_Content_wideSum_36 (zOD X) n l0 l1 l2 M = some q → zW X 0 0 36 [some (zP l0), some (zI l1), some (zL l2), none] [] M := by
  intro n l0 l1 l2 M h
  rw [f_Content_wideSum_36] at h
  refine r_lload_n C (z_d dd_Content_wideSum 21 rfl) rfl ?_
  refine r_aload_n C (z_d dd_Content_wideSum 22 rfl) rfl ?_
  obtain ⟨h1, h⟩ := zif h
  obtain ⟨q2, c3, h⟩ := zbd h
  refine r_invV (as := []) C 2 (S_Content_ofFrame c3) (z_d dd_Content_wideSum 23 rfl) ok_Content_ofFrame iv_Content_ofFrame se_Content_ofFrame ml_Content_51 rfl rfl h1 rfl rfl rfl (Nat.le_of_ble_eq_true rfl) ⟨(Nat.le_of_ble_eq_true rfl), (Nat.le_of_ble_eq_true rfl)⟩ ⟨(Nat.le_of_ble_eq_true rfl), (Nat.le_of_ble_eq_true rfl)⟩ ?_
  refine r_i2l C (z_d dd_Content_wideSum 24 rfl) ?_
  refine r_ladd C (z_d dd_Content_wideSum 25 rfl) ?_
  obtain ⟨v4, e5, h⟩ := zlet_ex h
  refine r_nmL e5 ?_
  refine r_lstore_n (lv' := [some (zP l0), some (zI l1), some (zL v4), none]) C (z_d dd_Content_wideSum 26 rfl) (Nat.le_of_ble_eq_true rfl) rfl ?_
  exact s_Content_wideSum_44 C hr E n l0 l1 v4 q2.2 h
def f_Content_wideSum_0 (O : zO) (n : Nat) (l0 : Nat) (M : zM) : Option (Int64 × zM) :=
  if z_k M l0 = 3 then
  zlet (z_i M l0 3) fun v2 =>
  (F_Content_ofFrame O n l0 M).bind fun q4 =>
  if q4.1 < (32 : Int32) then
  f_Content_wideSum_36 O n l0 v2 (2870177450012600261 : Int64) q4.2
  else
  if z_k q4.2 l0 = 3 then
  (F_Content_sumOfLanes O n l0 q4.2).bind fun q7 =>
  if z_k q7.2 l0 = 3 then
  (F_Content_ofFrame O n l0 q7.2).bind fun q10 =>
  zlet (v2 + ((q10.1 / (32 : Int32)) * (32 : Int32))) fun v12 =>
  f_Content_wideSum_36 O n l0 v12 q7.1 q10.2
  else none
  else none
  else none
set_option maxRecDepth 100000 in
set_option maxHeartbeats 4000000 in
theorem s_Content_wideSum_0 {X : zX} {q : Int64 × zM} (C : zC X zR2 prog_3_method_11_code 4 { frames := 3, cells := 0, slots := 0, locals := 75 }) (hr : zRt X (some .long)) (E : zE X (some (zL q.1)) q.2 0 0) : ∀ (n : Nat) (l0 : Nat) (M : zM), f_Content_wideSum_0 (zOD X) n l0 M = some q → zW X 0 0 0 [some (zP l0), none, none, none] [] M := by
  intro n l0 M h
  rw [f_Content_wideSum_0] at h
  refine r_aload_n C (z_d dd_Content_wideSum 0 rfl) rfl ?_
  obtain ⟨h1, h⟩ := zif h
  refine r_getI C (z_d dd_Content_wideSum 1 rfl) lk_Content_28 rfl h1 rfl ?_
  obtain ⟨v2, e3, h⟩ := zlet_ex h
  refine r_nmI e3 ?_
  refine r_istore_n (lv' := [some (zP l0), some (zI v2), none, none]) C (z_d dd_Content_wideSum 2 rfl) (Nat.le_of_ble_eq_true rfl) rfl ?_
  refine r_ldc2 (v := (2870177450012600261 : Int64)) C (z_d dd_Content_wideSum 3 rfl) kl_Content_68 ?_
  refine r_lstore_n (lv' := [some (zP l0), some (zI v2), some (zL (2870177450012600261 : Int64)), none]) C (z_d dd_Content_wideSum 4 rfl) (Nat.le_of_ble_eq_true rfl) rfl ?_
  refine r_aload_n C (z_d dd_Content_wideSum 5 rfl) rfl ?_
  obtain ⟨q4, c5, h⟩ := zbd h
  refine r_invV (as := []) C 2 (S_Content_ofFrame c5) (z_d dd_Content_wideSum 6 rfl) ok_Content_ofFrame iv_Content_ofFrame se_Content_ofFrame ml_Content_51 rfl rfl h1 rfl rfl rfl (Nat.le_of_ble_eq_true rfl) ⟨(Nat.le_of_ble_eq_true rfl), (Nat.le_of_ble_eq_true rfl)⟩ ⟨(Nat.le_of_ble_eq_true rfl), (Nat.le_of_ble_eq_true rfl)⟩ ?_
  refine r_bipush (v := (32 : Int32)) C (z_d dd_Content_wideSum 7 rfl) (by decide) ?_
  refine r_icmp_lt C 36 (z_d dd_Content_wideSum 8 rfl) (by decide) (fun c14 => ?_) (fun c14 => ?_)
  · have h := zift h c14
    exact s_Content_wideSum_36 C hr E n l0 v2 (2870177450012600261 : Int64) q4.2 h
  · have h := ziff h c14
    refine r_aload_n C (z_d dd_Content_wideSum 9 rfl) rfl ?_
    obtain ⟨h6, h⟩ := zif h
    obtain ⟨q7, c8, h⟩ := zbd h
    refine r_invV (as := []) C 2 (S_Content_sumOfLanes c8) (z_d dd_Content_wideSum 10 rfl) ok_Content_sumOfLanes iv_Content_sumOfLanes se_Content_sumOfLanes ml_Content_70 rfl rfl h6 rfl rfl rfl (Nat.le_of_ble_eq_true rfl) ⟨(Nat.le_of_ble_eq_true rfl), (Nat.le_of_ble_eq_true rfl)⟩ ⟨(Nat.le_of_ble_eq_true rfl), (Nat.le_of_ble_eq_true rfl)⟩ ?_
    refine r_lstore_n (lv' := [some (zP l0), some (zI v2), some (zL q7.1), none]) C (z_d dd_Content_wideSum 11 rfl) (Nat.le_of_ble_eq_true rfl) rfl ?_
    refine r_iload_n C (z_d dd_Content_wideSum 12 rfl) rfl ?_
    refine r_aload_n C (z_d dd_Content_wideSum 13 rfl) rfl ?_
    obtain ⟨h9, h⟩ := zif h
    obtain ⟨q10, c11, h⟩ := zbd h
    refine r_invV (as := []) C 2 (S_Content_ofFrame c11) (z_d dd_Content_wideSum 14 rfl) ok_Content_ofFrame iv_Content_ofFrame se_Content_ofFrame ml_Content_51 rfl rfl h9 rfl rfl rfl (Nat.le_of_ble_eq_true rfl) ⟨(Nat.le_of_ble_eq_true rfl), (Nat.le_of_ble_eq_true rfl)⟩ ⟨(Nat.le_of_ble_eq_true rfl), (Nat.le_of_ble_eq_true rfl)⟩ ?_
    refine r_bipush (v := (32 : Int32)) C (z_d dd_Content_wideSum 15 rfl) (by decide) ?_
    refine r_idiv C (z_d dd_Content_wideSum 16 rfl) (by decide) ?_
    refine r_bipush (v := (32 : Int32)) C (z_d dd_Content_wideSum 17 rfl) (by decide) ?_
    refine r_imul C (z_d dd_Content_wideSum 18 rfl) ?_
    refine r_iadd C (z_d dd_Content_wideSum 19 rfl) ?_
    obtain ⟨v12, e13, h⟩ := zlet_ex h
    refine r_nmI e13 ?_
    refine r_istore_n (lv' := [some (zP l0), some (zI v12), some (zL q7.1), none]) C (z_d dd_Content_wideSum 20 rfl) (Nat.le_of_ble_eq_true rfl) rfl ?_
    exact s_Content_wideSum_36 C hr E n l0 v12 q7.1 q10.2 h
def F_Content_wideSum (O : zO) (n : Nat) (l0 : Nat) (M : zM) : Option (Int64 × zM) := f_Content_wideSum_0 O n l0 M
theorem S_Content_wideSum {l : Launch} {D : zD} {n : Nat} {l0 : Nat} {M : zM} {q : Int64 × zM} (h : F_Content_wideSum D.2.2.2.2 n l0 M = some q) : zMet l D mi_Content_wideSum [zP l0] M (some (zL q.1)) q.2 :=
  z_met (by decide) (Nat.le_of_ble_eq_true rfl) (fun X C E hr hin hD hl => by
    subst hD
    exact s_Content_wideSum_0 C hr E n l0 M h)
