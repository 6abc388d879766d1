/-! THE CLAIM OUT OF ONE WALK OF THE LAW'S BODY. Your part is whole_start (and what it stands on); all else here is the same for every law, but numbers. -/
def R_law : String := "StateFramesLaw"
def lw_P (b : Addr) (xs : List Int32) (args : Array Value) (s : State) : Prop := args = #[.ref b] ∧ s.IntsAt b xs ∧ xs.length ≤ 2048 ∧ (Jvm.Cond.and given_1 narrow_1).before args s = true
def lw_Q (_ : Array Value) (s : State) (o : Outcome) (t : State) : Prop := o = .returned (some (.int 1)) ∧ Framed s o t [] 600000 7302250
def lw_Z (below : List Frame) (a : Array Value) (s : State) : State → Prop := fun t => ∃ o, t.status = .running ∧ Ended t below o ∧ lw_Q a s o t
/-- the law's own end, with 1 on the stack, nothing written that was there before, its room as the claim has it -/
theorem lw_ret {p : Program} {l : Launch} {e : Env} {s : State} {m : MethodId} {below : List Frame} {meth : Method} {c : Code} {b : Nat} (hx : p.tables.exec = Jvm.exec) (hb : c.code = code) (hr : meth.sig.returnType = ret) (hlocks : meth.locks = false) {pc : Nat} {H : Heap} {ls : Array Slot} (hdg : decode code pc = .ok (.ireturn, 1)) : W p l e room_1 s m #[Value.ref b] below meth c H [] 600000 7302250 (lw_Z below #[Value.ref b] s) (F0 m pc ls [.int 1]) := by
  intro T hT X
  obtain ⟨fs, hret, hrun, hended, hW, hframe⟩ := X.leave (v := some (.int 1)) (hlocks := hlocks) (fun h => by rw [hr] at h; cases h)
  have hmeth' : T.vm.method? m = some meth := X.method'
  refine ⟨T.setFrames fs, ?_, .returned (some (.int 1)), hrun, hended, rfl, ⟨_, rfl⟩, hW, hframe⟩
  jvm_step X.here [X.here.top, hx, hb, hdg, hmeth', hr, ret, narrow_b1]
  (try refine ⟨rfl, ?_⟩); (try refine ⟨rfl, ?_⟩)
  first | (intro acts; rw [hret _ acts rfl rfl rfl]) | rw [hret _ _ rfl rfl rfl]
  exact Steps.refl _
/-- what holds at the law's entry: the machine, the code, the tables' words (any of lw_tbl by 'hts w (by decide +kernel)'), the script of L ints xs at the cell b, what the Statement gives of the start (any of its parts by flat_of_before) -/
def lw_At (p : Program) (s : State) (m : MethodId) (meth : Method) (c : Code) (b L : Nat) (xs : Nat → Int32) : Prop :=
  p.tables.exec = Jvm.exec ∧ c.code = code ∧ meth.sig.returnType = ret ∧ c.maxLocals = 4 ∧ s.vm.findClass R_law = some m.cls ∧ (∀ w ∈ lw_tbl, w.before #[Value.ref b] s = true) ∧ va_X b L xs s s.heap ∧ b < s.heap.size ∧ meth.locks = false ∧ (Jvm.Cond.and given_1 narrow_1).before #[Value.ref b] s = true

def zLw (X : zX) (b : Nat) : Prop := match X with
  | (p, l, e, R, s, m, args, below, meth, c, Q, D) => args = #[Value.ref b] ∧ Q = lw_Z below #[Value.ref b] s ∧ meth.sig.returnType = ret ∧ D.2.2.2.1 = s.heap.size
theorem r_law {X : zX} {b n k pc : Nat} {lv : List (Option zV)} {M : zM} (C : zC X zJLaw code 4 room_1) (E : zLw X b) (d : decode code pc = .ok (.ireturn, 1)) (hn : n ≤ 600000) (hk : k ≤ 7302250) : zW X n k pc lv [zI 1] M := by
  obtain ⟨pr, l, e, R, s, m, args, below, meth, cd, Q, D⟩ := X
  obtain ⟨hx, hb, hml, rfl, hown, hts, hU, hO, hx0, hlk⟩ := C
  obtain ⟨rfl, rfl, hr, hsz⟩ := E
  intro H locs ls hH hS hl
  refine W.widen hn hk (va_forget (fun q hq => ?_) ?_)
  · have h1 : D.2.2.2.1 ≤ q.base := hS.2.2 q hq
    rw [hsz] at h1
    exact h1
  · exact lw_ret hx hb hr hlk d
def dl_Law_law : List (Nat × Instr × Nat) := [(0, .new 7, 3), (3, .dup, 1), (4, .invokespecial 9, 3), (7, .astore_n 1, 1), (8, .new 10, 3), (11, .dup, 1), (12, .invokespecial 12, 3), (15, .astore_n 2, 1), (16, .iconst 0, 1), (17, .istore_n 3, 1), (18, .iload_n 3, 1), (19, .aload_n 0, 1), (20, .arraylength, 1), (21, .iconst 4, 1), (22, .isub, 1), (23, .if_icmp .gt 280, 3), (26, .aload_n 0, 1), (27, .iload_n 3, 1), (28, .iaload, 1), (29, .bipush 15, 2), (31, .iand, 1), (32, .tableswitch 265 0 8 #[52, 115, 148, 159, 172, 183, 206, 229, 242], 52), (84, .aload_n 1, 1), (85, .aload_n 0, 1), (86, .iload_n 3, 1), (87, .iconst 1, 1), (88, .iadd, 1), (89, .iaload, 1), (90, .i2l, 1), (91, .bipush 32, 2), (93, .lshl, 1), (94, .aload_n 0, 1), (95, .iload_n 3, 1), (96, .iconst 2, 1), (97, .iadd, 1), (98, .iaload, 1), (99, .i2l, 1), (100, .ldc2_w 13, 3), (103, .land, 1), (104, .lor, 1), (105, .aload_n 0, 1), (106, .iload_n 3, 1), (107, .iconst 3, 1), (108, .iadd, 1), (109, .iaload, 1), (110, .invokevirtual 15, 3), (113, .aload_n 2, 1), (114, .aload_n 0, 1), (115, .iload_n 3, 1), (116, .iconst 1, 1), (117, .iadd, 1), (118, .iaload, 1), (119, .i2l, 1), (120, .bipush 32, 2), (122, .lshl, 1), (123, .aload_n 0, 1), (124, .iload_n 3, 1), (125, .iconst 2, 1), (126, .iadd, 1), (127, .iaload, 1), (128, .i2l, 1), (129, .ldc2_w 13, 3), (132, .land, 1), (133, .lor, 1), (134, .aload_n 0, 1), (135, .iload_n 3, 1), (136, .iconst 3, 1), (137, .iadd, 1), (138, .iaload, 1), (139, .invokevirtual 19, 3), (142, .if_icmp .eq 155, 3), (145, .iconst 0, 1), (146, .ireturn, 1), (147, .aload_n 1, 1), (148, .aload_n 0, 1), (149, .iload_n 3, 1), (150, .iconst 1, 1), (151, .iadd, 1), (152, .iaload, 1), (153, .aload_n 0, 1), (154, .iload_n 3, 1), (155, .iconst 2, 1), (156, .iadd, 1), (157, .iaload, 1), (158, .invokevirtual 20, 3), (161, .aload_n 2, 1), (162, .aload_n 0, 1), (163, .iload_n 3, 1), (164, .iconst 1, 1), (165, .iadd, 1), (166, .iaload, 1), (167, .aload_n 0, 1), (168, .iload_n 3, 1), (169, .iconst 2, 1), (170, .iadd, 1), (171, .iaload, 1), (172, .invokevirtual 24, 3), (175, .if_icmp .eq 122, 3), (178, .iconst 0, 1), (179, .ireturn, 1), (180, .aload_n 1, 1), (181, .invokevirtual 25, 3), (184, .aload_n 2, 1), (185, .invokevirtual 28, 3), (188, .goto 109, 3), (191, .aload_n 1, 1), (192, .invokevirtual 29, 3), (195, .aload_n 2, 1), (196, .invokevirtual 33, 3), (199, .if_icmp .eq 98, 3), (202, .iconst 0, 1), (203, .ireturn, 1), (204, .aload_n 1, 1), (205, .invokevirtual 34, 3), (208, .aload_n 2, 1), (209, .invokevirtual 37, 3), (212, .goto 85, 3), (215, .aload_n 1, 1), (216, .aload_n 0, 1), (217, .iload_n 3, 1), (218, .iconst 1, 1), (219, .iadd, 1), (220, .iaload, 1), (221, .invokevirtual 38, 3), (224, .aload_n 2, 1), (225, .aload_n 0, 1), (226, .iload_n 3, 1), (227, .iconst 1, 1), (228, .iadd, 1), (229, .iaload, 1), (230, .invokevirtual 42, 3), (233, .if_icmp .eq 64, 3), (236, .iconst 0, 1), (237, .ireturn, 1), (238, .aload_n 1, 1), (239, .aload_n 0, 1), (240, .iload_n 3, 1), (241, .iconst 1, 1), (242, .iadd, 1), (243, .iaload, 1), (244, .invokevirtual 43, 3), (247, .aload_n 2, 1), (248, .aload_n 0, 1), (249, .iload_n 3, 1), (250, .iconst 1, 1), (251, .iadd, 1), (252, .iaload, 1), (253, .invokevirtual 46, 3), (256, .if_icmp .eq 41, 3), (259, .iconst 0, 1), (260, .ireturn, 1), (261, .aload_n 1, 1), (262, .invokevirtual 47, 3), (265, .aload_n 2, 1), (266, .invokevirtual 50, 3), (269, .if_icmp .eq 28, 3), (272, .iconst 0, 1), (273, .ireturn, 1), (274, .aload_n 1, 1), (275, .aload_n 0, 1), (276, .iload_n 3, 1), (277, .iconst 1, 1), (278, .iadd, 1), (279, .iaload, 1), (280, .invokevirtual 51, 3), (283, .aload_n 2, 1), (284, .aload_n 0, 1), (285, .iload_n 3, 1), (286, .iconst 1, 1), (287, .iadd, 1), (288, .iaload, 1), (289, .invokevirtual 54, 3), (292, .if_icmp .eq 5, 3), (295, .iconst 0, 1), (296, .ireturn, 1), (297, .iinc 3 4, 3), (300, .goto (-282), 3), (303, .iconst 1, 1), (304, .ireturn, 1)]
theorem dd_Law_law : z_dl code dl_Law_law = true := by decide +kernel
def f_Law_law_297 (O : zO) (k18 : Nat → Nat → Nat → Int32 → zM → Option (Int32 × zM)) (n : Nat) (l0 : Nat) (l1 : Nat) (l2 : Nat) (l3 : Int32) (M : zM) : Option (Int32 × zM) :=
  zlet (l3 + (4 : Int32)) fun v1 =>
  k18 l0 l1 l2 v1 M
set_option maxRecDepth 100000 in
set_option maxHeartbeats 4000000 in
theorem s_Law_law_297 {X : zX} {b : Nat} {q : Int32 × zM} (C : zC X zJLaw code 4 room_1) (hr : q.1 = 1) (E : zLw X b) {k18 : Nat → Nat → Nat → Int32 → zM → Option (Int32 × zM)} (hk18 : ∀ (l0 : Nat) (l1 : Nat) (l2 : Nat) (l3 : Int32) (M : zM), k18 l0 l1 l2 l3 M = some q → zW X 158 425636 18 [some (zP l0), some (zP l1), some (zP l2), some (zI l3)] [] M) : ∀ (n : Nat) (l0 : Nat) (l1 : Nat) (l2 : Nat) (l3 : Int32) (M : zM), f_Law_law_297 (zOD X) k18 n l0 l1 l2 l3 M = some q → zW X 158 425636 297 [some (zP l0), some (zP l1), some (zP l2), some (zI l3)] [] M := by
  intro n l0 l1 l2 l3 M h
  rw [f_Law_law_297] at h
  obtain ⟨v1, e2, h⟩ := zlet_ex h
  refine r_iinc (v := v1) (lv' := [some (zP l0), some (zP l1), some (zP l2), some (zI v1)]) C (z_d dd_Law_law 175 rfl) rfl (Nat.le_of_ble_eq_true rfl) (by rw [e2]; rfl) rfl ?_
  refine r_goto C 18 (z_d dd_Law_law 176 rfl) (by decide) ?_
  exact hk18 l0 l1 l2 v1 M h
def f_Law_law_18 (O : zO) : Nat → Nat → Nat → Nat → Int32 → zM → Option (Int32 × zM)
  | 0, _, _, _, _, _ => none
  | n + 1, l0, l1, l2, l3, M =>
    if O.2.1 l0 = true then
    if ((Int32.ofNat (O.2.2.1 l0)) - (4 : Int32)) < l3 then
    some ((1 : Int32), M)
    else
    if O.2.1 l0 = true then
    if zin l3 (O.2.2.1 l0) = true then
    zlet ((O.2.2.2 l0 l3.toNatClampNeg) &&& (15 : Int32)) fun v4 =>
    if v4 = (0 : Int32) then
    if O.2.1 l0 = true then
    if zin (l3 + (1 : Int32)) (O.2.2.1 l0) = true then
    if O.2.1 l0 = true then
    if zin (l3 + (2 : Int32)) (O.2.2.1 l0) = true then
    if O.2.1 l0 = true then
    if zin (l3 + (3 : Int32)) (O.2.2.1 l0) = true then
    if z_k M l1 = 1 then
    (F_SF_write O n l1 (((O.2.2.2 l0 (l3 + (1 : Int32)).toNatClampNeg).toInt64 <<< ((32 : Int32).toInt64 &&& 63)) ||| ((O.2.2.2 l0 (l3 + (2 : Int32)).toNatClampNeg).toInt64 &&& (4294967295 : Int64))) (O.2.2.2 l0 (l3 + (3 : Int32)).toNatClampNeg) M).bind fun q13 =>
    if O.2.1 l0 = true then
    if zin (l3 + (1 : Int32)) (O.2.2.1 l0) = true then
    if O.2.1 l0 = true then
    if zin (l3 + (2 : Int32)) (O.2.2.1 l0) = true then
    if O.2.1 l0 = true then
    if zin (l3 + (3 : Int32)) (O.2.2.1 l0) = true then
    if z_k q13.2 l2 = 13 then
    (F_Mo_write O n l2 (((O.2.2.2 l0 (l3 + (1 : Int32)).toNatClampNeg).toInt64 <<< ((32 : Int32).toInt64 &&& 63)) ||| ((O.2.2.2 l0 (l3 + (2 : Int32)).toNatClampNeg).toInt64 &&& (4294967295 : Int64))) (O.2.2.2 l0 (l3 + (3 : Int32)).toNatClampNeg) q13.2).bind fun q22 =>
    if q13.1 = q22.1 then
    f_Law_law_297 O (f_Law_law_18 O n) n l0 l1 l2 l3 q22.2
    else
    some ((0 : Int32), q22.2)
    else none
    else none
    else none
    else none
    else none
    else none
    else none
    else none
    else none
    else none
    else none
    else none
    else none
    else none
    else
    if v4 = (1 : Int32) then
    if O.2.1 l0 = true then
    if zin (l3 + (1 : Int32)) (O.2.2.1 l0) = true then
    if O.2.1 l0 = true then
    if zin (l3 + (2 : Int32)) (O.2.2.1 l0) = true then
    if z_k M l1 = 1 then
    (F_SF_again O n l1 (O.2.2.2 l0 (l3 + (1 : Int32)).toNatClampNeg) (O.2.2.2 l0 (l3 + (2 : Int32)).toNatClampNeg) M).bind fun q31 =>
    if O.2.1 l0 = true then
    if zin (l3 + (1 : Int32)) (O.2.2.1 l0) = true then
    if O.2.1 l0 = true then
    if zin (l3 + (2 : Int32)) (O.2.2.1 l0) = true then
    if z_k q31.2 l2 = 13 then
    (F_Mo_again O n l2 (O.2.2.2 l0 (l3 + (1 : Int32)).toNatClampNeg) (O.2.2.2 l0 (l3 + (2 : Int32)).toNatClampNeg) q31.2).bind fun q38 =>
    if q31.1 = q38.1 then
    f_Law_law_297 O (f_Law_law_18 O n) n l0 l1 l2 l3 q38.2
    else
    some ((0 : Int32), q38.2)
    else none
    else none
    else none
    else none
    else none
    else none
    else none
    else none
    else none
    else none
    else
    if v4 = (2 : Int32) then
    if z_k M l1 = 1 then
    (F_SF_clear O n l1 M).bind fun q43 =>
    if z_k q43.2 l2 = 13 then
    (F_Mo_clear O n l2 q43.2).bind fun q46 =>
    f_Law_law_297 O (f_Law_law_18 O n) n l0 l1 l2 l3 q46.2
    else none
    else none
    else
    if v4 = (3 : Int32) then
    if z_k M l1 = 1 then
    (F_SF_learn O n l1 M).bind fun q50 =>
    if z_k q50.2 l2 = 13 then
    (F_Mo_learn O n l2 q50.2).bind fun q53 =>
    if q50.1 = q53.1 then
    f_Law_law_297 O (f_Law_law_18 O n) n l0 l1 l2 l3 q53.2
    else
    some ((0 : Int32), q53.2)
    else none
    else none
    else
    if v4 = (4 : Int32) then
    if z_k M l1 = 1 then
    (F_SF_forget O n l1 M).bind fun q58 =>
    if z_k q58.2 l2 = 13 then
    (F_Mo_forget O n l2 q58.2).bind fun q61 =>
    f_Law_law_297 O (f_Law_law_18 O n) n l0 l1 l2 l3 q61.2
    else none
    else none
    else
    if v4 = (5 : Int32) then
    if O.2.1 l0 = true then
    if zin (l3 + (1 : Int32)) (O.2.2.1 l0) = true then
    if z_k M l1 = 1 then
    (F_SF_read O n l1 (O.2.2.2 l0 (l3 + (1 : Int32)).toNatClampNeg) M).bind fun q67 =>
    if O.2.1 l0 = true then
    if zin (l3 + (1 : Int32)) (O.2.2.1 l0) = true then
    if z_k q67.2 l2 = 13 then
    (F_Mo_read O n l2 (O.2.2.2 l0 (l3 + (1 : Int32)).toNatClampNeg) q67.2).bind fun q72 =>
    if q67.1 = q72.1 then
    f_Law_law_297 O (f_Law_law_18 O n) n l0 l1 l2 l3 q72.2
    else
    some ((0 : Int32), q72.2)
    else none
    else none
    else none
    else none
    else none
    else none
    else
    if v4 = (6 : Int32) then
    if O.2.1 l0 = true then
    if zin (l3 + (1 : Int32)) (O.2.2.1 l0) = true then
    if z_k M l1 = 1 then
    (F_SF_about O n l1 (O.2.2.2 l0 (l3 + (1 : Int32)).toNatClampNeg) M).bind fun q79 =>
    if O.2.1 l0 = true then
    if zin (l3 + (1 : Int32)) (O.2.2.1 l0) = true then
    if z_k q79.2 l2 = 13 then
    (F_Mo_about O n l2 (O.2.2.2 l0 (l3 + (1 : Int32)).toNatClampNeg) q79.2).bind fun q84 =>
    if q79.1 = q84.1 then
    f_Law_law_297 O (f_Law_law_18 O n) n l0 l1 l2 l3 q84.2
    else
    some ((0 : Int32), q84.2)
    else none
    else none
    else none
    else none
    else none
    else none
    else
    if v4 = (7 : Int32) then
    if z_k M l1 = 1 then
    (F_SF_size O n l1 M).bind fun q89 =>
    if z_k q89.2 l2 = 13 then
    (F_Mo_size O n l2 q89.2).bind fun q92 =>
    if q89.1 = q92.1 then
    f_Law_law_297 O (f_Law_law_18 O n) n l0 l1 l2 l3 q92.2
    else
    some ((0 : Int32), q92.2)
    else none
    else none
    else
    if v4 = (8 : Int32) then
    if O.2.1 l0 = true then
    if zin (l3 + (1 : Int32)) (O.2.2.1 l0) = true then
    if z_k M l1 = 1 then
    (F_SF_byteAt O n l1 (O.2.2.2 l0 (l3 + (1 : Int32)).toNatClampNeg) M).bind fun q99 =>
    if O.2.1 l0 = true then
    if zin (l3 + (1 : Int32)) (O.2.2.1 l0) = true then
    if z_k q99.2 l2 = 13 then
    (F_Mo_byteAt O n l2 (O.2.2.2 l0 (l3 + (1 : Int32)).toNatClampNeg) q99.2).bind fun q104 =>
    if q99.1 = q104.1 then
    f_Law_law_297 O (f_Law_law_18 O n) n l0 l1 l2 l3 q104.2
    else
    some ((0 : Int32), q104.2)
    else none
    else none
    else none
    else none
    else none
    else none
    else
    f_Law_law_297 O (f_Law_law_18 O n) n l0 l1 l2 l3 M
    else none
    else none
    else none
set_option maxRecDepth 100000 in
set_option maxHeartbeats 4000000 in
theorem s_Law_law_18 {X : zX} {b : Nat} {q : Int32 × zM} (C : zC X zJLaw code 4 room_1) (hr : q.1 = 1) (E : zLw X b) : ∀ (n : Nat) (l0 : Nat) (l1 : Nat) (l2 : Nat) (l3 : Int32) (M : zM), f_Law_law_18 (zOD X) n l0 l1 l2 l3 M = some q → zW X 158 425636 18 [some (zP l0), some (zP l1), some (zP l2), some (zI l3)] [] M := by
  intro n
  induction n with
  | zero => intro l0 l1 l2 l3 M h; rw [f_Law_law_18] at h; cases h
  | succ n ih =>
    intro l0 l1 l2 l3 M h
    rw [f_Law_law_18] at h
    refine r_iload_n C (z_d dd_Law_law 10 rfl) rfl ?_
    refine r_aload_n C (z_d dd_Law_law 11 rfl) rfl ?_
    obtain ⟨h1, h⟩ := zif h
    refine r_olen C (z_d dd_Law_law 12 rfl) h1 rfl ?_
    refine r_iconst (v := (4 : Int32)) C (z_d dd_Law_law 13 rfl) (by decide) ?_
    refine r_isub C (z_d dd_Law_law 14 rfl) ?_
    refine r_icmp_gt C 303 (z_d dd_Law_law 15 rfl) (by decide) (fun c108 => ?_) (fun c108 => ?_)
    · have h := zift h c108
      refine r_iconst (v := (1 : Int32)) C (z_d dd_Law_law 177 rfl) (by decide) ?_
      obtain rfl := z_res h
      first | exact r_law C E (z_d dd_Law_law 178 rfl) (Nat.le_of_ble_eq_true rfl) (Nat.le_of_ble_eq_true rfl) | exact absurd (show (0 : Int32) = 1 from hr) (by decide)
    · have h := ziff h c108
      refine r_aload_n C (z_d dd_Law_law 16 rfl) rfl ?_
      refine r_iload_n C (z_d dd_Law_law 17 rfl) rfl ?_
      obtain ⟨h2, h⟩ := zif h
      obtain ⟨h3, h⟩ := zif h
      refine r_oald C (z_d dd_Law_law 18 rfl) h2 h3 rfl ?_
      refine r_bipush (v := (15 : Int32)) C (z_d dd_Law_law 19 rfl) (by decide) ?_
      refine r_iand C (z_d dd_Law_law 20 rfl) ?_
      obtain ⟨v4, e5, h⟩ := zlet_ex h
      refine r_nmI e5 ?_
      by_cases c25 : v4 = (0 : Int32)
      · have h := zift h c25
        refine r_tabIn C 84 (z_d dd_Law_law 21 rfl) (by rw [c25]; decide) (by rw [c25]; decide) (by rw [c25]; rfl) (by decide) ?_
        refine r_aload_n C (z_d dd_Law_law 22 rfl) rfl ?_
        refine r_aload_n C (z_d dd_Law_law 23 rfl) rfl ?_
        refine r_iload_n C (z_d dd_Law_law 24 rfl) rfl ?_
        refine r_iconst (v := (1 : Int32)) C (z_d dd_Law_law 25 rfl) (by decide) ?_
        refine r_iadd C (z_d dd_Law_law 26 rfl) ?_
        obtain ⟨h6, h⟩ := zif h
        obtain ⟨h7, h⟩ := zif h
        refine r_oald C (z_d dd_Law_law 27 rfl) h6 h7 rfl ?_
        refine r_i2l C (z_d dd_Law_law 28 rfl) ?_
        refine r_bipush (v := (32 : Int32)) C (z_d dd_Law_law 29 rfl) (by decide) ?_
        refine r_lshl C (z_d dd_Law_law 30 rfl) ?_
        refine r_aload_n C (z_d dd_Law_law 31 rfl) rfl ?_
        refine r_iload_n C (z_d dd_Law_law 32 rfl) rfl ?_
        refine r_iconst (v := (2 : Int32)) C (z_d dd_Law_law 33 rfl) (by decide) ?_
        refine r_iadd C (z_d dd_Law_law 34 rfl) ?_
        obtain ⟨h8, h⟩ := zif h
        obtain ⟨h9, h⟩ := zif h
        refine r_oald C (z_d dd_Law_law 35 rfl) h8 h9 rfl ?_
        refine r_i2l C (z_d dd_Law_law 36 rfl) ?_
        refine r_ldc2 (v := (4294967295 : Int64)) C (z_d dd_Law_law 37 rfl) kl_Law_13 ?_
        refine r_land C (z_d dd_Law_law 38 rfl) ?_
        refine r_lor C (z_d dd_Law_law 39 rfl) ?_
        refine r_aload_n C (z_d dd_Law_law 40 rfl) rfl ?_
        refine r_iload_n C (z_d dd_Law_law 41 rfl) rfl ?_
        refine r_iconst (v := (3 : Int32)) C (z_d dd_Law_law 42 rfl) (by decide) ?_
        refine r_iadd C (z_d dd_Law_law 43 rfl) ?_
        obtain ⟨h10, h⟩ := zif h
        obtain ⟨h11, h⟩ := zif h
        refine r_oald C (z_d dd_Law_law 44 rfl) h10 h11 rfl ?_
        obtain ⟨h12, h⟩ := zif h
        obtain ⟨q13, c14, h⟩ := zbd h
        refine r_invV (as := [zL ((((zOD X).2.2.2 l0 (l3 + (1 : Int32)).toNatClampNeg).toInt64 <<< ((32 : Int32).toInt64 &&& 63)) ||| (((zOD X).2.2.2 l0 (l3 + (2 : Int32)).toNatClampNeg).toInt64 &&& (4294967295 : Int64))), zI ((zOD X).2.2.2 l0 (l3 + (3 : Int32)).toNatClampNeg)]) C 0 (S_SF_write c14) (z_d dd_Law_law 45 rfl) ok_SF_write iv_SF_write se_SF_write ml_Law_15 rfl rfl h12 rfl rfl rfl (Nat.le_of_ble_eq_true rfl) ⟨(Nat.le_of_ble_eq_true rfl), (Nat.le_of_ble_eq_true rfl)⟩ ⟨(Nat.le_of_ble_eq_true rfl), (Nat.le_of_ble_eq_true rfl)⟩ ?_
        refine r_aload_n C (z_d dd_Law_law 46 rfl) rfl ?_
        refine r_aload_n C (z_d dd_Law_law 47 rfl) rfl ?_
        refine r_iload_n C (z_d dd_Law_law 48 rfl) rfl ?_
        refine r_iconst (v := (1 : Int32)) C (z_d dd_Law_law 49 rfl) (by decide) ?_
        refine r_iadd C (z_d dd_Law_law 50 rfl) ?_
        obtain ⟨h15, h⟩ := zif h
        obtain ⟨h16, h⟩ := zif h
        refine r_oald C (z_d dd_Law_law 51 rfl) h15 h16 rfl ?_
        refine r_i2l C (z_d dd_Law_law 52 rfl) ?_
        refine r_bipush (v := (32 : Int32)) C (z_d dd_Law_law 53 rfl) (by decide) ?_
        refine r_lshl C (z_d dd_Law_law 54 rfl) ?_
        refine r_aload_n C (z_d dd_Law_law 55 rfl) rfl ?_
        refine r_iload_n C (z_d dd_Law_law 56 rfl) rfl ?_
        refine r_iconst (v := (2 : Int32)) C (z_d dd_Law_law 57 rfl) (by decide) ?_
        refine r_iadd C (z_d dd_Law_law 58 rfl) ?_
        obtain ⟨h17, h⟩ := zif h
        obtain ⟨h18, h⟩ := zif h
        refine r_oald C (z_d dd_Law_law 59 rfl) h17 h18 rfl ?_
        refine r_i2l C (z_d dd_Law_law 60 rfl) ?_
        refine r_ldc2 (v := (4294967295 : Int64)) C (z_d dd_Law_law 61 rfl) kl_Law_13 ?_
        refine r_land C (z_d dd_Law_law 62 rfl) ?_
        refine r_lor C (z_d dd_Law_law 63 rfl) ?_
        refine r_aload_n C (z_d dd_Law_law 64 rfl) rfl ?_
        refine r_iload_n C (z_d dd_Law_law 65 rfl) rfl ?_
        refine r_iconst (v := (3 : Int32)) C (z_d dd_Law_law 66 rfl) (by decide) ?_
        refine r_iadd C (z_d dd_Law_law 67 rfl) ?_
        obtain ⟨h19, h⟩ := zif h
        obtain ⟨h20, h⟩ := zif h
        refine r_oald C (z_d dd_Law_law 68 rfl) h19 h20 rfl ?_
        obtain ⟨h21, h⟩ := zif h
        obtain ⟨q22, c23, h⟩ := zbd h
        refine r_invV (as := [zL ((((zOD X).2.2.2 l0 (l3 + (1 : Int32)).toNatClampNeg).toInt64 <<< ((32 : Int32).toInt64 &&& 63)) ||| (((zOD X).2.2.2 l0 (l3 + (2 : Int32)).toNatClampNeg).toInt64 &&& (4294967295 : Int64))), zI ((zOD X).2.2.2 l0 (l3 + (3 : Int32)).toNatClampNeg)]) C 12 (S_Mo_write c23) (z_d dd_Law_law 69 rfl) ok_Mo_write iv_Mo_write se_Mo_write ml_Law_19 rfl rfl h21 rfl rfl rfl (Nat.le_of_ble_eq_true rfl) ⟨(Nat.le_of_ble_eq_true rfl), (Nat.le_of_ble_eq_true rfl)⟩ ⟨(Nat.le_of_ble_eq_true rfl), (Nat.le_of_ble_eq_true rfl)⟩ ?_
        refine r_icmp_eq C 297 (z_d dd_Law_law 70 rfl) (by decide) (fun c24 => ?_) (fun c24 => ?_)
        · have h := zift h c24
          exact s_Law_law_297 C hr E ih n l0 l1 l2 l3 q22.2 h
        · have h := ziff h c24
          refine r_iconst (v := (0 : Int32)) C (z_d dd_Law_law 71 rfl) (by decide) ?_
          obtain rfl := z_res h
          first | exact r_law C E (z_d dd_Law_law 72 rfl) (Nat.le_of_ble_eq_true rfl) (Nat.le_of_ble_eq_true rfl) | exact absurd (show (0 : Int32) = 1 from hr) (by decide)
      have h := ziff h c25
      by_cases c41 : v4 = (1 : Int32)
      · have h := zift h c41
        refine r_tabIn C 147 (z_d dd_Law_law 21 rfl) (by rw [c41]; decide) (by rw [c41]; decide) (by rw [c41]; rfl) (by decide) ?_
        refine r_aload_n C (z_d dd_Law_law 73 rfl) rfl ?_
        refine r_aload_n C (z_d dd_Law_law 74 rfl) rfl ?_
        refine r_iload_n C (z_d dd_Law_law 75 rfl) rfl ?_
        refine r_iconst (v := (1 : Int32)) C (z_d dd_Law_law 76 rfl) (by decide) ?_
        refine r_iadd C (z_d dd_Law_law 77 rfl) ?_
        obtain ⟨h26, h⟩ := zif h
        obtain ⟨h27, h⟩ := zif h
        refine r_oald C (z_d dd_Law_law 78 rfl) h26 h27 rfl ?_
        refine r_aload_n C (z_d dd_Law_law 79 rfl) rfl ?_
        refine r_iload_n C (z_d dd_Law_law 80 rfl) rfl ?_
        refine r_iconst (v := (2 : Int32)) C (z_d dd_Law_law 81 rfl) (by decide) ?_
        refine r_iadd C (z_d dd_Law_law 82 rfl) ?_
        obtain ⟨h28, h⟩ := zif h
        obtain ⟨h29, h⟩ := zif h
        refine r_oald C (z_d dd_Law_law 83 rfl) h28 h29 rfl ?_
        obtain ⟨h30, h⟩ := zif h
        obtain ⟨q31, c32, h⟩ := zbd h
        refine r_invV (as := [zI ((zOD X).2.2.2 l0 (l3 + (1 : Int32)).toNatClampNeg), zI ((zOD X).2.2.2 l0 (l3 + (2 : Int32)).toNatClampNeg)]) C 0 (S_SF_again c32) (z_d dd_Law_law 84 rfl) ok_SF_again iv_SF_again se_SF_again ml_Law_20 rfl rfl h30 rfl rfl rfl (Nat.le_of_ble_eq_true rfl) ⟨(Nat.le_of_ble_eq_true rfl), (Nat.le_of_ble_eq_true rfl)⟩ ⟨(Nat.le_of_ble_eq_true rfl), (Nat.le_of_ble_eq_true rfl)⟩ ?_
        refine r_aload_n C (z_d dd_Law_law 85 rfl) rfl ?_
        refine r_aload_n C (z_d dd_Law_law 86 rfl) rfl ?_
        refine r_iload_n C (z_d dd_Law_law 87 rfl) rfl ?_
        refine r_iconst (v := (1 : Int32)) C (z_d dd_Law_law 88 rfl) (by decide) ?_
        refine r_iadd C (z_d dd_Law_law 89 rfl) ?_
        obtain ⟨h33, h⟩ := zif h
        obtain ⟨h34, h⟩ := zif h
        refine r_oald C (z_d dd_Law_law 90 rfl) h33 h34 rfl ?_
        refine r_aload_n C (z_d dd_Law_law 91 rfl) rfl ?_
        refine r_iload_n C (z_d dd_Law_law 92 rfl) rfl ?_
        refine r_iconst (v := (2 : Int32)) C (z_d dd_Law_law 93 rfl) (by decide) ?_
        refine r_iadd C (z_d dd_Law_law 94 rfl) ?_
        obtain ⟨h35, h⟩ := zif h
        obtain ⟨h36, h⟩ := zif h
        refine r_oald C (z_d dd_Law_law 95 rfl) h35 h36 rfl ?_
        obtain ⟨h37, h⟩ := zif h
        obtain ⟨q38, c39, h⟩ := zbd h
        refine r_invV (as := [zI ((zOD X).2.2.2 l0 (l3 + (1 : Int32)).toNatClampNeg), zI ((zOD X).2.2.2 l0 (l3 + (2 : Int32)).toNatClampNeg)]) C 12 (S_Mo_again c39) (z_d dd_Law_law 96 rfl) ok_Mo_again iv_Mo_again se_Mo_again ml_Law_24 rfl rfl h37 rfl rfl rfl (Nat.le_of_ble_eq_true rfl) ⟨(Nat.le_of_ble_eq_true rfl), (Nat.le_of_ble_eq_true rfl)⟩ ⟨(Nat.le_of_ble_eq_true rfl), (Nat.le_of_ble_eq_true rfl)⟩ ?_
        refine r_icmp_eq C 297 (z_d dd_Law_law 97 rfl) (by decide) (fun c40 => ?_) (fun c40 => ?_)
        · have h := zift h c40
          exact s_Law_law_297 C hr E ih n l0 l1 l2 l3 q38.2 h
        · have h := ziff h c40
          refine r_iconst (v := (0 : Int32)) C (z_d dd_Law_law 98 rfl) (by decide) ?_
          obtain rfl := z_res h
          first | exact r_law C E (z_d dd_Law_law 99 rfl) (Nat.le_of_ble_eq_true rfl) (Nat.le_of_ble_eq_true rfl) | exact absurd (show (0 : Int32) = 1 from hr) (by decide)
      have h := ziff h c41
      by_cases c48 : v4 = (2 : Int32)
      · have h := zift h c48
        refine r_tabIn C 180 (z_d dd_Law_law 21 rfl) (by rw [c48]; decide) (by rw [c48]; decide) (by rw [c48]; rfl) (by decide) ?_
        refine r_aload_n C (z_d dd_Law_law 100 rfl) rfl ?_
        obtain ⟨h42, h⟩ := zif h
        obtain ⟨q43, c44, h⟩ := zbd h
        refine r_invV (as := []) C 0 (S_SF_clear c44) (z_d dd_Law_law 101 rfl) ok_SF_clear iv_SF_clear se_SF_clear ml_Law_25 rfl rfl h42 rfl rfl rfl (Nat.le_of_ble_eq_true rfl) ⟨(Nat.le_of_ble_eq_true rfl), (Nat.le_of_ble_eq_true rfl)⟩ ⟨(Nat.le_of_ble_eq_true rfl), (Nat.le_of_ble_eq_true rfl)⟩ ?_
        refine r_aload_n C (z_d dd_Law_law 102 rfl) rfl ?_
        obtain ⟨h45, h⟩ := zif h
        obtain ⟨q46, c47, h⟩ := zbd h
        refine r_invV (as := []) C 12 (S_Mo_clear c47) (z_d dd_Law_law 103 rfl) ok_Mo_clear iv_Mo_clear se_Mo_clear ml_Law_28 rfl rfl h45 rfl rfl rfl (Nat.le_of_ble_eq_true rfl) ⟨(Nat.le_of_ble_eq_true rfl), (Nat.le_of_ble_eq_true rfl)⟩ ⟨(Nat.le_of_ble_eq_true rfl), (Nat.le_of_ble_eq_true rfl)⟩ ?_
        refine r_goto C 297 (z_d dd_Law_law 104 rfl) (by decide) ?_
        exact s_Law_law_297 C hr E ih n l0 l1 l2 l3 q46.2 h
      have h := ziff h c48
      by_cases c56 : v4 = (3 : Int32)
      · have h := zift h c56
        refine r_tabIn C 191 (z_d dd_Law_law 21 rfl) (by rw [c56]; decide) (by rw [c56]; decide) (by rw [c56]; rfl) (by decide) ?_
        refine r_aload_n C (z_d dd_Law_law 105 rfl) rfl ?_
        obtain ⟨h49, h⟩ := zif h
        obtain ⟨q50, c51, h⟩ := zbd h
        refine r_invV (as := []) C 0 (S_SF_learn c51) (z_d dd_Law_law 106 rfl) ok_SF_learn iv_SF_learn se_SF_learn ml_Law_29 rfl rfl h49 rfl rfl rfl (Nat.le_of_ble_eq_true rfl) ⟨(Nat.le_of_ble_eq_true rfl), (Nat.le_of_ble_eq_true rfl)⟩ ⟨(Nat.le_of_ble_eq_true rfl), (Nat.le_of_ble_eq_true rfl)⟩ ?_
        refine r_aload_n C (z_d dd_Law_law 107 rfl) rfl ?_
        obtain ⟨h52, h⟩ := zif h
        obtain ⟨q53, c54, h⟩ := zbd h
        refine r_invV (as := []) C 12 (S_Mo_learn c54) (z_d dd_Law_law 108 rfl) ok_Mo_learn iv_Mo_learn se_Mo_learn ml_Law_33 rfl rfl h52 rfl rfl rfl (Nat.le_of_ble_eq_true rfl) ⟨(Nat.le_of_ble_eq_true rfl), (Nat.le_of_ble_eq_true rfl)⟩ ⟨(Nat.le_of_ble_eq_true rfl), (Nat.le_of_ble_eq_true rfl)⟩ ?_
        refine r_icmp_eq C 297 (z_d dd_Law_law 109 rfl) (by decide) (fun c55 => ?_) (fun c55 => ?_)
        · have h := zift h c55
          exact s_Law_law_297 C hr E ih n l0 l1 l2 l3 q53.2 h
        · have h := ziff h c55
          refine r_iconst (v := (0 : Int32)) C (z_d dd_Law_law 110 rfl) (by decide) ?_
          obtain rfl := z_res h
          first | exact r_law C E (z_d dd_Law_law 111 rfl) (Nat.le_of_ble_eq_true rfl) (Nat.le_of_ble_eq_true rfl) | exact absurd (show (0 : Int32) = 1 from hr) (by decide)
      have h := ziff h c56
      by_cases c63 : v4 = (4 : Int32)
      · have h := zift h c63
        refine r_tabIn C 204 (z_d dd_Law_law 21 rfl) (by rw [c63]; decide) (by rw [c63]; decide) (by rw [c63]; rfl) (by decide) ?_
        refine r_aload_n C (z_d dd_Law_law 112 rfl) rfl ?_
        obtain ⟨h57, h⟩ := zif h
        obtain ⟨q58, c59, h⟩ := zbd h
        refine r_invV (as := []) C 0 (S_SF_forget c59) (z_d dd_Law_law 113 rfl) ok_SF_forget iv_SF_forget se_SF_forget ml_Law_34 rfl rfl h57 rfl rfl rfl (Nat.le_of_ble_eq_true rfl) ⟨(Nat.le_of_ble_eq_true rfl), (Nat.le_of_ble_eq_true rfl)⟩ ⟨(Nat.le_of_ble_eq_true rfl), (Nat.le_of_ble_eq_true rfl)⟩ ?_
        refine r_aload_n C (z_d dd_Law_law 114 rfl) rfl ?_
        obtain ⟨h60, h⟩ := zif h
        obtain ⟨q61, c62, h⟩ := zbd h
        refine r_invV (as := []) C 12 (S_Mo_forget c62) (z_d dd_Law_law 115 rfl) ok_Mo_forget iv_Mo_forget se_Mo_forget ml_Law_37 rfl rfl h60 rfl rfl rfl (Nat.le_of_ble_eq_true rfl) ⟨(Nat.le_of_ble_eq_true rfl), (Nat.le_of_ble_eq_true rfl)⟩ ⟨(Nat.le_of_ble_eq_true rfl), (Nat.le_of_ble_eq_true rfl)⟩ ?_
        refine r_goto C 297 (z_d dd_Law_law 116 rfl) (by decide) ?_
        exact s_Law_law_297 C hr E ih n l0 l1 l2 l3 q61.2 h
      have h := ziff h c63
      by_cases c75 : v4 = (5 : Int32)
      · have h := zift h c75
        refine r_tabIn C 215 (z_d dd_Law_law 21 rfl) (by rw [c75]; decide) (by rw [c75]; decide) (by rw [c75]; rfl) (by decide) ?_
        refine r_aload_n C (z_d dd_Law_law 117 rfl) rfl ?_
        refine r_aload_n C (z_d dd_Law_law 118 rfl) rfl ?_
        refine r_iload_n C (z_d dd_Law_law 119 rfl) rfl ?_
        refine r_iconst (v := (1 : Int32)) C (z_d dd_Law_law 120 rfl) (by decide) ?_
        refine r_iadd C (z_d dd_Law_law 121 rfl) ?_
        obtain ⟨h64, h⟩ := zif h
        obtain ⟨h65, h⟩ := zif h
        refine r_oald C (z_d dd_Law_law 122 rfl) h64 h65 rfl ?_
        obtain ⟨h66, h⟩ := zif h
        obtain ⟨q67, c68, h⟩ := zbd h
        refine r_invV (as := [zI ((zOD X).2.2.2 l0 (l3 + (1 : Int32)).toNatClampNeg)]) C 0 (S_SF_read c68) (z_d dd_Law_law 123 rfl) ok_SF_read iv_SF_read se_SF_read ml_Law_38 rfl rfl h66 rfl rfl rfl (Nat.le_of_ble_eq_true rfl) ⟨(Nat.le_of_ble_eq_true rfl), (Nat.le_of_ble_eq_true rfl)⟩ ⟨(Nat.le_of_ble_eq_true rfl), (Nat.le_of_ble_eq_true rfl)⟩ ?_
        refine r_aload_n C (z_d dd_Law_law 124 rfl) rfl ?_
        refine r_aload_n C (z_d dd_Law_law 125 rfl) rfl ?_
        refine r_iload_n C (z_d dd_Law_law 126 rfl) rfl ?_
        refine r_iconst (v := (1 : Int32)) C (z_d dd_Law_law 127 rfl) (by decide) ?_
        refine r_iadd C (z_d dd_Law_law 128 rfl) ?_
        obtain ⟨h69, h⟩ := zif h
        obtain ⟨h70, h⟩ := zif h
        refine r_oald C (z_d dd_Law_law 129 rfl) h69 h70 rfl ?_
        obtain ⟨h71, h⟩ := zif h
        obtain ⟨q72, c73, h⟩ := zbd h
        refine r_invV (as := [zI ((zOD X).2.2.2 l0 (l3 + (1 : Int32)).toNatClampNeg)]) C 12 (S_Mo_read c73) (z_d dd_Law_law 130 rfl) ok_Mo_read iv_Mo_read se_Mo_read ml_Law_42 rfl rfl h71 rfl rfl rfl (Nat.le_of_ble_eq_true rfl) ⟨(Nat.le_of_ble_eq_true rfl), (Nat.le_of_ble_eq_true rfl)⟩ ⟨(Nat.le_of_ble_eq_true rfl), (Nat.le_of_ble_eq_true rfl)⟩ ?_
        refine r_icmp_eq C 297 (z_d dd_Law_law 131 rfl) (by decide) (fun c74 => ?_) (fun c74 => ?_)
        · have h := zift h c74
          exact s_Law_law_297 C hr E ih n l0 l1 l2 l3 q72.2 h
        · have h := ziff h c74
          refine r_iconst (v := (0 : Int32)) C (z_d dd_Law_law 132 rfl) (by decide) ?_
          obtain rfl := z_res h
          first | exact r_law C E (z_d dd_Law_law 133 rfl) (Nat.le_of_ble_eq_true rfl) (Nat.le_of_ble_eq_true rfl) | exact absurd (show (0 : Int32) = 1 from hr) (by decide)
      have h := ziff h c75
      by_cases c87 : v4 = (6 : Int32)
      · have h := zift h c87
        refine r_tabIn C 238 (z_d dd_Law_law 21 rfl) (by rw [c87]; decide) (by rw [c87]; decide) (by rw [c87]; rfl) (by decide) ?_
        refine r_aload_n C (z_d dd_Law_law 134 rfl) rfl ?_
        refine r_aload_n C (z_d dd_Law_law 135 rfl) rfl ?_
        refine r_iload_n C (z_d dd_Law_law 136 rfl) rfl ?_
        refine r_iconst (v := (1 : Int32)) C (z_d dd_Law_law 137 rfl) (by decide) ?_
        refine r_iadd C (z_d dd_Law_law 138 rfl) ?_
        obtain ⟨h76, h⟩ := zif h
        obtain ⟨h77, h⟩ := zif h
        refine r_oald C (z_d dd_Law_law 139 rfl) h76 h77 rfl ?_
        obtain ⟨h78, h⟩ := zif h
        obtain ⟨q79, c80, h⟩ := zbd h
        refine r_invV (as := [zI ((zOD X).2.2.2 l0 (l3 + (1 : Int32)).toNatClampNeg)]) C 0 (S_SF_about c80) (z_d dd_Law_law 140 rfl) ok_SF_about iv_SF_about se_SF_about ml_Law_43 rfl rfl h78 rfl rfl rfl (Nat.le_of_ble_eq_true rfl) ⟨(Nat.le_of_ble_eq_true rfl), (Nat.le_of_ble_eq_true rfl)⟩ ⟨(Nat.le_of_ble_eq_true rfl), (Nat.le_of_ble_eq_true rfl)⟩ ?_
        refine r_aload_n C (z_d dd_Law_law 141 rfl) rfl ?_
        refine r_aload_n C (z_d dd_Law_law 142 rfl) rfl ?_
        refine r_iload_n C (z_d dd_Law_law 143 rfl) rfl ?_
        refine r_iconst (v := (1 : Int32)) C (z_d dd_Law_law 144 rfl) (by decide) ?_
        refine r_iadd C (z_d dd_Law_law 145 rfl) ?_
        obtain ⟨h81, h⟩ := zif h
        obtain ⟨h82, h⟩ := zif h
        refine r_oald C (z_d dd_Law_law 146 rfl) h81 h82 rfl ?_
        obtain ⟨h83, h⟩ := zif h
        obtain ⟨q84, c85, h⟩ := zbd h
        refine r_invV (as := [zI ((zOD X).2.2.2 l0 (l3 + (1 : Int32)).toNatClampNeg)]) C 12 (S_Mo_about c85) (z_d dd_Law_law 147 rfl) ok_Mo_about iv_Mo_about se_Mo_about ml_Law_46 rfl rfl h83 rfl rfl rfl (Nat.le_of_ble_eq_true rfl) ⟨(Nat.le_of_ble_eq_true rfl), (Nat.le_of_ble_eq_true rfl)⟩ ⟨(Nat.le_of_ble_eq_true rfl), (Nat.le_of_ble_eq_true rfl)⟩ ?_
        refine r_icmp_eq C 297 (z_d dd_Law_law 148 rfl) (by decide) (fun c86 => ?_) (fun c86 => ?_)
        · have h := zift h c86
          exact s_Law_law_297 C hr E ih n l0 l1 l2 l3 q84.2 h
        · have h := ziff h c86
          refine r_iconst (v := (0 : Int32)) C (z_d dd_Law_law 149 rfl) (by decide) ?_
          obtain rfl := z_res h
          first | exact r_law C E (z_d dd_Law_law 150 rfl) (Nat.le_of_ble_eq_true rfl) (Nat.le_of_ble_eq_true rfl) | exact absurd (show (0 : Int32) = 1 from hr) (by decide)
      have h := ziff h c87
      by_cases c95 : v4 = (7 : Int32)
      · have h := zift h c95
        refine r_tabIn C 261 (z_d dd_Law_law 21 rfl) (by rw [c95]; decide) (by rw [c95]; decide) (by rw [c95]; rfl) (by decide) ?_
        refine r_aload_n C (z_d dd_Law_law 151 rfl) rfl ?_
        obtain ⟨h88, h⟩ := zif h
        obtain ⟨q89, c90, h⟩ := zbd h
        refine r_invV (as := []) C 0 (S_SF_size c90) (z_d dd_Law_law 152 rfl) ok_SF_size iv_SF_size se_SF_size ml_Law_47 rfl rfl h88 rfl rfl rfl (Nat.le_of_ble_eq_true rfl) ⟨(Nat.le_of_ble_eq_true rfl), (Nat.le_of_ble_eq_true rfl)⟩ ⟨(Nat.le_of_ble_eq_true rfl), (Nat.le_of_ble_eq_true rfl)⟩ ?_
        refine r_aload_n C (z_d dd_Law_law 153 rfl) rfl ?_
        obtain ⟨h91, h⟩ := zif h
        obtain ⟨q92, c93, h⟩ := zbd h
        refine r_invV (as := []) C 12 (S_Mo_size c93) (z_d dd_Law_law 154 rfl) ok_Mo_size iv_Mo_size se_Mo_size ml_Law_50 rfl rfl h91 rfl rfl rfl (Nat.le_of_ble_eq_true rfl) ⟨(Nat.le_of_ble_eq_true rfl), (Nat.le_of_ble_eq_true rfl)⟩ ⟨(Nat.le_of_ble_eq_true rfl), (Nat.le_of_ble_eq_true rfl)⟩ ?_
        refine r_icmp_eq C 297 (z_d dd_Law_law 155 rfl) (by decide) (fun c94 => ?_) (fun c94 => ?_)
        · have h := zift h c94
          exact s_Law_law_297 C hr E ih n l0 l1 l2 l3 q92.2 h
        · have h := ziff h c94
          refine r_iconst (v := (0 : Int32)) C (z_d dd_Law_law 156 rfl) (by decide) ?_
          obtain rfl := z_res h
          first | exact r_law C E (z_d dd_Law_law 157 rfl) (Nat.le_of_ble_eq_true rfl) (Nat.le_of_ble_eq_true rfl) | exact absurd (show (0 : Int32) = 1 from hr) (by decide)
      have h := ziff h c95
      by_cases c107 : v4 = (8 : Int32)
      · have h := zift h c107
        refine r_tabIn C 274 (z_d dd_Law_law 21 rfl) (by rw [c107]; decide) (by rw [c107]; decide) (by rw [c107]; rfl) (by decide) ?_
        refine r_aload_n C (z_d dd_Law_law 158 rfl) rfl ?_
        refine r_aload_n C (z_d dd_Law_law 159 rfl) rfl ?_
        refine r_iload_n C (z_d dd_Law_law 160 rfl) rfl ?_
        refine r_iconst (v := (1 : Int32)) C (z_d dd_Law_law 161 rfl) (by decide) ?_
        refine r_iadd C (z_d dd_Law_law 162 rfl) ?_
        obtain ⟨h96, h⟩ := zif h
        obtain ⟨h97, h⟩ := zif h
        refine r_oald C (z_d dd_Law_law 163 rfl) h96 h97 rfl ?_
        obtain ⟨h98, h⟩ := zif h
        obtain ⟨q99, c100, h⟩ := zbd h
        refine r_invV (as := [zI ((zOD X).2.2.2 l0 (l3 + (1 : Int32)).toNatClampNeg)]) C 0 (S_SF_byteAt c100) (z_d dd_Law_law 164 rfl) ok_SF_byteAt iv_SF_byteAt se_SF_byteAt ml_Law_51 rfl rfl h98 rfl rfl rfl (Nat.le_of_ble_eq_true rfl) ⟨(Nat.le_of_ble_eq_true rfl), (Nat.le_of_ble_eq_true rfl)⟩ ⟨(Nat.le_of_ble_eq_true rfl), (Nat.le_of_ble_eq_true rfl)⟩ ?_
        refine r_aload_n C (z_d dd_Law_law 165 rfl) rfl ?_
        refine r_aload_n C (z_d dd_Law_law 166 rfl) rfl ?_
        refine r_iload_n C (z_d dd_Law_law 167 rfl) rfl ?_
        refine r_iconst (v := (1 : Int32)) C (z_d dd_Law_law 168 rfl) (by decide) ?_
        refine r_iadd C (z_d dd_Law_law 169 rfl) ?_
        obtain ⟨h101, h⟩ := zif h
        obtain ⟨h102, h⟩ := zif h
        refine r_oald C (z_d dd_Law_law 170 rfl) h101 h102 rfl ?_
        obtain ⟨h103, h⟩ := zif h
        obtain ⟨q104, c105, h⟩ := zbd h
        refine r_invV (as := [zI ((zOD X).2.2.2 l0 (l3 + (1 : Int32)).toNatClampNeg)]) C 12 (S_Mo_byteAt c105) (z_d dd_Law_law 171 rfl) ok_Mo_byteAt iv_Mo_byteAt se_Mo_byteAt ml_Law_54 rfl rfl h103 rfl rfl rfl (Nat.le_of_ble_eq_true rfl) ⟨(Nat.le_of_ble_eq_true rfl), (Nat.le_of_ble_eq_true rfl)⟩ ⟨(Nat.le_of_ble_eq_true rfl), (Nat.le_of_ble_eq_true rfl)⟩ ?_
        refine r_icmp_eq C 297 (z_d dd_Law_law 172 rfl) (by decide) (fun c106 => ?_) (fun c106 => ?_)
        · have h := zift h c106
          exact s_Law_law_297 C hr E ih n l0 l1 l2 l3 q104.2 h
        · have h := ziff h c106
          refine r_iconst (v := (0 : Int32)) C (z_d dd_Law_law 173 rfl) (by decide) ?_
          obtain rfl := z_res h
          first | exact r_law C E (z_d dd_Law_law 174 rfl) (Nat.le_of_ble_eq_true rfl) (Nat.le_of_ble_eq_true rfl) | exact absurd (show (0 : Int32) = 1 from hr) (by decide)
      have h := ziff h c107
      have nc25 : ¬ v4.toInt = 0 := lv_neT c25 rfl
      have nc41 : ¬ v4.toInt = 1 := lv_neT c41 rfl
      have nc48 : ¬ v4.toInt = 2 := lv_neT c48 rfl
      have nc56 : ¬ v4.toInt = 3 := lv_neT c56 rfl
      have nc63 : ¬ v4.toInt = 4 := lv_neT c63 rfl
      have nc75 : ¬ v4.toInt = 5 := lv_neT c75 rfl
      have nc87 : ¬ v4.toInt = 6 := lv_neT c87 rfl
      have nc95 : ¬ v4.toInt = 7 := lv_neT c95 rfl
      have nc107 : ¬ v4.toInt = 8 := lv_neT c107 rfl
      refine r_tabOut C 297 (z_d dd_Law_law 21 rfl) (by omega) (by decide) ?_
      exact s_Law_law_297 C hr E ih n l0 l1 l2 l3 M h
def f_Law_law_0 (O : zO) (n : Nat) (l0 : Nat) (M : zM) : Option (Int32 × zM) :=
  zlet (w_a M 1 0) fun M1 =>
  (F_SF_init O n (z_s M + 1) M1).bind fun q4 =>
  zlet (z_s M + 1) fun v6 =>
  zlet (w_a q4.2 13 0) fun M8 =>
  (F_Mo_init O n (z_s q4.2 + 1) M8).bind fun q11 =>
  zlet (z_s q4.2 + 1) fun v13 =>
  f_Law_law_18 O n l0 v6 v13 (0 : Int32) q11.2
set_option maxRecDepth 100000 in
set_option maxHeartbeats 4000000 in
theorem s_Law_law_0 {X : zX} {b : Nat} {q : Int32 × zM} (C : zC X zJLaw code 4 room_1) (hr : q.1 = 1) (E : zLw X b) : ∀ (n : Nat) (l0 : Nat) (M : zM), f_Law_law_0 (zOD X) n l0 M = some q → zW X 0 0 0 [some (zP l0), none, none, none] [] M := by
  intro n l0 M h
  rw [f_Law_law_0] at h
  obtain ⟨M1, e2, h⟩ := zlet_ex h
  have h3 := k_a e2
  refine r_new (c := 0) C (z_d dd_Law_law 0 rfl) rfl cl_Law_7 ins_0 ini_0 (Nat.le_of_ble_eq_true rfl) (Nat.le_of_ble_eq_true rfl) e2 ?_
  refine r_dupP C (z_d dd_Law_law 1 rfl) ?_
  obtain ⟨q4, c5, h⟩ := zbd h
  refine r_invIK (as := []) C 0 rfl h3 (S_SF_init c5) (z_d dd_Law_law 2 rfl) ok_SF_init rfl rfl iv_SF_init ml_Law_9 rfl rfl rfl (Nat.le_of_ble_eq_true rfl) ⟨(Nat.le_of_ble_eq_true rfl), (Nat.le_of_ble_eq_true rfl)⟩ ⟨(Nat.le_of_ble_eq_true rfl), (Nat.le_of_ble_eq_true rfl)⟩ ?_
  obtain ⟨v6, e7, h⟩ := zlet_ex h
  refine r_nmP e7 ?_
  refine r_astore_n (lv' := [some (zP l0), some (zP v6), none, none]) C (z_d dd_Law_law 3 rfl) (Nat.le_of_ble_eq_true rfl) rfl ?_
  obtain ⟨M8, e9, h⟩ := zlet_ex h
  have h10 := k_a e9
  refine r_new (c := 12) C (z_d dd_Law_law 4 rfl) rfl cl_Law_10 ins_12 ini_12 (Nat.le_of_ble_eq_true rfl) (Nat.le_of_ble_eq_true rfl) e9 ?_
  refine r_dupP C (z_d dd_Law_law 5 rfl) ?_
  obtain ⟨q11, c12, h⟩ := zbd h
  refine r_invIK (as := []) C 12 rfl h10 (S_Mo_init c12) (z_d dd_Law_law 6 rfl) ok_Mo_init rfl rfl iv_Mo_init ml_Law_12 rfl rfl rfl (Nat.le_of_ble_eq_true rfl) ⟨(Nat.le_of_ble_eq_true rfl), (Nat.le_of_ble_eq_true rfl)⟩ ⟨(Nat.le_of_ble_eq_true rfl), (Nat.le_of_ble_eq_true rfl)⟩ ?_
  obtain ⟨v13, e14, h⟩ := zlet_ex h
  refine r_nmP e14 ?_
  refine r_astore_n (lv' := [some (zP l0), some (zP v6), some (zP v13), none]) C (z_d dd_Law_law 7 rfl) (Nat.le_of_ble_eq_true rfl) rfl ?_
  refine r_iconst (v := (0 : Int32)) C (z_d dd_Law_law 8 rfl) (by decide) ?_
  refine r_istore_n (lv' := [some (zP l0), some (zP v6), some (zP v13), some (zI (0 : Int32))]) C (z_d dd_Law_law 9 rfl) (Nat.le_of_ble_eq_true rfl) rfl ?_
  exact s_Law_law_18 C hr E n l0 v6 v13 (0 : Int32) q11.2 h
