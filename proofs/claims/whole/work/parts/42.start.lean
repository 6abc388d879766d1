set_option maxRecDepth 100000 in
set_option maxHeartbeats 4000000 in
theorem whole_of (hpure : zPure) {p : Program} {e : Env} {s : State} {m : MethodId} {below : List Frame} {meth : Method} {c : Code} (l : Launch) {b L : Nat} {xs : Nat → Int32} (hL : L ≤ 2048) (C0 : lw_At p s m meth c b L xs) : W p l e room_1 s m #[Value.ref b] below meth c s.heap [] 0 0 (lw_Z below #[Value.ref b] s) (entryFrame m ([Value.ref b] : List Value).toArray 4) := by
  obtain ⟨hx, hb, hr, hml, hown, hts, hX, hbl, hlocks, hgv⟩ := id C0
  have htz : ∀ w ∈ zB, w.before #[Value.ref b] s = true := fun w hw => hts w (List.mem_filter.mp hw).1
  have hAO : va_AO "StateFrames$Share" s := va_AO.of (hts _ zAO_in)
  obtain ⟨t0, hz0, hg0⟩ := zStat hgv (zTab 0) (hts _ zL0) (htz _ ini_0) zF0_1 zF0_2 zF0_3 (by decide)
  obtain ⟨t1, hz1, hg1⟩ := zStat hgv (zTab 1) (hts _ zL1) (htz _ ini_0) zF1_1 zF1_2 zF1_3 (by decide)
  obtain ⟨t2, hz2, hg2⟩ := zStat hgv (zTab 2) (hts _ zL2) (htz _ ini_0) zF2_1 zF2_2 zF2_3 (by decide)
  obtain ⟨t3, hz3, hg3⟩ := zStat hgv (zTab 3) (hts _ zL3) (htz _ ini_0) zF3_1 zF3_2 zF3_3 (by decide)
  obtain ⟨t4, hz4, hg4⟩ := zStat hgv (zTab 4) (hts _ zL4) (htz _ ini_0) zF4_1 zF4_2 zF4_3 (by decide)
  obtain ⟨t5, hz5, hg5⟩ := zStat hgv (zTab 5) (hts _ zL5) (htz _ ini_0) zF5_1 zF5_2 zF5_3 (by decide)
  obtain ⟨t6, hz6, hg6⟩ := zStat hgv (zTab 6) (hts _ zL6) (htz _ ini_0) zF6_1 zF6_2 zF6_3 (by decide)
  obtain ⟨t7, hz7, hg7⟩ := zStat hgv (zTab 7) (hts _ zL7) (htz _ ini_0) zF7_1 zF7_2 zF7_3 (by decide)
  obtain ⟨t8, hz8, hg8⟩ := zStat hgv (zTab 8) (hts _ zL8) (htz _ ini_0) zF8_1 zF8_2 zF8_3 (by decide)
  obtain ⟨t9, hz9, hg9⟩ := zStat hgv (zTab 9) (hts _ zL9) (htz _ ini_0) zF9_1 zF9_2 zF9_3 (by decide)
  have hk1 : ∀ c : Nat, ∃ (cC : ClassId) (iS : Nat → Nat), ∀ r : vw_C, z_cl[c]? = some r → u_Kn s r.1 r.2.1 r.2.2 cC iS := fun c => by
    cases hc : z_cl[c]? with
    | none => exact ⟨0, fun _ => 0, fun r h => by cases h⟩
    | some r =>
      obtain ⟨cC, iS, h⟩ := zKnown htz hc
      exact ⟨cC, iS, fun r' h' => by cases h'; exact h⟩
  have hk2 : ∀ t : Nat, ∃ cA : ClassId, t < 5 → ArrOfT s cA (zat t) ∧ va_RA s cA (zat t) := fun t => by
    by_cases ht : t < 5
    · obtain ⟨cA, h⟩ := zArrK htz hAO t ht
      exact ⟨cA, fun _ => h⟩
    · exact ⟨0, fun h => absurd h ht⟩
  have hsp : ∃ sp : Nat → Nat, sp 0 = t0 + 1 ∧ sp 1 = t1 + 1 ∧ sp 2 = t2 + 1 ∧ sp 3 = t3 + 1 ∧ sp 4 = t4 + 1 ∧ sp 5 = t5 + 1 ∧ sp 6 = t6 + 1 ∧ sp 7 = t7 + 1 ∧ sp 8 = t8 + 1 ∧ sp 9 = t9 + 1 := ⟨fun i => if i = 0 then t0 + 1 else if i = 1 then t1 + 1 else if i = 2 then t2 + 1 else if i = 3 then t3 + 1 else if i = 4 then t4 + 1 else if i = 5 then t5 + 1 else if i = 6 then t6 + 1 else if i = 7 then t7 + 1 else if i = 8 then t8 + 1 else t9 + 1, rfl, rfl, rfl, rfl, rfl, rfl, rfl, rfl, rfl, rfl⟩
  obtain ⟨sp, p0, p1, p2, p3, p4, p5, p6, p7, p8, p9⟩ := hsp
  let D : zD := (fun c => (hk1 c).choose, fun c => (hk1 c).choose_spec.choose, fun t => (hk2 t).choose, s.heap.size, zOo s sp)
  have hU : z_U D s := ⟨fun c r h => (hk1 c).choose_spec.choose_spec r h, fun t ht => (hk2 t).choose_spec ht, fun q hq => va_Nw.of rfl (hts _ (zNF_in q hq)), fun q hq => va_Nw.of rfl (hts _ (zNM_in q hq)), hAO⟩
  have hO : z_O D s := by
    refine ⟨fun p' hp => ?_, fun i q hq => ?_⟩
    · have hex : ∃ N f, zGd s p' N f := @of_decide_eq_true _ (Classical.propDecidable _) hp
      obtain ⟨hN, q, cell, a1, a2, a3⟩ := zOo_good hex
      exact ⟨q, cell, a1, a2, a3⟩
    · match i, hq with
      | 0, hq => cases hq; show va_Z _ _ _ (z_rf (sp 0)) _ _ _; rw [p0]; exact hz0
      | 1, hq => cases hq; show va_Z _ _ _ (z_rf (sp 1)) _ _ _; rw [p1]; exact hz1
      | 2, hq => cases hq; show va_Z _ _ _ (z_rf (sp 2)) _ _ _; rw [p2]; exact hz2
      | 3, hq => cases hq; show va_Z _ _ _ (z_rf (sp 3)) _ _ _; rw [p3]; exact hz3
      | 4, hq => cases hq; show va_Z _ _ _ (z_rf (sp 4)) _ _ _; rw [p4]; exact hz4
      | 5, hq => cases hq; show va_Z _ _ _ (z_rf (sp 5)) _ _ _; rw [p5]; exact hz5
      | 6, hq => cases hq; show va_Z _ _ _ (z_rf (sp 6)) _ _ _; rw [p6]; exact hz6
      | 7, hq => cases hq; show va_Z _ _ _ (z_rf (sp 7)) _ _ _; rw [p7]; exact hz7
      | 8, hq => cases hq; show va_Z _ _ _ (z_rf (sp 8)) _ _ _; rw [p8]; exact hz8
      | 9, hq => cases hq; show va_Z _ _ _ (z_rf (sp 9)) _ _ _; rw [p9]; exact hz9
      | i + 10, hq => simp [zST] at hq
  have hTab : zTabOk (zOo s sp) := fun i hi => by
    match i, hi with
    | 0, _ => show (zOo s sp).2.1 (sp 0) = true ∧ (zOo s sp).2.2.1 (sp 0) = _ ∧ ∀ j, j < _ → (zOo s sp).2.2.2 (sp 0) j = _; rw [p0]; exact zOo_of hg0
    | 1, _ => show (zOo s sp).2.1 (sp 1) = true ∧ (zOo s sp).2.2.1 (sp 1) = _ ∧ ∀ j, j < _ → (zOo s sp).2.2.2 (sp 1) j = _; rw [p1]; exact zOo_of hg1
    | 2, _ => show (zOo s sp).2.1 (sp 2) = true ∧ (zOo s sp).2.2.1 (sp 2) = _ ∧ ∀ j, j < _ → (zOo s sp).2.2.2 (sp 2) j = _; rw [p2]; exact zOo_of hg2
    | 3, _ => show (zOo s sp).2.1 (sp 3) = true ∧ (zOo s sp).2.2.1 (sp 3) = _ ∧ ∀ j, j < _ → (zOo s sp).2.2.2 (sp 3) j = _; rw [p3]; exact zOo_of hg3
    | 4, _ => show (zOo s sp).2.1 (sp 4) = true ∧ (zOo s sp).2.2.1 (sp 4) = _ ∧ ∀ j, j < _ → (zOo s sp).2.2.2 (sp 4) j = _; rw [p4]; exact zOo_of hg4
    | 5, _ => show (zOo s sp).2.1 (sp 5) = true ∧ (zOo s sp).2.2.1 (sp 5) = _ ∧ ∀ j, j < _ → (zOo s sp).2.2.2 (sp 5) j = _; rw [p5]; exact zOo_of hg5
    | 6, _ => show (zOo s sp).2.1 (sp 6) = true ∧ (zOo s sp).2.2.1 (sp 6) = _ ∧ ∀ j, j < _ → (zOo s sp).2.2.2 (sp 6) j = _; rw [p6]; exact zOo_of hg6
    | 7, _ => show (zOo s sp).2.1 (sp 7) = true ∧ (zOo s sp).2.2.1 (sp 7) = _ ∧ ∀ j, j < _ → (zOo s sp).2.2.2 (sp 7) j = _; rw [p7]; exact zOo_of hg7
    | 8, _ => show (zOo s sp).2.1 (sp 8) = true ∧ (zOo s sp).2.2.1 (sp 8) = _ ∧ ∀ j, j < _ → (zOo s sp).2.2.2 (sp 8) j = _; rw [p8]; exact zOo_of hg8
    | 9, _ => show (zOo s sp).2.1 (sp 9) = true ∧ (zOo s sp).2.2.1 (sp 9) = _ ∧ ∀ j, j < _ → (zOo s sp).2.2.2 (sp 9) j = _; rw [p9]; exact zOo_of hg9
    | i + 10, h => omega
  obtain ⟨scr, x1, x2, x3, x4, x5⟩ := hX
  have hgS : zGd s (b + 1) L xs := ⟨by omega, b, scr, rfl, hbl, x1, x2, x3, by omega, by rw [x4], x5⟩
  obtain ⟨o1, o2, o3⟩ := zOo_of (sp := sp) hgS
  obtain ⟨n, M', hF⟩ := hpure (zOo s sp) (b + 1) L s.heap.size hTab o1 o2 hL
  have hH : z_H D (zM0 s.heap.size) s.heap := ⟨rfl, Nat.le_refl _, (fun p' c' r' hk _ => by have h0 : (0 : Nat) = c' + 1 := hk; omega), (fun p' t hk _ => by have h0 : (0 : Nat) = t + 100 := hk; omega)⟩
  have w := s_Law_law_0 (X := (p, l, e, room_1, s, m, #[Value.ref b], below, meth, c, lw_Z below #[Value.ref b] s, D)) (b := b) (q := (1, M')) ⟨hx, hb, hml, rfl, hown, htz, hU, hO, Nat.le_refl _, hlocks⟩ rfl ⟨rfl, rfl, hr, rfl⟩ n (b + 1) (zM0 s.heap.size) hF
  rw [lg_entry_eq]
  exact w s.heap [] _ hH va_S.rf (z_en_lv [zP (b + 1)] (n := 4) (Nat.le_of_ble_eq_true rfl))
