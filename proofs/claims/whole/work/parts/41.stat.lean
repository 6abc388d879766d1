/-! The start: the classes' numbers, the old arrays; whole_start out of a statement on functions. -/
def zTab (i : Nat) : List Int32 := match i with
  | 0 => [9, 8, 9]
  | 1 => [35, 31, 52]
  | 2 => [6, 5, 6]
  | 3 => [4, 3, 2, 2, 2, 2, 2, 2, 2, 2, 2, 2, 2, 1, 1, 1, 2, 2, 2, 2, 2, 2, 2, 2, 2, 3, 2, 1, 1, 1, 1, 1, -1, -1, -1, -1]
  | 4 => [1, 1, 1, 1, 1, 1, 2, 2, 2, 1, 1, 1, 1, 1, 1, 1, 1, 1, 1, 1, 1, 1, 1, 1, -1, -1, -1, -1, -1]
  | 5 => [1, 4, 3, 2, 2, 2, 2, 2, 2, 1, 1, 1, 1, 1, 1, 1, 1, 1, 1, 1, 1, 1, 1, 1, 1, 1, 1, 1, 1, 1, 1, 1, 1, 1, 1, 1, 1, 1, 1, 1, 1, 1, 1, 1, 1, 1, -1, -1, -1, -1, -1, -1, -1]
  | 6 => [3, 4, 5, 6, 7, 8, 9, 10, 11, 12, 13, 14, 15, 16, 17, 18, 19, 20, 21, 22, 23, 24, 25, 26, 27, 28, 29, 30, 31, 32, 33, 34, 35, 37, 39, 41, 43, 47, 51, 59, 67, 83, 99, 131, 259, 515, 1027, 2051, 4099, 8195, 16387, 32771, 65539]
  | 7 => [0, 0, 0, 0, 0, 0, 0, 0, 0, 0, 0, 0, 0, 0, 0, 0, 0, 0, 0, 0, 0, 0, 0, 0, 0, 0, 0, 0, 0, 0, 0, 0, 1, 1, 1, 1, 2, 2, 3, 3, 4, 4, 5, 7, 8, 9, 10, 11, 12, 13, 14, 15, 16]
  | 8 => [0, 1, 2, 3, 4, 5, 6, 7, 8, 9, 10, 11, 12, 13, 14, 15, 16, 18, 20, 22, 24, 28, 32, 40, 48, 64, 128, 256, 512, 1024, 2048, 4096, 8192, 16384, 32768, 65536]
  | _ => [0, 0, 0, 0, 0, 0, 0, 0, 0, 0, 0, 0, 0, 0, 0, 0, 1, 1, 1, 1, 2, 2, 3, 3, 4, 6, 7, 8, 9, 10, 11, 12, 13, 14, 15, 16]
/-- the old arrays hold what the class's static tables hold -/
def zTabOk (O : zO) : Prop := ∀ i, i < 10 → O.2.1 (O.1 i) = true ∧ O.2.2.1 (O.1 i) = (zTab i).length ∧ ∀ j, j < (zTab i).length → O.2.2.2 (O.1 i) j = (zTab i).getD j 0
/-- the memory at the start: nothing of ours, x0 cells of others -/
def zM0 (x0 : Nat) : zM := (fun _ => 0, fun _ => 0, fun _ _ => 0, fun _ _ => 0, fun _ _ => 0, x0)
/-- WHAT IS LEFT: on every script the law's function answers 1 -/
def zPure : Prop := ∀ (O : zO) (sp L x0 : Nat), zTabOk O → O.2.1 sp = true → O.2.2.1 sp = L → L ≤ 2048 → ∃ (n : Nat) (M' : zM), f_Law_law_0 O n sp (zM0 x0) = some (1, M')
def zGd (s : State) (p N : Nat) (f : Nat → Int32) : Prop := N < 2 ^ 31 ∧ ∃ (q : Nat) (cell : Cell), p = q + 1 ∧ q < s.heap.size ∧ s.heap[q]? = some cell ∧ s.isArrayOf cell .int ∧ cell.vm ≠ .unknown ∧ N ≤ cell.slots.size ∧ cell.slots.size.toInt32 = Int32.ofNat N ∧ ∀ j : Nat, j < N → cell.slots[j]? = some (.int (f j))
theorem zGd_same {s : State} {p N N' : Nat} {f f' : Nat → Int32} (h : zGd s p N f) (h' : zGd s p N' f') : N = N' ∧ ∀ j, j < N → f j = f' j := by
  obtain ⟨hN, q, cell, rfl, a1, a2, a3, a4, a5, a6, a7⟩ := h
  obtain ⟨hN', q', cell', e, b1, b2, b3, b4, b5, b6, b7⟩ := h'
  have : q' = q := by omega
  subst this
  cases a2.symm.trans b2
  have hn : N = N' := (nI_eq hN hN').mp (a6.symm.trans b6)
  subst hn
  exact ⟨rfl, fun j hj => by have := (a7 j hj).symm.trans (b7 j hj); simpa using this⟩
noncomputable def zOl (s : State) (p : Nat) : Nat := @dite _ (∃ N f, zGd s p N f) (Classical.propDecidable _) (fun h => h.choose) (fun _ => 0)
noncomputable def zOv (s : State) (p : Nat) : Nat → Int32 := @dite _ (∃ N f, zGd s p N f) (Classical.propDecidable _) (fun h => h.choose_spec.choose) (fun _ => fun _ => 0)
noncomputable def zOo (s : State) (sp : Nat → Nat) : zO := (sp, fun p => @decide (∃ N f, zGd s p N f) (Classical.propDecidable _), zOl s, zOv s)
theorem zOo_good {s : State} {p : Nat} (h : ∃ N f, zGd s p N f) : zGd s p (zOl s p) (zOv s p) := by
  have e1 : zOl s p = h.choose := by unfold zOl; rw [dif_pos h]
  have e2 : zOv s p = h.choose_spec.choose := by unfold zOv; rw [dif_pos h]
  rw [e1, e2]
  exact h.choose_spec.choose_spec
theorem zOo_of {s : State} {sp : Nat → Nat} {p N : Nat} {f : Nat → Int32} (h : zGd s p N f) : (zOo s sp).2.1 p = true ∧ (zOo s sp).2.2.1 p = N ∧ ∀ j, j < N → (zOo s sp).2.2.2 p j = f j := by
  have hg := zOo_good ⟨N, f, h⟩
  obtain ⟨e1, e2⟩ := zGd_same h hg
  exact ⟨@decide_eq_true _ (Classical.propDecidable _) ⟨N, f, h⟩, e1.symm, fun j hj => (e2 j hj).symm⟩
theorem zStat {s : State} {args : Array Value} (hg : (Jvm.Cond.and given_1 narrow_1).before args s = true) {C n d : String} (tab : List Int32) (hl : (Cond.laysStatic C n d).before args s = true) (hini : (Cond.initialized C).before args s = true) (h1 : Cond.arrayOf (.static C n d) .int ∈ flatC (Jvm.Cond.and given_1 narrow_1)) (h2 : Cond.eq (.length (.static C n d)) (.int (Int32.ofNat tab.length)) ∈ flatC (Jvm.Cond.and given_1 narrow_1)) (h3 : ∀ j, j < tab.length → Cond.eq (.elem (.static C n d) (.int (Int32.ofNat j))) (.int (tab.getD j 0)) ∈ flatC (Jvm.Cond.and given_1 narrow_1)) (hN : tab.length < 2 ^ 31) :
    ∃ t, va_Z C n d (.ref t) (fun q => s.heap.size ≤ q) s s.heap ∧ zGd s (t + 1) tab.length (fun j => tab.getD j 0) := by
  have hf := flat_of_before _ hg
  have hA : ∀ a : Nat, a < s.heap.size → ¬ (fun q => s.heap.size ≤ q) a := fun a h => Nat.not_le.mpr h
  obtain ⟨t, ht, cell, e1, e2, e3, e4, e5, e6, e7⟩ := va_Tof (f := fun j => .int (tab.getD j 0)) hN (hf _ h1) (va_eqt (hf _ h2)) (fun j hj => va_eqt (hf _ (h3 j hj))) hA
  exact ⟨t, va_Zref hl hini ht hA, hN, t, cell, rfl, (Array.getElem?_eq_some_iff.mp e1).1, e1, e2, e3, e4, e5, e6⟩
theorem zKnown {s : State} {args : Array Value} (hts : ∀ w ∈ zB, w.before args s = true) {c : Nat} {r : vw_C} (h : z_cl[c]? = some r) : ∃ (cC : ClassId) (iS : Nat → Nat), u_Kn s r.1 r.2.1 r.2.2 cC iS := by
  refine u_known (n := r.2.2) hts (zA h) (hts _ ?_)
  match c, h with
  | 0, h => cases h; exact ins_0
  | 1, h => cases h; exact ins_1
  | 2, h => cases h; exact ins_2
  | 3, h => cases h; exact ins_3
  | 4, h => cases h; exact ins_4
  | 5, h => cases h; exact ins_5
  | 6, h => cases h; exact ins_6
  | 7, h => cases h; exact ins_7
  | 8, h => cases h; exact ins_8
  | 9, h => cases h; exact ins_9
  | 10, h => cases h; exact ins_10
  | 11, h => cases h; exact ins_11
  | 12, h => cases h; exact ins_12
  | c + 13, h => simp [z_cl] at h
theorem zArrK {s : State} {args : Array Value} (hts : ∀ w ∈ zB, w.before args s = true) (ho : va_AO "StateFrames$Share" s) (t : Nat) (ht : t < 5) : ∃ cA : ClassId, ArrOfT s cA (zat t) ∧ va_RA s cA (zat t) := by
  by_cases h4 : t = 4
  · subst h4
    obtain ⟨comp, c, k, h1, h2, h3, h4, h5⟩ := Cond.arrayOver_spec ho
    exact ⟨c, fun N z => ⟨(fun k h => by cases h), k, h3, comp, h4⟩, k, comp, h3, h4, h1, h5⟩
  · have hw : (Cond.arrayClass (zat t)).before args s = true := by
      rcases (show t = 0 ∨ t = 1 ∨ t = 2 ∨ t = 3 by omega) with rfl | rfl | rfl | rfl
      · exact hts _ ac_0
      · exact hts _ ac_1
      · exact hts _ ac_2
      · exact hts _ ac_3
    obtain ⟨c, k, comp, h1, h2, h3⟩ := Cond.arrayClass_spec hw
    refine ⟨c, fun N z => ⟨(fun k h => by cases h), k, h2, comp, h3⟩, ?_⟩
    rcases (show t = 0 ∨ t = 1 ∨ t = 2 ∨ t = 3 by omega) with rfl | rfl | rfl | rfl <;> exact h1
theorem zAO_in : Cond.arrayOver (.object "StateFrames$Share") ∈ lw_tbl := by decide +kernel
theorem zL0 : Cond.laysStatic "StateFrames" "GREATEST_ORDERS" "[I" ∈ lw_tbl := by decide +kernel
theorem zF0_1 : Cond.arrayOf (.static "StateFrames" "GREATEST_ORDERS" "[I") .int ∈ flatC (Jvm.Cond.and given_1 narrow_1) := by decide +kernel
theorem zF0_2 : Cond.eq (.length (.static "StateFrames" "GREATEST_ORDERS" "[I")) (.int (Int32.ofNat (zTab 0).length)) ∈ flatC (Jvm.Cond.and given_1 narrow_1) := by decide +kernel
theorem zF0_3 : ∀ j, j < (zTab 0).length → Cond.eq (.elem (.static "StateFrames" "GREATEST_ORDERS" "[I") (.int (Int32.ofNat j))) (.int ((zTab 0).getD j 0)) ∈ flatC (Jvm.Cond.and given_1 narrow_1) := by decide +kernel
theorem zL1 : Cond.laysStatic "StateFrames" "LASTS" "[I" ∈ lw_tbl := by decide +kernel
theorem zF1_1 : Cond.arrayOf (.static "StateFrames" "LASTS" "[I") .int ∈ flatC (Jvm.Cond.and given_1 narrow_1) := by decide +kernel
theorem zF1_2 : Cond.eq (.length (.static "StateFrames" "LASTS" "[I")) (.int (Int32.ofNat (zTab 1).length)) ∈ flatC (Jvm.Cond.and given_1 narrow_1) := by decide +kernel
theorem zF1_3 : ∀ j, j < (zTab 1).length → Cond.eq (.elem (.static "StateFrames" "LASTS" "[I") (.int (Int32.ofNat j))) (.int ((zTab 1).getD j 0)) ∈ flatC (Jvm.Cond.and given_1 narrow_1) := by decide +kernel
theorem zL2 : Cond.laysStatic "StateFrames" "KNOWN_ORDERS" "[I" ∈ lw_tbl := by decide +kernel
theorem zF2_1 : Cond.arrayOf (.static "StateFrames" "KNOWN_ORDERS" "[I") .int ∈ flatC (Jvm.Cond.and given_1 narrow_1) := by decide +kernel
theorem zF2_2 : Cond.eq (.length (.static "StateFrames" "KNOWN_ORDERS" "[I")) (.int (Int32.ofNat (zTab 2).length)) ∈ flatC (Jvm.Cond.and given_1 narrow_1) := by decide +kernel
theorem zF2_3 : ∀ j, j < (zTab 2).length → Cond.eq (.elem (.static "StateFrames" "KNOWN_ORDERS" "[I") (.int (Int32.ofNat j))) (.int ((zTab 2).getD j 0)) ∈ flatC (Jvm.Cond.and given_1 narrow_1) := by decide +kernel
theorem zL3 : Cond.laysStatic "StateFrames" "KNOWN_LITERAL_LENGTHS" "[I" ∈ lw_tbl := by decide +kernel
theorem zF3_1 : Cond.arrayOf (.static "StateFrames" "KNOWN_LITERAL_LENGTHS" "[I") .int ∈ flatC (Jvm.Cond.and given_1 narrow_1) := by decide +kernel
theorem zF3_2 : Cond.eq (.length (.static "StateFrames" "KNOWN_LITERAL_LENGTHS" "[I")) (.int (Int32.ofNat (zTab 3).length)) ∈ flatC (Jvm.Cond.and given_1 narrow_1) := by decide +kernel
theorem zF3_3 : ∀ j, j < (zTab 3).length → Cond.eq (.elem (.static "StateFrames" "KNOWN_LITERAL_LENGTHS" "[I") (.int (Int32.ofNat j))) (.int ((zTab 3).getD j 0)) ∈ flatC (Jvm.Cond.and given_1 narrow_1) := by decide +kernel
theorem zL4 : Cond.laysStatic "StateFrames" "KNOWN_DISTANCES" "[I" ∈ lw_tbl := by decide +kernel
theorem zF4_1 : Cond.arrayOf (.static "StateFrames" "KNOWN_DISTANCES" "[I") .int ∈ flatC (Jvm.Cond.and given_1 narrow_1) := by decide +kernel
theorem zF4_2 : Cond.eq (.length (.static "StateFrames" "KNOWN_DISTANCES" "[I")) (.int (Int32.ofNat (zTab 4).length)) ∈ flatC (Jvm.Cond.and given_1 narrow_1) := by decide +kernel
theorem zF4_3 : ∀ j, j < (zTab 4).length → Cond.eq (.elem (.static "StateFrames" "KNOWN_DISTANCES" "[I") (.int (Int32.ofNat j))) (.int ((zTab 4).getD j 0)) ∈ flatC (Jvm.Cond.and given_1 narrow_1) := by decide +kernel
theorem zL5 : Cond.laysStatic "StateFrames" "KNOWN_MATCH_LENGTHS" "[I" ∈ lw_tbl := by decide +kernel
theorem zF5_1 : Cond.arrayOf (.static "StateFrames" "KNOWN_MATCH_LENGTHS" "[I") .int ∈ flatC (Jvm.Cond.and given_1 narrow_1) := by decide +kernel
theorem zF5_2 : Cond.eq (.length (.static "StateFrames" "KNOWN_MATCH_LENGTHS" "[I")) (.int (Int32.ofNat (zTab 5).length)) ∈ flatC (Jvm.Cond.and given_1 narrow_1) := by decide +kernel
theorem zF5_3 : ∀ j, j < (zTab 5).length → Cond.eq (.elem (.static "StateFrames" "KNOWN_MATCH_LENGTHS" "[I") (.int (Int32.ofNat j))) (.int ((zTab 5).getD j 0)) ∈ flatC (Jvm.Cond.and given_1 narrow_1) := by decide +kernel
theorem zL6 : Cond.laysStatic "StateFrames" "MATCH_FROM" "[I" ∈ lw_tbl := by decide +kernel
theorem zF6_1 : Cond.arrayOf (.static "StateFrames" "MATCH_FROM" "[I") .int ∈ flatC (Jvm.Cond.and given_1 narrow_1) := by decide +kernel
theorem zF6_2 : Cond.eq (.length (.static "StateFrames" "MATCH_FROM" "[I")) (.int (Int32.ofNat (zTab 6).length)) ∈ flatC (Jvm.Cond.and given_1 narrow_1) := by decide +kernel
theorem zF6_3 : ∀ j, j < (zTab 6).length → Cond.eq (.elem (.static "StateFrames" "MATCH_FROM" "[I") (.int (Int32.ofNat j))) (.int ((zTab 6).getD j 0)) ∈ flatC (Jvm.Cond.and given_1 narrow_1) := by decide +kernel
theorem zL7 : Cond.laysStatic "StateFrames" "MATCH_MORE" "[I" ∈ lw_tbl := by decide +kernel
theorem zF7_1 : Cond.arrayOf (.static "StateFrames" "MATCH_MORE" "[I") .int ∈ flatC (Jvm.Cond.and given_1 narrow_1) := by decide +kernel
theorem zF7_2 : Cond.eq (.length (.static "StateFrames" "MATCH_MORE" "[I")) (.int (Int32.ofNat (zTab 7).length)) ∈ flatC (Jvm.Cond.and given_1 narrow_1) := by decide +kernel
theorem zF7_3 : ∀ j, j < (zTab 7).length → Cond.eq (.elem (.static "StateFrames" "MATCH_MORE" "[I") (.int (Int32.ofNat j))) (.int ((zTab 7).getD j 0)) ∈ flatC (Jvm.Cond.and given_1 narrow_1) := by decide +kernel
theorem zL8 : Cond.laysStatic "StateFrames" "LITERAL_FROM" "[I" ∈ lw_tbl := by decide +kernel
theorem zF8_1 : Cond.arrayOf (.static "StateFrames" "LITERAL_FROM" "[I") .int ∈ flatC (Jvm.Cond.and given_1 narrow_1) := by decide +kernel
theorem zF8_2 : Cond.eq (.length (.static "StateFrames" "LITERAL_FROM" "[I")) (.int (Int32.ofNat (zTab 8).length)) ∈ flatC (Jvm.Cond.and given_1 narrow_1) := by decide +kernel
theorem zF8_3 : ∀ j, j < (zTab 8).length → Cond.eq (.elem (.static "StateFrames" "LITERAL_FROM" "[I") (.int (Int32.ofNat j))) (.int ((zTab 8).getD j 0)) ∈ flatC (Jvm.Cond.and given_1 narrow_1) := by decide +kernel
theorem zL9 : Cond.laysStatic "StateFrames" "LITERAL_MORE" "[I" ∈ lw_tbl := by decide +kernel
theorem zF9_1 : Cond.arrayOf (.static "StateFrames" "LITERAL_MORE" "[I") .int ∈ flatC (Jvm.Cond.and given_1 narrow_1) := by decide +kernel
theorem zF9_2 : Cond.eq (.length (.static "StateFrames" "LITERAL_MORE" "[I")) (.int (Int32.ofNat (zTab 9).length)) ∈ flatC (Jvm.Cond.and given_1 narrow_1) := by decide +kernel
theorem zF9_3 : ∀ j, j < (zTab 9).length → Cond.eq (.elem (.static "StateFrames" "LITERAL_MORE" "[I") (.int (Int32.ofNat j))) (.int ((zTab 9).getD j 0)) ∈ flatC (Jvm.Cond.and given_1 narrow_1) := by decide +kernel
