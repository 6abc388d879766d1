/-! The relation holds at the start. -/
theorem y_S33 : ∀ k, k < 3 → zShS d_M (1 + 33 + 12 * k) (gr k) (lst k) := by
  unfold zShS
  decide +kernel
theorem y_S39 : ∀ k, k < 3 → zShS d_M (1 + 39 + 12 * k) (gr k) (lst k) := by
  unfold zShS
  decide +kernel
theorem y_S97 : ∀ k, k < 3 → zShS d_M (1 + 97 + 12 * k) (kno k) (lst k) := by
  unfold zShS
  decide +kernel
theorem y_S103 : ∀ k, k < 3 → zShS d_M (1 + 103 + 12 * k) (gr k) (lst k) := by
  unfold zShS
  decide +kernel
theorem y_C10s : zShS d_M (1 + 9 + 4) 6 11 := by
  unfold zShS
  decide +kernel
theorem y_C10 : zCdS d_M (1 + 9) := ⟨by decide +kernel, by decide +kernel, by decide +kernel, by decide +kernel, by decide +kernel, by decide +kernel, by decide +kernel, by decide +kernel, by decide +kernel, by decide +kernel, by decide +kernel, by decide +kernel, y_C10s, by decide +kernel⟩
theorem y_C21s : zShS d_M (1 + 20 + 4) 6 11 := by
  unfold zShS
  decide +kernel
theorem y_C21 : zCdS d_M (1 + 20) := ⟨by decide +kernel, by decide +kernel, by decide +kernel, by decide +kernel, by decide +kernel, by decide +kernel, by decide +kernel, by decide +kernel, by decide +kernel, by decide +kernel, by decide +kernel, by decide +kernel, y_C21s, by decide +kernel⟩
theorem y_C77s : zShS d_M (1 + 76 + 4) 6 11 := by
  unfold zShS
  decide +kernel
theorem y_C77 : zCdS d_M (1 + 76) := ⟨by decide +kernel, by decide +kernel, by decide +kernel, by decide +kernel, by decide +kernel, by decide +kernel, by decide +kernel, by decide +kernel, by decide +kernel, by decide +kernel, by decide +kernel, by decide +kernel, y_C77s, by decide +kernel⟩
theorem y_SF0 : zSF0 d_M 1 := ⟨by decide +kernel, by decide +kernel, by decide +kernel, by decide +kernel, by decide +kernel, by decide +kernel, by decide +kernel, by decide +kernel, by decide +kernel, by decide +kernel, by decide +kernel, by decide +kernel, by decide +kernel, by decide +kernel, by decide +kernel, by decide +kernel⟩
theorem y_SF1 : zSF1 d_M 1 := ⟨by decide +kernel, by decide +kernel, by decide +kernel, by decide +kernel, by decide +kernel, by decide +kernel, by decide +kernel, by decide +kernel, by decide +kernel, by decide +kernel, by decide +kernel, by decide +kernel, by decide +kernel, by decide +kernel, by decide +kernel, by decide +kernel⟩
theorem y_SF2 : zSF2 d_M 1 := ⟨by decide +kernel, by decide +kernel, by decide +kernel, by decide +kernel, by decide +kernel, by decide +kernel, by decide +kernel, by decide +kernel, by decide +kernel, by decide +kernel, by decide +kernel, by decide +kernel, by decide +kernel, by decide +kernel, by decide +kernel, by decide +kernel⟩
theorem y_SF3 : zSF3 d_M 1 := ⟨by decide +kernel, by decide +kernel, by decide +kernel, by decide +kernel, by decide +kernel, by decide +kernel, by decide +kernel, by decide +kernel, by decide +kernel, by decide +kernel, by decide +kernel, by decide +kernel, by decide +kernel, by decide +kernel, by decide +kernel, by decide +kernel⟩
theorem y_SF4 : zSF4 d_M 1 := ⟨by decide +kernel, by decide +kernel, by decide +kernel, by decide +kernel, by decide +kernel, by decide +kernel, by decide +kernel, by decide +kernel, by decide +kernel, by decide +kernel, by decide +kernel, by decide +kernel, by decide +kernel, by decide +kernel, by decide +kernel, by decide +kernel⟩
theorem y_SF5 : zSF5 d_M 1 := ⟨by decide +kernel, by decide +kernel, by decide +kernel, by decide +kernel, by decide +kernel, by decide +kernel, by decide +kernel, by decide +kernel, by decide +kernel, by decide +kernel, y_C10, y_C21, y_C77, fun k hk => ⟨y_S33 k hk, y_S39 k hk, y_S97 k hk, y_S103 k hk⟩⟩
theorem y_SF : zSF d_M 1 := ⟨y_SF0, y_SF1, y_SF2, y_SF3, y_SF4, y_SF5⟩
theorem y_Mo : zMo d_M 134 := ⟨by decide +kernel, by decide +kernel, by decide +kernel, by decide +kernel, by decide +kernel, by decide +kernel, by decide +kernel, by decide +kernel, by decide +kernel, by decide +kernel, by decide +kernel, by decide +kernel, by decide +kernel, by decide +kernel, by decide +kernel, by decide +kernel, by decide +kernel, by decide +kernel, by decide +kernel, by decide +kernel, by decide +kernel, by decide +kernel, by decide +kernel, by decide +kernel, by decide +kernel, by decide +kernel, by decide +kernel, by decide +kernel, by decide +kernel, by decide +kernel, by decide +kernel, by decide +kernel, by decide +kernel, by decide +kernel, by decide +kernel, by decide +kernel, by decide +kernel, by decide +kernel, by decide +kernel, by decide +kernel, by decide +kernel, by decide +kernel, by decide +kernel, by decide +kernel, by decide +kernel, by decide +kernel, by decide +kernel, by decide +kernel, by decide +kernel, by decide +kernel, by decide +kernel, by decide +kernel, by decide +kernel, by decide +kernel, by decide +kernel, by decide +kernel, by decide +kernel, by decide +kernel, by decide +kernel, by decide +kernel, by decide +kernel, by decide +kernel, by decide +kernel, by decide +kernel, by decide +kernel, by decide +kernel, by decide +kernel, by decide +kernel, by decide +kernel, by decide +kernel, by decide +kernel, by decide +kernel, by decide +kernel⟩
theorem y_K : ∀ p, p < 128 → (98 ≤ p ∧ p ≤ 103 ∨ 110 ≤ p ∧ p ≤ 115 ∨ 122 ≤ p ∧ p ≤ 127) → z_k d_M p = 11 → p = 98 + 12 * 0 ∨ p = 98 + 12 * 1 ∨ p = 98 + 12 * 2 := by decide +kernel
theorem y_I : ∀ k, k < 3 → z_i d_M (98 + 12 * k) 0 = nI (kno k) ∧ z_i d_M (98 + 12 * k) 1 = nI (lst k) := by decide +kernel
theorem k_rel {E0 M : zM} {x0 : Nat} (q : zQ (zM0 x0) d_M E0 M) (t : ∀ k, k < 3 → zTB E0 (x0 + 98 + 12 * k) (kno k) (kn k) ∧ zShS E0 (x0 + 98 + 12 * k) (kno k) (lst k)) : zRel (x0 + 1) (x0 + 134) M M := by
  have hS0 : zSF (sh (zM0 x0) d_M) (x0 + 1) := zSF_shf (p := 1) rfl (by decide) y_SF
  have hI : ∀ p f, ¬ sK x0 (x0 + 1 + p) → z_i M (x0 + 1 + p) f = z_i d_M (p + 1) f := fun p f hn => (q.1.i hn f).trans (sh_i (zM0 x0) d_M (show x0 + 1 + p = x0 + (p + 1) by omega) (by omega) f)
  have hP : ∀ p f v, z_p d_M (p + 1) f = v + 1 → z_p M (x0 + 1 + p) f = x0 + 1 + v := fun p f v hv => by
    rw [q.2.1, sh_q (zM0 x0) d_M (f' := f) (show x0 + 1 + p = x0 + (p + 1) by omega) (by omega) rfl hv (by omega)]
    show x0 + (v + 1) = x0 + 1 + v
    omega
  have hp3 : ∀ k q' , k < 3 → q' = x0 + (98 + 12 * k) → ∀ f, f < 2 → z_i M q' f = z_i (sh (zM0 x0) d_M) q' f := fun k q' hk hq f hf => by
    subst hq
    have hs : sK x0 (x0 + (98 + 12 * k)) := by unfold sK; omega
    rw [q.2.2.2 _ f hs, sh_i (zM0 x0) d_M (a := x0 + (98 + 12 * k)) (p := 98 + 12 * k) rfl (by omega)]
    have hE := (t k hk).2
    rw [show x0 + 98 + 12 * k = x0 + (98 + 12 * k) by omega] at hE
    rcases (by omega : f = 0 ∨ f = 1) with rfl | rfl
    · exact hE.2.2.2.2.2.2.2.2.2.2.2.2.2.2.2.2.1.trans (y_I k hk).1.symm
    · exact hE.2.2.2.2.2.2.2.2.2.2.2.2.2.2.2.2.2.trans (y_I k hk).2.symm
  have g : zKp (x0 + 1) (sh (zM0 x0) d_M) M := ⟨q.1.k, q.1.n, q.1.s, fun q' f _ => by rw [q.2.1], fun q' f hq hf => by
    by_cases c : sK x0 q'
    · obtain ⟨p, rfl⟩ : ∃ p, q' = x0 + p := ⟨q' - x0, by unfold sK at c; omega⟩
      have c' : 98 ≤ p ∧ p ≤ 103 ∨ 110 ≤ p ∧ p ≤ 115 ∨ 122 ≤ p ∧ p ≤ 127 := by unfold sK at c; omega
      rw [sh_k (zM0 x0) d_M (a := x0 + p) (p := p) rfl (by omega)] at hq
      rcases y_K p (by omega) c' hq with w | w | w
      · exact hp3 0 _ (by omega) (by omega) f hf
      · exact hp3 1 _ (by omega) (by omega) f hf
      · exact hp3 2 _ (by omega) (by omega) f hf
    · exact q.1.i c f⟩
  have hs : zSF M (x0 + 1) := hS0.kp g
  have hm : zMo M (x0 + 134) := by
    have w := zMo_shf (B := zM0 x0) (p := 134) rfl (by decide) y_Mo
    unfold zMo at w ⊢
    rw [q.1.k, q.1.n, q.2.1]
    exact w
  have hM : ∀ f, z_i d_M 134 f = nI 0 → z_i M (x0 + 134) f = nI 0 := fun f hf => by
    rw [show x0 + 134 = x0 + 1 + 133 by omega, hI 133 f (by unfold sK; omega)]
    exact hf
  have hC : ∀ p f, ¬ sK x0 (x0 + 1 + p) → z_i d_M (p + 1) f = nI 0 → z_i M (x0 + 1 + p) f = nI 0 := fun p f hn hf => (hI p f hn).trans hf
  have hT : ∀ k, k < 3 → zTB M (x0 + 1 + 97 + 12 * k) (kno k) (kn k) := fun k hk => by
    have w := (t k hk).1
    rw [show x0 + 1 + 97 + 12 * k = x0 + 98 + 12 * k by omega]
    have s0 : sK (z_s (zM0 x0)) (x0 + 98 + 12 * k) := by show sK x0 _; unfold sK; omega
    have s3 : sK (z_s (zM0 x0)) (x0 + 98 + 12 * k + 3) := by show sK x0 _; unfold sK; omega
    have s4 : sK (z_s (zM0 x0)) (x0 + 98 + 12 * k + 4) := by show sK x0 _; unfold sK; omega
    have s5 : sK (z_s (zM0 x0)) (x0 + 98 + 12 * k + 5) := by show sK x0 _; unfold sK; omega
    exact ⟨(q.2.2.2 _ 7 s0).trans w.1, fun j hj => by rw [q.2.2.2 _ _ s3, q.2.2.2 _ _ s4, q.2.2.2 _ _ s5]; exact w.2 j hj⟩
  refine ⟨0, fun _ => 0, 0, fun _ => 0, 0, fun _ => 0, 0, none, fun _ => nI 0, by decide, trivial, ⟨hs, ?_, ?_, ?_, ?_, hT, ?_, ?_, ?_, ?_, ?_, ?_⟩, ⟨hm, ?_, ?_, ?_, ?_, ?_, ?_, ?_, ?_, ?_, ?_, ?_, ?_⟩⟩
  · exact ⟨hs.k1, hs.p1_0, hs.k2, hs.n2, hC 1 1 (by unfold sK; omega) (by decide +kernel), by decide, by decide, fun j hj => absurd hj (by omega)⟩
  · exact ⟨hs.k3, hs.p3_0, hs.k4, hs.n4, hC 3 1 (by unfold sK; omega) (by decide +kernel), by decide, by decide, fun j hj => absurd hj (by omega)⟩
  · exact ⟨hs.k6, hs.p6_0, hs.k7, hs.n7, hC 6 1 (by unfold sK; omega) (by decide +kernel), by decide, by decide, fun j hj => absurd hj (by omega)⟩
  · refine ⟨?_, 0, by decide, hP 5 4 9 (by decide +kernel), hP 5 6 20 (by decide +kernel), hP 5 5 31 (by decide +kernel), hP 5 7 32 (by decide +kernel), hC 5 3 (by unfold sK; omega) (by decide +kernel)⟩
    rw [q.2.2.1, sh_j (zM0 x0) d_M (p := 6) (show x0 + 1 + 5 = x0 + 6 by omega) (by decide)]
    decide +kernel
  · exact ⟨0, fun _ => 0, ⟨hs.k71, hs.p71_0, hs.k72, hs.n72, hC 71 1 (by unfold sK; omega) (by decide +kernel), by decide, by decide, fun j hj => absurd hj (by omega)⟩, rfl⟩
  · exact hC 69 1 (by unfold sK; omega) (by decide +kernel)
  · exact hC 69 2 (by unfold sK; omega) (by decide +kernel)
  · exact hC 69 3 (by unfold sK; omega) (by decide +kernel)
  · exact hC 69 4 (by unfold sK; omega) (by decide +kernel)
  · exact hC 69 5 (by unfold sK; omega) (by decide +kernel)
  · exact ⟨hM 1 (by decide +kernel), by decide, fun j hj => absurd hj (by omega)⟩
  · exact hM 3 (by decide +kernel)
  · exact fun j hj => absurd hj (by omega)
  · exact hM 5 (by decide +kernel)
  · exact fun j hj => absurd hj (by omega)
  · exact ⟨hM 6 (by decide +kernel), hM 7 (by decide +kernel)⟩
  · exact hM 34 (by decide +kernel)
  · exact hM 35 (by decide +kernel)
  · exact hM 36 (by decide +kernel)
  · exact hM 37 (by decide +kernel)
  · exact hM 30 (by decide +kernel)
  · exact hM 39 (by decide +kernel)
